/-! QUERIES: a call on the class, then on the reference: the same answer, and the state stays -/
def Run2 {α : Type} (mk : α → Value) (f : Nat → Nat → Int32) (g : Nat → Nat → Int64) (p : Nat → Nat → Option Nat) (d : Nat → Nat × Nat) (e : Nat × Nat) (qc qr : Nat) (as : List Value) : Prop := ∃ (x : α) (f1 : Nat → Nat → Int32) (g1 : Nat → Nat → Int64) (p1 : Nat → Nat → Option Nat) (f2 : Nat → Nat → Int32) (g2 : Nat → Nat → Int64), am_runs (am_en qc (.ref 0 :: as)) (f, g, p, d, e) = some (some (mk x), (f1, g1, p1, d, e)) ∧ am_runs (am_en qr (.ref 177 :: as)) (f1, g1, p1, d, e) = some (some (mk x), (f2, g2, p1, d, e)) ∧ Inv f2 p1 ∧ am_T0 p1 d ∧ f1 am_SC = f am_SC ∧ f2 am_SC = f am_SC
theorem q_man {f : Nat → Nat → Int32} {g : Nat → Nat → Int64} {p : Nat → Nat → Option Nat} {d : Nat → Nat × Nat} {e : Nat × Nat} {x0 x1 : Int32} (hI0 : Inv f p) (hT : am_T0 p d) : Run2 Value.int f g p d e 118 237 [.int x0, .int x1] := by
  obtain ⟨l, r, M, A, I, TP, n, hI⟩ := hI0
  have hII := hI
  obtain ⟨hlr, p03, p40, p23, psl, pim, hL, hM5, hP6, hN, hS, hh, hz, hH, hE, hPf, hsy, ⟨q, hq, hsd⟩, hHi, hTP, hA, hUn, hsA, hIm, hI4, hI21, hsI, hn, ht1, ht2, hTp, hfa, hwh, hpl⟩ := hI
  have hl : l = 5 ∨ l = 23 := by omega
  obtain ⟨T, hT3, hT4⟩ : ∃ T, T ≤ 3 ∧ f l 4 = nI T := by obtain ⟨T, a, b⟩ := hL.2.2.2.2.2.2.2.2.2.2.2.2.2.1; exact ⟨T, a, hL.h4.trans b⟩
  obtain ⟨Y, hY⟩ : ∃ Y, D_X11_man x0 x1 (f l 5) (f (l + 1)) (f 41) (f (l + 3)) (f l 2) (f (l + 5)) (f 42) (f (l + 4)) (f 43) (f 40 1) (f 40 2) = Y := ⟨_, rfl⟩
  have k1 := k_X11_man (f := f) (g := g) (p := p) (d := d) (e := e) l x0 x1 (f l 5) (f 0 12) (f (l + 1)) (f 41) (f (l + 3)) (f l 2) (f (l + 5)) (f 42) (f (l + 4)) (f 43) (f 40 1) (f 40 2) hT hl p03 rfl rfl rfl rfl rfl rfl p40 rfl rfl rfl rfl rfl rfl (gc_man hL.M8 hM5) Y hY
  obtain ⟨f1, ef1⟩ : ∃ z, mf_X11_man f Y.2 = z := ⟨_, rfl⟩
  obtain ⟨g1, eg1⟩ : ∃ z, g = z := ⟨_, rfl⟩
  obtain ⟨p1, ep1⟩ : ∃ z, p = z := ⟨_, rfl⟩
  rw [ef1] at k1
  have kk : Keeps l f f1 := by rw [← ef1]; unfold mf_X11_man; exact (kp_u (Or.inl ⟨rfl, rfl⟩) kp_rfl)
  have ka : KeA f f1 := by rw [← ef1]; unfold mf_X11_man; exact (ka_u (by decide) ka_rfl)
  have kq : KeP p p1 := by rw [← ep1]; exact kq_rfl
  have hT1 : am_T0 p1 d := by rw [← ep1]; exact hT
  subst eg1
  subst ep1
  obtain ⟨Z, hZ⟩ : ∃ Z, D_X12_man x0 x1 (f 177 14) (f 180) (f 177 22) (f 177 23) (f 177 24) (f 182) = Z := ⟨_, rfl⟩
  have k2 := k_X12_man (f := f1) (g := g) (p := p) (d := d) (e := e) x0 x1 (f 177 0) (f 177 11) (f 177 14) (f 180) (f 177 22) (f 177 23) (f 177 24) (f 182) hT1 (congrFun (ka 177 (by decide)) 0) (congrFun (ka 177 (by decide)) 11) (congrFun (ka 177 (by decide)) 14) (ka 180 (by decide)) (congrFun (ka 177 (by decide)) 22) (congrFun (ka 177 (by decide)) 23) (congrFun (ka 177 (by decide)) 24) (ka 182 (by decide)) (gr_man hL.M8 hL.r5 (fun h => (hz h).1)) Z hZ
  obtain ⟨f2, ef2⟩ : ∃ z, mf_X12_man f1 Z.2.1 Z.2.2.1 Z.2.2.2.1 Z.2.2.2.2.1 Z.2.2.2.2.2 = z := ⟨_, rfl⟩
  obtain ⟨g2, eg2⟩ : ∃ z, g = z := ⟨_, rfl⟩
  rw [ef2] at k2
  have kk2 : Keeps l f1 f2 := by rw [← ef2]; unfold mf_X12_man; exact (kp_u (Or.inr (Or.inr (Or.inr (Or.inr (Or.inr (Or.inl ⟨rfl, by decide, by decide, by decide, by decide, by decide, by decide⟩)))))) (kp_u (Or.inr (Or.inr (Or.inr (Or.inr (Or.inr (Or.inl ⟨rfl, by decide, by decide, by decide, by decide, by decide, by decide⟩)))))) (kp_u (Or.inr (Or.inr (Or.inr (Or.inr (Or.inr (Or.inl ⟨rfl, by decide, by decide, by decide, by decide, by decide, by decide⟩)))))) (kp_u (Or.inr (Or.inr (Or.inr (Or.inr (Or.inr (Or.inl ⟨rfl, by decide, by decide, by decide, by decide, by decide, by decide⟩)))))) (kp_u (Or.inr (Or.inr (Or.inr (Or.inr (Or.inr (Or.inl ⟨rfl, by decide, by decide, by decide, by decide, by decide, by decide⟩)))))) kp_rfl)))))
  have kb2 : KeB f1 f2 := by rw [← ef2]; unfold mf_X12_man; exact (kb_u (by decide) (kb_u (by decide) (kb_u (by decide) (kb_u (by decide) (kb_u (by decide) kb_rfl)))))
  have hp := pub_man (x0 := x0) (x1 := x1) (men := (f l 5)) (kind := (f (l + 1))) (tenOf := (f 41)) (nerve := (f (l + 3))) (fear := (f l 2)) (fearTimes := (f (l + 5))) (feared := (f 42)) (friendsOf := (f (l + 4))) (angerOf := (f 43)) (present := (f 40 1)) (braced := (f 40 2)) (hl := (f 177 14)) (rr := (f 180)) (a := (f 177 22)) (b := (f 177 23)) (c := (f 177 24)) (st := (f 182)) hL hN hM5 (fun h => (hz h).1)
  rw [hY, hZ] at hp
  have ha : Y.1 = Z.1 := congrArg (fun z => z.1) hp
  have hw : Y.2 = Z.2.2.1 := congrArg (fun z => z.2) hp
  have w1 : f1 0 12 = Y.2 := by rw [← ef1]; exact mr_X11_man_f0 hl
  have w2 : f2 177 11 = Z.2.2.1 := by rw [← ef2]; exact mr_X12_man_f1 
  have w4 : ¬ (D_X11_man x0 x1 (f l 5) (f (l + 1)) (f 41) (f (l + 3)) (f l 2) (f (l + 5)) (f 42) (f (l + 4)) (f 43) (f 40 1) (f 40 2)).2 = 4 := w_man
  rw [hY] at w4
  have w3 : f2 0 12 = Y.2 := (congrFun (kb2 0 (by decide)) 12).trans w1
  refine ⟨Y.1, f1, g, p, f2, g, k1, ?_, ⟨l, r, M, A, I, TP, n, Inv_keep hII (kp_tr kk kk2) kq (by rw [w3, w2]; exact hw) (fun h => absurd (w3.symm.trans h) w4)⟩, hT1, ka am_SC (by decide), kp_row (kp_tr kk kk2) (fun k h => absurd (scr_l hl h) (by decide))⟩
  rw [ha]; exact k2
theorem q_ten {f : Nat → Nat → Int32} {g : Nat → Nat → Int64} {p : Nat → Nat → Option Nat} {d : Nat → Nat × Nat} {e : Nat × Nat} {x0 x1 : Int32} (hI0 : Inv f p) (hT : am_T0 p d) : Run2 Value.int f g p d e 120 238 [.int x0, .int x1] := by
  obtain ⟨l, r, M, A, I, TP, n, hI⟩ := hI0
  have hII := hI
  obtain ⟨hlr, p03, p40, p23, psl, pim, hL, hM5, hP6, hN, hS, hh, hz, hH, hE, hPf, hsy, ⟨q, hq, hsd⟩, hHi, hTP, hA, hUn, hsA, hIm, hI4, hI21, hsI, hn, ht1, ht2, hTp, hfa, hwh, hpl⟩ := hI
  have hl : l = 5 ∨ l = 23 := by omega
  obtain ⟨T, hT3, hT4⟩ : ∃ T, T ≤ 3 ∧ f l 4 = nI T := by obtain ⟨T, a, b⟩ := hL.2.2.2.2.2.2.2.2.2.2.2.2.2.1; exact ⟨T, a, hL.h4.trans b⟩
  obtain ⟨Y, hY⟩ : ∃ Y, D_X11_ten x0 x1 (f l 4) (f 40 1) (f 41) (f l 1) (f 44) = Y := ⟨_, rfl⟩
  have k1 := k_X11_ten (f := f) (g := g) (p := p) (d := d) (e := e) l x0 x1 (f l 4) (f 0 12) (f 40 1) (f 41) (f l 1) (f 44) hT hl p03 rfl rfl rfl rfl p40 rfl rfl (gc_ten hT3 hT4) Y hY
  obtain ⟨f1, ef1⟩ : ∃ z, mf_X11_ten f Y.2 = z := ⟨_, rfl⟩
  obtain ⟨g1, eg1⟩ : ∃ z, g = z := ⟨_, rfl⟩
  obtain ⟨p1, ep1⟩ : ∃ z, p = z := ⟨_, rfl⟩
  rw [ef1] at k1
  have kk : Keeps l f f1 := by rw [← ef1]; unfold mf_X11_ten; exact (kp_u (Or.inl ⟨rfl, rfl⟩) kp_rfl)
  have ka : KeA f f1 := by rw [← ef1]; unfold mf_X11_ten; exact (ka_u (by decide) ka_rfl)
  have kq : KeP p p1 := by rw [← ep1]; exact kq_rfl
  have hT1 : am_T0 p1 d := by rw [← ep1]; exact hT
  subst eg1
  subst ep1
  obtain ⟨Z, hZ⟩ : ∃ Z, D_X12_ten x0 x1 (f 177 14) (f 180) (f 182) = Z := ⟨_, rfl⟩
  have k2 := k_X12_ten (f := f1) (g := g) (p := p) (d := d) (e := e) x0 x1 (f 177 0) (f 177 11) (f 177 14) (f 180) (f 182) hT1 (congrFun (ka 177 (by decide)) 0) (congrFun (ka 177 (by decide)) 11) (congrFun (ka 177 (by decide)) 14) (ka 180 (by decide)) (ka 182 (by decide)) (gr_ten hL hh) Z hZ
  obtain ⟨f2, ef2⟩ : ∃ z, mf_X12_ten f1 Z.2.1 Z.2.2 = z := ⟨_, rfl⟩
  obtain ⟨g2, eg2⟩ : ∃ z, g = z := ⟨_, rfl⟩
  rw [ef2] at k2
  have kk2 : Keeps l f1 f2 := by rw [← ef2]; unfold mf_X12_ten; exact (kp_u (Or.inr (Or.inr (Or.inr (Or.inr (Or.inr (Or.inl ⟨rfl, by decide, by decide, by decide, by decide, by decide, by decide⟩)))))) (kp_u (Or.inr (Or.inr (Or.inr (Or.inr (Or.inr (Or.inl ⟨rfl, by decide, by decide, by decide, by decide, by decide, by decide⟩)))))) kp_rfl))
  have kb2 : KeB f1 f2 := by rw [← ef2]; unfold mf_X12_ten; exact (kb_u (by decide) (kb_u (by decide) kb_rfl))
  have hp := pub_ten (x0 := x0) (x1 := x1) (tens := (f l 4)) (present := (f 40 1)) (tenOf := (f 41)) (oneIn := (f l 1)) (lotsOf := (f 44)) (hl := (f 177 14)) (rr := (f 180)) (st := (f 182)) hL hN hS hh
  rw [hY, hZ] at hp
  have ha : Y.1 = Z.1 := congrArg (fun z => z.1) hp
  have hw : Y.2 = Z.2.2 := congrArg (fun z => z.2) hp
  have w1 : f1 0 12 = Y.2 := by rw [← ef1]; exact mr_X11_ten_f0 hl
  have w2 : f2 177 11 = Z.2.2 := by rw [← ef2]; exact mr_X12_ten_f1 
  have w4 : ¬ (D_X11_ten x0 x1 (f l 4) (f 40 1) (f 41) (f l 1) (f 44)).2 = 4 := w_ten
  rw [hY] at w4
  have w3 : f2 0 12 = Y.2 := (congrFun (kb2 0 (by decide)) 12).trans w1
  refine ⟨Y.1, f1, g, p, f2, g, k1, ?_, ⟨l, r, M, A, I, TP, n, Inv_keep hII (kp_tr kk kk2) kq (by rw [w3, w2]; exact hw) (fun h => absurd (w3.symm.trans h) w4)⟩, hT1, ka am_SC (by decide), kp_row (kp_tr kk kk2) (fun k h => absurd (scr_l hl h) (by decide))⟩
  rw [ha]; exact k2
theorem q_there {f : Nat → Nat → Int32} {g : Nat → Nat → Int64} {p : Nat → Nat → Option Nat} {d : Nat → Nat × Nat} {e : Nat × Nat} (hI0 : Inv f p) (hT : am_T0 p d) : Run2 Value.int f g p d e 122 239 [] := by
  obtain ⟨l, r, M, A, I, TP, n, hI⟩ := hI0
  have hII := hI
  obtain ⟨hlr, p03, p40, p23, psl, pim, hL, hM5, hP6, hN, hS, hh, hz, hH, hE, hPf, hsy, ⟨q, hq, hsd⟩, hHi, hTP, hA, hUn, hsA, hIm, hI4, hI21, hsI, hn, ht1, ht2, hTp, hfa, hwh, hpl⟩ := hI
  have hl : l = 5 ∨ l = 23 := by omega
  obtain ⟨T, hT3, hT4⟩ : ∃ T, T ≤ 3 ∧ f l 4 = nI T := by obtain ⟨T, a, b⟩ := hL.2.2.2.2.2.2.2.2.2.2.2.2.2.1; exact ⟨T, a, hL.h4.trans b⟩
  obtain ⟨Y, hY⟩ : ∃ Y, D_X11_there (f l 4) (f 40 1) = Y := ⟨_, rfl⟩
  have k1 := k_X11_there (f := f) (g := g) (p := p) (d := d) (e := e) l (f l 4) (f 0 12) (f 40 1) hT hl p03 rfl rfl rfl Y hY
  obtain ⟨f1, ef1⟩ : ∃ z, mf_X11_there f Y.2 = z := ⟨_, rfl⟩
  obtain ⟨g1, eg1⟩ : ∃ z, g = z := ⟨_, rfl⟩
  obtain ⟨p1, ep1⟩ : ∃ z, p = z := ⟨_, rfl⟩
  rw [ef1] at k1
  have kk : Keeps l f f1 := by rw [← ef1]; unfold mf_X11_there; exact (kp_u (Or.inl ⟨rfl, rfl⟩) kp_rfl)
  have ka : KeA f f1 := by rw [← ef1]; unfold mf_X11_there; exact (ka_u (by decide) ka_rfl)
  have kq : KeP p p1 := by rw [← ep1]; exact kq_rfl
  have hT1 : am_T0 p1 d := by rw [← ep1]; exact hT
  subst eg1
  subst ep1
  obtain ⟨Z, hZ⟩ : ∃ Z, D_X12_there (f 177 14) (f 182) = Z := ⟨_, rfl⟩
  have k2 := k_X12_there (f := f1) (g := g) (p := p) (d := d) (e := e) (f 177 0) (f 177 11) (f 177 14) (f 182) hT1 (congrFun (ka 177 (by decide)) 0) (congrFun (ka 177 (by decide)) 11) (congrFun (ka 177 (by decide)) 14) (ka 182 (by decide)) Z hZ
  obtain ⟨f2, ef2⟩ : ∃ z, mf_X12_there f1 Z.2.1 Z.2.2 = z := ⟨_, rfl⟩
  obtain ⟨g2, eg2⟩ : ∃ z, g = z := ⟨_, rfl⟩
  rw [ef2] at k2
  have kk2 : Keeps l f1 f2 := by rw [← ef2]; unfold mf_X12_there; exact (kp_u (Or.inr (Or.inr (Or.inr (Or.inr (Or.inr (Or.inl ⟨rfl, by decide, by decide, by decide, by decide, by decide, by decide⟩)))))) (kp_u (Or.inr (Or.inr (Or.inr (Or.inr (Or.inr (Or.inl ⟨rfl, by decide, by decide, by decide, by decide, by decide, by decide⟩)))))) kp_rfl))
  have kb2 : KeB f1 f2 := by rw [← ef2]; unfold mf_X12_there; exact (kb_u (by decide) (kb_u (by decide) kb_rfl))
  have hp := pub_there (tens := (f l 4)) (present := (f 40 1)) (hl := (f 177 14)) (st := (f 182)) hh hN.1
  rw [hY, hZ] at hp
  have ha : Y.1 = Z.1 := congrArg (fun z => z.1) hp
  have hw : Y.2 = Z.2.2 := congrArg (fun z => z.2) hp
  have w1 : f1 0 12 = Y.2 := by rw [← ef1]; exact mr_X11_there_f0 hl
  have w2 : f2 177 11 = Z.2.2 := by rw [← ef2]; exact mr_X12_there_f1 
  have w4 : ¬ (D_X11_there (f l 4) (f 40 1)).2 = 4 := w_there
  rw [hY] at w4
  have w3 : f2 0 12 = Y.2 := (congrFun (kb2 0 (by decide)) 12).trans w1
  refine ⟨Y.1, f1, g, p, f2, g, k1, ?_, ⟨l, r, M, A, I, TP, n, Inv_keep hII (kp_tr kk kk2) kq (by rw [w3, w2]; exact hw) (fun h => absurd (w3.symm.trans h) w4)⟩, hT1, ka am_SC (by decide), kp_row (kp_tr kk kk2) (fun k h => absurd (scr_l hl h) (by decide))⟩
  rw [ha]; exact k2
theorem q_anger {f : Nat → Nat → Int32} {g : Nat → Nat → Int64} {p : Nat → Nat → Option Nat} {d : Nat → Nat × Nat} {e : Nat × Nat} (hI0 : Inv f p) (hT : am_T0 p d) : Run2 Value.int f g p d e 123 240 [] := by
  obtain ⟨l, r, M, A, I, TP, n, hI⟩ := hI0
  have hII := hI
  obtain ⟨hlr, p03, p40, p23, psl, pim, hL, hM5, hP6, hN, hS, hh, hz, hH, hE, hPf, hsy, ⟨q, hq, hsd⟩, hHi, hTP, hA, hUn, hsA, hIm, hI4, hI21, hsI, hn, ht1, ht2, hTp, hfa, hwh, hpl⟩ := hI
  have hl : l = 5 ∨ l = 23 := by omega
  obtain ⟨T, hT3, hT4⟩ : ∃ T, T ≤ 3 ∧ f l 4 = nI T := by obtain ⟨T, a, b⟩ := hL.2.2.2.2.2.2.2.2.2.2.2.2.2.1; exact ⟨T, a, hL.h4.trans b⟩
  obtain ⟨Y, hY⟩ : ∃ Y, D_X11_anger (f l 4) (f 40 1) (f 43) = Y := ⟨_, rfl⟩
  have k1 := k_X11_anger (f := f) (g := g) (p := p) (d := d) (e := e) l (f l 4) (f 0 12) (f 40 1) (f 43) hT hl p03 rfl rfl rfl rfl Y hY
  obtain ⟨f1, ef1⟩ : ∃ z, mf_X11_anger f Y.2 = z := ⟨_, rfl⟩
  obtain ⟨g1, eg1⟩ : ∃ z, g = z := ⟨_, rfl⟩
  obtain ⟨p1, ep1⟩ : ∃ z, p = z := ⟨_, rfl⟩
  rw [ef1] at k1
  have kk : Keeps l f f1 := by rw [← ef1]; unfold mf_X11_anger; exact (kp_u (Or.inl ⟨rfl, rfl⟩) kp_rfl)
  have ka : KeA f f1 := by rw [← ef1]; unfold mf_X11_anger; exact (ka_u (by decide) ka_rfl)
  have kq : KeP p p1 := by rw [← ep1]; exact kq_rfl
  have hT1 : am_T0 p1 d := by rw [← ep1]; exact hT
  subst eg1
  subst ep1
  obtain ⟨Z, hZ⟩ : ∃ Z, D_X12_anger (f 177 14) (f 180) (f 182) = Z := ⟨_, rfl⟩
  have k2 := k_X12_anger (f := f1) (g := g) (p := p) (d := d) (e := e) (f 177 0) (f 177 11) (f 177 14) (f 180) (f 182) hT1 (congrFun (ka 177 (by decide)) 0) (congrFun (ka 177 (by decide)) 11) (congrFun (ka 177 (by decide)) 14) (ka 180 (by decide)) (ka 182 (by decide)) (gr_anger hL.M8 hL.r5) Z hZ
  obtain ⟨f2, ef2⟩ : ∃ z, mf_X12_anger f1 Z.2.1 Z.2.2 = z := ⟨_, rfl⟩
  obtain ⟨g2, eg2⟩ : ∃ z, g = z := ⟨_, rfl⟩
  rw [ef2] at k2
  have kk2 : Keeps l f1 f2 := by rw [← ef2]; unfold mf_X12_anger; exact (kp_u (Or.inr (Or.inr (Or.inr (Or.inr (Or.inr (Or.inl ⟨rfl, by decide, by decide, by decide, by decide, by decide, by decide⟩)))))) (kp_u (Or.inr (Or.inr (Or.inr (Or.inr (Or.inr (Or.inl ⟨rfl, by decide, by decide, by decide, by decide, by decide, by decide⟩)))))) kp_rfl))
  have kb2 : KeB f1 f2 := by rw [← ef2]; unfold mf_X12_anger; exact (kb_u (by decide) (kb_u (by decide) kb_rfl))
  have hp := pub_anger (tens := (f l 4)) (present := (f 40 1)) (angerOf := (f 43)) (hl := (f 177 14)) (rr := (f 180)) (st := (f 182)) hL hN hS hh
  rw [hY, hZ] at hp
  have ha : Y.1 = Z.1 := congrArg (fun z => z.1) hp
  have hw : Y.2 = Z.2.2 := congrArg (fun z => z.2) hp
  have w1 : f1 0 12 = Y.2 := by rw [← ef1]; exact mr_X11_anger_f0 hl
  have w2 : f2 177 11 = Z.2.2 := by rw [← ef2]; exact mr_X12_anger_f1 
  have w4 : ¬ (D_X11_anger (f l 4) (f 40 1) (f 43)).2 = 4 := w_anger
  rw [hY] at w4
  have w3 : f2 0 12 = Y.2 := (congrFun (kb2 0 (by decide)) 12).trans w1
  refine ⟨Y.1, f1, g, p, f2, g, k1, ?_, ⟨l, r, M, A, I, TP, n, Inv_keep hII (kp_tr kk kk2) kq (by rw [w3, w2]; exact hw) (fun h => absurd (w3.symm.trans h) w4)⟩, hT1, ka am_SC (by decide), kp_row (kp_tr kk kk2) (fun k h => absurd (scr_l hl h) (by decide))⟩
  rw [ha]; exact k2
theorem q_mutiny {f : Nat → Nat → Int32} {g : Nat → Nat → Int64} {p : Nat → Nat → Option Nat} {d : Nat → Nat × Nat} {e : Nat × Nat} (hI0 : Inv f p) (hT : am_T0 p d) : Run2 Value.int f g p d e 124 241 [] := by
  obtain ⟨l, r, M, A, I, TP, n, hI⟩ := hI0
  have hII := hI
  obtain ⟨hlr, p03, p40, p23, psl, pim, hL, hM5, hP6, hN, hS, hh, hz, hH, hE, hPf, hsy, ⟨q, hq, hsd⟩, hHi, hTP, hA, hUn, hsA, hIm, hI4, hI21, hsI, hn, ht1, ht2, hTp, hfa, hwh, hpl⟩ := hI
  have hl : l = 5 ∨ l = 23 := by omega
  obtain ⟨T, hT3, hT4⟩ : ∃ T, T ≤ 3 ∧ f l 4 = nI T := by obtain ⟨T, a, b⟩ := hL.2.2.2.2.2.2.2.2.2.2.2.2.2.1; exact ⟨T, a, hL.h4.trans b⟩
  obtain ⟨Y, hY⟩ : ∃ Y, D_X11_mutiny (f l 4) (f 40 1) (f 43) (f l 3) = Y := ⟨_, rfl⟩
  have k1 := k_X11_mutiny (f := f) (g := g) (p := p) (d := d) (e := e) l (f l 4) (f 0 12) (f 40 1) (f 43) (f l 3) hT hl p03 rfl rfl rfl rfl p40 rfl Y hY
  obtain ⟨f1, ef1⟩ : ∃ z, mf_X11_mutiny f Y.2 = z := ⟨_, rfl⟩
  obtain ⟨g1, eg1⟩ : ∃ z, g = z := ⟨_, rfl⟩
  obtain ⟨p1, ep1⟩ : ∃ z, p = z := ⟨_, rfl⟩
  rw [ef1] at k1
  have kk : Keeps l f f1 := by rw [← ef1]; unfold mf_X11_mutiny; exact (kp_u (Or.inl ⟨rfl, rfl⟩) kp_rfl)
  have ka : KeA f f1 := by rw [← ef1]; unfold mf_X11_mutiny; exact (ka_u (by decide) ka_rfl)
  have kq : KeP p p1 := by rw [← ep1]; exact kq_rfl
  have hT1 : am_T0 p1 d := by rw [← ep1]; exact hT
  subst eg1
  subst ep1
  obtain ⟨Z, hZ⟩ : ∃ Z, D_X12_mutiny (f 177 14) (f 180) (f 182) = Z := ⟨_, rfl⟩
  have k2 := k_X12_mutiny (f := f1) (g := g) (p := p) (d := d) (e := e) (f 177 0) (f 177 11) (f 177 14) (f 180) (f 182) hT1 (congrFun (ka 177 (by decide)) 0) (congrFun (ka 177 (by decide)) 11) (congrFun (ka 177 (by decide)) 14) (ka 180 (by decide)) (ka 182 (by decide)) (gr_mutiny hL.M8 hL.r5) Z hZ
  obtain ⟨f2, ef2⟩ : ∃ z, mf_X12_mutiny f1 Z.2.1 Z.2.2 = z := ⟨_, rfl⟩
  obtain ⟨g2, eg2⟩ : ∃ z, g = z := ⟨_, rfl⟩
  rw [ef2] at k2
  have kk2 : Keeps l f1 f2 := by rw [← ef2]; unfold mf_X12_mutiny; exact (kp_u (Or.inr (Or.inr (Or.inr (Or.inr (Or.inr (Or.inl ⟨rfl, by decide, by decide, by decide, by decide, by decide, by decide⟩)))))) (kp_u (Or.inr (Or.inr (Or.inr (Or.inr (Or.inr (Or.inl ⟨rfl, by decide, by decide, by decide, by decide, by decide, by decide⟩)))))) kp_rfl))
  have kb2 : KeB f1 f2 := by rw [← ef2]; unfold mf_X12_mutiny; exact (kb_u (by decide) (kb_u (by decide) kb_rfl))
  have hp := pub_mutiny (tens := (f l 4)) (present := (f 40 1)) (angerOf := (f 43)) (mutiny := (f l 3)) (hl := (f 177 14)) (rr := (f 180)) (st := (f 182)) hL hN hS hh
  rw [hY, hZ] at hp
  have ha : Y.1 = Z.1 := congrArg (fun z => z.1) hp
  have hw : Y.2 = Z.2.2 := congrArg (fun z => z.2) hp
  have w1 : f1 0 12 = Y.2 := by rw [← ef1]; exact mr_X11_mutiny_f0 hl
  have w2 : f2 177 11 = Z.2.2 := by rw [← ef2]; exact mr_X12_mutiny_f1 
  have w4 : ¬ (D_X11_mutiny (f l 4) (f 40 1) (f 43) (f l 3)).2 = 4 := w_mutiny
  rw [hY] at w4
  have w3 : f2 0 12 = Y.2 := (congrFun (kb2 0 (by decide)) 12).trans w1
  refine ⟨Y.1, f1, g, p, f2, g, k1, ?_, ⟨l, r, M, A, I, TP, n, Inv_keep hII (kp_tr kk kk2) kq (by rw [w3, w2]; exact hw) (fun h => absurd (w3.symm.trans h) w4)⟩, hT1, ka am_SC (by decide), kp_row (kp_tr kk kk2) (fun k h => absurd (scr_l hl h) (by decide))⟩
  rw [ha]; exact k2
theorem q_runs {f : Nat → Nat → Int32} {g : Nat → Nat → Int64} {p : Nat → Nat → Option Nat} {d : Nat → Nat × Nat} {e : Nat × Nat} {x0 : Int32} (hI0 : Inv f p) (hT : am_T0 p d) : Run2 Value.int f g p d e 127 243 [.int x0] := by
  obtain ⟨l, r, M, A, I, TP, n, hI⟩ := hI0
  have hII := hI
  obtain ⟨hlr, p03, p40, p23, psl, pim, hL, hM5, hP6, hN, hS, hh, hz, hH, hE, hPf, hsy, ⟨q, hq, hsd⟩, hHi, hTP, hA, hUn, hsA, hIm, hI4, hI21, hsI, hn, ht1, ht2, hTp, hfa, hwh, hpl⟩ := hI
  have hl : l = 5 ∨ l = 23 := by omega
  obtain ⟨T, hT3, hT4⟩ : ∃ T, T ≤ 3 ∧ f l 4 = nI T := by obtain ⟨T, a, b⟩ := hL.2.2.2.2.2.2.2.2.2.2.2.2.2.1; exact ⟨T, a, hL.h4.trans b⟩
  obtain ⟨Y, hY⟩ : ∃ Y, D_X11_runs x0 (f l 4) (f 40 1) (f 40 2) (f l 2) (f (l + 6)) (f (l + 3)) (f (l + 5)) (f 42) = Y := ⟨_, rfl⟩
  have k1 := k_X11_runs (f := f) (g := g) (p := p) (d := d) (e := e) l x0 (f l 4) (f 40 1) (f 0 12) (f 40 2) (f l 2) (f (l + 6)) (f (l + 3)) (f (l + 5)) (f 42) hT hl p03 rfl rfl rfl rfl p40 rfl rfl rfl rfl rfl (gc_runs) Y hY
  obtain ⟨f1, ef1⟩ : ∃ z, mf_X11_runs f Y.2 = z := ⟨_, rfl⟩
  obtain ⟨g1, eg1⟩ : ∃ z, g = z := ⟨_, rfl⟩
  obtain ⟨p1, ep1⟩ : ∃ z, p = z := ⟨_, rfl⟩
  rw [ef1] at k1
  have kk : Keeps l f f1 := by rw [← ef1]; unfold mf_X11_runs; exact (kp_u (Or.inl ⟨rfl, rfl⟩) kp_rfl)
  have ka : KeA f f1 := by rw [← ef1]; unfold mf_X11_runs; exact (ka_u (by decide) ka_rfl)
  have kq : KeP p p1 := by rw [← ep1]; exact kq_rfl
  have hT1 : am_T0 p1 d := by rw [← ep1]; exact hT
  subst eg1
  subst ep1
  obtain ⟨Z, hZ⟩ : ∃ Z, D_X12_runs x0 (f 177 14) (f 180) (f 177 22) (f 177 23) (f 177 24) (f 182) = Z := ⟨_, rfl⟩
  have k2 := k_X12_runs (f := f1) (g := g) (p := p) (d := d) (e := e) x0 (f 177 0) (f 177 11) (f 177 14) (f 180) (f 177 22) (f 177 23) (f 177 24) (f 182) hT1 (congrFun (ka 177 (by decide)) 0) (congrFun (ka 177 (by decide)) 11) (congrFun (ka 177 (by decide)) 14) (ka 180 (by decide)) (congrFun (ka 177 (by decide)) 22) (congrFun (ka 177 (by decide)) 23) (congrFun (ka 177 (by decide)) 24) (ka 182 (by decide)) (gr_runs hL hN hS hh) Z hZ
  obtain ⟨f2, ef2⟩ : ∃ z, mf_X12_runs f1 Z.2.1 Z.2.2.1 Z.2.2.2.1 Z.2.2.2.2.1 Z.2.2.2.2.2 = z := ⟨_, rfl⟩
  obtain ⟨g2, eg2⟩ : ∃ z, g = z := ⟨_, rfl⟩
  rw [ef2] at k2
  have kk2 : Keeps l f1 f2 := by rw [← ef2]; unfold mf_X12_runs; exact (kp_u (Or.inr (Or.inr (Or.inr (Or.inr (Or.inr (Or.inl ⟨rfl, by decide, by decide, by decide, by decide, by decide, by decide⟩)))))) (kp_u (Or.inr (Or.inr (Or.inr (Or.inr (Or.inr (Or.inl ⟨rfl, by decide, by decide, by decide, by decide, by decide, by decide⟩)))))) (kp_u (Or.inr (Or.inr (Or.inr (Or.inr (Or.inr (Or.inl ⟨rfl, by decide, by decide, by decide, by decide, by decide, by decide⟩)))))) (kp_u (Or.inr (Or.inr (Or.inr (Or.inr (Or.inr (Or.inl ⟨rfl, by decide, by decide, by decide, by decide, by decide, by decide⟩)))))) (kp_u (Or.inr (Or.inr (Or.inr (Or.inr (Or.inr (Or.inl ⟨rfl, by decide, by decide, by decide, by decide, by decide, by decide⟩)))))) kp_rfl)))))
  have kb2 : KeB f1 f2 := by rw [← ef2]; unfold mf_X12_runs; exact (kb_u (by decide) (kb_u (by decide) (kb_u (by decide) (kb_u (by decide) (kb_u (by decide) kb_rfl)))))
  have hp := pub_runs (x0 := x0) (tens := (f l 4)) (present := (f 40 1)) (braced := (f 40 2)) (fear := (f l 2)) (weight := (f (l + 6))) (nerve := (f (l + 3))) (fearTimes := (f (l + 5))) (feared := (f 42)) (hl := (f 177 14)) (rr := (f 180)) (a := (f 177 22)) (b := (f 177 23)) (c := (f 177 24)) (st := (f 182)) hL hN hS hh
  rw [hY, hZ] at hp
  have ha : Y.1 = Z.1 := congrArg (fun z => z.1) hp
  have hw : Y.2 = Z.2.2.1 := congrArg (fun z => z.2) hp
  have w1 : f1 0 12 = Y.2 := by rw [← ef1]; exact mr_X11_runs_f0 hl
  have w2 : f2 177 11 = Z.2.2.1 := by rw [← ef2]; exact mr_X12_runs_f1 
  have w4 : ¬ (D_X11_runs x0 (f l 4) (f 40 1) (f 40 2) (f l 2) (f (l + 6)) (f (l + 3)) (f (l + 5)) (f 42)).2 = 4 := w_runs
  rw [hY] at w4
  have w3 : f2 0 12 = Y.2 := (congrFun (kb2 0 (by decide)) 12).trans w1
  refine ⟨Y.1, f1, g, p, f2, g, k1, ?_, ⟨l, r, M, A, I, TP, n, Inv_keep hII (kp_tr kk kk2) kq (by rw [w3, w2]; exact hw) (fun h => absurd (w3.symm.trans h) w4)⟩, hT1, ka am_SC (by decide), kp_row (kp_tr kk kk2) (fun k h => absurd (scr_l hl h) (by decide))⟩
  rw [ha]; exact k2
theorem q_holds {f : Nat → Nat → Int32} {g : Nat → Nat → Int64} {p : Nat → Nat → Option Nat} {d : Nat → Nat × Nat} {e : Nat × Nat} {x0 : Int32} (hI0 : Inv f p) (hT : am_T0 p d) : Run2 Value.int f g p d e 128 244 [.int x0] := by
  obtain ⟨l, r, M, A, I, TP, n, hI⟩ := hI0
  have hII := hI
  obtain ⟨hlr, p03, p40, p23, psl, pim, hL, hM5, hP6, hN, hS, hh, hz, hH, hE, hPf, hsy, ⟨q, hq, hsd⟩, hHi, hTP, hA, hUn, hsA, hIm, hI4, hI21, hsI, hn, ht1, ht2, hTp, hfa, hwh, hpl⟩ := hI
  have hl : l = 5 ∨ l = 23 := by omega
  obtain ⟨T, hT3, hT4⟩ : ∃ T, T ≤ 3 ∧ f l 4 = nI T := by obtain ⟨T, a, b⟩ := hL.2.2.2.2.2.2.2.2.2.2.2.2.2.1; exact ⟨T, a, hL.h4.trans b⟩
  obtain ⟨Y, hY⟩ : ∃ Y, D_X11_holds x0 (f l 4) (f 40 1) (f 40 2) (f l 2) (f (l + 6)) (f (l + 3)) (f (l + 5)) (f 42) (f l 0) = Y := ⟨_, rfl⟩
  have k1 := k_X11_holds (f := f) (g := g) (p := p) (d := d) (e := e) l x0 (f l 4) (f 40 1) (f 0 12) (f 40 2) (f l 2) (f (l + 6)) (f (l + 3)) (f (l + 5)) (f 42) (f l 0) hT hl p03 rfl rfl rfl rfl p40 rfl rfl rfl rfl rfl rfl (gc_holds) Y hY
  obtain ⟨f1, ef1⟩ : ∃ z, mf_X11_holds f Y.2 = z := ⟨_, rfl⟩
  obtain ⟨g1, eg1⟩ : ∃ z, g = z := ⟨_, rfl⟩
  obtain ⟨p1, ep1⟩ : ∃ z, p = z := ⟨_, rfl⟩
  rw [ef1] at k1
  have kk : Keeps l f f1 := by rw [← ef1]; unfold mf_X11_holds; exact (kp_u (Or.inl ⟨rfl, rfl⟩) kp_rfl)
  have ka : KeA f f1 := by rw [← ef1]; unfold mf_X11_holds; exact (ka_u (by decide) ka_rfl)
  have kq : KeP p p1 := by rw [← ep1]; exact kq_rfl
  have hT1 : am_T0 p1 d := by rw [← ep1]; exact hT
  subst eg1
  subst ep1
  obtain ⟨Z, hZ⟩ : ∃ Z, D_X12_holds x0 (f 177 14) (f 180) (f 177 22) (f 177 23) (f 177 24) (f 182) = Z := ⟨_, rfl⟩
  have k2 := k_X12_holds (f := f1) (g := g) (p := p) (d := d) (e := e) x0 (f 177 0) (f 177 11) (f 177 14) (f 180) (f 177 22) (f 177 23) (f 177 24) (f 182) hT1 (congrFun (ka 177 (by decide)) 0) (congrFun (ka 177 (by decide)) 11) (congrFun (ka 177 (by decide)) 14) (ka 180 (by decide)) (congrFun (ka 177 (by decide)) 22) (congrFun (ka 177 (by decide)) 23) (congrFun (ka 177 (by decide)) 24) (ka 182 (by decide)) (gr_holds hL hN hS hh) Z hZ
  obtain ⟨f2, ef2⟩ : ∃ z, mf_X12_holds f1 Z.2.1 Z.2.2.1 Z.2.2.2.1 Z.2.2.2.2.1 Z.2.2.2.2.2 = z := ⟨_, rfl⟩
  obtain ⟨g2, eg2⟩ : ∃ z, g = z := ⟨_, rfl⟩
  rw [ef2] at k2
  have kk2 : Keeps l f1 f2 := by rw [← ef2]; unfold mf_X12_holds; exact (kp_u (Or.inr (Or.inr (Or.inr (Or.inr (Or.inr (Or.inl ⟨rfl, by decide, by decide, by decide, by decide, by decide, by decide⟩)))))) (kp_u (Or.inr (Or.inr (Or.inr (Or.inr (Or.inr (Or.inl ⟨rfl, by decide, by decide, by decide, by decide, by decide, by decide⟩)))))) (kp_u (Or.inr (Or.inr (Or.inr (Or.inr (Or.inr (Or.inl ⟨rfl, by decide, by decide, by decide, by decide, by decide, by decide⟩)))))) (kp_u (Or.inr (Or.inr (Or.inr (Or.inr (Or.inr (Or.inl ⟨rfl, by decide, by decide, by decide, by decide, by decide, by decide⟩)))))) (kp_u (Or.inr (Or.inr (Or.inr (Or.inr (Or.inr (Or.inl ⟨rfl, by decide, by decide, by decide, by decide, by decide, by decide⟩)))))) kp_rfl)))))
  have kb2 : KeB f1 f2 := by rw [← ef2]; unfold mf_X12_holds; exact (kb_u (by decide) (kb_u (by decide) (kb_u (by decide) (kb_u (by decide) (kb_u (by decide) kb_rfl)))))
  have hp := pub_holds (x0 := x0) (tens := (f l 4)) (present := (f 40 1)) (braced := (f 40 2)) (fear := (f l 2)) (weight := (f (l + 6))) (nerve := (f (l + 3))) (fearTimes := (f (l + 5))) (feared := (f 42)) (holds := (f l 0)) (hl := (f 177 14)) (rr := (f 180)) (a := (f 177 22)) (b := (f 177 23)) (c := (f 177 24)) (st := (f 182)) hL hN hS hh
  rw [hY, hZ] at hp
  have ha : Y.1 = Z.1 := congrArg (fun z => z.1) hp
  have hw : Y.2 = Z.2.2.1 := congrArg (fun z => z.2) hp
  have w1 : f1 0 12 = Y.2 := by rw [← ef1]; exact mr_X11_holds_f0 hl
  have w2 : f2 177 11 = Z.2.2.1 := by rw [← ef2]; exact mr_X12_holds_f1 
  have w4 : ¬ (D_X11_holds x0 (f l 4) (f 40 1) (f 40 2) (f l 2) (f (l + 6)) (f (l + 3)) (f (l + 5)) (f 42) (f l 0)).2 = 4 := w_holds
  rw [hY] at w4
  have w3 : f2 0 12 = Y.2 := (congrFun (kb2 0 (by decide)) 12).trans w1
  refine ⟨Y.1, f1, g, p, f2, g, k1, ?_, ⟨l, r, M, A, I, TP, n, Inv_keep hII (kp_tr kk kk2) kq (by rw [w3, w2]; exact hw) (fun h => absurd (w3.symm.trans h) w4)⟩, hT1, ka am_SC (by decide), kp_row (kp_tr kk kk2) (fun k h => absurd (scr_l hl h) (by decide))⟩
  rw [ha]; exact k2
theorem q_worst {f : Nat → Nat → Int32} {g : Nat → Nat → Int64} {p : Nat → Nat → Option Nat} {d : Nat → Nat × Nat} {e : Nat × Nat} (hI0 : Inv f p) (hT : am_T0 p d) : Run2 Value.int f g p d e 129 245 [] := by
  obtain ⟨l, r, M, A, I, TP, n, hI⟩ := hI0
  have hII := hI
  obtain ⟨hlr, p03, p40, p23, psl, pim, hL, hM5, hP6, hN, hS, hh, hz, hH, hE, hPf, hsy, ⟨q, hq, hsd⟩, hHi, hTP, hA, hUn, hsA, hIm, hI4, hI21, hsI, hn, ht1, ht2, hTp, hfa, hwh, hpl⟩ := hI
  have hl : l = 5 ∨ l = 23 := by omega
  obtain ⟨T, hT3, hT4⟩ : ∃ T, T ≤ 3 ∧ f l 4 = nI T := by obtain ⟨T, a, b⟩ := hL.2.2.2.2.2.2.2.2.2.2.2.2.2.1; exact ⟨T, a, hL.h4.trans b⟩
  obtain ⟨Y, hY⟩ : ∃ Y, D_X11_worst (f l 4) (f 40 1) (f 40 2) (f l 2) (f (l + 6)) (f (l + 3)) (f (l + 5)) (f 42) = Y := ⟨_, rfl⟩
  have k1 := k_X11_worst (f := f) (g := g) (p := p) (d := d) (e := e) l (f l 4) (f 0 12) (f 40 1) (f 40 2) (f l 2) (f (l + 6)) (f (l + 3)) (f (l + 5)) (f 42) hT hl p03 rfl rfl rfl rfl p40 rfl rfl rfl rfl rfl (gc_worst) Y hY
  obtain ⟨f1, ef1⟩ : ∃ z, mf_X11_worst f Y.2 = z := ⟨_, rfl⟩
  obtain ⟨g1, eg1⟩ : ∃ z, g = z := ⟨_, rfl⟩
  obtain ⟨p1, ep1⟩ : ∃ z, p = z := ⟨_, rfl⟩
  rw [ef1] at k1
  have kk : Keeps l f f1 := by rw [← ef1]; unfold mf_X11_worst; exact (kp_u (Or.inl ⟨rfl, rfl⟩) kp_rfl)
  have ka : KeA f f1 := by rw [← ef1]; unfold mf_X11_worst; exact (ka_u (by decide) ka_rfl)
  have kq : KeP p p1 := by rw [← ep1]; exact kq_rfl
  have hT1 : am_T0 p1 d := by rw [← ep1]; exact hT
  subst eg1
  subst ep1
  obtain ⟨Z, hZ⟩ : ∃ Z, D_X12_worst (f 177 14) (f 180) (f 177 22) (f 177 23) (f 177 24) (f 182) = Z := ⟨_, rfl⟩
  have k2 := k_X12_worst (f := f1) (g := g) (p := p) (d := d) (e := e) (f 177 0) (f 177 11) (f 177 14) (f 180) (f 177 22) (f 177 23) (f 177 24) (f 182) hT1 (congrFun (ka 177 (by decide)) 0) (congrFun (ka 177 (by decide)) 11) (congrFun (ka 177 (by decide)) 14) (ka 180 (by decide)) (congrFun (ka 177 (by decide)) 22) (congrFun (ka 177 (by decide)) 23) (congrFun (ka 177 (by decide)) 24) (ka 182 (by decide)) (gr_worst hL hN hS hh) Z hZ
  obtain ⟨f2, ef2⟩ : ∃ z, mf_X12_worst f1 Z.2.1 Z.2.2.1 Z.2.2.2.1 Z.2.2.2.2.1 Z.2.2.2.2.2 = z := ⟨_, rfl⟩
  obtain ⟨g2, eg2⟩ : ∃ z, g = z := ⟨_, rfl⟩
  rw [ef2] at k2
  have kk2 : Keeps l f1 f2 := by rw [← ef2]; unfold mf_X12_worst; exact (kp_u (Or.inr (Or.inr (Or.inr (Or.inr (Or.inr (Or.inl ⟨rfl, by decide, by decide, by decide, by decide, by decide, by decide⟩)))))) (kp_u (Or.inr (Or.inr (Or.inr (Or.inr (Or.inr (Or.inl ⟨rfl, by decide, by decide, by decide, by decide, by decide, by decide⟩)))))) (kp_u (Or.inr (Or.inr (Or.inr (Or.inr (Or.inr (Or.inl ⟨rfl, by decide, by decide, by decide, by decide, by decide, by decide⟩)))))) (kp_u (Or.inr (Or.inr (Or.inr (Or.inr (Or.inr (Or.inl ⟨rfl, by decide, by decide, by decide, by decide, by decide, by decide⟩)))))) (kp_u (Or.inr (Or.inr (Or.inr (Or.inr (Or.inr (Or.inl ⟨rfl, by decide, by decide, by decide, by decide, by decide, by decide⟩)))))) kp_rfl)))))
  have kb2 : KeB f1 f2 := by rw [← ef2]; unfold mf_X12_worst; exact (kb_u (by decide) (kb_u (by decide) (kb_u (by decide) (kb_u (by decide) (kb_u (by decide) kb_rfl)))))
  have hp := pub_worst (tens := (f l 4)) (present := (f 40 1)) (braced := (f 40 2)) (fear := (f l 2)) (weight := (f (l + 6))) (nerve := (f (l + 3))) (fearTimes := (f (l + 5))) (feared := (f 42)) (hl := (f 177 14)) (rr := (f 180)) (a := (f 177 22)) (b := (f 177 23)) (c := (f 177 24)) (st := (f 182)) hL hN hS hh
  rw [hY, hZ] at hp
  have ha : Y.1 = Z.1 := congrArg (fun z => z.1) hp
  have hw : Y.2 = Z.2.2.1 := congrArg (fun z => z.2) hp
  have w1 : f1 0 12 = Y.2 := by rw [← ef1]; exact mr_X11_worst_f0 hl
  have w2 : f2 177 11 = Z.2.2.1 := by rw [← ef2]; exact mr_X12_worst_f1 
  have w4 : ¬ (D_X11_worst (f l 4) (f 40 1) (f 40 2) (f l 2) (f (l + 6)) (f (l + 3)) (f (l + 5)) (f 42)).2 = 4 := w_worst
  rw [hY] at w4
  have w3 : f2 0 12 = Y.2 := (congrFun (kb2 0 (by decide)) 12).trans w1
  refine ⟨Y.1, f1, g, p, f2, g, k1, ?_, ⟨l, r, M, A, I, TP, n, Inv_keep hII (kp_tr kk kk2) kq (by rw [w3, w2]; exact hw) (fun h => absurd (w3.symm.trans h) w4)⟩, hT1, ka am_SC (by decide), kp_row (kp_tr kk kk2) (fun k h => absurd (scr_l hl h) (by decide))⟩
  rw [ha]; exact k2
theorem q_breaks {f : Nat → Nat → Int32} {g : Nat → Nat → Int64} {p : Nat → Nat → Option Nat} {d : Nat → Nat × Nat} {e : Nat × Nat} (hI0 : Inv f p) (hT : am_T0 p d) : Run2 Value.int f g p d e 130 246 [] := by
  obtain ⟨l, r, M, A, I, TP, n, hI⟩ := hI0
  have hII := hI
  obtain ⟨hlr, p03, p40, p23, psl, pim, hL, hM5, hP6, hN, hS, hh, hz, hH, hE, hPf, hsy, ⟨q, hq, hsd⟩, hHi, hTP, hA, hUn, hsA, hIm, hI4, hI21, hsI, hn, ht1, ht2, hTp, hfa, hwh, hpl⟩ := hI
  have hl : l = 5 ∨ l = 23 := by omega
  obtain ⟨T, hT3, hT4⟩ : ∃ T, T ≤ 3 ∧ f l 4 = nI T := by obtain ⟨T, a, b⟩ := hL.2.2.2.2.2.2.2.2.2.2.2.2.2.1; exact ⟨T, a, hL.h4.trans b⟩
  obtain ⟨Y, hY⟩ : ∃ Y, D_X11_breaks (f l 4) (f 40 1) (f 40 2) (f l 2) (f (l + 6)) (f (l + 3)) (f (l + 5)) (f 42) (f l 0) = Y := ⟨_, rfl⟩
  have k1 := k_X11_breaks (f := f) (g := g) (p := p) (d := d) (e := e) l (f l 4) (f 0 12) (f 40 1) (f 40 2) (f l 2) (f (l + 6)) (f (l + 3)) (f (l + 5)) (f 42) (f l 0) hT hl p03 rfl rfl rfl rfl p40 rfl rfl rfl rfl rfl rfl (gc_breaks hL.M8 hS) Y hY
  obtain ⟨f1, ef1⟩ : ∃ z, mf_X11_breaks f Y.2 = z := ⟨_, rfl⟩
  obtain ⟨g1, eg1⟩ : ∃ z, g = z := ⟨_, rfl⟩
  obtain ⟨p1, ep1⟩ : ∃ z, p = z := ⟨_, rfl⟩
  rw [ef1] at k1
  have kk : Keeps l f f1 := by rw [← ef1]; unfold mf_X11_breaks; exact (kp_u (Or.inl ⟨rfl, rfl⟩) kp_rfl)
  have ka : KeA f f1 := by rw [← ef1]; unfold mf_X11_breaks; exact (ka_u (by decide) ka_rfl)
  have kq : KeP p p1 := by rw [← ep1]; exact kq_rfl
  have hT1 : am_T0 p1 d := by rw [← ep1]; exact hT
  subst eg1
  subst ep1
  obtain ⟨Z, hZ⟩ : ∃ Z, D_X12_breaks (f 177 14) (f 180) (f 177 22) (f 177 23) (f 177 24) (f 182) = Z := ⟨_, rfl⟩
  have k2 := k_X12_breaks (f := f1) (g := g) (p := p) (d := d) (e := e) (f 177 0) (f 177 11) (f 177 14) (f 180) (f 177 22) (f 177 23) (f 177 24) (f 182) hT1 (congrFun (ka 177 (by decide)) 0) (congrFun (ka 177 (by decide)) 11) (congrFun (ka 177 (by decide)) 14) (ka 180 (by decide)) (congrFun (ka 177 (by decide)) 22) (congrFun (ka 177 (by decide)) 23) (congrFun (ka 177 (by decide)) 24) (ka 182 (by decide)) (gr_breaks hL hN hS hh) Z hZ
  obtain ⟨f2, ef2⟩ : ∃ z, mf_X12_breaks f1 Z.2.1 Z.2.2.1 Z.2.2.2.1 Z.2.2.2.2.1 Z.2.2.2.2.2 = z := ⟨_, rfl⟩
  obtain ⟨g2, eg2⟩ : ∃ z, g = z := ⟨_, rfl⟩
  rw [ef2] at k2
  have kk2 : Keeps l f1 f2 := by rw [← ef2]; unfold mf_X12_breaks; exact (kp_u (Or.inr (Or.inr (Or.inr (Or.inr (Or.inr (Or.inl ⟨rfl, by decide, by decide, by decide, by decide, by decide, by decide⟩)))))) (kp_u (Or.inr (Or.inr (Or.inr (Or.inr (Or.inr (Or.inl ⟨rfl, by decide, by decide, by decide, by decide, by decide, by decide⟩)))))) (kp_u (Or.inr (Or.inr (Or.inr (Or.inr (Or.inr (Or.inl ⟨rfl, by decide, by decide, by decide, by decide, by decide, by decide⟩)))))) (kp_u (Or.inr (Or.inr (Or.inr (Or.inr (Or.inr (Or.inl ⟨rfl, by decide, by decide, by decide, by decide, by decide, by decide⟩)))))) (kp_u (Or.inr (Or.inr (Or.inr (Or.inr (Or.inr (Or.inl ⟨rfl, by decide, by decide, by decide, by decide, by decide, by decide⟩)))))) kp_rfl)))))
  have kb2 : KeB f1 f2 := by rw [← ef2]; unfold mf_X12_breaks; exact (kb_u (by decide) (kb_u (by decide) (kb_u (by decide) (kb_u (by decide) (kb_u (by decide) kb_rfl)))))
  have hp := pub_breaks (tens := (f l 4)) (present := (f 40 1)) (braced := (f 40 2)) (fear := (f l 2)) (weight := (f (l + 6))) (nerve := (f (l + 3))) (fearTimes := (f (l + 5))) (feared := (f 42)) (holds := (f l 0)) (hl := (f 177 14)) (rr := (f 180)) (a := (f 177 22)) (b := (f 177 23)) (c := (f 177 24)) (st := (f 182)) hL hN hS hh
  rw [hY, hZ] at hp
  have ha : Y.1 = Z.1 := congrArg (fun z => z.1) hp
  have hw : Y.2 = Z.2.2.1 := congrArg (fun z => z.2) hp
  have w1 : f1 0 12 = Y.2 := by rw [← ef1]; exact mr_X11_breaks_f0 hl
  have w2 : f2 177 11 = Z.2.2.1 := by rw [← ef2]; exact mr_X12_breaks_f1 
  have w4 : ¬ (D_X11_breaks (f l 4) (f 40 1) (f 40 2) (f l 2) (f (l + 6)) (f (l + 3)) (f (l + 5)) (f 42) (f l 0)).2 = 4 := w_breaks
  rw [hY] at w4
  have w3 : f2 0 12 = Y.2 := (congrFun (kb2 0 (by decide)) 12).trans w1
  refine ⟨Y.1, f1, g, p, f2, g, k1, ?_, ⟨l, r, M, A, I, TP, n, Inv_keep hII (kp_tr kk kk2) kq (by rw [w3, w2]; exact hw) (fun h => absurd (w3.symm.trans h) w4)⟩, hT1, ka am_SC (by decide), kp_row (kp_tr kk kk2) (fun k h => absurd (scr_l hl h) (by decide))⟩
  rw [ha]; exact k2
theorem q_brace {f : Nat → Nat → Int32} {g : Nat → Nat → Int64} {p : Nat → Nat → Option Nat} {d : Nat → Nat × Nat} {e : Nat × Nat} {x0 : Int32} (hI0 : Inv f p) (hT : am_T0 p d) : Run2 Value.int f g p d e 131 247 [.int x0] := by
  obtain ⟨l, r, M, A, I, TP, n, hI⟩ := hI0
  have hII := hI
  obtain ⟨hlr, p03, p40, p23, psl, pim, hL, hM5, hP6, hN, hS, hh, hz, hH, hE, hPf, hsy, ⟨q, hq, hsd⟩, hHi, hTP, hA, hUn, hsA, hIm, hI4, hI21, hsI, hn, ht1, ht2, hTp, hfa, hwh, hpl⟩ := hI
  have hl : l = 5 ∨ l = 23 := by omega
  obtain ⟨T, hT3, hT4⟩ : ∃ T, T ≤ 3 ∧ f l 4 = nI T := by obtain ⟨T, a, b⟩ := hL.2.2.2.2.2.2.2.2.2.2.2.2.2.1; exact ⟨T, a, hL.h4.trans b⟩
  obtain ⟨Y, hY⟩ : ∃ Y, D_X11_brace x0 (f l 4) (f 40 1) (f 40 2) (f l 2) (f (l + 6)) (f (l + 3)) (f (l + 5)) (f 42) (f l 0) = Y := ⟨_, rfl⟩
  have k1 := k_X11_brace (f := f) (g := g) (p := p) (d := d) (e := e) l x0 (f l 4) (f 40 1) (f 0 12) (f 40 2) (f l 2) (f (l + 6)) (f (l + 3)) (f (l + 5)) (f 42) (f l 0) hT hl p03 rfl rfl rfl rfl rfl p40 rfl rfl rfl rfl rfl (gc_brace hL.M8 hS) Y hY
  obtain ⟨f1, ef1⟩ : ∃ z, mf_X11_brace f Y.2 = z := ⟨_, rfl⟩
  obtain ⟨g1, eg1⟩ : ∃ z, g = z := ⟨_, rfl⟩
  obtain ⟨p1, ep1⟩ : ∃ z, p = z := ⟨_, rfl⟩
  rw [ef1] at k1
  have kk : Keeps l f f1 := by rw [← ef1]; unfold mf_X11_brace; exact (kp_u (Or.inl ⟨rfl, rfl⟩) kp_rfl)
  have ka : KeA f f1 := by rw [← ef1]; unfold mf_X11_brace; exact (ka_u (by decide) ka_rfl)
  have kq : KeP p p1 := by rw [← ep1]; exact kq_rfl
  have hT1 : am_T0 p1 d := by rw [← ep1]; exact hT
  subst eg1
  subst ep1
  obtain ⟨Z, hZ⟩ : ∃ Z, D_X12_brace x0 (f 177 14) (f 180) (f 177 22) (f 177 23) (f 177 24) (f 182) = Z := ⟨_, rfl⟩
  have k2 := k_X12_brace (f := f1) (g := g) (p := p) (d := d) (e := e) x0 (f 177 0) (f 177 11) (f 177 14) (f 180) (f 177 22) (f 177 23) (f 177 24) (f 182) hT1 (congrFun (ka 177 (by decide)) 0) (congrFun (ka 177 (by decide)) 11) (congrFun (ka 177 (by decide)) 14) (ka 180 (by decide)) (congrFun (ka 177 (by decide)) 22) (congrFun (ka 177 (by decide)) 23) (congrFun (ka 177 (by decide)) 24) (ka 182 (by decide)) (gr_brace hL hN hS hh) Z hZ
  obtain ⟨f2, ef2⟩ : ∃ z, mf_X12_brace f1 Z.2.1 Z.2.2.1 Z.2.2.2.1 Z.2.2.2.2.1 Z.2.2.2.2.2 = z := ⟨_, rfl⟩
  obtain ⟨g2, eg2⟩ : ∃ z, g = z := ⟨_, rfl⟩
  rw [ef2] at k2
  have kk2 : Keeps l f1 f2 := by rw [← ef2]; unfold mf_X12_brace; exact (kp_u (Or.inr (Or.inr (Or.inr (Or.inr (Or.inr (Or.inl ⟨rfl, by decide, by decide, by decide, by decide, by decide, by decide⟩)))))) (kp_u (Or.inr (Or.inr (Or.inr (Or.inr (Or.inr (Or.inl ⟨rfl, by decide, by decide, by decide, by decide, by decide, by decide⟩)))))) (kp_u (Or.inr (Or.inr (Or.inr (Or.inr (Or.inr (Or.inl ⟨rfl, by decide, by decide, by decide, by decide, by decide, by decide⟩)))))) (kp_u (Or.inr (Or.inr (Or.inr (Or.inr (Or.inr (Or.inl ⟨rfl, by decide, by decide, by decide, by decide, by decide, by decide⟩)))))) (kp_u (Or.inr (Or.inr (Or.inr (Or.inr (Or.inr (Or.inl ⟨rfl, by decide, by decide, by decide, by decide, by decide, by decide⟩)))))) kp_rfl)))))
  have kb2 : KeB f1 f2 := by rw [← ef2]; unfold mf_X12_brace; exact (kb_u (by decide) (kb_u (by decide) (kb_u (by decide) (kb_u (by decide) (kb_u (by decide) kb_rfl)))))
  have hp := pub_brace (x0 := x0) (tens := (f l 4)) (present := (f 40 1)) (braced := (f 40 2)) (fear := (f l 2)) (weight := (f (l + 6))) (nerve := (f (l + 3))) (fearTimes := (f (l + 5))) (feared := (f 42)) (holds := (f l 0)) (hl := (f 177 14)) (rr := (f 180)) (a := (f 177 22)) (b := (f 177 23)) (c := (f 177 24)) (st := (f 182)) hL hN hS hh
  rw [hY, hZ] at hp
  have ha : Y.1 = Z.1 := congrArg (fun z => z.1) hp
  have hw : Y.2 = Z.2.2.1 := congrArg (fun z => z.2) hp
  have w1 : f1 0 12 = Y.2 := by rw [← ef1]; exact mr_X11_brace_f0 hl
  have w2 : f2 177 11 = Z.2.2.1 := by rw [← ef2]; exact mr_X12_brace_f1 
  have w4 : ¬ (D_X11_brace x0 (f l 4) (f 40 1) (f 40 2) (f l 2) (f (l + 6)) (f (l + 3)) (f (l + 5)) (f 42) (f l 0)).2 = 4 := w_brace
  rw [hY] at w4
  have w3 : f2 0 12 = Y.2 := (congrFun (kb2 0 (by decide)) 12).trans w1
  refine ⟨Y.1, f1, g, p, f2, g, k1, ?_, ⟨l, r, M, A, I, TP, n, Inv_keep hII (kp_tr kk kk2) kq (by rw [w3, w2]; exact hw) (fun h => absurd (w3.symm.trans h) w4)⟩, hT1, ka am_SC (by decide), kp_row (kp_tr kk kk2) (fun k h => absurd (scr_l hl h) (by decide))⟩
  rw [ha]; exact k2
theorem q_toHearten {f : Nat → Nat → Int32} {g : Nat → Nat → Int64} {p : Nat → Nat → Option Nat} {d : Nat → Nat × Nat} {e : Nat × Nat} {x0 : Int32} (hI0 : Inv f p) (hT : am_T0 p d) : Run2 Value.int f g p d e 132 248 [.int x0] := by
  obtain ⟨l, r, M, A, I, TP, n, hI⟩ := hI0
  have hII := hI
  obtain ⟨hlr, p03, p40, p23, psl, pim, hL, hM5, hP6, hN, hS, hh, hz, hH, hE, hPf, hsy, ⟨q, hq, hsd⟩, hHi, hTP, hA, hUn, hsA, hIm, hI4, hI21, hsI, hn, ht1, ht2, hTp, hfa, hwh, hpl⟩ := hI
  have hl : l = 5 ∨ l = 23 := by omega
  obtain ⟨T, hT3, hT4⟩ : ∃ T, T ≤ 3 ∧ f l 4 = nI T := by obtain ⟨T, a, b⟩ := hL.2.2.2.2.2.2.2.2.2.2.2.2.2.1; exact ⟨T, a, hL.h4.trans b⟩
  obtain ⟨Y, hY⟩ : ∃ Y, D_X11_toHearten x0 (f l 4) (f 40 1) (f 40 2) (f l 2) (f (l + 6)) (f (l + 3)) (f (l + 5)) (f 42) = Y := ⟨_, rfl⟩
  have k1 := k_X11_toHearten (f := f) (g := g) (p := p) (d := d) (e := e) l x0 (f l 4) (f 40 1) (f 0 12) (f 40 2) (f l 2) (f (l + 6)) (f (l + 3)) (f (l + 5)) (f 42) hT hl p03 rfl rfl rfl rfl p40 rfl rfl rfl rfl rfl (gc_toHearten) Y hY
  obtain ⟨f1, ef1⟩ : ∃ z, mf_X11_toHearten f Y.2 = z := ⟨_, rfl⟩
  obtain ⟨g1, eg1⟩ : ∃ z, g = z := ⟨_, rfl⟩
  obtain ⟨p1, ep1⟩ : ∃ z, p = z := ⟨_, rfl⟩
  rw [ef1] at k1
  have kk : Keeps l f f1 := by rw [← ef1]; unfold mf_X11_toHearten; exact (kp_u (Or.inl ⟨rfl, rfl⟩) kp_rfl)
  have ka : KeA f f1 := by rw [← ef1]; unfold mf_X11_toHearten; exact (ka_u (by decide) ka_rfl)
  have kq : KeP p p1 := by rw [← ep1]; exact kq_rfl
  have hT1 : am_T0 p1 d := by rw [← ep1]; exact hT
  subst eg1
  subst ep1
  obtain ⟨Z, hZ⟩ : ∃ Z, D_X12_toHearten x0 (f 177 14) (f 180) (f 177 22) (f 177 23) (f 177 24) (f 182) = Z := ⟨_, rfl⟩
  have k2 := k_X12_toHearten (f := f1) (g := g) (p := p) (d := d) (e := e) x0 (f 177 0) (f 177 11) (f 177 14) (f 180) (f 177 22) (f 177 23) (f 177 24) (f 182) hT1 (congrFun (ka 177 (by decide)) 0) (congrFun (ka 177 (by decide)) 11) (congrFun (ka 177 (by decide)) 14) (ka 180 (by decide)) (congrFun (ka 177 (by decide)) 22) (congrFun (ka 177 (by decide)) 23) (congrFun (ka 177 (by decide)) 24) (ka 182 (by decide)) (gr_toHearten hL hN hS hh) Z hZ
  obtain ⟨f2, ef2⟩ : ∃ z, mf_X12_toHearten f1 Z.2.1 Z.2.2.1 Z.2.2.2.1 Z.2.2.2.2.1 Z.2.2.2.2.2 = z := ⟨_, rfl⟩
  obtain ⟨g2, eg2⟩ : ∃ z, g = z := ⟨_, rfl⟩
  rw [ef2] at k2
  have kk2 : Keeps l f1 f2 := by rw [← ef2]; unfold mf_X12_toHearten; exact (kp_u (Or.inr (Or.inr (Or.inr (Or.inr (Or.inr (Or.inl ⟨rfl, by decide, by decide, by decide, by decide, by decide, by decide⟩)))))) (kp_u (Or.inr (Or.inr (Or.inr (Or.inr (Or.inr (Or.inl ⟨rfl, by decide, by decide, by decide, by decide, by decide, by decide⟩)))))) (kp_u (Or.inr (Or.inr (Or.inr (Or.inr (Or.inr (Or.inl ⟨rfl, by decide, by decide, by decide, by decide, by decide, by decide⟩)))))) (kp_u (Or.inr (Or.inr (Or.inr (Or.inr (Or.inr (Or.inl ⟨rfl, by decide, by decide, by decide, by decide, by decide, by decide⟩)))))) (kp_u (Or.inr (Or.inr (Or.inr (Or.inr (Or.inr (Or.inl ⟨rfl, by decide, by decide, by decide, by decide, by decide, by decide⟩)))))) kp_rfl)))))
  have kb2 : KeB f1 f2 := by rw [← ef2]; unfold mf_X12_toHearten; exact (kb_u (by decide) (kb_u (by decide) (kb_u (by decide) (kb_u (by decide) (kb_u (by decide) kb_rfl)))))
  have hp := pub_toHearten (x0 := x0) (tens := (f l 4)) (present := (f 40 1)) (braced := (f 40 2)) (fear := (f l 2)) (weight := (f (l + 6))) (nerve := (f (l + 3))) (fearTimes := (f (l + 5))) (feared := (f 42)) (hl := (f 177 14)) (rr := (f 180)) (a := (f 177 22)) (b := (f 177 23)) (c := (f 177 24)) (st := (f 182)) hL hN hS hh
  rw [hY, hZ] at hp
  have ha : Y.1 = Z.1 := congrArg (fun z => z.1) hp
  have hw : Y.2 = Z.2.2.1 := congrArg (fun z => z.2) hp
  have w1 : f1 0 12 = Y.2 := by rw [← ef1]; exact mr_X11_toHearten_f0 hl
  have w2 : f2 177 11 = Z.2.2.1 := by rw [← ef2]; exact mr_X12_toHearten_f1 
  have w4 : ¬ (D_X11_toHearten x0 (f l 4) (f 40 1) (f 40 2) (f l 2) (f (l + 6)) (f (l + 3)) (f (l + 5)) (f 42)).2 = 4 := w_toHearten
  rw [hY] at w4
  have w3 : f2 0 12 = Y.2 := (congrFun (kb2 0 (by decide)) 12).trans w1
  refine ⟨Y.1, f1, g, p, f2, g, k1, ?_, ⟨l, r, M, A, I, TP, n, Inv_keep hII (kp_tr kk kk2) kq (by rw [w3, w2]; exact hw) (fun h => absurd (w3.symm.trans h) w4)⟩, hT1, ka am_SC (by decide), kp_row (kp_tr kk kk2) (fun k h => absurd (scr_l hl h) (by decide))⟩
  rw [ha]; exact k2
theorem q_fearFor {f : Nat → Nat → Int32} {g : Nat → Nat → Int64} {p : Nat → Nat → Option Nat} {d : Nat → Nat × Nat} {e : Nat × Nat} {x0 : Int32} (hI0 : Inv f p) (hT : am_T0 p d) : Run2 Value.int f g p d e 133 249 [.int x0] := by
  obtain ⟨l, r, M, A, I, TP, n, hI⟩ := hI0
  have hII := hI
  obtain ⟨hlr, p03, p40, p23, psl, pim, hL, hM5, hP6, hN, hS, hh, hz, hH, hE, hPf, hsy, ⟨q, hq, hsd⟩, hHi, hTP, hA, hUn, hsA, hIm, hI4, hI21, hsI, hn, ht1, ht2, hTp, hfa, hwh, hpl⟩ := hI
  have hl : l = 5 ∨ l = 23 := by omega
  obtain ⟨T, hT3, hT4⟩ : ∃ T, T ≤ 3 ∧ f l 4 = nI T := by obtain ⟨T, a, b⟩ := hL.2.2.2.2.2.2.2.2.2.2.2.2.2.1; exact ⟨T, a, hL.h4.trans b⟩
  obtain ⟨Y, hY⟩ : ∃ Y, D_X11_fearFor x0 (f l 4) (f 40 1) (f 40 2) (f (l + 6)) (f (l + 3)) (f (l + 5)) (f 42) (f l 0) = Y := ⟨_, rfl⟩
  have k1 := k_X11_fearFor (f := f) (g := g) (p := p) (d := d) (e := e) l x0 (f l 4) (f 40 1) (f 0 12) (f 40 2) (f (l + 6)) (f (l + 3)) (f (l + 5)) (f 42) (f l 0) hT hl p03 rfl rfl rfl rfl p40 rfl rfl rfl rfl rfl (gc_fearFor) Y hY
  obtain ⟨f1, ef1⟩ : ∃ z, mf_X11_fearFor f Y.2 = z := ⟨_, rfl⟩
  obtain ⟨g1, eg1⟩ : ∃ z, g = z := ⟨_, rfl⟩
  obtain ⟨p1, ep1⟩ : ∃ z, p = z := ⟨_, rfl⟩
  rw [ef1] at k1
  have kk : Keeps l f f1 := by rw [← ef1]; unfold mf_X11_fearFor; exact (kp_u (Or.inl ⟨rfl, rfl⟩) kp_rfl)
  have ka : KeA f f1 := by rw [← ef1]; unfold mf_X11_fearFor; exact (ka_u (by decide) ka_rfl)
  have kq : KeP p p1 := by rw [← ep1]; exact kq_rfl
  have hT1 : am_T0 p1 d := by rw [← ep1]; exact hT
  subst eg1
  subst ep1
  obtain ⟨Z, hZ⟩ : ∃ Z, D_X12_fearFor x0 (f 177 14) (f 180) (f 177 22) (f 177 23) (f 177 24) (f 182) = Z := ⟨_, rfl⟩
  have k2 := k_X12_fearFor (f := f1) (g := g) (p := p) (d := d) (e := e) x0 (f 177 0) (f 177 11) (f 177 14) (f 180) (f 177 22) (f 177 23) (f 177 24) (f 182) hT1 (congrFun (ka 177 (by decide)) 0) (congrFun (ka 177 (by decide)) 11) (congrFun (ka 177 (by decide)) 14) (ka 180 (by decide)) (congrFun (ka 177 (by decide)) 22) (congrFun (ka 177 (by decide)) 23) (congrFun (ka 177 (by decide)) 24) (ka 182 (by decide)) (gr_fearFor hL hN hS hh) Z hZ
  obtain ⟨f2, ef2⟩ : ∃ z, mf_X12_fearFor f1 Z.2.1 Z.2.2.1 Z.2.2.2.1 Z.2.2.2.2.1 Z.2.2.2.2.2 = z := ⟨_, rfl⟩
  obtain ⟨g2, eg2⟩ : ∃ z, g = z := ⟨_, rfl⟩
  rw [ef2] at k2
  have kk2 : Keeps l f1 f2 := by rw [← ef2]; unfold mf_X12_fearFor; exact (kp_u (Or.inr (Or.inr (Or.inr (Or.inr (Or.inr (Or.inl ⟨rfl, by decide, by decide, by decide, by decide, by decide, by decide⟩)))))) (kp_u (Or.inr (Or.inr (Or.inr (Or.inr (Or.inr (Or.inl ⟨rfl, by decide, by decide, by decide, by decide, by decide, by decide⟩)))))) (kp_u (Or.inr (Or.inr (Or.inr (Or.inr (Or.inr (Or.inl ⟨rfl, by decide, by decide, by decide, by decide, by decide, by decide⟩)))))) (kp_u (Or.inr (Or.inr (Or.inr (Or.inr (Or.inr (Or.inl ⟨rfl, by decide, by decide, by decide, by decide, by decide, by decide⟩)))))) (kp_u (Or.inr (Or.inr (Or.inr (Or.inr (Or.inr (Or.inl ⟨rfl, by decide, by decide, by decide, by decide, by decide, by decide⟩)))))) kp_rfl)))))
  have kb2 : KeB f1 f2 := by rw [← ef2]; unfold mf_X12_fearFor; exact (kb_u (by decide) (kb_u (by decide) (kb_u (by decide) (kb_u (by decide) (kb_u (by decide) kb_rfl)))))
  have hp := pub_fearFor (x0 := x0) (tens := (f l 4)) (present := (f 40 1)) (braced := (f 40 2)) (weight := (f (l + 6))) (nerve := (f (l + 3))) (fearTimes := (f (l + 5))) (feared := (f 42)) (holds := (f l 0)) (hl := (f 177 14)) (rr := (f 180)) (a := (f 177 22)) (b := (f 177 23)) (c := (f 177 24)) (st := (f 182)) hL hN hS hh
  rw [hY, hZ] at hp
  have ha : Y.1 = Z.1 := congrArg (fun z => z.1) hp
  have hw : Y.2 = Z.2.2.1 := congrArg (fun z => z.2) hp
  have w1 : f1 0 12 = Y.2 := by rw [← ef1]; exact mr_X11_fearFor_f0 hl
  have w2 : f2 177 11 = Z.2.2.1 := by rw [← ef2]; exact mr_X12_fearFor_f1 
  have w4 : ¬ (D_X11_fearFor x0 (f l 4) (f 40 1) (f 40 2) (f (l + 6)) (f (l + 3)) (f (l + 5)) (f 42) (f l 0)).2 = 4 := w_fearFor
  rw [hY] at w4
  have w3 : f2 0 12 = Y.2 := (congrFun (kb2 0 (by decide)) 12).trans w1
  refine ⟨Y.1, f1, g, p, f2, g, k1, ?_, ⟨l, r, M, A, I, TP, n, Inv_keep hII (kp_tr kk kk2) kq (by rw [w3, w2]; exact hw) (fun h => absurd (w3.symm.trans h) w4)⟩, hT1, ka am_SC (by decide), kp_row (kp_tr kk kk2) (fun k h => absurd (scr_l hl h) (by decide))⟩
  rw [ha]; exact k2
theorem q_sets {f : Nat → Nat → Int32} {g : Nat → Nat → Int64} {p : Nat → Nat → Option Nat} {d : Nat → Nat × Nat} {e : Nat × Nat} {x0 : Int32} (hI0 : Inv f p) (hT : am_T0 p d) : Run2 Value.int f g p d e 136 259 [.int x0] := by
  obtain ⟨l, r, M, A, I, TP, n, hI⟩ := hI0
  have hII := hI
  obtain ⟨hlr, p03, p40, p23, psl, pim, hL, hM5, hP6, hN, hS, hh, hz, hH, hE, hPf, hsy, ⟨q, hq, hsd⟩, hHi, hTP, hA, hUn, hsA, hIm, hI4, hI21, hsI, hn, ht1, ht2, hTp, hfa, hwh, hpl⟩ := hI
  have hl : l = 5 ∨ l = 23 := by omega
  obtain ⟨T, hT3, hT4⟩ : ∃ T, T ≤ 3 ∧ f l 4 = nI T := by obtain ⟨T, a, b⟩ := hL.2.2.2.2.2.2.2.2.2.2.2.2.2.1; exact ⟨T, a, hL.h4.trans b⟩
  obtain ⟨Y, hY⟩ : ∃ Y, D_X11_sets x0 (f l 4) (f 40 1) (f 41) (f l 1) = Y := ⟨_, rfl⟩
  have k1 := k_X11_sets (f := f) (g := g) (p := p) (d := d) (e := e) l x0 (f l 4) (f 40 1) (f 41) (f 0 12) (f l 1) hT hl p03 rfl rfl rfl rfl p40 rfl (gc_sets hL hN hS) Y hY
  obtain ⟨f1, ef1⟩ : ∃ z, mf_X11_sets f Y.2 = z := ⟨_, rfl⟩
  obtain ⟨g1, eg1⟩ : ∃ z, g = z := ⟨_, rfl⟩
  obtain ⟨p1, ep1⟩ : ∃ z, p = z := ⟨_, rfl⟩
  rw [ef1] at k1
  have kk : Keeps l f f1 := by rw [← ef1]; unfold mf_X11_sets; exact (kp_u (Or.inl ⟨rfl, rfl⟩) kp_rfl)
  have ka : KeA f f1 := by rw [← ef1]; unfold mf_X11_sets; exact (ka_u (by decide) ka_rfl)
  have kq : KeP p p1 := by rw [← ep1]; exact kq_rfl
  have hT1 : am_T0 p1 d := by rw [← ep1]; exact hT
  subst eg1
  subst ep1
  obtain ⟨Z, hZ⟩ : ∃ Z, D_X12_sets x0 (f 177 14) (f 180) (f 182) (f 185) (f 177 22) (f 177 23) (f 177 24) (f 177 33) (g 177 26) (g 177 27) (g 177 28) (g 177 29) (g 177 30) (f 177 31) (f 177 32) = Z := ⟨_, rfl⟩
  have k2 := k_X12_sets (f := f1) (g := g) (p := p) (d := d) (e := e) x0 (f 177 0) (f 177 11) (f 177 14) (f 180) (f 182) (f 185) (f 177 22) (f 177 23) (f 177 24) (f 177 33) (g 177 26) (g 177 27) (g 177 28) (g 177 29) (g 177 30) (f 177 31) (f 177 32) hT1 (congrFun (ka 177 (by decide)) 0) (congrFun (ka 177 (by decide)) 11) (congrFun (ka 177 (by decide)) 14) (ka 180 (by decide)) (ka 182 (by decide)) (ka 185 (by decide)) (congrFun (ka 177 (by decide)) 22) (congrFun (ka 177 (by decide)) 23) (congrFun (ka 177 (by decide)) 24) (congrFun (ka 177 (by decide)) 33) rfl rfl rfl rfl rfl (congrFun (ka 177 (by decide)) 31) (congrFun (ka 177 (by decide)) 32) (gr_sets hL hN hS hh) Z hZ
  obtain ⟨f2, ef2⟩ : ∃ z, mf_X12_sets f1 Z.2.1 Z.2.2.1 Z.2.2.2.1 Z.2.2.2.2.1 Z.2.2.2.2.2.1 Z.2.2.2.2.2.2.1 Z.2.2.2.2.2.2.2.1 Z.2.2.2.2.2.2.2.2.1 Z.2.2.2.2.2.2.2.2.2.1 = z := ⟨_, rfl⟩
  obtain ⟨g2, eg2⟩ : ∃ z, mg_X12_sets g Z.2.2.2.2.2.2.2.2.2.2.1 Z.2.2.2.2.2.2.2.2.2.2.2.1 Z.2.2.2.2.2.2.2.2.2.2.2.2.1 Z.2.2.2.2.2.2.2.2.2.2.2.2.2.1 Z.2.2.2.2.2.2.2.2.2.2.2.2.2.2 = z := ⟨_, rfl⟩
  rw [ef2, eg2] at k2
  have kk2 : Keeps l f1 f2 := by rw [← ef2]; unfold mf_X12_sets; exact (kp_u (Or.inr (Or.inr (Or.inr (Or.inr (Or.inr (Or.inl ⟨rfl, by decide, by decide, by decide, by decide, by decide, by decide⟩)))))) (kp_u (Or.inr (Or.inr (Or.inr (Or.inr (Or.inr (Or.inl ⟨rfl, by decide, by decide, by decide, by decide, by decide, by decide⟩)))))) (kp_u (Or.inr (Or.inr (Or.inr (Or.inr (Or.inr (Or.inl ⟨rfl, by decide, by decide, by decide, by decide, by decide, by decide⟩)))))) (kp_u (Or.inr (Or.inr (Or.inr (Or.inr (Or.inr (Or.inl ⟨rfl, by decide, by decide, by decide, by decide, by decide, by decide⟩)))))) (kp_u (Or.inr (Or.inr (Or.inr (Or.inr (Or.inr (Or.inl ⟨rfl, by decide, by decide, by decide, by decide, by decide, by decide⟩)))))) (kp_u (Or.inr (Or.inr (Or.inr (Or.inr (Or.inr (Or.inl ⟨rfl, by decide, by decide, by decide, by decide, by decide, by decide⟩)))))) (kp_v (fun _ => Or.inr (Or.inr (Or.inr (Or.inr (Or.inr (Or.inr (Or.inr (Or.inr ⟨by decide, by decide⟩)))))))) (kp_u (Or.inr (Or.inr (Or.inr (Or.inr (Or.inr (Or.inl ⟨rfl, by decide, by decide, by decide, by decide, by decide, by decide⟩)))))) (kp_u (Or.inr (Or.inr (Or.inr (Or.inr (Or.inr (Or.inl ⟨rfl, by decide, by decide, by decide, by decide, by decide, by decide⟩)))))) kp_rfl)))))))))
  have kb2 : KeB f1 f2 := by rw [← ef2]; unfold mf_X12_sets; exact (kb_u (by decide) (kb_u (by decide) (kb_u (by decide) (kb_u (by decide) (kb_u (by decide) (kb_u (by decide) (kb_v (by decide) (kb_u (by decide) (kb_u (by decide) kb_rfl)))))))))
  have hp := pub_sets (x0 := x0) (tens := (f l 4)) (present := (f 40 1)) (tenOf := (f 41)) (oneIn := (f l 1)) (hl := (f 177 14)) (rr := (f 180)) (st := (f 182)) (levels := (f 185)) (a := (f 177 22)) (b := (f 177 23)) (c := (f 177 24)) (sT := (f 177 33)) (sM := (g 177 26)) (dM := (g 177 27)) (mM := (g 177 28)) (gM := (g 177 29)) (rS := (g 177 30)) (mR := (f 177 31)) (wO := (f 177 32)) hL hN hS hh
  rw [hY, hZ] at hp
  have ha : Y.1 = Z.1 := congrArg (fun z => z.1) hp
  have hw : Y.2 = Z.2.2.1 := congrArg (fun z => z.2) hp
  have w1 : f1 0 12 = Y.2 := by rw [← ef1]; exact mr_X11_sets_f0 hl
  have w2 : f2 177 11 = Z.2.2.1 := by rw [← ef2]; exact mr_X12_sets_f1 
  have w4 : ¬ (D_X11_sets x0 (f l 4) (f 40 1) (f 41) (f l 1)).2 = 4 := w_sets
  rw [hY] at w4
  have w3 : f2 0 12 = Y.2 := (congrFun (kb2 0 (by decide)) 12).trans w1
  refine ⟨Y.1, f1, g, p, f2, g2, k1, ?_, ⟨l, r, M, A, I, TP, n, Inv_keep hII (kp_tr kk kk2) kq (by rw [w3, w2]; exact hw) (fun h => absurd (w3.symm.trans h) w4)⟩, hT1, ka am_SC (by decide), kp_row (kp_tr kk kk2) (fun k h => absurd (scr_l hl h) (by decide))⟩
  rw [ha]; exact k2
theorem q_drawn {f : Nat → Nat → Int32} {g : Nat → Nat → Int64} {p : Nat → Nat → Option Nat} {d : Nat → Nat × Nat} {e : Nat × Nat} {x0 x1 : Int32} (hI0 : Inv f p) (hT : am_T0 p d) : Run2 Value.long f g p d e 138 260 [.int x0, .int x1] := by
  obtain ⟨l, r, M, A, I, TP, n, hI⟩ := hI0
  have hII := hI
  obtain ⟨hlr, p03, p40, p23, psl, pim, hL, hM5, hP6, hN, hS, hh, hz, hH, hE, hPf, hsy, ⟨q, hq, hsd⟩, hHi, hTP, hA, hUn, hsA, hIm, hI4, hI21, hsI, hn, ht1, ht2, hTp, hfa, hwh, hpl⟩ := hI
  have hl : l = 5 ∨ l = 23 := by omega
  obtain ⟨T, hT3, hT4⟩ : ∃ T, T ≤ 3 ∧ f l 4 = nI T := by obtain ⟨T, a, b⟩ := hL.2.2.2.2.2.2.2.2.2.2.2.2.2.1; exact ⟨T, a, hL.h4.trans b⟩
  obtain ⟨Y, hY⟩ : ∃ Y, D_X11_drawn x0 x1 (f l 5) (f 40 1) (f 41) (f l 1) (g 176 0) (g 176 1) = Y := ⟨_, rfl⟩
  have k1 := k_X11_drawn (f := f) (g := g) (p := p) (d := d) (e := e) l x0 x1 (f l 5) (f 40 1) (f 0 12) (f 41) (f l 1) (g 176 0) (g 176 1) hT hl p03 rfl rfl rfl rfl p40 rfl rfl rfl (gc_drawn hL hN hS hM5) Y hY
  obtain ⟨f1, ef1⟩ : ∃ z, mf_X11_drawn f Y.2.1 = z := ⟨_, rfl⟩
  obtain ⟨g1, eg1⟩ : ∃ z, mg_X11_drawn g Y.2.2.1 Y.2.2.2 = z := ⟨_, rfl⟩
  obtain ⟨p1, ep1⟩ : ∃ z, p = z := ⟨_, rfl⟩
  rw [ef1, eg1] at k1
  have kk : Keeps l f f1 := by rw [← ef1]; unfold mf_X11_drawn; exact (kp_u (Or.inl ⟨rfl, rfl⟩) kp_rfl)
  have ka : KeA f f1 := by rw [← ef1]; unfold mf_X11_drawn; exact (ka_u (by decide) ka_rfl)
  have kq : KeP p p1 := by rw [← ep1]; exact kq_rfl
  have hT1 : am_T0 p1 d := by rw [← ep1]; exact hT
  subst ep1
  obtain ⟨Z, hZ⟩ : ∃ Z, D_X12_drawn x0 x1 (f 177 14) (f 180) (f 182) = Z := ⟨_, rfl⟩
  have k2 := k_X12_drawn (f := f1) (g := g1) (p := p) (d := d) (e := e) x0 x1 (f 177 0) (f 177 11) (f 177 14) (f 180) (f 182) hT1 (congrFun (ka 177 (by decide)) 0) (congrFun (ka 177 (by decide)) 11) (congrFun (ka 177 (by decide)) 14) (ka 180 (by decide)) (ka 182 (by decide)) (gr_drawn hL hN hS hh (fun h => (hz h).1)) Z hZ
  obtain ⟨f2, ef2⟩ : ∃ z, mf_X12_drawn f1 Z.2.1 Z.2.2 = z := ⟨_, rfl⟩
  obtain ⟨g2, eg2⟩ : ∃ z, g1 = z := ⟨_, rfl⟩
  rw [ef2] at k2
  have kk2 : Keeps l f1 f2 := by rw [← ef2]; unfold mf_X12_drawn; exact (kp_u (Or.inr (Or.inr (Or.inr (Or.inr (Or.inr (Or.inl ⟨rfl, by decide, by decide, by decide, by decide, by decide, by decide⟩)))))) (kp_u (Or.inr (Or.inr (Or.inr (Or.inr (Or.inr (Or.inl ⟨rfl, by decide, by decide, by decide, by decide, by decide, by decide⟩)))))) kp_rfl))
  have kb2 : KeB f1 f2 := by rw [← ef2]; unfold mf_X12_drawn; exact (kb_u (by decide) (kb_u (by decide) kb_rfl))
  have hp := pub_drawn (x0 := x0) (x1 := x1) (men := (f l 5)) (present := (f 40 1)) (tenOf := (f 41)) (oneIn := (f l 1)) (upper := (g 176 0)) (lower := (g 176 1)) (hl := (f 177 14)) (rr := (f 180)) (st := (f 182)) hL hN hS hh hM5 (fun h => (hz h).1)
  rw [hY, hZ] at hp
  obtain ⟨ha, hw⟩ := hp
  have w1 : f1 0 12 = Y.2.1 := by rw [← ef1]; exact mr_X11_drawn_f0 hl
  have w2 : f2 177 11 = Z.2.2 := by rw [← ef2]; exact mr_X12_drawn_f1 
  have w4 : ¬ (D_X11_drawn x0 x1 (f l 5) (f 40 1) (f 41) (f l 1) (g 176 0) (g 176 1)).2.1 = 4 := w_drawn
  rw [hY] at w4
  have w3 : f2 0 12 = Y.2.1 := (congrFun (kb2 0 (by decide)) 12).trans w1
  refine ⟨Y.1, f1, g1, p, f2, g1, k1, ?_, ⟨l, r, M, A, I, TP, n, Inv_keep hII (kp_tr kk kk2) kq (by rw [w3, w2]; exact hw) (fun h => absurd (w3.symm.trans h) w4)⟩, hT1, ka am_SC (by decide), kp_row (kp_tr kk kk2) (fun k h => absurd (scr_l hl h) (by decide))⟩
  rw [ha]; exact k2
theorem q_holdsAfter {f : Nat → Nat → Int32} {g : Nat → Nat → Int64} {p : Nat → Nat → Option Nat} {d : Nat → Nat × Nat} {e : Nat × Nat} {x0 x1 x2 : Int32} (hI0 : Inv f p) (hT : am_T0 p d) : Run2 Value.long f g p d e 140 261 [.int x0, .int x1, .int x2] := by
  obtain ⟨l, r, M, A, I, TP, n, hI⟩ := hI0
  have hII := hI
  obtain ⟨hlr, p03, p40, p23, psl, pim, hL, hM5, hP6, hN, hS, hh, hz, hH, hE, hPf, hsy, ⟨q, hq, hsd⟩, hHi, hTP, hA, hUn, hsA, hIm, hI4, hI21, hsI, hn, ht1, ht2, hTp, hfa, hwh, hpl⟩ := hI
  have hl : l = 5 ∨ l = 23 := by omega
  obtain ⟨T, hT3, hT4⟩ : ∃ T, T ≤ 3 ∧ f l 4 = nI T := by obtain ⟨T, a, b⟩ := hL.2.2.2.2.2.2.2.2.2.2.2.2.2.1; exact ⟨T, a, hL.h4.trans b⟩
  obtain ⟨Y, hY⟩ : ∃ Y, D_X11_holdsAfter x0 x1 x2 (f l 4) (f 40 1) (f 41) (f 143 1) (f 143 2) (f 143 3) (f 143 4) (f 143 5) (f l 1) (p 145 0) (f 145 1) (f 40 2) (f 145 2) (f 40 3) (f 145 3) (f 146) (f 42) (f 147) (f 43) (f 148) (f 44) (f 149) (f (l + 4)) (f l 2) (f (l + 6)) (f (l + 3)) (f (l + 5)) (f l 0) (f l 3) (g 176 0) (g 176 1) l = Y := ⟨_, rfl⟩
  have k1 := k_X11_holdsAfter (f := f) (g := g) (p := p) (d := d) (e := e) l x0 x1 x2 (f l 4) (f 40 1) (f 41) (f 0 12) (f 143 1) (f 143 2) (f 143 3) (f 143 4) (f 143 5) (f l 1) (p 145 0) (f 145 1) (f 40 2) (f 145 2) (f 40 3) (f 145 3) (f 146) (f 42) (f 147) (f 43) (f 148) (f 44) (f 149) (f (l + 4)) (f l 2) (f (l + 6)) (f (l + 3)) (f (l + 5)) (f l 0) (f l 3) (g 176 0) (g 176 1) hT hl p03 rfl rfl rfl rfl rfl rfl rfl rfl rfl p40 rfl rfl rfl rfl rfl rfl rfl rfl rfl rfl rfl rfl rfl rfl rfl rfl rfl rfl rfl rfl rfl rfl rfl (gc_holdsAfter hL hN hS hh) Y hY
  obtain ⟨f1, ef1⟩ : ∃ z, mf_X11_holdsAfter f Y.2.1 Y.2.2.1 Y.2.2.2.1 Y.2.2.2.2.1 Y.2.2.2.2.2.1 Y.2.2.2.2.2.2.1 Y.2.2.2.2.2.2.2.1 Y.2.2.2.2.2.2.2.2.1 Y.2.2.2.2.2.2.2.2.2.1 Y.2.2.2.2.2.2.2.2.2.2.1 Y.2.2.2.2.2.2.2.2.2.2.2.1 Y.2.2.2.2.2.2.2.2.2.2.2.2.1 Y.2.2.2.2.2.2.2.2.2.2.2.2.2.1 = z := ⟨_, rfl⟩
  obtain ⟨g1, eg1⟩ : ∃ z, mg_X11_holdsAfter g Y.2.2.2.2.2.2.2.2.2.2.2.2.2.2.2.1 Y.2.2.2.2.2.2.2.2.2.2.2.2.2.2.2.2 = z := ⟨_, rfl⟩
  obtain ⟨p1, ep1⟩ : ∃ z, mp_X11_holdsAfter p Y.2.2.2.2.2.2.2.2.2.2.2.2.2.2.1 = z := ⟨_, rfl⟩
  rw [ef1, eg1, ep1] at k1
  have kk : Keeps l f f1 := by rw [← ef1]; unfold mf_X11_holdsAfter; exact (kp_v (fun _ => Or.inr (Or.inr (Or.inr (Or.inr (Or.inl ⟨by decide, by decide⟩))))) (kp_v (fun _ => Or.inr (Or.inr (Or.inr (Or.inr (Or.inl ⟨by decide, by decide⟩))))) (kp_v (fun _ => Or.inr (Or.inr (Or.inr (Or.inr (Or.inl ⟨by decide, by decide⟩))))) (kp_v (fun _ => Or.inr (Or.inr (Or.inr (Or.inr (Or.inl ⟨by decide, by decide⟩))))) (kp_u (Or.inr (Or.inr (Or.inr (Or.inr (Or.inl ⟨by decide, by decide⟩))))) (kp_u (Or.inr (Or.inr (Or.inr (Or.inr (Or.inl ⟨by decide, by decide⟩))))) (kp_u (Or.inr (Or.inr (Or.inr (Or.inr (Or.inl ⟨by decide, by decide⟩))))) (kp_u (Or.inr (Or.inr (Or.inr (Or.inr (Or.inl ⟨by decide, by decide⟩))))) (kp_u (Or.inr (Or.inr (Or.inr (Or.inr (Or.inl ⟨by decide, by decide⟩))))) (kp_u (Or.inr (Or.inr (Or.inr (Or.inr (Or.inl ⟨by decide, by decide⟩))))) (kp_u (Or.inr (Or.inr (Or.inr (Or.inr (Or.inl ⟨by decide, by decide⟩))))) (kp_u (Or.inr (Or.inr (Or.inr (Or.inr (Or.inl ⟨by decide, by decide⟩))))) (kp_u (Or.inl ⟨rfl, rfl⟩) kp_rfl)))))))))))))
  have ka : KeA f f1 := by rw [← ef1]; unfold mf_X11_holdsAfter; exact (ka_v (by decide) (ka_v (by decide) (ka_v (by decide) (ka_v (by decide) (ka_u (by decide) (ka_u (by decide) (ka_u (by decide) (ka_u (by decide) (ka_u (by decide) (ka_u (by decide) (ka_u (by decide) (ka_u (by decide) (ka_u (by decide) ka_rfl)))))))))))))
  have kq : KeP p p1 := by rw [← ep1]; unfold mp_X11_holdsAfter; exact (kq_u ⟨by decide, by decide⟩ kq_rfl)
  have hT1 : am_T0 p1 d := by rw [← ep1]; exact mt_X11_holdsAfter hl hT
  obtain ⟨Z, hZ⟩ : ∃ Z, D_X12_holdsAfter x0 x1 x2 (f 177 14) (f 180) (f 177 22) (f 177 23) (f 177 24) (f 182) (f 185) (f 177 33) (g1 177 26) (g1 177 27) (g1 177 28) (g1 177 29) (g1 177 30) (f 177 31) (f 177 32) = Z := ⟨_, rfl⟩
  have k2 := k_X12_holdsAfter (f := f1) (g := g1) (p := p1) (d := d) (e := e) x0 x1 x2 (f 177 0) (f 177 11) (f 177 14) (f 180) (f 177 22) (f 177 23) (f 177 24) (f 182) (f 185) (f 177 33) (g1 177 26) (g1 177 27) (g1 177 28) (g1 177 29) (g1 177 30) (f 177 31) (f 177 32) hT1 (congrFun (ka 177 (by decide)) 0) (congrFun (ka 177 (by decide)) 11) (congrFun (ka 177 (by decide)) 14) (ka 180 (by decide)) (congrFun (ka 177 (by decide)) 22) (congrFun (ka 177 (by decide)) 23) (congrFun (ka 177 (by decide)) 24) (ka 182 (by decide)) (ka 185 (by decide)) (congrFun (ka 177 (by decide)) 33) rfl rfl rfl rfl rfl (congrFun (ka 177 (by decide)) 31) (congrFun (ka 177 (by decide)) 32) (gr_holdsAfter hL hN hS hh) Z hZ
  obtain ⟨f2, ef2⟩ : ∃ z, mf_X12_holdsAfter f1 Z.2.1 Z.2.2.1 Z.2.2.2.1 Z.2.2.2.2.1 Z.2.2.2.2.2.1 Z.2.2.2.2.2.2.1 Z.2.2.2.2.2.2.2.1 Z.2.2.2.2.2.2.2.2.1 Z.2.2.2.2.2.2.2.2.2.1 = z := ⟨_, rfl⟩
  obtain ⟨g2, eg2⟩ : ∃ z, mg_X12_holdsAfter g1 Z.2.2.2.2.2.2.2.2.2.2.1 Z.2.2.2.2.2.2.2.2.2.2.2.1 Z.2.2.2.2.2.2.2.2.2.2.2.2.1 Z.2.2.2.2.2.2.2.2.2.2.2.2.2.1 Z.2.2.2.2.2.2.2.2.2.2.2.2.2.2 = z := ⟨_, rfl⟩
  rw [ef2, eg2] at k2
  have kk2 : Keeps l f1 f2 := by rw [← ef2]; unfold mf_X12_holdsAfter; exact (kp_u (Or.inr (Or.inr (Or.inr (Or.inr (Or.inr (Or.inl ⟨rfl, by decide, by decide, by decide, by decide, by decide, by decide⟩)))))) (kp_u (Or.inr (Or.inr (Or.inr (Or.inr (Or.inr (Or.inl ⟨rfl, by decide, by decide, by decide, by decide, by decide, by decide⟩)))))) (kp_u (Or.inr (Or.inr (Or.inr (Or.inr (Or.inr (Or.inl ⟨rfl, by decide, by decide, by decide, by decide, by decide, by decide⟩)))))) (kp_v (fun _ => Or.inr (Or.inr (Or.inr (Or.inr (Or.inr (Or.inr (Or.inr (Or.inr ⟨by decide, by decide⟩)))))))) (kp_u (Or.inr (Or.inr (Or.inr (Or.inr (Or.inr (Or.inl ⟨rfl, by decide, by decide, by decide, by decide, by decide, by decide⟩)))))) (kp_u (Or.inr (Or.inr (Or.inr (Or.inr (Or.inr (Or.inl ⟨rfl, by decide, by decide, by decide, by decide, by decide, by decide⟩)))))) (kp_u (Or.inr (Or.inr (Or.inr (Or.inr (Or.inr (Or.inl ⟨rfl, by decide, by decide, by decide, by decide, by decide, by decide⟩)))))) (kp_u (Or.inr (Or.inr (Or.inr (Or.inr (Or.inr (Or.inl ⟨rfl, by decide, by decide, by decide, by decide, by decide, by decide⟩)))))) (kp_u (Or.inr (Or.inr (Or.inr (Or.inr (Or.inr (Or.inl ⟨rfl, by decide, by decide, by decide, by decide, by decide, by decide⟩)))))) kp_rfl)))))))))
  have kb2 : KeB f1 f2 := by rw [← ef2]; unfold mf_X12_holdsAfter; exact (kb_u (by decide) (kb_u (by decide) (kb_u (by decide) (kb_v (by decide) (kb_u (by decide) (kb_u (by decide) (kb_u (by decide) (kb_u (by decide) (kb_u (by decide) kb_rfl)))))))))
  have hp := pub_holdsAfter (x0 := x0) (x1 := x1) (x2 := x2) (tens := (f l 4)) (present := (f 40 1)) (tenOf := (f 41)) (all := (f 143 1)) (held := (f 143 2)) (mutinous := (f 143 3)) (running := (f 143 4)) (worst := (f 143 5)) (oneIn := (f l 1)) (ptr := (p 145 0)) (p2 := (f 145 1)) (braced := (f 40 2)) (b2 := (f 145 2)) (seed := (f 40 3)) (s2 := (f 145 3)) (t2 := (f 146)) (feared := (f 42)) (f2 := (f 147)) (angerOf := (f 43)) (an2 := (f 148)) (lotsOf := (f 44)) (l2 := (f 149)) (friendsOf := (f (l + 4))) (fear := (f l 2)) (weight := (f (l + 6))) (nerve := (f (l + 3))) (fearTimes := (f (l + 5))) (holds := (f l 0)) (mutiny := (f l 3)) (upper := (g 176 0)) (lower := (g 176 1)) (l := l) (hl := (f 177 14)) (rr := (f 180)) (a := (f 177 22)) (b := (f 177 23)) (c := (f 177 24)) (st := (f 182)) (levels := (f 185)) (sT := (f 177 33)) (sM := (g1 177 26)) (dM := (g1 177 27)) (mM := (g1 177 28)) (gM := (g1 177 29)) (rS := (g1 177 30)) (mR := (f 177 31)) (wO := (f 177 32)) hL hN hS hh
  rw [hY, hZ] at hp
  obtain ⟨ha, hw⟩ := hp
  have w1 : f1 0 12 = Y.2.1 := by rw [← ef1]; exact mr_X11_holdsAfter_f0 hl
  have w2 : f2 177 11 = Z.2.2.1 := by rw [← ef2]; exact mr_X12_holdsAfter_f1 
  have w4 : ¬ (D_X11_holdsAfter x0 x1 x2 (f l 4) (f 40 1) (f 41) (f 143 1) (f 143 2) (f 143 3) (f 143 4) (f 143 5) (f l 1) (p 145 0) (f 145 1) (f 40 2) (f 145 2) (f 40 3) (f 145 3) (f 146) (f 42) (f 147) (f 43) (f 148) (f 44) (f 149) (f (l + 4)) (f l 2) (f (l + 6)) (f (l + 3)) (f (l + 5)) (f l 0) (f l 3) (g 176 0) (g 176 1) l).2.1 = 4 := w_holdsAfter
  rw [hY] at w4
  have w3 : f2 0 12 = Y.2.1 := (congrFun (kb2 0 (by decide)) 12).trans w1
  refine ⟨Y.1, f1, g1, p1, f2, g2, k1, ?_, ⟨l, r, M, A, I, TP, n, Inv_keep hII (kp_tr kk kk2) kq (by rw [w3, w2]; exact hw) (fun h => absurd (w3.symm.trans h) w4)⟩, hT1, ka am_SC (by decide), kp_row (kp_tr kk kk2) (fun k h => absurd (scr_l hl h) (by decide))⟩
  rw [ha]; exact k2
theorem q_mutinyAfter {f : Nat → Nat → Int32} {g : Nat → Nat → Int64} {p : Nat → Nat → Option Nat} {d : Nat → Nat × Nat} {e : Nat × Nat} {x0 x1 : Int32} (hI0 : Inv f p) (hT : am_T0 p d) : Run2 Value.long f g p d e 141 262 [.int x0, .int x1] := by
  obtain ⟨l, r, M, A, I, TP, n, hI⟩ := hI0
  have hII := hI
  obtain ⟨hlr, p03, p40, p23, psl, pim, hL, hM5, hP6, hN, hS, hh, hz, hH, hE, hPf, hsy, ⟨q, hq, hsd⟩, hHi, hTP, hA, hUn, hsA, hIm, hI4, hI21, hsI, hn, ht1, ht2, hTp, hfa, hwh, hpl⟩ := hI
  have hl : l = 5 ∨ l = 23 := by omega
  obtain ⟨T, hT3, hT4⟩ : ∃ T, T ≤ 3 ∧ f l 4 = nI T := by obtain ⟨T, a, b⟩ := hL.2.2.2.2.2.2.2.2.2.2.2.2.2.1; exact ⟨T, a, hL.h4.trans b⟩
  obtain ⟨Y, hY⟩ : ∃ Y, D_X11_mutinyAfter x0 x1 (f l 4) (f 40 1) (f 41) (f 143 1) (f 143 2) (f 143 3) (f 143 4) (f 143 5) (f l 1) (p 145 0) (f 145 1) (f 40 2) (f 145 2) (f 40 3) (f 145 3) (f 146) (f 42) (f 147) (f 43) (f 148) (f 44) (f 149) (f (l + 4)) (f l 2) (f (l + 6)) (f (l + 3)) (f (l + 5)) (f l 0) (f l 3) (g 176 0) (g 176 1) l = Y := ⟨_, rfl⟩
  have k1 := k_X11_mutinyAfter (f := f) (g := g) (p := p) (d := d) (e := e) l x0 x1 (f l 4) (f 40 1) (f 41) (f 0 12) (f 143 1) (f 143 2) (f 143 3) (f 143 4) (f 143 5) (f l 1) (p 145 0) (f 145 1) (f 40 2) (f 145 2) (f 40 3) (f 145 3) (f 146) (f 42) (f 147) (f 43) (f 148) (f 44) (f 149) (f (l + 4)) (f l 2) (f (l + 6)) (f (l + 3)) (f (l + 5)) (f l 0) (f l 3) (g 176 0) (g 176 1) hT hl p03 rfl rfl rfl rfl rfl rfl rfl rfl rfl p40 rfl rfl rfl rfl rfl rfl rfl rfl rfl rfl rfl rfl rfl rfl rfl rfl rfl rfl rfl rfl rfl rfl rfl (gc_mutinyAfter hL hN hS hh) Y hY
  obtain ⟨f1, ef1⟩ : ∃ z, mf_X11_mutinyAfter f Y.2.1 Y.2.2.1 Y.2.2.2.1 Y.2.2.2.2.1 Y.2.2.2.2.2.1 Y.2.2.2.2.2.2.1 Y.2.2.2.2.2.2.2.1 Y.2.2.2.2.2.2.2.2.1 Y.2.2.2.2.2.2.2.2.2.1 Y.2.2.2.2.2.2.2.2.2.2.1 Y.2.2.2.2.2.2.2.2.2.2.2.1 Y.2.2.2.2.2.2.2.2.2.2.2.2.1 Y.2.2.2.2.2.2.2.2.2.2.2.2.2.1 = z := ⟨_, rfl⟩
  obtain ⟨g1, eg1⟩ : ∃ z, mg_X11_mutinyAfter g Y.2.2.2.2.2.2.2.2.2.2.2.2.2.2.2.1 Y.2.2.2.2.2.2.2.2.2.2.2.2.2.2.2.2 = z := ⟨_, rfl⟩
  obtain ⟨p1, ep1⟩ : ∃ z, mp_X11_mutinyAfter p Y.2.2.2.2.2.2.2.2.2.2.2.2.2.2.1 = z := ⟨_, rfl⟩
  rw [ef1, eg1, ep1] at k1
  have kk : Keeps l f f1 := by rw [← ef1]; unfold mf_X11_mutinyAfter; exact (kp_v (fun _ => Or.inr (Or.inr (Or.inr (Or.inr (Or.inl ⟨by decide, by decide⟩))))) (kp_v (fun _ => Or.inr (Or.inr (Or.inr (Or.inr (Or.inl ⟨by decide, by decide⟩))))) (kp_v (fun _ => Or.inr (Or.inr (Or.inr (Or.inr (Or.inl ⟨by decide, by decide⟩))))) (kp_v (fun _ => Or.inr (Or.inr (Or.inr (Or.inr (Or.inl ⟨by decide, by decide⟩))))) (kp_u (Or.inr (Or.inr (Or.inr (Or.inr (Or.inl ⟨by decide, by decide⟩))))) (kp_u (Or.inr (Or.inr (Or.inr (Or.inr (Or.inl ⟨by decide, by decide⟩))))) (kp_u (Or.inr (Or.inr (Or.inr (Or.inr (Or.inl ⟨by decide, by decide⟩))))) (kp_u (Or.inr (Or.inr (Or.inr (Or.inr (Or.inl ⟨by decide, by decide⟩))))) (kp_u (Or.inr (Or.inr (Or.inr (Or.inr (Or.inl ⟨by decide, by decide⟩))))) (kp_u (Or.inr (Or.inr (Or.inr (Or.inr (Or.inl ⟨by decide, by decide⟩))))) (kp_u (Or.inr (Or.inr (Or.inr (Or.inr (Or.inl ⟨by decide, by decide⟩))))) (kp_u (Or.inr (Or.inr (Or.inr (Or.inr (Or.inl ⟨by decide, by decide⟩))))) (kp_u (Or.inl ⟨rfl, rfl⟩) kp_rfl)))))))))))))
  have ka : KeA f f1 := by rw [← ef1]; unfold mf_X11_mutinyAfter; exact (ka_v (by decide) (ka_v (by decide) (ka_v (by decide) (ka_v (by decide) (ka_u (by decide) (ka_u (by decide) (ka_u (by decide) (ka_u (by decide) (ka_u (by decide) (ka_u (by decide) (ka_u (by decide) (ka_u (by decide) (ka_u (by decide) ka_rfl)))))))))))))
  have kq : KeP p p1 := by rw [← ep1]; unfold mp_X11_mutinyAfter; exact (kq_u ⟨by decide, by decide⟩ kq_rfl)
  have hT1 : am_T0 p1 d := by rw [← ep1]; exact mt_X11_mutinyAfter hl hT
  obtain ⟨Z, hZ⟩ : ∃ Z, D_X12_mutinyAfter x0 x1 (f 177 14) (f 180) (f 177 22) (f 177 23) (f 177 24) (f 182) (f 185) (f 177 33) (g1 177 26) (g1 177 27) (g1 177 28) (g1 177 29) (g1 177 30) (f 177 31) (f 177 32) = Z := ⟨_, rfl⟩
  have k2 := k_X12_mutinyAfter (f := f1) (g := g1) (p := p1) (d := d) (e := e) x0 x1 (f 177 0) (f 177 11) (f 177 14) (f 180) (f 177 22) (f 177 23) (f 177 24) (f 182) (f 185) (f 177 33) (g1 177 26) (g1 177 27) (g1 177 28) (g1 177 29) (g1 177 30) (f 177 31) (f 177 32) hT1 (congrFun (ka 177 (by decide)) 0) (congrFun (ka 177 (by decide)) 11) (congrFun (ka 177 (by decide)) 14) (ka 180 (by decide)) (congrFun (ka 177 (by decide)) 22) (congrFun (ka 177 (by decide)) 23) (congrFun (ka 177 (by decide)) 24) (ka 182 (by decide)) (ka 185 (by decide)) (congrFun (ka 177 (by decide)) 33) rfl rfl rfl rfl rfl (congrFun (ka 177 (by decide)) 31) (congrFun (ka 177 (by decide)) 32) (gr_mutinyAfter hL hN hS hh) Z hZ
  obtain ⟨f2, ef2⟩ : ∃ z, mf_X12_mutinyAfter f1 Z.2.1 Z.2.2.1 Z.2.2.2.1 Z.2.2.2.2.1 Z.2.2.2.2.2.1 Z.2.2.2.2.2.2.1 Z.2.2.2.2.2.2.2.1 Z.2.2.2.2.2.2.2.2.1 Z.2.2.2.2.2.2.2.2.2.1 = z := ⟨_, rfl⟩
  obtain ⟨g2, eg2⟩ : ∃ z, mg_X12_mutinyAfter g1 Z.2.2.2.2.2.2.2.2.2.2.1 Z.2.2.2.2.2.2.2.2.2.2.2.1 Z.2.2.2.2.2.2.2.2.2.2.2.2.1 Z.2.2.2.2.2.2.2.2.2.2.2.2.2.1 Z.2.2.2.2.2.2.2.2.2.2.2.2.2.2 = z := ⟨_, rfl⟩
  rw [ef2, eg2] at k2
  have kk2 : Keeps l f1 f2 := by rw [← ef2]; unfold mf_X12_mutinyAfter; exact (kp_u (Or.inr (Or.inr (Or.inr (Or.inr (Or.inr (Or.inl ⟨rfl, by decide, by decide, by decide, by decide, by decide, by decide⟩)))))) (kp_u (Or.inr (Or.inr (Or.inr (Or.inr (Or.inr (Or.inl ⟨rfl, by decide, by decide, by decide, by decide, by decide, by decide⟩)))))) (kp_u (Or.inr (Or.inr (Or.inr (Or.inr (Or.inr (Or.inl ⟨rfl, by decide, by decide, by decide, by decide, by decide, by decide⟩)))))) (kp_v (fun _ => Or.inr (Or.inr (Or.inr (Or.inr (Or.inr (Or.inr (Or.inr (Or.inr ⟨by decide, by decide⟩)))))))) (kp_u (Or.inr (Or.inr (Or.inr (Or.inr (Or.inr (Or.inl ⟨rfl, by decide, by decide, by decide, by decide, by decide, by decide⟩)))))) (kp_u (Or.inr (Or.inr (Or.inr (Or.inr (Or.inr (Or.inl ⟨rfl, by decide, by decide, by decide, by decide, by decide, by decide⟩)))))) (kp_u (Or.inr (Or.inr (Or.inr (Or.inr (Or.inr (Or.inl ⟨rfl, by decide, by decide, by decide, by decide, by decide, by decide⟩)))))) (kp_u (Or.inr (Or.inr (Or.inr (Or.inr (Or.inr (Or.inl ⟨rfl, by decide, by decide, by decide, by decide, by decide, by decide⟩)))))) (kp_u (Or.inr (Or.inr (Or.inr (Or.inr (Or.inr (Or.inl ⟨rfl, by decide, by decide, by decide, by decide, by decide, by decide⟩)))))) kp_rfl)))))))))
  have kb2 : KeB f1 f2 := by rw [← ef2]; unfold mf_X12_mutinyAfter; exact (kb_u (by decide) (kb_u (by decide) (kb_u (by decide) (kb_v (by decide) (kb_u (by decide) (kb_u (by decide) (kb_u (by decide) (kb_u (by decide) (kb_u (by decide) kb_rfl)))))))))
  have hp := pub_mutinyAfter (x0 := x0) (x2 := x1) (tens := (f l 4)) (present := (f 40 1)) (tenOf := (f 41)) (all := (f 143 1)) (held := (f 143 2)) (mutinous := (f 143 3)) (running := (f 143 4)) (worst := (f 143 5)) (oneIn := (f l 1)) (ptr := (p 145 0)) (p2 := (f 145 1)) (braced := (f 40 2)) (b2 := (f 145 2)) (seed := (f 40 3)) (s2 := (f 145 3)) (t2 := (f 146)) (feared := (f 42)) (f2 := (f 147)) (angerOf := (f 43)) (an2 := (f 148)) (lotsOf := (f 44)) (l2 := (f 149)) (friendsOf := (f (l + 4))) (fear := (f l 2)) (weight := (f (l + 6))) (nerve := (f (l + 3))) (fearTimes := (f (l + 5))) (holds := (f l 0)) (mutiny := (f l 3)) (upper := (g 176 0)) (lower := (g 176 1)) (l := l) (hl := (f 177 14)) (rr := (f 180)) (a := (f 177 22)) (b := (f 177 23)) (c := (f 177 24)) (st := (f 182)) (levels := (f 185)) (sT := (f 177 33)) (sM := (g1 177 26)) (dM := (g1 177 27)) (mM := (g1 177 28)) (gM := (g1 177 29)) (rS := (g1 177 30)) (mR := (f 177 31)) (wO := (f 177 32)) hL hN hS hh
  rw [hY, hZ] at hp
  obtain ⟨ha, hw⟩ := hp
  have w1 : f1 0 12 = Y.2.1 := by rw [← ef1]; exact mr_X11_mutinyAfter_f0 hl
  have w2 : f2 177 11 = Z.2.2.1 := by rw [← ef2]; exact mr_X12_mutinyAfter_f1 
  have w4 : ¬ (D_X11_mutinyAfter x0 x1 (f l 4) (f 40 1) (f 41) (f 143 1) (f 143 2) (f 143 3) (f 143 4) (f 143 5) (f l 1) (p 145 0) (f 145 1) (f 40 2) (f 145 2) (f 40 3) (f 145 3) (f 146) (f 42) (f 147) (f 43) (f 148) (f 44) (f 149) (f (l + 4)) (f l 2) (f (l + 6)) (f (l + 3)) (f (l + 5)) (f l 0) (f l 3) (g 176 0) (g 176 1) l).2.1 = 4 := w_mutinyAfter
  rw [hY] at w4
  have w3 : f2 0 12 = Y.2.1 := (congrFun (kb2 0 (by decide)) 12).trans w1
  refine ⟨Y.1, f1, g1, p1, f2, g2, k1, ?_, ⟨l, r, M, A, I, TP, n, Inv_keep hII (kp_tr kk kk2) kq (by rw [w3, w2]; exact hw) (fun h => absurd (w3.symm.trans h) w4)⟩, hT1, ka am_SC (by decide), kp_row (kp_tr kk kk2) (fun k h => absurd (scr_l hl h) (by decide))⟩
  rw [ha]; exact k2
theorem q_runsAfter {f : Nat → Nat → Int32} {g : Nat → Nat → Int64} {p : Nat → Nat → Option Nat} {d : Nat → Nat × Nat} {e : Nat × Nat} {x0 x1 x2 : Int32} (hI0 : Inv f p) (hT : am_T0 p d) : Run2 Value.long f g p d e 142 263 [.int x0, .int x1, .int x2] := by
  obtain ⟨l, r, M, A, I, TP, n, hI⟩ := hI0
  have hII := hI
  obtain ⟨hlr, p03, p40, p23, psl, pim, hL, hM5, hP6, hN, hS, hh, hz, hH, hE, hPf, hsy, ⟨q, hq, hsd⟩, hHi, hTP, hA, hUn, hsA, hIm, hI4, hI21, hsI, hn, ht1, ht2, hTp, hfa, hwh, hpl⟩ := hI
  have hl : l = 5 ∨ l = 23 := by omega
  obtain ⟨T, hT3, hT4⟩ : ∃ T, T ≤ 3 ∧ f l 4 = nI T := by obtain ⟨T, a, b⟩ := hL.2.2.2.2.2.2.2.2.2.2.2.2.2.1; exact ⟨T, a, hL.h4.trans b⟩
  obtain ⟨Y, hY⟩ : ∃ Y, D_X11_runsAfter x0 x1 x2 (f l 4) (f 40 1) (f 41) (f 143 1) (f 143 2) (f 143 3) (f 143 4) (f 143 5) (f l 1) (p 145 0) (f 145 1) (f 40 2) (f 145 2) (f 40 3) (f 145 3) (f 146) (f 42) (f 147) (f 43) (f 148) (f 44) (f 149) (f (l + 4)) (f l 2) (f (l + 6)) (f (l + 3)) (f (l + 5)) (f l 0) (f l 3) (g 176 0) (g 176 1) l = Y := ⟨_, rfl⟩
  have k1 := k_X11_runsAfter (f := f) (g := g) (p := p) (d := d) (e := e) l x0 x1 x2 (f l 4) (f 40 1) (f 41) (f 0 12) (f 143 1) (f 143 2) (f 143 3) (f 143 4) (f 143 5) (f l 1) (p 145 0) (f 145 1) (f 40 2) (f 145 2) (f 40 3) (f 145 3) (f 146) (f 42) (f 147) (f 43) (f 148) (f 44) (f 149) (f (l + 4)) (f l 2) (f (l + 6)) (f (l + 3)) (f (l + 5)) (f l 0) (f l 3) (g 176 0) (g 176 1) hT hl p03 rfl rfl rfl rfl rfl rfl rfl rfl rfl p40 rfl rfl rfl rfl rfl rfl rfl rfl rfl rfl rfl rfl rfl rfl rfl rfl rfl rfl rfl rfl rfl rfl rfl (gc_runsAfter hL hN hS hh) Y hY
  obtain ⟨f1, ef1⟩ : ∃ z, mf_X11_runsAfter f Y.2.1 Y.2.2.1 Y.2.2.2.1 Y.2.2.2.2.1 Y.2.2.2.2.2.1 Y.2.2.2.2.2.2.1 Y.2.2.2.2.2.2.2.1 Y.2.2.2.2.2.2.2.2.1 Y.2.2.2.2.2.2.2.2.2.1 Y.2.2.2.2.2.2.2.2.2.2.1 Y.2.2.2.2.2.2.2.2.2.2.2.1 Y.2.2.2.2.2.2.2.2.2.2.2.2.1 Y.2.2.2.2.2.2.2.2.2.2.2.2.2.1 = z := ⟨_, rfl⟩
  obtain ⟨g1, eg1⟩ : ∃ z, mg_X11_runsAfter g Y.2.2.2.2.2.2.2.2.2.2.2.2.2.2.2.1 Y.2.2.2.2.2.2.2.2.2.2.2.2.2.2.2.2 = z := ⟨_, rfl⟩
  obtain ⟨p1, ep1⟩ : ∃ z, mp_X11_runsAfter p Y.2.2.2.2.2.2.2.2.2.2.2.2.2.2.1 = z := ⟨_, rfl⟩
  rw [ef1, eg1, ep1] at k1
  have kk : Keeps l f f1 := by rw [← ef1]; unfold mf_X11_runsAfter; exact (kp_v (fun _ => Or.inr (Or.inr (Or.inr (Or.inr (Or.inl ⟨by decide, by decide⟩))))) (kp_v (fun _ => Or.inr (Or.inr (Or.inr (Or.inr (Or.inl ⟨by decide, by decide⟩))))) (kp_v (fun _ => Or.inr (Or.inr (Or.inr (Or.inr (Or.inl ⟨by decide, by decide⟩))))) (kp_v (fun _ => Or.inr (Or.inr (Or.inr (Or.inr (Or.inl ⟨by decide, by decide⟩))))) (kp_u (Or.inr (Or.inr (Or.inr (Or.inr (Or.inl ⟨by decide, by decide⟩))))) (kp_u (Or.inr (Or.inr (Or.inr (Or.inr (Or.inl ⟨by decide, by decide⟩))))) (kp_u (Or.inr (Or.inr (Or.inr (Or.inr (Or.inl ⟨by decide, by decide⟩))))) (kp_u (Or.inr (Or.inr (Or.inr (Or.inr (Or.inl ⟨by decide, by decide⟩))))) (kp_u (Or.inr (Or.inr (Or.inr (Or.inr (Or.inl ⟨by decide, by decide⟩))))) (kp_u (Or.inr (Or.inr (Or.inr (Or.inr (Or.inl ⟨by decide, by decide⟩))))) (kp_u (Or.inr (Or.inr (Or.inr (Or.inr (Or.inl ⟨by decide, by decide⟩))))) (kp_u (Or.inr (Or.inr (Or.inr (Or.inr (Or.inl ⟨by decide, by decide⟩))))) (kp_u (Or.inl ⟨rfl, rfl⟩) kp_rfl)))))))))))))
  have ka : KeA f f1 := by rw [← ef1]; unfold mf_X11_runsAfter; exact (ka_v (by decide) (ka_v (by decide) (ka_v (by decide) (ka_v (by decide) (ka_u (by decide) (ka_u (by decide) (ka_u (by decide) (ka_u (by decide) (ka_u (by decide) (ka_u (by decide) (ka_u (by decide) (ka_u (by decide) (ka_u (by decide) ka_rfl)))))))))))))
  have kq : KeP p p1 := by rw [← ep1]; unfold mp_X11_runsAfter; exact (kq_u ⟨by decide, by decide⟩ kq_rfl)
  have hT1 : am_T0 p1 d := by rw [← ep1]; exact mt_X11_runsAfter hl hT
  obtain ⟨Z, hZ⟩ : ∃ Z, D_X12_runsAfter x0 x1 x2 (f 177 14) (f 180) (f 177 22) (f 177 23) (f 177 24) (f 182) (f 185) (f 177 33) (g1 177 26) (g1 177 27) (g1 177 28) (g1 177 29) (g1 177 30) (f 177 31) (f 177 32) = Z := ⟨_, rfl⟩
  have k2 := k_X12_runsAfter (f := f1) (g := g1) (p := p1) (d := d) (e := e) x0 x1 x2 (f 177 0) (f 177 11) (f 177 14) (f 180) (f 177 22) (f 177 23) (f 177 24) (f 182) (f 185) (f 177 33) (g1 177 26) (g1 177 27) (g1 177 28) (g1 177 29) (g1 177 30) (f 177 31) (f 177 32) hT1 (congrFun (ka 177 (by decide)) 0) (congrFun (ka 177 (by decide)) 11) (congrFun (ka 177 (by decide)) 14) (ka 180 (by decide)) (congrFun (ka 177 (by decide)) 22) (congrFun (ka 177 (by decide)) 23) (congrFun (ka 177 (by decide)) 24) (ka 182 (by decide)) (ka 185 (by decide)) (congrFun (ka 177 (by decide)) 33) rfl rfl rfl rfl rfl (congrFun (ka 177 (by decide)) 31) (congrFun (ka 177 (by decide)) 32) (gr_runsAfter hL hN hS hh) Z hZ
  obtain ⟨f2, ef2⟩ : ∃ z, mf_X12_runsAfter f1 Z.2.1 Z.2.2.1 Z.2.2.2.1 Z.2.2.2.2.1 Z.2.2.2.2.2.1 Z.2.2.2.2.2.2.1 Z.2.2.2.2.2.2.2.1 Z.2.2.2.2.2.2.2.2.1 Z.2.2.2.2.2.2.2.2.2.1 = z := ⟨_, rfl⟩
  obtain ⟨g2, eg2⟩ : ∃ z, mg_X12_runsAfter g1 Z.2.2.2.2.2.2.2.2.2.2.1 Z.2.2.2.2.2.2.2.2.2.2.2.1 Z.2.2.2.2.2.2.2.2.2.2.2.2.1 Z.2.2.2.2.2.2.2.2.2.2.2.2.2.1 Z.2.2.2.2.2.2.2.2.2.2.2.2.2.2 = z := ⟨_, rfl⟩
  rw [ef2, eg2] at k2
  have kk2 : Keeps l f1 f2 := by rw [← ef2]; unfold mf_X12_runsAfter; exact (kp_u (Or.inr (Or.inr (Or.inr (Or.inr (Or.inr (Or.inl ⟨rfl, by decide, by decide, by decide, by decide, by decide, by decide⟩)))))) (kp_u (Or.inr (Or.inr (Or.inr (Or.inr (Or.inr (Or.inl ⟨rfl, by decide, by decide, by decide, by decide, by decide, by decide⟩)))))) (kp_u (Or.inr (Or.inr (Or.inr (Or.inr (Or.inr (Or.inl ⟨rfl, by decide, by decide, by decide, by decide, by decide, by decide⟩)))))) (kp_v (fun _ => Or.inr (Or.inr (Or.inr (Or.inr (Or.inr (Or.inr (Or.inr (Or.inr ⟨by decide, by decide⟩)))))))) (kp_u (Or.inr (Or.inr (Or.inr (Or.inr (Or.inr (Or.inl ⟨rfl, by decide, by decide, by decide, by decide, by decide, by decide⟩)))))) (kp_u (Or.inr (Or.inr (Or.inr (Or.inr (Or.inr (Or.inl ⟨rfl, by decide, by decide, by decide, by decide, by decide, by decide⟩)))))) (kp_u (Or.inr (Or.inr (Or.inr (Or.inr (Or.inr (Or.inl ⟨rfl, by decide, by decide, by decide, by decide, by decide, by decide⟩)))))) (kp_u (Or.inr (Or.inr (Or.inr (Or.inr (Or.inr (Or.inl ⟨rfl, by decide, by decide, by decide, by decide, by decide, by decide⟩)))))) (kp_u (Or.inr (Or.inr (Or.inr (Or.inr (Or.inr (Or.inl ⟨rfl, by decide, by decide, by decide, by decide, by decide, by decide⟩)))))) kp_rfl)))))))))
  have kb2 : KeB f1 f2 := by rw [← ef2]; unfold mf_X12_runsAfter; exact (kb_u (by decide) (kb_u (by decide) (kb_u (by decide) (kb_v (by decide) (kb_u (by decide) (kb_u (by decide) (kb_u (by decide) (kb_u (by decide) (kb_u (by decide) kb_rfl)))))))))
  have hp := pub_runsAfter (x0 := x0) (x1 := x1) (x2 := x2) (tens := (f l 4)) (present := (f 40 1)) (tenOf := (f 41)) (all := (f 143 1)) (held := (f 143 2)) (mutinous := (f 143 3)) (running := (f 143 4)) (worst := (f 143 5)) (oneIn := (f l 1)) (ptr := (p 145 0)) (p2 := (f 145 1)) (braced := (f 40 2)) (b2 := (f 145 2)) (seed := (f 40 3)) (s2 := (f 145 3)) (t2 := (f 146)) (feared := (f 42)) (f2 := (f 147)) (angerOf := (f 43)) (an2 := (f 148)) (lotsOf := (f 44)) (l2 := (f 149)) (friendsOf := (f (l + 4))) (fear := (f l 2)) (weight := (f (l + 6))) (nerve := (f (l + 3))) (fearTimes := (f (l + 5))) (holds := (f l 0)) (mutiny := (f l 3)) (upper := (g 176 0)) (lower := (g 176 1)) (l := l) (hl := (f 177 14)) (rr := (f 180)) (a := (f 177 22)) (b := (f 177 23)) (c := (f 177 24)) (st := (f 182)) (levels := (f 185)) (sT := (f 177 33)) (sM := (g1 177 26)) (dM := (g1 177 27)) (mM := (g1 177 28)) (gM := (g1 177 29)) (rS := (g1 177 30)) (mR := (f 177 31)) (wO := (f 177 32)) hL hN hS hh
  rw [hY, hZ] at hp
  obtain ⟨ha, hw⟩ := hp
  have w1 : f1 0 12 = Y.2.1 := by rw [← ef1]; exact mr_X11_runsAfter_f0 hl
  have w2 : f2 177 11 = Z.2.2.1 := by rw [← ef2]; exact mr_X12_runsAfter_f1 
  have w4 : ¬ (D_X11_runsAfter x0 x1 x2 (f l 4) (f 40 1) (f 41) (f 143 1) (f 143 2) (f 143 3) (f 143 4) (f 143 5) (f l 1) (p 145 0) (f 145 1) (f 40 2) (f 145 2) (f 40 3) (f 145 3) (f 146) (f 42) (f 147) (f 43) (f 148) (f 44) (f 149) (f (l + 4)) (f l 2) (f (l + 6)) (f (l + 3)) (f (l + 5)) (f l 0) (f l 3) (g 176 0) (g 176 1) l).2.1 = 4 := w_runsAfter
  rw [hY] at w4
  have w3 : f2 0 12 = Y.2.1 := (congrFun (kb2 0 (by decide)) 12).trans w1
  refine ⟨Y.1, f1, g1, p1, f2, g2, k1, ?_, ⟨l, r, M, A, I, TP, n, Inv_keep hII (kp_tr kk kk2) kq (by rw [w3, w2]; exact hw) (fun h => absurd (w3.symm.trans h) w4)⟩, hT1, ka am_SC (by decide), kp_row (kp_tr kk kk2) (fun k h => absurd (scr_l hl h) (by decide))⟩
  rw [ha]; exact k2
theorem q_worstSet {f : Nat → Nat → Int32} {g : Nat → Nat → Int64} {p : Nat → Nat → Option Nat} {d : Nat → Nat × Nat} {e : Nat × Nat} {x0 x1 : Int32} (hI0 : Inv f p) (hT : am_T0 p d) : Run2 Value.int f g p d e 143 264 [.int x0, .int x1] := by
  obtain ⟨l, r, M, A, I, TP, n, hI⟩ := hI0
  have hII := hI
  obtain ⟨hlr, p03, p40, p23, psl, pim, hL, hM5, hP6, hN, hS, hh, hz, hH, hE, hPf, hsy, ⟨q, hq, hsd⟩, hHi, hTP, hA, hUn, hsA, hIm, hI4, hI21, hsI, hn, ht1, ht2, hTp, hfa, hwh, hpl⟩ := hI
  have hl : l = 5 ∨ l = 23 := by omega
  obtain ⟨T, hT3, hT4⟩ : ∃ T, T ≤ 3 ∧ f l 4 = nI T := by obtain ⟨T, a, b⟩ := hL.2.2.2.2.2.2.2.2.2.2.2.2.2.1; exact ⟨T, a, hL.h4.trans b⟩
  obtain ⟨Y, hY⟩ : ∃ Y, D_X11_worstSet x0 x1 (f l 4) (f 40 1) (f 41) (f 143 1) (f 143 2) (f 143 3) (f 143 4) (f 143 5) (f l 1) (p 145 0) (f 145 1) (f 40 2) (f 145 2) (f 40 3) (f 145 3) (f 146) (f 42) (f 147) (f 43) (f 148) (f 44) (f 149) (f (l + 4)) (f l 2) (f (l + 6)) (f (l + 3)) (f (l + 5)) (f l 0) (f l 3) l = Y := ⟨_, rfl⟩
  have k1 := k_X11_worstSet (f := f) (g := g) (p := p) (d := d) (e := e) l x0 x1 (f l 4) (f 40 1) (f 41) (f 0 12) (f 143 1) (f 143 2) (f 143 3) (f 143 4) (f 143 5) (f l 1) (p 145 0) (f 145 1) (f 40 2) (f 145 2) (f 40 3) (f 145 3) (f 146) (f 42) (f 147) (f 43) (f 148) (f 44) (f 149) (f (l + 4)) (f l 2) (f (l + 6)) (f (l + 3)) (f (l + 5)) (f l 0) (f l 3) hT hl p03 rfl rfl rfl rfl rfl rfl rfl rfl rfl p40 rfl rfl rfl rfl rfl rfl rfl rfl rfl rfl rfl rfl rfl rfl rfl rfl rfl rfl rfl rfl rfl (gc_worstSet hL hN hS) Y hY
  obtain ⟨f1, ef1⟩ : ∃ z, mf_X11_worstSet f Y.2.1 Y.2.2.1 Y.2.2.2.1 Y.2.2.2.2.1 Y.2.2.2.2.2.1 Y.2.2.2.2.2.2.1 Y.2.2.2.2.2.2.2.1 Y.2.2.2.2.2.2.2.2.1 Y.2.2.2.2.2.2.2.2.2.1 Y.2.2.2.2.2.2.2.2.2.2.1 Y.2.2.2.2.2.2.2.2.2.2.2.1 Y.2.2.2.2.2.2.2.2.2.2.2.2.1 Y.2.2.2.2.2.2.2.2.2.2.2.2.2.1 = z := ⟨_, rfl⟩
  obtain ⟨g1, eg1⟩ : ∃ z, g = z := ⟨_, rfl⟩
  obtain ⟨p1, ep1⟩ : ∃ z, mp_X11_worstSet p Y.2.2.2.2.2.2.2.2.2.2.2.2.2.2 = z := ⟨_, rfl⟩
  rw [ef1, ep1] at k1
  have kk : Keeps l f f1 := by rw [← ef1]; unfold mf_X11_worstSet; exact (kp_v (fun _ => Or.inr (Or.inr (Or.inr (Or.inr (Or.inl ⟨by decide, by decide⟩))))) (kp_v (fun _ => Or.inr (Or.inr (Or.inr (Or.inr (Or.inl ⟨by decide, by decide⟩))))) (kp_v (fun _ => Or.inr (Or.inr (Or.inr (Or.inr (Or.inl ⟨by decide, by decide⟩))))) (kp_v (fun _ => Or.inr (Or.inr (Or.inr (Or.inr (Or.inl ⟨by decide, by decide⟩))))) (kp_u (Or.inr (Or.inr (Or.inr (Or.inr (Or.inl ⟨by decide, by decide⟩))))) (kp_u (Or.inr (Or.inr (Or.inr (Or.inr (Or.inl ⟨by decide, by decide⟩))))) (kp_u (Or.inr (Or.inr (Or.inr (Or.inr (Or.inl ⟨by decide, by decide⟩))))) (kp_u (Or.inr (Or.inr (Or.inr (Or.inr (Or.inl ⟨by decide, by decide⟩))))) (kp_u (Or.inr (Or.inr (Or.inr (Or.inr (Or.inl ⟨by decide, by decide⟩))))) (kp_u (Or.inr (Or.inr (Or.inr (Or.inr (Or.inl ⟨by decide, by decide⟩))))) (kp_u (Or.inr (Or.inr (Or.inr (Or.inr (Or.inl ⟨by decide, by decide⟩))))) (kp_u (Or.inr (Or.inr (Or.inr (Or.inr (Or.inl ⟨by decide, by decide⟩))))) (kp_u (Or.inl ⟨rfl, rfl⟩) kp_rfl)))))))))))))
  have ka : KeA f f1 := by rw [← ef1]; unfold mf_X11_worstSet; exact (ka_v (by decide) (ka_v (by decide) (ka_v (by decide) (ka_v (by decide) (ka_u (by decide) (ka_u (by decide) (ka_u (by decide) (ka_u (by decide) (ka_u (by decide) (ka_u (by decide) (ka_u (by decide) (ka_u (by decide) (ka_u (by decide) ka_rfl)))))))))))))
  have kq : KeP p p1 := by rw [← ep1]; unfold mp_X11_worstSet; exact (kq_u ⟨by decide, by decide⟩ kq_rfl)
  have hT1 : am_T0 p1 d := by rw [← ep1]; exact mt_X11_worstSet hl hT
  subst eg1
  obtain ⟨Z, hZ⟩ : ∃ Z, D_X12_worstSet x0 x1 (f 177 14) (f 180) (f 177 22) (f 177 23) (f 177 24) (f 182) (f 185) (f 177 33) (g 177 26) (g 177 27) (g 177 28) (g 177 29) (g 177 30) (f 177 31) (f 177 32) = Z := ⟨_, rfl⟩
  have k2 := k_X12_worstSet (f := f1) (g := g) (p := p1) (d := d) (e := e) x0 x1 (f 177 0) (f 177 11) (f 177 14) (f 180) (f 177 22) (f 177 23) (f 177 24) (f 182) (f 185) (f 177 33) (g 177 26) (g 177 27) (g 177 28) (g 177 29) (g 177 30) (f 177 31) (f 177 32) hT1 (congrFun (ka 177 (by decide)) 0) (congrFun (ka 177 (by decide)) 11) (congrFun (ka 177 (by decide)) 14) (ka 180 (by decide)) (congrFun (ka 177 (by decide)) 22) (congrFun (ka 177 (by decide)) 23) (congrFun (ka 177 (by decide)) 24) (ka 182 (by decide)) (ka 185 (by decide)) (congrFun (ka 177 (by decide)) 33) rfl rfl rfl rfl rfl (congrFun (ka 177 (by decide)) 31) (congrFun (ka 177 (by decide)) 32) (gr_worstSet hL hN hS hh) Z hZ
  obtain ⟨f2, ef2⟩ : ∃ z, mf_X12_worstSet f1 Z.2.1 Z.2.2.1 Z.2.2.2.1 Z.2.2.2.2.1 Z.2.2.2.2.2.1 Z.2.2.2.2.2.2.1 Z.2.2.2.2.2.2.2.1 Z.2.2.2.2.2.2.2.2.1 Z.2.2.2.2.2.2.2.2.2.1 = z := ⟨_, rfl⟩
  obtain ⟨g2, eg2⟩ : ∃ z, mg_X12_worstSet g Z.2.2.2.2.2.2.2.2.2.2.1 Z.2.2.2.2.2.2.2.2.2.2.2.1 Z.2.2.2.2.2.2.2.2.2.2.2.2.1 Z.2.2.2.2.2.2.2.2.2.2.2.2.2.1 Z.2.2.2.2.2.2.2.2.2.2.2.2.2.2 = z := ⟨_, rfl⟩
  rw [ef2, eg2] at k2
  have kk2 : Keeps l f1 f2 := by rw [← ef2]; unfold mf_X12_worstSet; exact (kp_u (Or.inr (Or.inr (Or.inr (Or.inr (Or.inr (Or.inl ⟨rfl, by decide, by decide, by decide, by decide, by decide, by decide⟩)))))) (kp_u (Or.inr (Or.inr (Or.inr (Or.inr (Or.inr (Or.inl ⟨rfl, by decide, by decide, by decide, by decide, by decide, by decide⟩)))))) (kp_u (Or.inr (Or.inr (Or.inr (Or.inr (Or.inr (Or.inl ⟨rfl, by decide, by decide, by decide, by decide, by decide, by decide⟩)))))) (kp_v (fun _ => Or.inr (Or.inr (Or.inr (Or.inr (Or.inr (Or.inr (Or.inr (Or.inr ⟨by decide, by decide⟩)))))))) (kp_u (Or.inr (Or.inr (Or.inr (Or.inr (Or.inr (Or.inl ⟨rfl, by decide, by decide, by decide, by decide, by decide, by decide⟩)))))) (kp_u (Or.inr (Or.inr (Or.inr (Or.inr (Or.inr (Or.inl ⟨rfl, by decide, by decide, by decide, by decide, by decide, by decide⟩)))))) (kp_u (Or.inr (Or.inr (Or.inr (Or.inr (Or.inr (Or.inl ⟨rfl, by decide, by decide, by decide, by decide, by decide, by decide⟩)))))) (kp_u (Or.inr (Or.inr (Or.inr (Or.inr (Or.inr (Or.inl ⟨rfl, by decide, by decide, by decide, by decide, by decide, by decide⟩)))))) (kp_u (Or.inr (Or.inr (Or.inr (Or.inr (Or.inr (Or.inl ⟨rfl, by decide, by decide, by decide, by decide, by decide, by decide⟩)))))) kp_rfl)))))))))
  have kb2 : KeB f1 f2 := by rw [← ef2]; unfold mf_X12_worstSet; exact (kb_u (by decide) (kb_u (by decide) (kb_u (by decide) (kb_v (by decide) (kb_u (by decide) (kb_u (by decide) (kb_u (by decide) (kb_u (by decide) (kb_u (by decide) kb_rfl)))))))))
  have hp := pub_worstSet (x0 := x0) (x1 := x1) (tens := (f l 4)) (present := (f 40 1)) (tenOf := (f 41)) (all := (f 143 1)) (held := (f 143 2)) (mutinous := (f 143 3)) (running := (f 143 4)) (worst := (f 143 5)) (oneIn := (f l 1)) (ptr := (p 145 0)) (p2 := (f 145 1)) (braced := (f 40 2)) (b2 := (f 145 2)) (seed := (f 40 3)) (s2 := (f 145 3)) (t2 := (f 146)) (feared := (f 42)) (f2 := (f 147)) (angerOf := (f 43)) (an2 := (f 148)) (lotsOf := (f 44)) (l2 := (f 149)) (friendsOf := (f (l + 4))) (fear := (f l 2)) (weight := (f (l + 6))) (nerve := (f (l + 3))) (fearTimes := (f (l + 5))) (holds := (f l 0)) (mutiny := (f l 3)) (l := l) (hl := (f 177 14)) (rr := (f 180)) (a := (f 177 22)) (b := (f 177 23)) (c := (f 177 24)) (st := (f 182)) (levels := (f 185)) (sT := (f 177 33)) (sM := (g 177 26)) (dM := (g 177 27)) (mM := (g 177 28)) (gM := (g 177 29)) (rS := (g 177 30)) (mR := (f 177 31)) (wO := (f 177 32)) hL hN hS hh
  rw [hY, hZ] at hp
  obtain ⟨ha, hw⟩ := hp
  have w1 : f1 0 12 = Y.2.1 := by rw [← ef1]; exact mr_X11_worstSet_f0 hl
  have w2 : f2 177 11 = Z.2.2.1 := by rw [← ef2]; exact mr_X12_worstSet_f1 
  have w4 : ¬ (D_X11_worstSet x0 x1 (f l 4) (f 40 1) (f 41) (f 143 1) (f 143 2) (f 143 3) (f 143 4) (f 143 5) (f l 1) (p 145 0) (f 145 1) (f 40 2) (f 145 2) (f 40 3) (f 145 3) (f 146) (f 42) (f 147) (f 43) (f 148) (f 44) (f 149) (f (l + 4)) (f l 2) (f (l + 6)) (f (l + 3)) (f (l + 5)) (f l 0) (f l 3) l).2.1 = 4 := w_worstSet
  rw [hY] at w4
  have w3 : f2 0 12 = Y.2.1 := (congrFun (kb2 0 (by decide)) 12).trans w1
  refine ⟨Y.1, f1, g, p1, f2, g2, k1, ?_, ⟨l, r, M, A, I, TP, n, Inv_keep hII (kp_tr kk kk2) kq (by rw [w3, w2]; exact hw) (fun h => absurd (w3.symm.trans h) w4)⟩, hT1, ka am_SC (by decide), kp_row (kp_tr kk kk2) (fun k h => absurd (scr_l hl h) (by decide))⟩
  rw [ha]; exact k2
theorem q_order {f : Nat → Nat → Int32} {g : Nat → Nat → Int64} {p : Nat → Nat → Option Nat} {d : Nat → Nat × Nat} {e : Nat × Nat} {x0 : Int32} (hI0 : Inv f p) (hT : am_T0 p d) : Run2 Value.int f g p d e 144 266 [.int x0] := by
  obtain ⟨l, r, M, A, I, TP, n, hI⟩ := hI0
  have hII := hI
  obtain ⟨hlr, p03, p40, p23, psl, pim, hL, hM5, hP6, hN, hS, hh, hz, hH, hE, hPf, hsy, ⟨q, hq, hsd⟩, hHi, hTP, hA, hUn, hsA, hIm, hI4, hI21, hsI, hn, ht1, ht2, hTp, hfa, hwh, hpl⟩ := hI
  have hl : l = 5 ∨ l = 23 := by omega
  obtain ⟨T, hT3, hT4⟩ : ∃ T, T ≤ 3 ∧ f l 4 = nI T := by obtain ⟨T, a, b⟩ := hL.2.2.2.2.2.2.2.2.2.2.2.2.2.1; exact ⟨T, a, hL.h4.trans b⟩
  obtain ⟨Y, hY⟩ : ∃ Y, D_X11_order x0 (f l 4) (f 40 1) (f 143 6) (f 143 7) (f 143 8) (f 143 9) (f 143 10) (p 145 0) (f 145 1) (f 40 2) (f 145 2) (f 40 3) (f 145 3) (f 41) (f 146) (f 42) (f 147) (f 43) (f 148) (f 44) (f 149) (f l 3) (f l 2) (f (l + 6)) (f (l + 3)) (f (l + 5)) (f l 0) (p 150 0) (f 150 1) (f 150 2) (f 150 3) (f 151) (f 152) (f 153) (f 154) (p 155 0) (f 155 1) (f 155 2) (f 155 3) (f 156) (f 157) (f 158) (f 159) (p 160 0) (f 160 1) (f 160 2) (f 160 3) (f 161) (f 162) (f 163) (f 164) (f l 1) (f (l + 4)) l = Y := ⟨_, rfl⟩
  have k1 := k_X11_order (f := f) (g := g) (p := p) (d := d) (e := e) l x0 (f l 4) (f 40 1) (f 0 12) (f 143 6) (f 143 7) (f 143 8) (f 143 9) (f 143 10) (p 145 0) (f 145 1) (f 40 2) (f 145 2) (f 40 3) (f 145 3) (f 41) (f 146) (f 42) (f 147) (f 43) (f 148) (f 44) (f 149) (f l 3) (f l 2) (f (l + 6)) (f (l + 3)) (f (l + 5)) (f l 0) (p 150 0) (f 150 1) (f 150 2) (f 150 3) (f 151) (f 152) (f 153) (f 154) (p 155 0) (f 155 1) (f 155 2) (f 155 3) (f 156) (f 157) (f 158) (f 159) (p 160 0) (f 160 1) (f 160 2) (f 160 3) (f 161) (f 162) (f 163) (f 164) (f l 1) (f (l + 4)) hT hl p03 rfl rfl rfl p40 rfl rfl rfl rfl rfl rfl rfl rfl rfl rfl rfl rfl rfl rfl rfl rfl rfl rfl rfl rfl rfl rfl rfl rfl rfl rfl rfl rfl rfl rfl rfl rfl rfl rfl rfl rfl rfl rfl rfl rfl rfl rfl rfl rfl rfl rfl rfl rfl rfl rfl rfl (gc_order) Y hY
  obtain ⟨f1, ef1⟩ : ∃ z, mf_X11_order f Y.2.1 Y.2.2.1 Y.2.2.2.1 Y.2.2.2.2.1 Y.2.2.2.2.2.1 Y.2.2.2.2.2.2.1 Y.2.2.2.2.2.2.2.1 Y.2.2.2.2.2.2.2.2.1 Y.2.2.2.2.2.2.2.2.2.1 Y.2.2.2.2.2.2.2.2.2.2.1 Y.2.2.2.2.2.2.2.2.2.2.2.1 Y.2.2.2.2.2.2.2.2.2.2.2.2.1 Y.2.2.2.2.2.2.2.2.2.2.2.2.2.1 Y.2.2.2.2.2.2.2.2.2.2.2.2.2.2.1 Y.2.2.2.2.2.2.2.2.2.2.2.2.2.2.2.1 Y.2.2.2.2.2.2.2.2.2.2.2.2.2.2.2.2.1 Y.2.2.2.2.2.2.2.2.2.2.2.2.2.2.2.2.2.1 Y.2.2.2.2.2.2.2.2.2.2.2.2.2.2.2.2.2.2.1 Y.2.2.2.2.2.2.2.2.2.2.2.2.2.2.2.2.2.2.2.1 Y.2.2.2.2.2.2.2.2.2.2.2.2.2.2.2.2.2.2.2.2.1 Y.2.2.2.2.2.2.2.2.2.2.2.2.2.2.2.2.2.2.2.2.2.1 Y.2.2.2.2.2.2.2.2.2.2.2.2.2.2.2.2.2.2.2.2.2.2.1 Y.2.2.2.2.2.2.2.2.2.2.2.2.2.2.2.2.2.2.2.2.2.2.2.1 Y.2.2.2.2.2.2.2.2.2.2.2.2.2.2.2.2.2.2.2.2.2.2.2.2.1 Y.2.2.2.2.2.2.2.2.2.2.2.2.2.2.2.2.2.2.2.2.2.2.2.2.2.1 Y.2.2.2.2.2.2.2.2.2.2.2.2.2.2.2.2.2.2.2.2.2.2.2.2.2.2.1 Y.2.2.2.2.2.2.2.2.2.2.2.2.2.2.2.2.2.2.2.2.2.2.2.2.2.2.2.1 Y.2.2.2.2.2.2.2.2.2.2.2.2.2.2.2.2.2.2.2.2.2.2.2.2.2.2.2.2.1 Y.2.2.2.2.2.2.2.2.2.2.2.2.2.2.2.2.2.2.2.2.2.2.2.2.2.2.2.2.2.1 Y.2.2.2.2.2.2.2.2.2.2.2.2.2.2.2.2.2.2.2.2.2.2.2.2.2.2.2.2.2.2.1 Y.2.2.2.2.2.2.2.2.2.2.2.2.2.2.2.2.2.2.2.2.2.2.2.2.2.2.2.2.2.2.2.1 Y.2.2.2.2.2.2.2.2.2.2.2.2.2.2.2.2.2.2.2.2.2.2.2.2.2.2.2.2.2.2.2.2.1 Y.2.2.2.2.2.2.2.2.2.2.2.2.2.2.2.2.2.2.2.2.2.2.2.2.2.2.2.2.2.2.2.2.2.1 Y.2.2.2.2.2.2.2.2.2.2.2.2.2.2.2.2.2.2.2.2.2.2.2.2.2.2.2.2.2.2.2.2.2.2.1 = z := ⟨_, rfl⟩
  obtain ⟨g1, eg1⟩ : ∃ z, g = z := ⟨_, rfl⟩
  obtain ⟨p1, ep1⟩ : ∃ z, mp_X11_order p Y.2.2.2.2.2.2.2.2.2.2.2.2.2.2.2.2.2.2.2.2.2.2.2.2.2.2.2.2.2.2.2.2.2.2.2.1 Y.2.2.2.2.2.2.2.2.2.2.2.2.2.2.2.2.2.2.2.2.2.2.2.2.2.2.2.2.2.2.2.2.2.2.2.2.1 Y.2.2.2.2.2.2.2.2.2.2.2.2.2.2.2.2.2.2.2.2.2.2.2.2.2.2.2.2.2.2.2.2.2.2.2.2.2.1 Y.2.2.2.2.2.2.2.2.2.2.2.2.2.2.2.2.2.2.2.2.2.2.2.2.2.2.2.2.2.2.2.2.2.2.2.2.2.2 = z := ⟨_, rfl⟩
  rw [ef1, ep1] at k1
  have kk : Keeps l f f1 := by rw [← ef1]; unfold mf_X11_order; exact (kp_v (fun _ => Or.inr (Or.inr (Or.inr (Or.inr (Or.inl ⟨by decide, by decide⟩))))) (kp_v (fun _ => Or.inr (Or.inr (Or.inr (Or.inr (Or.inl ⟨by decide, by decide⟩))))) (kp_v (fun _ => Or.inr (Or.inr (Or.inr (Or.inr (Or.inl ⟨by decide, by decide⟩))))) (kp_v (fun _ => Or.inr (Or.inr (Or.inr (Or.inr (Or.inl ⟨by decide, by decide⟩))))) (kp_u (Or.inr (Or.inr (Or.inr (Or.inr (Or.inl ⟨by decide, by decide⟩))))) (kp_u (Or.inr (Or.inr (Or.inr (Or.inr (Or.inl ⟨by decide, by decide⟩))))) (kp_u (Or.inr (Or.inr (Or.inr (Or.inr (Or.inl ⟨by decide, by decide⟩))))) (kp_v (fun _ => Or.inr (Or.inr (Or.inr (Or.inr (Or.inl ⟨by decide, by decide⟩))))) (kp_v (fun _ => Or.inr (Or.inr (Or.inr (Or.inr (Or.inl ⟨by decide, by decide⟩))))) (kp_v (fun _ => Or.inr (Or.inr (Or.inr (Or.inr (Or.inl ⟨by decide, by decide⟩))))) (kp_v (fun _ => Or.inr (Or.inr (Or.inr (Or.inr (Or.inl ⟨by decide, by decide⟩))))) (kp_u (Or.inr (Or.inr (Or.inr (Or.inr (Or.inl ⟨by decide, by decide⟩))))) (kp_u (Or.inr (Or.inr (Or.inr (Or.inr (Or.inl ⟨by decide, by decide⟩))))) (kp_u (Or.inr (Or.inr (Or.inr (Or.inr (Or.inl ⟨by decide, by decide⟩))))) (kp_v (fun _ => Or.inr (Or.inr (Or.inr (Or.inr (Or.inl ⟨by decide, by decide⟩))))) (kp_v (fun _ => Or.inr (Or.inr (Or.inr (Or.inr (Or.inl ⟨by decide, by decide⟩))))) (kp_v (fun _ => Or.inr (Or.inr (Or.inr (Or.inr (Or.inl ⟨by decide, by decide⟩))))) (kp_v (fun _ => Or.inr (Or.inr (Or.inr (Or.inr (Or.inl ⟨by decide, by decide⟩))))) (kp_u (Or.inr (Or.inr (Or.inr (Or.inr (Or.inl ⟨by decide, by decide⟩))))) (kp_u (Or.inr (Or.inr (Or.inr (Or.inr (Or.inl ⟨by decide, by decide⟩))))) (kp_u (Or.inr (Or.inr (Or.inr (Or.inr (Or.inl ⟨by decide, by decide⟩))))) (kp_v (fun _ => Or.inr (Or.inr (Or.inr (Or.inr (Or.inl ⟨by decide, by decide⟩))))) (kp_v (fun _ => Or.inr (Or.inr (Or.inr (Or.inr (Or.inl ⟨by decide, by decide⟩))))) (kp_v (fun _ => Or.inr (Or.inr (Or.inr (Or.inr (Or.inl ⟨by decide, by decide⟩))))) (kp_v (fun _ => Or.inr (Or.inr (Or.inr (Or.inr (Or.inl ⟨by decide, by decide⟩))))) (kp_u (Or.inr (Or.inr (Or.inr (Or.inr (Or.inl ⟨by decide, by decide⟩))))) (kp_u (Or.inr (Or.inr (Or.inr (Or.inr (Or.inl ⟨by decide, by decide⟩))))) (kp_u (Or.inr (Or.inr (Or.inr (Or.inr (Or.inl ⟨by decide, by decide⟩))))) (kp_u (Or.inr (Or.inr (Or.inr (Or.inr (Or.inl ⟨by decide, by decide⟩))))) (kp_u (Or.inr (Or.inr (Or.inr (Or.inr (Or.inl ⟨by decide, by decide⟩))))) (kp_u (Or.inr (Or.inr (Or.inr (Or.inr (Or.inl ⟨by decide, by decide⟩))))) (kp_u (Or.inr (Or.inr (Or.inr (Or.inr (Or.inl ⟨by decide, by decide⟩))))) (kp_u (Or.inr (Or.inr (Or.inr (Or.inr (Or.inl ⟨by decide, by decide⟩))))) (kp_u (Or.inl ⟨rfl, rfl⟩) kp_rfl))))))))))))))))))))))))))))))))))
  have ka : KeA f f1 := by rw [← ef1]; unfold mf_X11_order; exact (ka_v (by decide) (ka_v (by decide) (ka_v (by decide) (ka_v (by decide) (ka_u (by decide) (ka_u (by decide) (ka_u (by decide) (ka_v (by decide) (ka_v (by decide) (ka_v (by decide) (ka_v (by decide) (ka_u (by decide) (ka_u (by decide) (ka_u (by decide) (ka_v (by decide) (ka_v (by decide) (ka_v (by decide) (ka_v (by decide) (ka_u (by decide) (ka_u (by decide) (ka_u (by decide) (ka_v (by decide) (ka_v (by decide) (ka_v (by decide) (ka_v (by decide) (ka_u (by decide) (ka_u (by decide) (ka_u (by decide) (ka_u (by decide) (ka_u (by decide) (ka_u (by decide) (ka_u (by decide) (ka_u (by decide) (ka_u (by decide) ka_rfl))))))))))))))))))))))))))))))))))
  have kq : KeP p p1 := by rw [← ep1]; unfold mp_X11_order; exact (kq_u ⟨by decide, by decide⟩ (kq_u ⟨by decide, by decide⟩ (kq_u ⟨by decide, by decide⟩ (kq_u ⟨by decide, by decide⟩ kq_rfl))))
  have hT1 : am_T0 p1 d := by rw [← ep1]; exact mt_X11_order hl hT
  subst eg1
  obtain ⟨Z, hZ⟩ : ∃ Z, D_X12_order x0 (f 177 14) (f 180) (f 177 22) (f 177 23) (f 177 24) (f 182) (g 177 34) (g 177 35) (f 185) (f 177 33) (g 177 26) (g 177 27) (g 177 28) (g 177 29) (g 177 30) (f 177 31) (f 177 32) = Z := ⟨_, rfl⟩
  have k2 := k_X12_order (f := f1) (g := g) (p := p1) (d := d) (e := e) x0 (f 177 0) (f 177 11) (f 177 14) (f 180) (f 177 22) (f 177 23) (f 177 24) (f 182) (g 177 34) (g 177 35) (f 185) (f 177 33) (g 177 26) (g 177 27) (g 177 28) (g 177 29) (g 177 30) (f 177 31) (f 177 32) hT1 (congrFun (ka 177 (by decide)) 0) (congrFun (ka 177 (by decide)) 11) (congrFun (ka 177 (by decide)) 14) (ka 180 (by decide)) (congrFun (ka 177 (by decide)) 22) (congrFun (ka 177 (by decide)) 23) (congrFun (ka 177 (by decide)) 24) (ka 182 (by decide)) rfl rfl (ka 185 (by decide)) (congrFun (ka 177 (by decide)) 33) rfl rfl rfl rfl rfl (congrFun (ka 177 (by decide)) 31) (congrFun (ka 177 (by decide)) 32) (gr_order hL hN hS) Z hZ
  obtain ⟨f2, ef2⟩ : ∃ z, mf_X12_order f1 Z.2.1 Z.2.2.1 Z.2.2.2.1 Z.2.2.2.2.1 Z.2.2.2.2.2.1 Z.2.2.2.2.2.2.1 Z.2.2.2.2.2.2.2.1 Z.2.2.2.2.2.2.2.2.1 Z.2.2.2.2.2.2.2.2.2.1 = z := ⟨_, rfl⟩
  obtain ⟨g2, eg2⟩ : ∃ z, mg_X12_order g Z.2.2.2.2.2.2.2.2.2.2.1 Z.2.2.2.2.2.2.2.2.2.2.2.1 Z.2.2.2.2.2.2.2.2.2.2.2.2.1 Z.2.2.2.2.2.2.2.2.2.2.2.2.2.1 Z.2.2.2.2.2.2.2.2.2.2.2.2.2.2.1 Z.2.2.2.2.2.2.2.2.2.2.2.2.2.2.2.1 Z.2.2.2.2.2.2.2.2.2.2.2.2.2.2.2.2 = z := ⟨_, rfl⟩
  rw [ef2, eg2] at k2
  have kk2 : Keeps l f1 f2 := by rw [← ef2]; unfold mf_X12_order; exact (kp_u (Or.inr (Or.inr (Or.inr (Or.inr (Or.inr (Or.inl ⟨rfl, by decide, by decide, by decide, by decide, by decide, by decide⟩)))))) (kp_u (Or.inr (Or.inr (Or.inr (Or.inr (Or.inr (Or.inl ⟨rfl, by decide, by decide, by decide, by decide, by decide, by decide⟩)))))) (kp_u (Or.inr (Or.inr (Or.inr (Or.inr (Or.inr (Or.inl ⟨rfl, by decide, by decide, by decide, by decide, by decide, by decide⟩)))))) (kp_v (fun _ => Or.inr (Or.inr (Or.inr (Or.inr (Or.inr (Or.inr (Or.inr (Or.inr ⟨by decide, by decide⟩)))))))) (kp_u (Or.inr (Or.inr (Or.inr (Or.inr (Or.inr (Or.inl ⟨rfl, by decide, by decide, by decide, by decide, by decide, by decide⟩)))))) (kp_u (Or.inr (Or.inr (Or.inr (Or.inr (Or.inr (Or.inl ⟨rfl, by decide, by decide, by decide, by decide, by decide, by decide⟩)))))) (kp_u (Or.inr (Or.inr (Or.inr (Or.inr (Or.inr (Or.inl ⟨rfl, by decide, by decide, by decide, by decide, by decide, by decide⟩)))))) (kp_u (Or.inr (Or.inr (Or.inr (Or.inr (Or.inr (Or.inl ⟨rfl, by decide, by decide, by decide, by decide, by decide, by decide⟩)))))) (kp_u (Or.inr (Or.inr (Or.inr (Or.inr (Or.inr (Or.inl ⟨rfl, by decide, by decide, by decide, by decide, by decide, by decide⟩)))))) kp_rfl)))))))))
  have kb2 : KeB f1 f2 := by rw [← ef2]; unfold mf_X12_order; exact (kb_u (by decide) (kb_u (by decide) (kb_u (by decide) (kb_v (by decide) (kb_u (by decide) (kb_u (by decide) (kb_u (by decide) (kb_u (by decide) (kb_u (by decide) kb_rfl)))))))))
  have hp := pub_order (x0 := x0) (tens := (f l 4)) (present := (f 40 1)) (bT := (f 143 6)) (bG := (f 143 7)) (bA := (f 143 8)) (good := (f 143 9)) (ways := (f 143 10)) (q0 := (p 145 0)) (p1 := (f 145 1)) (braced := (f 40 2)) (b1 := (f 145 2)) (seed := (f 40 3)) (s1 := (f 145 3)) (tenOf := (f 41)) (t1 := (f 146)) (feared := (f 42)) (f1 := (f 147)) (angerOf := (f 43)) (a1 := (f 148)) (lotsOf := (f 44)) (l1 := (f 149)) (mutiny := (f l 3)) (fear := (f l 2)) (weight := (f (l + 6))) (nerve := (f (l + 3))) (fearTimes := (f (l + 5))) (holds := (f l 0)) (q2 := (p 150 0)) (p3 := (f 150 1)) (b3 := (f 150 2)) (s3 := (f 150 3)) (t3 := (f 151)) (f3 := (f 152)) (a3 := (f 153)) (l3 := (f 154)) (q3 := (p 155 0)) (p4 := (f 155 1)) (b4 := (f 155 2)) (s4 := (f 155 3)) (t4 := (f 156)) (f4 := (f 157)) (a4 := (f 158)) (l4 := (f 159)) (q4 := (p 160 0)) (p5 := (f 160 1)) (b5 := (f 160 2)) (s5 := (f 160 3)) (t5 := (f 161)) (f5 := (f 162)) (a5 := (f 163)) (l5 := (f 164)) (oneIn := (f l 1)) (friendsOf := (f (l + 4))) (l := l) (hl := (f 177 14)) (rr := (f 180)) (a := (f 177 22)) (b := (f 177 23)) (c := (f 177 24)) (st := (f 182)) (gU := (g 177 34)) (gD := (g 177 35)) (levels := (f 185)) (sT := (f 177 33)) (sM := (g 177 26)) (dM := (g 177 27)) (mM := (g 177 28)) (gM := (g 177 29)) (rS := (g 177 30)) (mR := (f 177 31)) (wO := (f 177 32)) hL hN hS hh
  rw [hY, hZ] at hp
  obtain ⟨ha, hw⟩ := hp
  have w1 : f1 0 12 = Y.2.1 := by rw [← ef1]; exact mr_X11_order_f0 hl
  have w2 : f2 177 11 = Z.2.2.1 := by rw [← ef2]; exact mr_X12_order_f1 
  have w4 : ¬ (D_X11_order x0 (f l 4) (f 40 1) (f 143 6) (f 143 7) (f 143 8) (f 143 9) (f 143 10) (p 145 0) (f 145 1) (f 40 2) (f 145 2) (f 40 3) (f 145 3) (f 41) (f 146) (f 42) (f 147) (f 43) (f 148) (f 44) (f 149) (f l 3) (f l 2) (f (l + 6)) (f (l + 3)) (f (l + 5)) (f l 0) (p 150 0) (f 150 1) (f 150 2) (f 150 3) (f 151) (f 152) (f 153) (f 154) (p 155 0) (f 155 1) (f 155 2) (f 155 3) (f 156) (f 157) (f 158) (f 159) (p 160 0) (f 160 1) (f 160 2) (f 160 3) (f 161) (f 162) (f 163) (f 164) (f l 1) (f (l + 4)) l).2.1 = 4 := w_order
  rw [hY] at w4
  have w3 : f2 0 12 = Y.2.1 := (congrFun (kb2 0 (by decide)) 12).trans w1
  refine ⟨Y.1, f1, g, p1, f2, g2, k1, ?_, ⟨l, r, M, A, I, TP, n, Inv_keep hII (kp_tr kk kk2) kq (by rw [w3, w2]; exact hw) (fun h => absurd (w3.symm.trans h) w4)⟩, hT1, ka am_SC (by decide), kp_row (kp_tr kk kk2) (fun k h => absurd (scr_l hl h) (by decide))⟩
  rw [ha]; exact k2
theorem q_orderOdds {f : Nat → Nat → Int32} {g : Nat → Nat → Int64} {p : Nat → Nat → Option Nat} {d : Nat → Nat × Nat} {e : Nat × Nat} {x0 x1 : Int32} (hI0 : Inv f p) (hT : am_T0 p d) : Run2 Value.long f g p d e 145 267 [.int x0, .int x1] := by
  obtain ⟨l, r, M, A, I, TP, n, hI⟩ := hI0
  have hII := hI
  obtain ⟨hlr, p03, p40, p23, psl, pim, hL, hM5, hP6, hN, hS, hh, hz, hH, hE, hPf, hsy, ⟨q, hq, hsd⟩, hHi, hTP, hA, hUn, hsA, hIm, hI4, hI21, hsI, hn, ht1, ht2, hTp, hfa, hwh, hpl⟩ := hI
  have hl : l = 5 ∨ l = 23 := by omega
  obtain ⟨T, hT3, hT4⟩ : ∃ T, T ≤ 3 ∧ f l 4 = nI T := by obtain ⟨T, a, b⟩ := hL.2.2.2.2.2.2.2.2.2.2.2.2.2.1; exact ⟨T, a, hL.h4.trans b⟩
  obtain ⟨Y, hY⟩ : ∃ Y, D_X11_orderOdds x0 x1 (f l 4) (f 40 1) (f 143 6) (f 143 7) (f 143 8) (f 143 9) (f 143 10) (p 145 0) (f 145 1) (f 40 2) (f 145 2) (f 40 3) (f 145 3) (f 41) (f 146) (f 42) (f 147) (f 43) (f 148) (f 44) (f 149) (f l 3) (f l 2) (f (l + 6)) (f (l + 3)) (f (l + 5)) (f l 0) (p 150 0) (f 150 1) (f 150 2) (f 150 3) (f 151) (f 152) (f 153) (f 154) (p 155 0) (f 155 1) (f 155 2) (f 155 3) (f 156) (f 157) (f 158) (f 159) (p 160 0) (f 160 1) (f 160 2) (f 160 3) (f 161) (f 162) (f 163) (f 164) (f l 1) (f (l + 4)) (g 176 0) (g 176 1) l = Y := ⟨_, rfl⟩
  have k1 := k_X11_orderOdds (f := f) (g := g) (p := p) (d := d) (e := e) l x0 x1 (f l 4) (f 40 1) (f 0 12) (f 143 6) (f 143 7) (f 143 8) (f 143 9) (f 143 10) (p 145 0) (f 145 1) (f 40 2) (f 145 2) (f 40 3) (f 145 3) (f 41) (f 146) (f 42) (f 147) (f 43) (f 148) (f 44) (f 149) (f l 3) (f l 2) (f (l + 6)) (f (l + 3)) (f (l + 5)) (f l 0) (p 150 0) (f 150 1) (f 150 2) (f 150 3) (f 151) (f 152) (f 153) (f 154) (p 155 0) (f 155 1) (f 155 2) (f 155 3) (f 156) (f 157) (f 158) (f 159) (p 160 0) (f 160 1) (f 160 2) (f 160 3) (f 161) (f 162) (f 163) (f 164) (f l 1) (f (l + 4)) (g 176 0) (g 176 1) hT hl p03 rfl rfl rfl p40 rfl rfl rfl rfl rfl rfl rfl rfl rfl rfl rfl rfl rfl rfl rfl rfl rfl rfl rfl rfl rfl rfl rfl rfl rfl rfl rfl rfl rfl rfl rfl rfl rfl rfl rfl rfl rfl rfl rfl rfl rfl rfl rfl rfl rfl rfl rfl rfl rfl rfl rfl rfl rfl (gc_orderOdds) Y hY
  obtain ⟨f1, ef1⟩ : ∃ z, mf_X11_orderOdds f Y.2.1 Y.2.2.1 Y.2.2.2.1 Y.2.2.2.2.1 Y.2.2.2.2.2.1 Y.2.2.2.2.2.2.1 Y.2.2.2.2.2.2.2.1 Y.2.2.2.2.2.2.2.2.1 Y.2.2.2.2.2.2.2.2.2.1 Y.2.2.2.2.2.2.2.2.2.2.1 Y.2.2.2.2.2.2.2.2.2.2.2.1 Y.2.2.2.2.2.2.2.2.2.2.2.2.1 Y.2.2.2.2.2.2.2.2.2.2.2.2.2.1 Y.2.2.2.2.2.2.2.2.2.2.2.2.2.2.1 Y.2.2.2.2.2.2.2.2.2.2.2.2.2.2.2.1 Y.2.2.2.2.2.2.2.2.2.2.2.2.2.2.2.2.1 Y.2.2.2.2.2.2.2.2.2.2.2.2.2.2.2.2.2.1 Y.2.2.2.2.2.2.2.2.2.2.2.2.2.2.2.2.2.2.1 Y.2.2.2.2.2.2.2.2.2.2.2.2.2.2.2.2.2.2.2.1 Y.2.2.2.2.2.2.2.2.2.2.2.2.2.2.2.2.2.2.2.2.1 Y.2.2.2.2.2.2.2.2.2.2.2.2.2.2.2.2.2.2.2.2.2.1 Y.2.2.2.2.2.2.2.2.2.2.2.2.2.2.2.2.2.2.2.2.2.2.1 Y.2.2.2.2.2.2.2.2.2.2.2.2.2.2.2.2.2.2.2.2.2.2.2.1 Y.2.2.2.2.2.2.2.2.2.2.2.2.2.2.2.2.2.2.2.2.2.2.2.2.1 Y.2.2.2.2.2.2.2.2.2.2.2.2.2.2.2.2.2.2.2.2.2.2.2.2.2.1 Y.2.2.2.2.2.2.2.2.2.2.2.2.2.2.2.2.2.2.2.2.2.2.2.2.2.2.1 Y.2.2.2.2.2.2.2.2.2.2.2.2.2.2.2.2.2.2.2.2.2.2.2.2.2.2.2.1 Y.2.2.2.2.2.2.2.2.2.2.2.2.2.2.2.2.2.2.2.2.2.2.2.2.2.2.2.2.1 Y.2.2.2.2.2.2.2.2.2.2.2.2.2.2.2.2.2.2.2.2.2.2.2.2.2.2.2.2.2.1 Y.2.2.2.2.2.2.2.2.2.2.2.2.2.2.2.2.2.2.2.2.2.2.2.2.2.2.2.2.2.2.1 Y.2.2.2.2.2.2.2.2.2.2.2.2.2.2.2.2.2.2.2.2.2.2.2.2.2.2.2.2.2.2.2.1 Y.2.2.2.2.2.2.2.2.2.2.2.2.2.2.2.2.2.2.2.2.2.2.2.2.2.2.2.2.2.2.2.2.1 Y.2.2.2.2.2.2.2.2.2.2.2.2.2.2.2.2.2.2.2.2.2.2.2.2.2.2.2.2.2.2.2.2.2.1 Y.2.2.2.2.2.2.2.2.2.2.2.2.2.2.2.2.2.2.2.2.2.2.2.2.2.2.2.2.2.2.2.2.2.2.1 = z := ⟨_, rfl⟩
  obtain ⟨g1, eg1⟩ : ∃ z, mg_X11_orderOdds g Y.2.2.2.2.2.2.2.2.2.2.2.2.2.2.2.2.2.2.2.2.2.2.2.2.2.2.2.2.2.2.2.2.2.2.2.2.2.2.2.1 Y.2.2.2.2.2.2.2.2.2.2.2.2.2.2.2.2.2.2.2.2.2.2.2.2.2.2.2.2.2.2.2.2.2.2.2.2.2.2.2.2 = z := ⟨_, rfl⟩
  obtain ⟨p1, ep1⟩ : ∃ z, mp_X11_orderOdds p Y.2.2.2.2.2.2.2.2.2.2.2.2.2.2.2.2.2.2.2.2.2.2.2.2.2.2.2.2.2.2.2.2.2.2.2.1 Y.2.2.2.2.2.2.2.2.2.2.2.2.2.2.2.2.2.2.2.2.2.2.2.2.2.2.2.2.2.2.2.2.2.2.2.2.1 Y.2.2.2.2.2.2.2.2.2.2.2.2.2.2.2.2.2.2.2.2.2.2.2.2.2.2.2.2.2.2.2.2.2.2.2.2.2.1 Y.2.2.2.2.2.2.2.2.2.2.2.2.2.2.2.2.2.2.2.2.2.2.2.2.2.2.2.2.2.2.2.2.2.2.2.2.2.2.1 = z := ⟨_, rfl⟩
  rw [ef1, eg1, ep1] at k1
  have kk : Keeps l f f1 := by rw [← ef1]; unfold mf_X11_orderOdds; exact (kp_v (fun _ => Or.inr (Or.inr (Or.inr (Or.inr (Or.inl ⟨by decide, by decide⟩))))) (kp_v (fun _ => Or.inr (Or.inr (Or.inr (Or.inr (Or.inl ⟨by decide, by decide⟩))))) (kp_v (fun _ => Or.inr (Or.inr (Or.inr (Or.inr (Or.inl ⟨by decide, by decide⟩))))) (kp_v (fun _ => Or.inr (Or.inr (Or.inr (Or.inr (Or.inl ⟨by decide, by decide⟩))))) (kp_u (Or.inr (Or.inr (Or.inr (Or.inr (Or.inl ⟨by decide, by decide⟩))))) (kp_u (Or.inr (Or.inr (Or.inr (Or.inr (Or.inl ⟨by decide, by decide⟩))))) (kp_u (Or.inr (Or.inr (Or.inr (Or.inr (Or.inl ⟨by decide, by decide⟩))))) (kp_v (fun _ => Or.inr (Or.inr (Or.inr (Or.inr (Or.inl ⟨by decide, by decide⟩))))) (kp_v (fun _ => Or.inr (Or.inr (Or.inr (Or.inr (Or.inl ⟨by decide, by decide⟩))))) (kp_v (fun _ => Or.inr (Or.inr (Or.inr (Or.inr (Or.inl ⟨by decide, by decide⟩))))) (kp_v (fun _ => Or.inr (Or.inr (Or.inr (Or.inr (Or.inl ⟨by decide, by decide⟩))))) (kp_u (Or.inr (Or.inr (Or.inr (Or.inr (Or.inl ⟨by decide, by decide⟩))))) (kp_u (Or.inr (Or.inr (Or.inr (Or.inr (Or.inl ⟨by decide, by decide⟩))))) (kp_u (Or.inr (Or.inr (Or.inr (Or.inr (Or.inl ⟨by decide, by decide⟩))))) (kp_v (fun _ => Or.inr (Or.inr (Or.inr (Or.inr (Or.inl ⟨by decide, by decide⟩))))) (kp_v (fun _ => Or.inr (Or.inr (Or.inr (Or.inr (Or.inl ⟨by decide, by decide⟩))))) (kp_v (fun _ => Or.inr (Or.inr (Or.inr (Or.inr (Or.inl ⟨by decide, by decide⟩))))) (kp_v (fun _ => Or.inr (Or.inr (Or.inr (Or.inr (Or.inl ⟨by decide, by decide⟩))))) (kp_u (Or.inr (Or.inr (Or.inr (Or.inr (Or.inl ⟨by decide, by decide⟩))))) (kp_u (Or.inr (Or.inr (Or.inr (Or.inr (Or.inl ⟨by decide, by decide⟩))))) (kp_u (Or.inr (Or.inr (Or.inr (Or.inr (Or.inl ⟨by decide, by decide⟩))))) (kp_v (fun _ => Or.inr (Or.inr (Or.inr (Or.inr (Or.inl ⟨by decide, by decide⟩))))) (kp_v (fun _ => Or.inr (Or.inr (Or.inr (Or.inr (Or.inl ⟨by decide, by decide⟩))))) (kp_v (fun _ => Or.inr (Or.inr (Or.inr (Or.inr (Or.inl ⟨by decide, by decide⟩))))) (kp_v (fun _ => Or.inr (Or.inr (Or.inr (Or.inr (Or.inl ⟨by decide, by decide⟩))))) (kp_u (Or.inr (Or.inr (Or.inr (Or.inr (Or.inl ⟨by decide, by decide⟩))))) (kp_u (Or.inr (Or.inr (Or.inr (Or.inr (Or.inl ⟨by decide, by decide⟩))))) (kp_u (Or.inr (Or.inr (Or.inr (Or.inr (Or.inl ⟨by decide, by decide⟩))))) (kp_u (Or.inr (Or.inr (Or.inr (Or.inr (Or.inl ⟨by decide, by decide⟩))))) (kp_u (Or.inr (Or.inr (Or.inr (Or.inr (Or.inl ⟨by decide, by decide⟩))))) (kp_u (Or.inr (Or.inr (Or.inr (Or.inr (Or.inl ⟨by decide, by decide⟩))))) (kp_u (Or.inr (Or.inr (Or.inr (Or.inr (Or.inl ⟨by decide, by decide⟩))))) (kp_u (Or.inr (Or.inr (Or.inr (Or.inr (Or.inl ⟨by decide, by decide⟩))))) (kp_u (Or.inl ⟨rfl, rfl⟩) kp_rfl))))))))))))))))))))))))))))))))))
  have ka : KeA f f1 := by rw [← ef1]; unfold mf_X11_orderOdds; exact (ka_v (by decide) (ka_v (by decide) (ka_v (by decide) (ka_v (by decide) (ka_u (by decide) (ka_u (by decide) (ka_u (by decide) (ka_v (by decide) (ka_v (by decide) (ka_v (by decide) (ka_v (by decide) (ka_u (by decide) (ka_u (by decide) (ka_u (by decide) (ka_v (by decide) (ka_v (by decide) (ka_v (by decide) (ka_v (by decide) (ka_u (by decide) (ka_u (by decide) (ka_u (by decide) (ka_v (by decide) (ka_v (by decide) (ka_v (by decide) (ka_v (by decide) (ka_u (by decide) (ka_u (by decide) (ka_u (by decide) (ka_u (by decide) (ka_u (by decide) (ka_u (by decide) (ka_u (by decide) (ka_u (by decide) (ka_u (by decide) ka_rfl))))))))))))))))))))))))))))))))))
  have kq : KeP p p1 := by rw [← ep1]; unfold mp_X11_orderOdds; exact (kq_u ⟨by decide, by decide⟩ (kq_u ⟨by decide, by decide⟩ (kq_u ⟨by decide, by decide⟩ (kq_u ⟨by decide, by decide⟩ kq_rfl))))
  have hT1 : am_T0 p1 d := by rw [← ep1]; exact mt_X11_orderOdds hl hT
  obtain ⟨Z, hZ⟩ : ∃ Z, D_X12_orderOdds x0 x1 (f 177 14) (f 180) (f 177 22) (f 177 23) (f 177 24) (f 182) (g1 177 34) (g1 177 35) (f 185) (f 177 33) (g1 177 26) (g1 177 27) (g1 177 28) (g1 177 29) (g1 177 30) (f 177 31) (f 177 32) = Z := ⟨_, rfl⟩
  have k2 := k_X12_orderOdds (f := f1) (g := g1) (p := p1) (d := d) (e := e) x0 x1 (f 177 0) (f 177 11) (f 177 14) (f 180) (f 177 22) (f 177 23) (f 177 24) (f 182) (g1 177 34) (g1 177 35) (f 185) (f 177 33) (g1 177 26) (g1 177 27) (g1 177 28) (g1 177 29) (g1 177 30) (f 177 31) (f 177 32) hT1 (congrFun (ka 177 (by decide)) 0) (congrFun (ka 177 (by decide)) 11) (congrFun (ka 177 (by decide)) 14) (ka 180 (by decide)) (congrFun (ka 177 (by decide)) 22) (congrFun (ka 177 (by decide)) 23) (congrFun (ka 177 (by decide)) 24) (ka 182 (by decide)) rfl rfl (ka 185 (by decide)) (congrFun (ka 177 (by decide)) 33) rfl rfl rfl rfl rfl (congrFun (ka 177 (by decide)) 31) (congrFun (ka 177 (by decide)) 32) (gr_orderOdds hL hN hS) Z hZ
  obtain ⟨f2, ef2⟩ : ∃ z, mf_X12_orderOdds f1 Z.2.1 Z.2.2.1 Z.2.2.2.1 Z.2.2.2.2.1 Z.2.2.2.2.2.1 Z.2.2.2.2.2.2.1 Z.2.2.2.2.2.2.2.1 Z.2.2.2.2.2.2.2.2.1 Z.2.2.2.2.2.2.2.2.2.1 = z := ⟨_, rfl⟩
  obtain ⟨g2, eg2⟩ : ∃ z, mg_X12_orderOdds g1 Z.2.2.2.2.2.2.2.2.2.2.1 Z.2.2.2.2.2.2.2.2.2.2.2.1 Z.2.2.2.2.2.2.2.2.2.2.2.2.1 Z.2.2.2.2.2.2.2.2.2.2.2.2.2.1 Z.2.2.2.2.2.2.2.2.2.2.2.2.2.2.1 Z.2.2.2.2.2.2.2.2.2.2.2.2.2.2.2.1 Z.2.2.2.2.2.2.2.2.2.2.2.2.2.2.2.2 = z := ⟨_, rfl⟩
  rw [ef2, eg2] at k2
  have kk2 : Keeps l f1 f2 := by rw [← ef2]; unfold mf_X12_orderOdds; exact (kp_u (Or.inr (Or.inr (Or.inr (Or.inr (Or.inr (Or.inl ⟨rfl, by decide, by decide, by decide, by decide, by decide, by decide⟩)))))) (kp_u (Or.inr (Or.inr (Or.inr (Or.inr (Or.inr (Or.inl ⟨rfl, by decide, by decide, by decide, by decide, by decide, by decide⟩)))))) (kp_u (Or.inr (Or.inr (Or.inr (Or.inr (Or.inr (Or.inl ⟨rfl, by decide, by decide, by decide, by decide, by decide, by decide⟩)))))) (kp_v (fun _ => Or.inr (Or.inr (Or.inr (Or.inr (Or.inr (Or.inr (Or.inr (Or.inr ⟨by decide, by decide⟩)))))))) (kp_u (Or.inr (Or.inr (Or.inr (Or.inr (Or.inr (Or.inl ⟨rfl, by decide, by decide, by decide, by decide, by decide, by decide⟩)))))) (kp_u (Or.inr (Or.inr (Or.inr (Or.inr (Or.inr (Or.inl ⟨rfl, by decide, by decide, by decide, by decide, by decide, by decide⟩)))))) (kp_u (Or.inr (Or.inr (Or.inr (Or.inr (Or.inr (Or.inl ⟨rfl, by decide, by decide, by decide, by decide, by decide, by decide⟩)))))) (kp_u (Or.inr (Or.inr (Or.inr (Or.inr (Or.inr (Or.inl ⟨rfl, by decide, by decide, by decide, by decide, by decide, by decide⟩)))))) (kp_u (Or.inr (Or.inr (Or.inr (Or.inr (Or.inr (Or.inl ⟨rfl, by decide, by decide, by decide, by decide, by decide, by decide⟩)))))) kp_rfl)))))))))
  have kb2 : KeB f1 f2 := by rw [← ef2]; unfold mf_X12_orderOdds; exact (kb_u (by decide) (kb_u (by decide) (kb_u (by decide) (kb_v (by decide) (kb_u (by decide) (kb_u (by decide) (kb_u (by decide) (kb_u (by decide) (kb_u (by decide) kb_rfl)))))))))
  have hp := pub_orderOdds (x0 := x0) (x1 := x1) (tens := (f l 4)) (present := (f 40 1)) (bT := (f 143 6)) (bG := (f 143 7)) (bA := (f 143 8)) (good := (f 143 9)) (ways := (f 143 10)) (q0 := (p 145 0)) (p1 := (f 145 1)) (braced := (f 40 2)) (b1 := (f 145 2)) (seed := (f 40 3)) (s1 := (f 145 3)) (tenOf := (f 41)) (t1 := (f 146)) (feared := (f 42)) (f1 := (f 147)) (angerOf := (f 43)) (a1 := (f 148)) (lotsOf := (f 44)) (l1 := (f 149)) (mutiny := (f l 3)) (fear := (f l 2)) (weight := (f (l + 6))) (nerve := (f (l + 3))) (fearTimes := (f (l + 5))) (holds := (f l 0)) (q2 := (p 150 0)) (p3 := (f 150 1)) (b3 := (f 150 2)) (s3 := (f 150 3)) (t3 := (f 151)) (f3 := (f 152)) (a3 := (f 153)) (l3 := (f 154)) (q3 := (p 155 0)) (p4 := (f 155 1)) (b4 := (f 155 2)) (s4 := (f 155 3)) (t4 := (f 156)) (f4 := (f 157)) (a4 := (f 158)) (l4 := (f 159)) (q4 := (p 160 0)) (p5 := (f 160 1)) (b5 := (f 160 2)) (s5 := (f 160 3)) (t5 := (f 161)) (f5 := (f 162)) (a5 := (f 163)) (l5 := (f 164)) (oneIn := (f l 1)) (friendsOf := (f (l + 4))) (upper := (g 176 0)) (lower := (g 176 1)) (l := l) (hl := (f 177 14)) (rr := (f 180)) (a := (f 177 22)) (b := (f 177 23)) (c := (f 177 24)) (st := (f 182)) (gU := (g1 177 34)) (gD := (g1 177 35)) (levels := (f 185)) (sT := (f 177 33)) (sM := (g1 177 26)) (dM := (g1 177 27)) (mM := (g1 177 28)) (gM := (g1 177 29)) (rS := (g1 177 30)) (mR := (f 177 31)) (wO := (f 177 32)) hL hN hS hh
  rw [hY, hZ] at hp
  obtain ⟨ha, hw⟩ := hp
  have w1 : f1 0 12 = Y.2.1 := by rw [← ef1]; exact mr_X11_orderOdds_f0 hl
  have w2 : f2 177 11 = Z.2.2.1 := by rw [← ef2]; exact mr_X12_orderOdds_f1 
  have w4 : ¬ (D_X11_orderOdds x0 x1 (f l 4) (f 40 1) (f 143 6) (f 143 7) (f 143 8) (f 143 9) (f 143 10) (p 145 0) (f 145 1) (f 40 2) (f 145 2) (f 40 3) (f 145 3) (f 41) (f 146) (f 42) (f 147) (f 43) (f 148) (f 44) (f 149) (f l 3) (f l 2) (f (l + 6)) (f (l + 3)) (f (l + 5)) (f l 0) (p 150 0) (f 150 1) (f 150 2) (f 150 3) (f 151) (f 152) (f 153) (f 154) (p 155 0) (f 155 1) (f 155 2) (f 155 3) (f 156) (f 157) (f 158) (f 159) (p 160 0) (f 160 1) (f 160 2) (f 160 3) (f 161) (f 162) (f 163) (f 164) (f l 1) (f (l + 4)) (g 176 0) (g 176 1) l).2.1 = 4 := w_orderOdds
  rw [hY] at w4
  have w3 : f2 0 12 = Y.2.1 := (congrFun (kb2 0 (by decide)) 12).trans w1
  refine ⟨Y.1, f1, g1, p1, f2, g2, k1, ?_, ⟨l, r, M, A, I, TP, n, Inv_keep hII (kp_tr kk kk2) kq (by rw [w3, w2]; exact hw) (fun h => absurd (w3.symm.trans h) w4)⟩, hT1, ka am_SC (by decide), kp_row (kp_tr kk kk2) (fun k h => absurd (scr_l hl h) (by decide))⟩
  rw [ha]; exact k2
