/-! QUERIES: a call on the class, then on the reference: the same answer, and the state stays -/
theorem q_friends {f : Nat → Nat → Int32} {g : Nat → Nat → Int64} {p : Nat → Nat → Option Nat} {d : Nat → Nat × Nat} {e : Nat × Nat} (hI0 : Inv f p) (hT : am_T0 p d) : Run2 Value.int f g p d e 146 278 [] := by
  obtain ⟨l, r, M, A, I, TP, n, hI⟩ := hI0
  have hII := hI
  obtain ⟨hlr, p03, p40, p23, psl, pim, hL, hM5, hP6, hN, hS, hh, hz, hH, hE, hPf, hsy, ⟨q, hq, hsd⟩, hHi, hTP, hA, hUn, hsA, hIm, hI4, hI21, hsI, hn, ht1, ht2, hTp, hfa, hwh, hpl⟩ := hI
  have hl : l = 5 ∨ l = 23 := by omega
  obtain ⟨T, hT3, hT4⟩ : ∃ T, T ≤ 3 ∧ f l 4 = nI T := by obtain ⟨T, a, b⟩ := hL.2.2.2.2.2.2.2.2.2.2.2.2.2.1; exact ⟨T, a, hL.h4.trans b⟩
  obtain ⟨Y, hY⟩ : ∃ Y, D_X11_friends (f l 4) (f 165 0) (f 40 1) (f 165 4) (f 168) (f 167) (f 166) (f (l + 4)) = Y := ⟨_, rfl⟩
  have k1 := k_X11_friends (f := f) (g := g) (p := p) (d := d) (e := e) l (f l 4) (f 0 12) (f 165 0) (f 40 1) (f 165 4) (f 168) (f 167) (f 166) (f (l + 4)) hT hl p03 rfl rfl rfl p40 rfl rfl rfl rfl rfl rfl (gc_friends) Y hY
  obtain ⟨f1, ef1⟩ : ∃ z, mf_X11_friends f Y.2.1 Y.2.2.1 Y.2.2.2.1 Y.2.2.2.2.1 Y.2.2.2.2.2.1 Y.2.2.2.2.2.2 = z := ⟨_, rfl⟩
  obtain ⟨g1, eg1⟩ : ∃ z, g = z := ⟨_, rfl⟩
  obtain ⟨p1, ep1⟩ : ∃ z, p = z := ⟨_, rfl⟩
  rw [ef1] at k1
  have kk : Keeps l f f1 := by rw [← ef1]; unfold mf_X11_friends; exact (kp_v (fun _ => Or.inr (Or.inr (Or.inr (Or.inr (Or.inl ⟨by decide, by decide⟩))))) (kp_v (fun _ => Or.inr (Or.inr (Or.inr (Or.inr (Or.inl ⟨by decide, by decide⟩))))) (kp_v (fun _ => Or.inr (Or.inr (Or.inr (Or.inr (Or.inl ⟨by decide, by decide⟩))))) (kp_u (Or.inr (Or.inr (Or.inr (Or.inr (Or.inl ⟨by decide, by decide⟩))))) (kp_u (Or.inr (Or.inr (Or.inr (Or.inr (Or.inl ⟨by decide, by decide⟩))))) (kp_u (Or.inl ⟨rfl, rfl⟩) kp_rfl))))))
  have ka : KeA f f1 := by rw [← ef1]; unfold mf_X11_friends; exact (ka_v (by decide) (ka_v (by decide) (ka_v (by decide) (ka_u (by decide) (ka_u (by decide) (ka_u (by decide) ka_rfl))))))
  have kq : KeP p p1 := by rw [← ep1]; exact kq_rfl
  have hT1 : am_T0 p1 d := by rw [← ep1]; exact hT
  subst eg1
  subst ep1
  obtain ⟨Z, hZ⟩ : ∃ Z, D_X12_friends (f 177 14) (f 182) (f 180) (f 188) (f 177 39) (f 186) (f 187) = Z := ⟨_, rfl⟩
  have k2 := k_X12_friends (f := f1) (g := g) (p := p) (d := d) (e := e) (f 177 0) (f 177 11) (f 177 14) (f 182) (f 180) (f 188) (f 177 39) (f 186) (f 187) hT1 (congrFun (ka 177 (by decide)) 0) (congrFun (ka 177 (by decide)) 11) (congrFun (ka 177 (by decide)) 14) (ka 182 (by decide)) (ka 180 (by decide)) (ka 188 (by decide)) (congrFun (ka 177 (by decide)) 39) (ka 186 (by decide)) (ka 187 (by decide)) (gr_friends hL hh) Z hZ
  obtain ⟨f2, ef2⟩ : ∃ z, mf_X12_friends f1 Z.2.1 Z.2.2.1 Z.2.2.2.1 Z.2.2.2.2.1 Z.2.2.2.2.2.1 Z.2.2.2.2.2.2 = z := ⟨_, rfl⟩
  obtain ⟨g2, eg2⟩ : ∃ z, g = z := ⟨_, rfl⟩
  rw [ef2] at k2
  have kk2 : Keeps l f1 f2 := by rw [← ef2]; unfold mf_X12_friends; exact (kp_v (fun _ => Or.inr (Or.inr (Or.inr (Or.inr (Or.inr (Or.inr (Or.inr (Or.inr ⟨by decide, by decide⟩)))))))) (kp_v (fun _ => Or.inr (Or.inr (Or.inr (Or.inr (Or.inr (Or.inr (Or.inr (Or.inr ⟨by decide, by decide⟩)))))))) (kp_u (Or.inr (Or.inr (Or.inr (Or.inr (Or.inr (Or.inl ⟨rfl, by decide, by decide, by decide, by decide, by decide, by decide⟩)))))) (kp_v (fun _ => Or.inr (Or.inr (Or.inr (Or.inr (Or.inr (Or.inr (Or.inr (Or.inr ⟨by decide, by decide⟩)))))))) (kp_u (Or.inr (Or.inr (Or.inr (Or.inr (Or.inr (Or.inl ⟨rfl, by decide, by decide, by decide, by decide, by decide, by decide⟩)))))) (kp_u (Or.inr (Or.inr (Or.inr (Or.inr (Or.inr (Or.inl ⟨rfl, by decide, by decide, by decide, by decide, by decide, by decide⟩)))))) kp_rfl))))))
  have kb2 : KeB f1 f2 := by rw [← ef2]; unfold mf_X12_friends; exact (kb_v (by decide) (kb_v (by decide) (kb_u (by decide) (kb_v (by decide) (kb_u (by decide) (kb_u (by decide) kb_rfl))))))
  have hp := pub_friends (tens := (f l 4)) (fewest := (f 165 0)) (present := (f 40 1)) (most0 := (f 165 4)) (mt0 := (f 168)) (ten0 := (f 167)) (best0 := (f 166)) (friendsOf := (f (l + 4))) (hl := (f 177 14)) (st := (f 182)) (rr := (f 180)) (room0 := (f 188)) (fewF := (f 177 39)) (put0 := (f 186)) (bestP0 := (f 187)) hL hN hS hh hPf
  rw [hY, hZ] at hp
  obtain ⟨ha, hw⟩ := hp
  have w1 : f1 0 12 = Y.2.1 := by rw [← ef1]; exact mr_X11_friends_f0 hl
  have w2 : f2 177 11 = Z.2.2.1 := by rw [← ef2]; exact mr_X12_friends_f1 
  have w4 : ¬ (D_X11_friends (f l 4) (f 165 0) (f 40 1) (f 165 4) (f 168) (f 167) (f 166) (f (l + 4))).2.1 = 4 := w_friends
  rw [hY] at w4
  have w3 : f2 0 12 = Y.2.1 := (congrFun (kb2 0 (by decide)) 12).trans w1
  refine ⟨Y.1, f1, g, p, f2, g, k1, ?_, ⟨l, r, M, A, I, TP, n, Inv_keep hII (kp_tr kk kk2) kq (by rw [w3, w2]; exact hw) (fun h => absurd (w3.symm.trans h) w4)⟩, hT1, ka am_SC (by decide), kp_row (kp_tr kk kk2) (fun k h => absurd (scr_l hl h) (by decide))⟩
  rw [ha]; exact k2
theorem q_newTen {f : Nat → Nat → Int32} {g : Nat → Nat → Int64} {p : Nat → Nat → Option Nat} {d : Nat → Nat × Nat} {e : Nat × Nat} {x0 : Int32} (hI0 : Inv f p) (hT : am_T0 p d) : Run2 Value.int f g p d e 147 279 [.int x0] := by
  obtain ⟨l, r, M, A, I, TP, n, hI⟩ := hI0
  have hII := hI
  obtain ⟨hlr, p03, p40, p23, psl, pim, hL, hM5, hP6, hN, hS, hh, hz, hH, hE, hPf, hsy, ⟨q, hq, hsd⟩, hHi, hTP, hA, hUn, hsA, hIm, hI4, hI21, hsI, hn, ht1, ht2, hTp, hfa, hwh, hpl⟩ := hI
  have hl : l = 5 ∨ l = 23 := by omega
  obtain ⟨T, hT3, hT4⟩ : ∃ T, T ≤ 3 ∧ f l 4 = nI T := by obtain ⟨T, a, b⟩ := hL.2.2.2.2.2.2.2.2.2.2.2.2.2.1; exact ⟨T, a, hL.h4.trans b⟩
  obtain ⟨Y, hY⟩ : ∃ Y, D_X11_newTen x0 (f l 5) (f 40 1) (f 165 0) (f l 4) (f 165 4) (f 168) (f 167) (f 166) (f (l + 4)) = Y := ⟨_, rfl⟩
  have k1 := k_X11_newTen (f := f) (g := g) (p := p) (d := d) (e := e) l x0 (f l 5) (f 40 1) (f 0 12) (f 165 0) (f l 4) (f 165 4) (f 168) (f 167) (f 166) (f (l + 4)) hT hl p03 rfl rfl rfl rfl p40 rfl rfl rfl rfl rfl rfl (gc_newTen hL.M8 hM5) Y hY
  obtain ⟨f1, ef1⟩ : ∃ z, mf_X11_newTen f Y.2.1 Y.2.2.1 Y.2.2.2.1 Y.2.2.2.2.1 Y.2.2.2.2.2.1 Y.2.2.2.2.2.2 = z := ⟨_, rfl⟩
  obtain ⟨g1, eg1⟩ : ∃ z, g = z := ⟨_, rfl⟩
  obtain ⟨p1, ep1⟩ : ∃ z, p = z := ⟨_, rfl⟩
  rw [ef1] at k1
  have kk : Keeps l f f1 := by rw [← ef1]; unfold mf_X11_newTen; exact (kp_v (fun _ => Or.inr (Or.inr (Or.inr (Or.inr (Or.inl ⟨by decide, by decide⟩))))) (kp_v (fun _ => Or.inr (Or.inr (Or.inr (Or.inr (Or.inl ⟨by decide, by decide⟩))))) (kp_v (fun _ => Or.inr (Or.inr (Or.inr (Or.inr (Or.inl ⟨by decide, by decide⟩))))) (kp_u (Or.inr (Or.inr (Or.inr (Or.inr (Or.inl ⟨by decide, by decide⟩))))) (kp_u (Or.inr (Or.inr (Or.inr (Or.inr (Or.inl ⟨by decide, by decide⟩))))) (kp_u (Or.inl ⟨rfl, rfl⟩) kp_rfl))))))
  have ka : KeA f f1 := by rw [← ef1]; unfold mf_X11_newTen; exact (ka_v (by decide) (ka_v (by decide) (ka_v (by decide) (ka_u (by decide) (ka_u (by decide) (ka_u (by decide) ka_rfl))))))
  have kq : KeP p p1 := by rw [← ep1]; exact kq_rfl
  have hT1 : am_T0 p1 d := by rw [← ep1]; exact hT
  subst eg1
  subst ep1
  obtain ⟨Z, hZ⟩ : ∃ Z, D_X12_newTen x0 (f 177 14) (f 180) (f 182) (f 188) (f 177 39) (f 186) (f 187) = Z := ⟨_, rfl⟩
  have k2 := k_X12_newTen (f := f1) (g := g) (p := p) (d := d) (e := e) x0 (f 177 0) (f 177 11) (f 177 14) (f 180) (f 182) (f 188) (f 177 39) (f 186) (f 187) hT1 (congrFun (ka 177 (by decide)) 0) (congrFun (ka 177 (by decide)) 11) (congrFun (ka 177 (by decide)) 14) (ka 180 (by decide)) (ka 182 (by decide)) (ka 188 (by decide)) (congrFun (ka 177 (by decide)) 39) (ka 186 (by decide)) (ka 187 (by decide)) (gr_newTen hL hh (fun h => (hz h).1)) Z hZ
  obtain ⟨f2, ef2⟩ : ∃ z, mf_X12_newTen f1 Z.2.1 Z.2.2.1 Z.2.2.2.1 Z.2.2.2.2.1 Z.2.2.2.2.2.1 Z.2.2.2.2.2.2 = z := ⟨_, rfl⟩
  obtain ⟨g2, eg2⟩ : ∃ z, g = z := ⟨_, rfl⟩
  rw [ef2] at k2
  have kk2 : Keeps l f1 f2 := by rw [← ef2]; unfold mf_X12_newTen; exact (kp_v (fun _ => Or.inr (Or.inr (Or.inr (Or.inr (Or.inr (Or.inr (Or.inr (Or.inr ⟨by decide, by decide⟩)))))))) (kp_v (fun _ => Or.inr (Or.inr (Or.inr (Or.inr (Or.inr (Or.inr (Or.inr (Or.inr ⟨by decide, by decide⟩)))))))) (kp_u (Or.inr (Or.inr (Or.inr (Or.inr (Or.inr (Or.inl ⟨rfl, by decide, by decide, by decide, by decide, by decide, by decide⟩)))))) (kp_v (fun _ => Or.inr (Or.inr (Or.inr (Or.inr (Or.inr (Or.inr (Or.inr (Or.inr ⟨by decide, by decide⟩)))))))) (kp_u (Or.inr (Or.inr (Or.inr (Or.inr (Or.inr (Or.inl ⟨rfl, by decide, by decide, by decide, by decide, by decide, by decide⟩)))))) (kp_u (Or.inr (Or.inr (Or.inr (Or.inr (Or.inr (Or.inl ⟨rfl, by decide, by decide, by decide, by decide, by decide, by decide⟩)))))) kp_rfl))))))
  have kb2 : KeB f1 f2 := by rw [← ef2]; unfold mf_X12_newTen; exact (kb_v (by decide) (kb_v (by decide) (kb_u (by decide) (kb_v (by decide) (kb_u (by decide) (kb_u (by decide) kb_rfl))))))
  have hp := pub_newTen (x0 := x0) (men := (f l 5)) (present := (f 40 1)) (fewest := (f 165 0)) (tens := (f l 4)) (most0 := (f 165 4)) (mt0 := (f 168)) (ten0 := (f 167)) (best0 := (f 166)) (friendsOf := (f (l + 4))) (hl := (f 177 14)) (rr := (f 180)) (st := (f 182)) (room0 := (f 188)) (fewF := (f 177 39)) (put0 := (f 186)) (bestP0 := (f 187)) hL hN hS hh hPf hM5 (fun h => (hz h).1)
  rw [hY, hZ] at hp
  obtain ⟨ha, hw⟩ := hp
  have w1 : f1 0 12 = Y.2.1 := by rw [← ef1]; exact mr_X11_newTen_f0 hl
  have w2 : f2 177 11 = Z.2.2.1 := by rw [← ef2]; exact mr_X12_newTen_f1 
  have w4 : ¬ (D_X11_newTen x0 (f l 5) (f 40 1) (f 165 0) (f l 4) (f 165 4) (f 168) (f 167) (f 166) (f (l + 4))).2.1 = 4 := w_newTen
  rw [hY] at w4
  have w3 : f2 0 12 = Y.2.1 := (congrFun (kb2 0 (by decide)) 12).trans w1
  refine ⟨Y.1, f1, g, p, f2, g, k1, ?_, ⟨l, r, M, A, I, TP, n, Inv_keep hII (kp_tr kk kk2) kq (by rw [w3, w2]; exact hw) (fun h => absurd (w3.symm.trans h) w4)⟩, hT1, ka am_SC (by decide), kp_row (kp_tr kk kk2) (fun k h => absurd (scr_l hl h) (by decide))⟩
  rw [ha]; exact k2
theorem q_friendsNow {f : Nat → Nat → Int32} {g : Nat → Nat → Int64} {p : Nat → Nat → Option Nat} {d : Nat → Nat × Nat} {e : Nat × Nat} (hI0 : Inv f p) (hT : am_T0 p d) : Run2 Value.int f g p d e 148 280 [] := by
  obtain ⟨l, r, M, A, I, TP, n, hI⟩ := hI0
  have hII := hI
  obtain ⟨hlr, p03, p40, p23, psl, pim, hL, hM5, hP6, hN, hS, hh, hz, hH, hE, hPf, hsy, ⟨q, hq, hsd⟩, hHi, hTP, hA, hUn, hsA, hIm, hI4, hI21, hsI, hn, ht1, ht2, hTp, hfa, hwh, hpl⟩ := hI
  have hl : l = 5 ∨ l = 23 := by omega
  obtain ⟨T, hT3, hT4⟩ : ∃ T, T ≤ 3 ∧ f l 4 = nI T := by obtain ⟨T, a, b⟩ := hL.2.2.2.2.2.2.2.2.2.2.2.2.2.1; exact ⟨T, a, hL.h4.trans b⟩
  obtain ⟨Y, hY⟩ : ∃ Y, D_X11_friendsNow (f l 4) (f 40 1) (f 41) (f (l + 4)) = Y := ⟨_, rfl⟩
  have k1 := k_X11_friendsNow (f := f) (g := g) (p := p) (d := d) (e := e) l (f l 4) (f 0 12) (f 40 1) (f 41) (f (l + 4)) hT hl p03 rfl rfl rfl rfl p40 rfl Y hY
  obtain ⟨f1, ef1⟩ : ∃ z, mf_X11_friendsNow f Y.2 = z := ⟨_, rfl⟩
  obtain ⟨g1, eg1⟩ : ∃ z, g = z := ⟨_, rfl⟩
  obtain ⟨p1, ep1⟩ : ∃ z, p = z := ⟨_, rfl⟩
  rw [ef1] at k1
  have kk : Keeps l f f1 := by rw [← ef1]; unfold mf_X11_friendsNow; exact (kp_u (Or.inl ⟨rfl, rfl⟩) kp_rfl)
  have ka : KeA f f1 := by rw [← ef1]; unfold mf_X11_friendsNow; exact (ka_u (by decide) ka_rfl)
  have kq : KeP p p1 := by rw [← ep1]; exact kq_rfl
  have hT1 : am_T0 p1 d := by rw [← ep1]; exact hT
  subst eg1
  subst ep1
  obtain ⟨Z, hZ⟩ : ∃ Z, D_X12_friendsNow (f 177 14) (f 180) (f 182) = Z := ⟨_, rfl⟩
  have k2 := k_X12_friendsNow (f := f1) (g := g) (p := p) (d := d) (e := e) (f 177 0) (f 177 11) (f 177 14) (f 180) (f 182) hT1 (congrFun (ka 177 (by decide)) 0) (congrFun (ka 177 (by decide)) 11) (congrFun (ka 177 (by decide)) 14) (ka 180 (by decide)) (ka 182 (by decide)) (gr_friendsNow hL.M8 hL.r5) Z hZ
  obtain ⟨f2, ef2⟩ : ∃ z, mf_X12_friendsNow f1 Z.2.1 Z.2.2 = z := ⟨_, rfl⟩
  obtain ⟨g2, eg2⟩ : ∃ z, g = z := ⟨_, rfl⟩
  rw [ef2] at k2
  have kk2 : Keeps l f1 f2 := by rw [← ef2]; unfold mf_X12_friendsNow; exact (kp_u (Or.inr (Or.inr (Or.inr (Or.inr (Or.inr (Or.inl ⟨rfl, by decide, by decide, by decide, by decide, by decide, by decide⟩)))))) (kp_u (Or.inr (Or.inr (Or.inr (Or.inr (Or.inr (Or.inl ⟨rfl, by decide, by decide, by decide, by decide, by decide, by decide⟩)))))) kp_rfl))
  have kb2 : KeB f1 f2 := by rw [← ef2]; unfold mf_X12_friendsNow; exact (kb_u (by decide) (kb_u (by decide) kb_rfl))
  have hp := pub_friendsNow (tens := (f l 4)) (present := (f 40 1)) (tenOf := (f 41)) (friendsOf := (f (l + 4))) (hl := (f 177 14)) (rr := (f 180)) (st := (f 182)) hL hN hS hh hsy
  rw [hY, hZ] at hp
  have ha : Y.1 = Z.1 := congrArg (fun z => z.1) hp
  have hw : Y.2 = Z.2.2 := congrArg (fun z => z.2) hp
  have w1 : f1 0 12 = Y.2 := by rw [← ef1]; exact mr_X11_friendsNow_f0 hl
  have w2 : f2 177 11 = Z.2.2 := by rw [← ef2]; exact mr_X12_friendsNow_f1 
  have w4 : ¬ (D_X11_friendsNow (f l 4) (f 40 1) (f 41) (f (l + 4))).2 = 4 := w_friendsNow
  rw [hY] at w4
  have w3 : f2 0 12 = Y.2 := (congrFun (kb2 0 (by decide)) 12).trans w1
  refine ⟨Y.1, f1, g, p, f2, g, k1, ?_, ⟨l, r, M, A, I, TP, n, Inv_keep hII (kp_tr kk kk2) kq (by rw [w3, w2]; exact hw) (fun h => absurd (w3.symm.trans h) w4)⟩, hT1, ka am_SC (by decide), kp_row (kp_tr kk kk2) (fun k h => absurd (scr_l hl h) (by decide))⟩
  rw [ha]; exact k2
theorem q_doubt {f : Nat → Nat → Int32} {g : Nat → Nat → Int64} {p : Nat → Nat → Option Nat} {d : Nat → Nat × Nat} {e : Nat × Nat} {x0 : Int32} (hI0 : Inv f p) (hT : am_T0 p d) : Run2 Value.long f g p d e 150 287 [.int x0] := by
  obtain ⟨l, r, M, A, I, TP, n, hI⟩ := hI0
  have hII := hI
  obtain ⟨hlr, p03, p40, p23, psl, pim, hL, hM5, hP6, hN, hS, hh, hz, hH, hE, hPf, hsy, ⟨q, hq, hsd⟩, hHi, hTP, hA, hUn, hsA, hIm, hI4, hI21, hsI, hn, ht1, ht2, hTp, hfa, hwh, hpl⟩ := hI
  have hl : l = 5 ∨ l = 23 := by omega
  obtain ⟨T, hT3, hT4⟩ : ∃ T, T ≤ 3 ∧ f l 4 = nI T := by obtain ⟨T, a, b⟩ := hL.2.2.2.2.2.2.2.2.2.2.2.2.2.1; exact ⟨T, a, hL.h4.trans b⟩
  obtain ⟨Y, hY⟩ : ∃ Y, D_X11_doubt x0 (f l 4) (f (l + 7) 0) (g (l + 10) 0) (g (l + 10) 1) (g (l + 11) 0) (g (l + 11) 1) (f (l + 7) 10) (f (l + 7) 1) (f (l + 7) 11) (f (l + 7) 12) (f (l + 7) 4) (f (l + 8)) (f (l + 9)) (f (l + 7) 3) (f (l + 7) 2) (g 176 0) (g 176 1) = Y := ⟨_, rfl⟩
  have k1 := k_X11_doubt (f := f) (g := g) (p := p) (d := d) (e := e) l x0 (f l 4) (f (l + 7) 0) (f 0 12) (g (l + 10) 0) (g (l + 10) 1) (g (l + 11) 0) (g (l + 11) 1) (f (l + 7) 10) (f (l + 7) 1) (f (l + 7) 11) (f (l + 7) 12) (f (l + 7) 4) (f (l + 8)) (f (l + 9)) (f (l + 7) 3) (f (l + 7) 2) (g 176 0) (g 176 1) hT hl p03 rfl rfl rfl rfl rfl rfl rfl rfl rfl rfl rfl rfl rfl rfl rfl rfl rfl rfl (gc_doubt hH) Y hY
  obtain ⟨f1, ef1⟩ : ∃ z, mf_X11_doubt f l Y.2.1 Y.2.2.1 Y.2.2.2.1 Y.2.2.2.2.1 = z := ⟨_, rfl⟩
  obtain ⟨g1, eg1⟩ : ∃ z, mg_X11_doubt g l Y.2.2.2.2.2.1 Y.2.2.2.2.2.2.1 Y.2.2.2.2.2.2.2.1 Y.2.2.2.2.2.2.2.2.1 Y.2.2.2.2.2.2.2.2.2.1 Y.2.2.2.2.2.2.2.2.2.2 = z := ⟨_, rfl⟩
  obtain ⟨p1, ep1⟩ : ∃ z, p = z := ⟨_, rfl⟩
  rw [ef1, eg1] at k1
  have kk : Keeps l f f1 := by rw [← ef1]; unfold mf_X11_doubt; exact (kp_u (Or.inr (Or.inl ⟨rfl, by decide⟩)) (kp_u (Or.inr (Or.inl ⟨rfl, by decide⟩)) (kp_u (Or.inr (Or.inl ⟨rfl, by decide⟩)) (kp_u (Or.inl ⟨rfl, rfl⟩) kp_rfl))))
  have ka : KeA f f1 := by rw [← ef1]; unfold mf_X11_doubt; exact (ka_u (by omega) (ka_u (by omega) (ka_u (by omega) (ka_u (by decide) ka_rfl))))
  have kq : KeP p p1 := by rw [← ep1]; exact kq_rfl
  have hT1 : am_T0 p1 d := by rw [← ep1]; exact hT
  subst ep1
  obtain ⟨Z, hZ⟩ : ∃ Z, D_X12_doubt x0 (f 177 14) (f 180) (g1 177 40) (g1 177 41) (g1 177 42) (g1 177 43) (f 177 44) (f 177 45) (f 177 46) (f 177 47) (f 177 48) = Z := ⟨_, rfl⟩
  have k2 := k_X12_doubt (f := f1) (g := g1) (p := p) (d := d) (e := e) x0 (f 177 0) (f 177 11) (f 177 14) (f 180) (g1 177 40) (g1 177 41) (g1 177 42) (g1 177 43) (f 177 44) (f 177 45) (f 177 46) (f 177 47) (f 177 48) hT1 (congrFun (ka 177 (by decide)) 0) (congrFun (ka 177 (by decide)) 11) (congrFun (ka 177 (by decide)) 14) (ka 180 (by decide)) rfl rfl rfl rfl (congrFun (ka 177 (by decide)) 44) (congrFun (ka 177 (by decide)) 45) (congrFun (ka 177 (by decide)) 46) (congrFun (ka 177 (by decide)) 47) (congrFun (ka 177 (by decide)) 48) (gr_doubt hh hH) Z hZ
  obtain ⟨f2, ef2⟩ : ∃ z, mf_X12_doubt f1 Z.2.1 Z.2.2.1 Z.2.2.2.1 Z.2.2.2.2.1 Z.2.2.2.2.2.1 Z.2.2.2.2.2.2.1 Z.2.2.2.2.2.2.2.1 = z := ⟨_, rfl⟩
  obtain ⟨g2, eg2⟩ : ∃ z, mg_X12_doubt g1 Z.2.2.2.2.2.2.2.2.1 Z.2.2.2.2.2.2.2.2.2.1 Z.2.2.2.2.2.2.2.2.2.2.1 Z.2.2.2.2.2.2.2.2.2.2.2 = z := ⟨_, rfl⟩
  rw [ef2, eg2] at k2
  have kk2 : Keeps l f1 f2 := by rw [← ef2]; unfold mf_X12_doubt; exact (kp_u (Or.inr (Or.inr (Or.inr (Or.inr (Or.inr (Or.inl ⟨rfl, by decide, by decide, by decide, by decide, by decide, by decide⟩)))))) (kp_u (Or.inr (Or.inr (Or.inr (Or.inr (Or.inr (Or.inl ⟨rfl, by decide, by decide, by decide, by decide, by decide, by decide⟩)))))) (kp_u (Or.inr (Or.inr (Or.inr (Or.inr (Or.inr (Or.inl ⟨rfl, by decide, by decide, by decide, by decide, by decide, by decide⟩)))))) (kp_u (Or.inr (Or.inr (Or.inr (Or.inr (Or.inr (Or.inl ⟨rfl, by decide, by decide, by decide, by decide, by decide, by decide⟩)))))) (kp_u (Or.inr (Or.inr (Or.inr (Or.inr (Or.inr (Or.inl ⟨rfl, by decide, by decide, by decide, by decide, by decide, by decide⟩)))))) (kp_u (Or.inr (Or.inr (Or.inr (Or.inr (Or.inr (Or.inl ⟨rfl, by decide, by decide, by decide, by decide, by decide, by decide⟩)))))) (kp_u (Or.inr (Or.inr (Or.inr (Or.inr (Or.inr (Or.inl ⟨rfl, by decide, by decide, by decide, by decide, by decide, by decide⟩)))))) kp_rfl)))))))
  have kb2 : KeB f1 f2 := by rw [← ef2]; unfold mf_X12_doubt; exact (kb_u (by decide) (kb_u (by decide) (kb_u (by decide) (kb_u (by decide) (kb_u (by decide) (kb_u (by decide) (kb_u (by decide) kb_rfl)))))))
  have hp := pub_doubt (x0 := x0) (tens := (f l 4)) (beans := (f (l + 7) 0)) (u1 := (g (l + 10) 0)) (l1 := (g (l + 10) 1)) (u2 := (g (l + 11) 0)) (l2 := (g (l + 11) 1)) (bL := (f (l + 7) 10)) (black := (f (l + 7) 1)) (kL := (f (l + 7) 11)) (as_ := (f (l + 7) 12)) (draws := (f (l + 7) 4)) (drawer := (f (l + 8))) (wb := (f (l + 9))) (fav := (f (l + 7) 3)) (shaken := (f (l + 7) 2)) (u3 := (g 176 0)) (l3 := (g 176 1)) (hl := (f 177 14)) (rr := (f 180)) (hU0 := (g1 177 40)) (hD0 := (g1 177 41)) (sU0 := (g1 177 42)) (sD0 := (g1 177 43)) (bL2 := (f 177 44)) (kL2 := (f 177 45)) (pL := (f 177 46)) (pB := (f 177 47)) (iA := (f 177 48)) hh hH
  rw [hY, hZ] at hp
  obtain ⟨ha, hw⟩ := hp
  have w1 : f1 0 12 = Y.2.1 := by rw [← ef1]; exact mr_X11_doubt_f0 hl
  have w2 : f2 177 11 = Z.2.2.1 := by rw [← ef2]; exact mr_X12_doubt_f1 
  have w4 : ¬ (D_X11_doubt x0 (f l 4) (f (l + 7) 0) (g (l + 10) 0) (g (l + 10) 1) (g (l + 11) 0) (g (l + 11) 1) (f (l + 7) 10) (f (l + 7) 1) (f (l + 7) 11) (f (l + 7) 12) (f (l + 7) 4) (f (l + 8)) (f (l + 9)) (f (l + 7) 3) (f (l + 7) 2) (g 176 0) (g 176 1)).2.1 = 4 := w_doubt
  rw [hY] at w4
  have w3 : f2 0 12 = Y.2.1 := (congrFun (kb2 0 (by decide)) 12).trans w1
  refine ⟨Y.1, f1, g1, p, f2, g2, k1, ?_, ⟨l, r, M, A, I, TP, n, Inv_keep hII (kp_tr kk kk2) kq (by rw [w3, w2]; exact hw) (fun h => absurd (w3.symm.trans h) w4)⟩, hT1, ka am_SC (by decide), kp_row (kp_tr kk kk2) (fun k h => absurd (scr_l hl h) (by decide))⟩
  rw [ha]; exact k2
theorem q_next {f : Nat → Nat → Int32} {g : Nat → Nat → Int64} {p : Nat → Nat → Option Nat} {d : Nat → Nat × Nat} {e : Nat × Nat} {x0 x1 : Int32} (hI0 : Inv f p) (hT : am_T0 p d) : Run2 Value.long f g p d e 152 288 [.int x0, .int x1] := by
  obtain ⟨l, r, M, A, I, TP, n, hI⟩ := hI0
  have hII := hI
  obtain ⟨hlr, p03, p40, p23, psl, pim, hL, hM5, hP6, hN, hS, hh, hz, hH, hE, hPf, hsy, ⟨q, hq, hsd⟩, hHi, hTP, hA, hUn, hsA, hIm, hI4, hI21, hsI, hn, ht1, ht2, hTp, hfa, hwh, hpl⟩ := hI
  have hl : l = 5 ∨ l = 23 := by omega
  obtain ⟨T, hT3, hT4⟩ : ∃ T, T ≤ 3 ∧ f l 4 = nI T := by obtain ⟨T, a, b⟩ := hL.2.2.2.2.2.2.2.2.2.2.2.2.2.1; exact ⟨T, a, hL.h4.trans b⟩
  obtain ⟨Y, hY⟩ : ∃ Y, D_X11_next x0 x1 (f l 5) (f (l + 7) 4) (f (l + 8)) (f l 4) (f (l + 7) 0) (g (l + 10) 0) (g (l + 10) 1) (g (l + 11) 0) (g (l + 11) 1) (f (l + 7) 10) (f (l + 7) 1) (f (l + 7) 11) (f (l + 7) 12) (f (l + 9)) (f (l + 7) 3) (f (l + 7) 2) (g (l + 12) 0) (g (l + 12) 1) (g 176 0) (g 176 1) = Y := ⟨_, rfl⟩
  have k1 := k_X11_next (f := f) (g := g) (p := p) (d := d) (e := e) l x0 x1 (f l 5) (f (l + 7) 4) (f (l + 8)) (f l 4) (f (l + 7) 0) (f 0 12) (g (l + 10) 0) (g (l + 10) 1) (g (l + 11) 0) (g (l + 11) 1) (f (l + 7) 10) (f (l + 7) 1) (f (l + 7) 11) (f (l + 7) 12) (f (l + 9)) (f (l + 7) 3) (f (l + 7) 2) (g (l + 12) 0) (g (l + 12) 1) (g 176 0) (g 176 1) hT hl p03 rfl rfl rfl rfl rfl rfl rfl rfl rfl rfl rfl rfl rfl rfl rfl rfl rfl rfl rfl rfl rfl (gc_next hH) Y hY
  obtain ⟨f1, ef1⟩ : ∃ z, mf_X11_next f l Y.2.1 Y.2.2.1 Y.2.2.2.1 Y.2.2.2.2.1 = z := ⟨_, rfl⟩
  obtain ⟨g1, eg1⟩ : ∃ z, mg_X11_next g l Y.2.2.2.2.2.1 Y.2.2.2.2.2.2.1 Y.2.2.2.2.2.2.2.1 Y.2.2.2.2.2.2.2.2.1 Y.2.2.2.2.2.2.2.2.2.1 Y.2.2.2.2.2.2.2.2.2.2.1 Y.2.2.2.2.2.2.2.2.2.2.2.1 Y.2.2.2.2.2.2.2.2.2.2.2.2 = z := ⟨_, rfl⟩
  obtain ⟨p1, ep1⟩ : ∃ z, p = z := ⟨_, rfl⟩
  rw [ef1, eg1] at k1
  have kk : Keeps l f f1 := by rw [← ef1]; unfold mf_X11_next; exact (kp_u (Or.inr (Or.inl ⟨rfl, by decide⟩)) (kp_u (Or.inr (Or.inl ⟨rfl, by decide⟩)) (kp_u (Or.inr (Or.inl ⟨rfl, by decide⟩)) (kp_u (Or.inl ⟨rfl, rfl⟩) kp_rfl))))
  have ka : KeA f f1 := by rw [← ef1]; unfold mf_X11_next; exact (ka_u (by omega) (ka_u (by omega) (ka_u (by omega) (ka_u (by decide) ka_rfl))))
  have kq : KeP p p1 := by rw [← ep1]; exact kq_rfl
  have hT1 : am_T0 p1 d := by rw [← ep1]; exact hT
  subst ep1
  obtain ⟨Z, hZ⟩ : ∃ Z, D_X12_next x0 x1 (f 177 14) (f 180) (g1 177 40) (g1 177 41) (g1 177 42) (g1 177 43) (f 177 44) (f 177 45) (f 177 46) (f 177 47) (f 177 48) = Z := ⟨_, rfl⟩
  have k2 := k_X12_next (f := f1) (g := g1) (p := p) (d := d) (e := e) x0 x1 (f 177 0) (f 177 11) (f 177 14) (f 180) (g1 177 40) (g1 177 41) (g1 177 42) (g1 177 43) (f 177 44) (f 177 45) (f 177 46) (f 177 47) (f 177 48) hT1 (congrFun (ka 177 (by decide)) 0) (congrFun (ka 177 (by decide)) 11) (congrFun (ka 177 (by decide)) 14) (ka 180 (by decide)) rfl rfl rfl rfl (congrFun (ka 177 (by decide)) 44) (congrFun (ka 177 (by decide)) 45) (congrFun (ka 177 (by decide)) 46) (congrFun (ka 177 (by decide)) 47) (congrFun (ka 177 (by decide)) 48) (gr_next hh hL.M8 hL.r5 hM5 (fun h => (hz h).1) hH) Z hZ
  obtain ⟨f2, ef2⟩ : ∃ z, mf_X12_next f1 Z.2.1 Z.2.2.1 Z.2.2.2.1 Z.2.2.2.2.1 Z.2.2.2.2.2.1 Z.2.2.2.2.2.2.1 Z.2.2.2.2.2.2.2.1 = z := ⟨_, rfl⟩
  obtain ⟨g2, eg2⟩ : ∃ z, mg_X12_next g1 Z.2.2.2.2.2.2.2.2.1 Z.2.2.2.2.2.2.2.2.2.1 Z.2.2.2.2.2.2.2.2.2.2.1 Z.2.2.2.2.2.2.2.2.2.2.2 = z := ⟨_, rfl⟩
  rw [ef2, eg2] at k2
  have kk2 : Keeps l f1 f2 := by rw [← ef2]; unfold mf_X12_next; exact (kp_u (Or.inr (Or.inr (Or.inr (Or.inr (Or.inr (Or.inl ⟨rfl, by decide, by decide, by decide, by decide, by decide, by decide⟩)))))) (kp_u (Or.inr (Or.inr (Or.inr (Or.inr (Or.inr (Or.inl ⟨rfl, by decide, by decide, by decide, by decide, by decide, by decide⟩)))))) (kp_u (Or.inr (Or.inr (Or.inr (Or.inr (Or.inr (Or.inl ⟨rfl, by decide, by decide, by decide, by decide, by decide, by decide⟩)))))) (kp_u (Or.inr (Or.inr (Or.inr (Or.inr (Or.inr (Or.inl ⟨rfl, by decide, by decide, by decide, by decide, by decide, by decide⟩)))))) (kp_u (Or.inr (Or.inr (Or.inr (Or.inr (Or.inr (Or.inl ⟨rfl, by decide, by decide, by decide, by decide, by decide, by decide⟩)))))) (kp_u (Or.inr (Or.inr (Or.inr (Or.inr (Or.inr (Or.inl ⟨rfl, by decide, by decide, by decide, by decide, by decide, by decide⟩)))))) (kp_u (Or.inr (Or.inr (Or.inr (Or.inr (Or.inr (Or.inl ⟨rfl, by decide, by decide, by decide, by decide, by decide, by decide⟩)))))) kp_rfl)))))))
  have kb2 : KeB f1 f2 := by rw [← ef2]; unfold mf_X12_next; exact (kb_u (by decide) (kb_u (by decide) (kb_u (by decide) (kb_u (by decide) (kb_u (by decide) (kb_u (by decide) (kb_u (by decide) kb_rfl)))))))
  have hp := pub_next (x0 := x0) (x1 := x1) (men := (f l 5)) (draws := (f (l + 7) 4)) (drawer := (f (l + 8))) (tens := (f l 4)) (beans := (f (l + 7) 0)) (u1 := (g (l + 10) 0)) (l1 := (g (l + 10) 1)) (u2 := (g (l + 11) 0)) (l2 := (g (l + 11) 1)) (bL := (f (l + 7) 10)) (black := (f (l + 7) 1)) (kL := (f (l + 7) 11)) (as_ := (f (l + 7) 12)) (wb := (f (l + 9))) (fav := (f (l + 7) 3)) (shaken := (f (l + 7) 2)) (u3 := (g (l + 12) 0)) (l3 := (g (l + 12) 1)) (u4 := (g 176 0)) (l4 := (g 176 1)) (hl := (f 177 14)) (rr := (f 180)) (hU0 := (g1 177 40)) (hD0 := (g1 177 41)) (sU0 := (g1 177 42)) (sD0 := (g1 177 43)) (bL2 := (f 177 44)) (kL2 := (f 177 45)) (pL := (f 177 46)) (pB := (f 177 47)) (iA := (f 177 48)) hh hL.M8 hL.r5 hM5 (fun h => (hz h).1) hH
  rw [hY, hZ] at hp
  obtain ⟨ha, hw⟩ := hp
  have w1 : f1 0 12 = Y.2.1 := by rw [← ef1]; exact mr_X11_next_f0 hl
  have w2 : f2 177 11 = Z.2.2.1 := by rw [← ef2]; exact mr_X12_next_f1 
  have w4 : ¬ (D_X11_next x0 x1 (f l 5) (f (l + 7) 4) (f (l + 8)) (f l 4) (f (l + 7) 0) (g (l + 10) 0) (g (l + 10) 1) (g (l + 11) 0) (g (l + 11) 1) (f (l + 7) 10) (f (l + 7) 1) (f (l + 7) 11) (f (l + 7) 12) (f (l + 9)) (f (l + 7) 3) (f (l + 7) 2) (g (l + 12) 0) (g (l + 12) 1) (g 176 0) (g 176 1)).2.1 = 4 := w_next
  rw [hY] at w4
  have w3 : f2 0 12 = Y.2.1 := (congrFun (kb2 0 (by decide)) 12).trans w1
  refine ⟨Y.1, f1, g1, p, f2, g2, k1, ?_, ⟨l, r, M, A, I, TP, n, Inv_keep hII (kp_tr kk kk2) kq (by rw [w3, w2]; exact hw) (fun h => absurd (w3.symm.trans h) w4)⟩, hT1, ka am_SC (by decide), kp_row (kp_tr kk kk2) (fun k h => absurd (scr_l hl h) (by decide))⟩
  rw [ha]; exact k2
theorem q_doubtIf {f : Nat → Nat → Int32} {g : Nat → Nat → Int64} {p : Nat → Nat → Option Nat} {d : Nat → Nat × Nat} {e : Nat × Nat} {x0 x1 x2 : Int32} (hI0 : Inv f p) (hT : am_T0 p d) (hb1 : x1 = 0 ∨ x1 = 1) : Run2 Value.long f g p d e 153 289 [.int x0, .int x1, .int x2] := by
  obtain ⟨l, r, M, A, I, TP, n, hI⟩ := hI0
  have hII := hI
  obtain ⟨hlr, p03, p40, p23, psl, pim, hL, hM5, hP6, hN, hS, hh, hz, hH, hE, hPf, hsy, ⟨q, hq, hsd⟩, hHi, hTP, hA, hUn, hsA, hIm, hI4, hI21, hsI, hn, ht1, ht2, hTp, hfa, hwh, hpl⟩ := hI
  have hl : l = 5 ∨ l = 23 := by omega
  obtain ⟨T, hT3, hT4⟩ : ∃ T, T ≤ 3 ∧ f l 4 = nI T := by obtain ⟨T, a, b⟩ := hL.2.2.2.2.2.2.2.2.2.2.2.2.2.1; exact ⟨T, a, hL.h4.trans b⟩
  obtain ⟨Y, hY⟩ : ∃ Y, D_X11_doubtIf x0 x1 x2 (f l 5) (f (l + 7) 4) (f (l + 8)) (f l 4) (f (l + 7) 0) (g (l + 10) 0) (g (l + 10) 1) (g (l + 11) 0) (g (l + 11) 1) (f (l + 7) 10) (f (l + 7) 1) (f (l + 7) 11) (f (l + 7) 12) (f (l + 9)) (f (l + 7) 3) (f (l + 7) 2) (g 176 0) (g 176 1) = Y := ⟨_, rfl⟩
  have k1 := k_X11_doubtIf (f := f) (g := g) (p := p) (d := d) (e := e) l x0 x1 x2 (f l 5) (f (l + 7) 4) (f (l + 8)) (f l 4) (f (l + 7) 0) (f 0 12) (g (l + 10) 0) (g (l + 10) 1) (g (l + 11) 0) (g (l + 11) 1) (f (l + 7) 10) (f (l + 7) 1) (f (l + 7) 11) (f (l + 7) 12) (f (l + 9)) (f (l + 7) 3) (f (l + 7) 2) (g 176 0) (g 176 1) hT hl p03 rfl rfl rfl rfl rfl rfl rfl rfl rfl rfl rfl rfl rfl rfl rfl rfl rfl rfl rfl (gc_doubtIf hH) Y hY
  obtain ⟨f1, ef1⟩ : ∃ z, mf_X11_doubtIf f l Y.2.1 Y.2.2.1 Y.2.2.2.1 Y.2.2.2.2.1 = z := ⟨_, rfl⟩
  obtain ⟨g1, eg1⟩ : ∃ z, mg_X11_doubtIf g l Y.2.2.2.2.2.1 Y.2.2.2.2.2.2.1 Y.2.2.2.2.2.2.2.1 Y.2.2.2.2.2.2.2.2.1 Y.2.2.2.2.2.2.2.2.2.1 Y.2.2.2.2.2.2.2.2.2.2 = z := ⟨_, rfl⟩
  obtain ⟨p1, ep1⟩ : ∃ z, p = z := ⟨_, rfl⟩
  rw [ef1, eg1] at k1
  have kk : Keeps l f f1 := by rw [← ef1]; unfold mf_X11_doubtIf; exact (kp_u (Or.inr (Or.inl ⟨rfl, by decide⟩)) (kp_u (Or.inr (Or.inl ⟨rfl, by decide⟩)) (kp_u (Or.inr (Or.inl ⟨rfl, by decide⟩)) (kp_u (Or.inl ⟨rfl, rfl⟩) kp_rfl))))
  have ka : KeA f f1 := by rw [← ef1]; unfold mf_X11_doubtIf; exact (ka_u (by omega) (ka_u (by omega) (ka_u (by omega) (ka_u (by decide) ka_rfl))))
  have kq : KeP p p1 := by rw [← ep1]; exact kq_rfl
  have hT1 : am_T0 p1 d := by rw [← ep1]; exact hT
  subst ep1
  obtain ⟨Z, hZ⟩ : ∃ Z, D_X12_doubtIf x0 x1 x2 (f 177 14) (f 180) (g1 177 40) (g1 177 41) (g1 177 42) (g1 177 43) (f 177 44) (f 177 45) (f 177 46) (f 177 47) (f 177 48) = Z := ⟨_, rfl⟩
  have k2 := k_X12_doubtIf (f := f1) (g := g1) (p := p) (d := d) (e := e) x0 x1 x2 (f 177 0) (f 177 11) (f 177 14) (f 180) (g1 177 40) (g1 177 41) (g1 177 42) (g1 177 43) (f 177 44) (f 177 45) (f 177 46) (f 177 47) (f 177 48) hT1 (congrFun (ka 177 (by decide)) 0) (congrFun (ka 177 (by decide)) 11) (congrFun (ka 177 (by decide)) 14) (ka 180 (by decide)) rfl rfl rfl rfl (congrFun (ka 177 (by decide)) 44) (congrFun (ka 177 (by decide)) 45) (congrFun (ka 177 (by decide)) 46) (congrFun (ka 177 (by decide)) 47) (congrFun (ka 177 (by decide)) 48) (gr_doubtIf hh hL.M8 hL.r5 hM5 (fun h => (hz h).1) hb1 hH) Z hZ
  obtain ⟨f2, ef2⟩ : ∃ z, mf_X12_doubtIf f1 Z.2.1 Z.2.2.1 Z.2.2.2.1 Z.2.2.2.2.1 Z.2.2.2.2.2.1 Z.2.2.2.2.2.2.1 Z.2.2.2.2.2.2.2.1 = z := ⟨_, rfl⟩
  obtain ⟨g2, eg2⟩ : ∃ z, mg_X12_doubtIf g1 Z.2.2.2.2.2.2.2.2.1 Z.2.2.2.2.2.2.2.2.2.1 Z.2.2.2.2.2.2.2.2.2.2.1 Z.2.2.2.2.2.2.2.2.2.2.2 = z := ⟨_, rfl⟩
  rw [ef2, eg2] at k2
  have kk2 : Keeps l f1 f2 := by rw [← ef2]; unfold mf_X12_doubtIf; exact (kp_u (Or.inr (Or.inr (Or.inr (Or.inr (Or.inr (Or.inl ⟨rfl, by decide, by decide, by decide, by decide, by decide, by decide⟩)))))) (kp_u (Or.inr (Or.inr (Or.inr (Or.inr (Or.inr (Or.inl ⟨rfl, by decide, by decide, by decide, by decide, by decide, by decide⟩)))))) (kp_u (Or.inr (Or.inr (Or.inr (Or.inr (Or.inr (Or.inl ⟨rfl, by decide, by decide, by decide, by decide, by decide, by decide⟩)))))) (kp_u (Or.inr (Or.inr (Or.inr (Or.inr (Or.inr (Or.inl ⟨rfl, by decide, by decide, by decide, by decide, by decide, by decide⟩)))))) (kp_u (Or.inr (Or.inr (Or.inr (Or.inr (Or.inr (Or.inl ⟨rfl, by decide, by decide, by decide, by decide, by decide, by decide⟩)))))) (kp_u (Or.inr (Or.inr (Or.inr (Or.inr (Or.inr (Or.inl ⟨rfl, by decide, by decide, by decide, by decide, by decide, by decide⟩)))))) (kp_u (Or.inr (Or.inr (Or.inr (Or.inr (Or.inr (Or.inl ⟨rfl, by decide, by decide, by decide, by decide, by decide, by decide⟩)))))) kp_rfl)))))))
  have kb2 : KeB f1 f2 := by rw [← ef2]; unfold mf_X12_doubtIf; exact (kb_u (by decide) (kb_u (by decide) (kb_u (by decide) (kb_u (by decide) (kb_u (by decide) (kb_u (by decide) (kb_u (by decide) kb_rfl)))))))
  have hp := pub_doubtIf (x0 := x0) (x1 := x1) (x2 := x2) (men := (f l 5)) (draws := (f (l + 7) 4)) (drawer := (f (l + 8))) (tens := (f l 4)) (beans := (f (l + 7) 0)) (u1 := (g (l + 10) 0)) (l1 := (g (l + 10) 1)) (u2 := (g (l + 11) 0)) (l2 := (g (l + 11) 1)) (bL := (f (l + 7) 10)) (black := (f (l + 7) 1)) (kL := (f (l + 7) 11)) (as_ := (f (l + 7) 12)) (wb := (f (l + 9))) (fav := (f (l + 7) 3)) (shaken := (f (l + 7) 2)) (u3 := (g 176 0)) (l3 := (g 176 1)) (hl := (f 177 14)) (rr := (f 180)) (hU0 := (g1 177 40)) (hD0 := (g1 177 41)) (sU0 := (g1 177 42)) (sD0 := (g1 177 43)) (bL2 := (f 177 44)) (kL2 := (f 177 45)) (pL := (f 177 46)) (pB := (f 177 47)) (iA := (f 177 48)) hh hL.M8 hL.r5 hM5 (fun h => (hz h).1) hb1 hH
  rw [hY, hZ] at hp
  obtain ⟨ha, hw⟩ := hp
  have w1 : f1 0 12 = Y.2.1 := by rw [← ef1]; exact mr_X11_doubtIf_f0 hl
  have w2 : f2 177 11 = Z.2.2.1 := by rw [← ef2]; exact mr_X12_doubtIf_f1 
  have w4 : ¬ (D_X11_doubtIf x0 x1 x2 (f l 5) (f (l + 7) 4) (f (l + 8)) (f l 4) (f (l + 7) 0) (g (l + 10) 0) (g (l + 10) 1) (g (l + 11) 0) (g (l + 11) 1) (f (l + 7) 10) (f (l + 7) 1) (f (l + 7) 11) (f (l + 7) 12) (f (l + 9)) (f (l + 7) 3) (f (l + 7) 2) (g 176 0) (g 176 1)).2.1 = 4 := w_doubtIf
  rw [hY] at w4
  have w3 : f2 0 12 = Y.2.1 := (congrFun (kb2 0 (by decide)) 12).trans w1
  refine ⟨Y.1, f1, g1, p, f2, g2, k1, ?_, ⟨l, r, M, A, I, TP, n, Inv_keep hII (kp_tr kk kk2) kq (by rw [w3, w2]; exact hw) (fun h => absurd (w3.symm.trans h) w4)⟩, hT1, ka am_SC (by decide), kp_row (kp_tr kk kk2) (fun k h => absurd (scr_l hl h) (by decide))⟩
  rw [ha]; exact k2
theorem q_honest {f : Nat → Nat → Int32} {g : Nat → Nat → Int64} {p : Nat → Nat → Option Nat} {d : Nat → Nat × Nat} {e : Nat × Nat} {x0 : Int32} (hI0 : Inv f p) (hT : am_T0 p d) : Run2 Value.long f g p d e 154 290 [.int x0] := by
  obtain ⟨l, r, M, A, I, TP, n, hI⟩ := hI0
  have hII := hI
  obtain ⟨hlr, p03, p40, p23, psl, pim, hL, hM5, hP6, hN, hS, hh, hz, hH, hE, hPf, hsy, ⟨q, hq, hsd⟩, hHi, hTP, hA, hUn, hsA, hIm, hI4, hI21, hsI, hn, ht1, ht2, hTp, hfa, hwh, hpl⟩ := hI
  have hl : l = 5 ∨ l = 23 := by omega
  obtain ⟨T, hT3, hT4⟩ : ∃ T, T ≤ 3 ∧ f l 4 = nI T := by obtain ⟨T, a, b⟩ := hL.2.2.2.2.2.2.2.2.2.2.2.2.2.1; exact ⟨T, a, hL.h4.trans b⟩
  obtain ⟨Y, hY⟩ : ∃ Y, D_X11_honest x0 (f l 4) (f (l + 7) 0) (g (l + 10) 0) (g (l + 10) 1) (g (l + 11) 0) (g (l + 11) 1) (f (l + 7) 10) (f (l + 7) 1) (f (l + 7) 11) (f (l + 7) 12) (f (l + 7) 4) (f (l + 8)) (f (l + 9)) (f (l + 7) 3) = Y := ⟨_, rfl⟩
  have k1 := k_X11_honest (f := f) (g := g) (p := p) (d := d) (e := e) l x0 (f l 4) (f (l + 7) 0) (f 0 12) (g (l + 10) 0) (g (l + 10) 1) (g (l + 11) 0) (g (l + 11) 1) (f (l + 7) 10) (f (l + 7) 1) (f (l + 7) 11) (f (l + 7) 12) (f (l + 7) 4) (f (l + 8)) (f (l + 9)) (f (l + 7) 3) hT hl p03 rfl rfl rfl rfl rfl rfl rfl rfl rfl rfl rfl rfl rfl rfl rfl (gc_honest hH) Y hY
  obtain ⟨f1, ef1⟩ : ∃ z, mf_X11_honest f l Y.2.1 Y.2.2.1 Y.2.2.2.1 Y.2.2.2.2.1 = z := ⟨_, rfl⟩
  obtain ⟨g1, eg1⟩ : ∃ z, mg_X11_honest g l Y.2.2.2.2.2.1 Y.2.2.2.2.2.2.1 Y.2.2.2.2.2.2.2.1 Y.2.2.2.2.2.2.2.2 = z := ⟨_, rfl⟩
  obtain ⟨p1, ep1⟩ : ∃ z, p = z := ⟨_, rfl⟩
  rw [ef1, eg1] at k1
  have kk : Keeps l f f1 := by rw [← ef1]; unfold mf_X11_honest; exact (kp_u (Or.inr (Or.inl ⟨rfl, by decide⟩)) (kp_u (Or.inr (Or.inl ⟨rfl, by decide⟩)) (kp_u (Or.inr (Or.inl ⟨rfl, by decide⟩)) (kp_u (Or.inl ⟨rfl, rfl⟩) kp_rfl))))
  have ka : KeA f f1 := by rw [← ef1]; unfold mf_X11_honest; exact (ka_u (by omega) (ka_u (by omega) (ka_u (by omega) (ka_u (by decide) ka_rfl))))
  have kq : KeP p p1 := by rw [← ep1]; exact kq_rfl
  have hT1 : am_T0 p1 d := by rw [← ep1]; exact hT
  subst ep1
  obtain ⟨Z, hZ⟩ : ∃ Z, D_X12_honest x0 (f 177 14) (f 180) (g1 177 40) (g1 177 41) (g1 177 42) (g1 177 43) (f 177 44) (f 177 45) (f 177 46) (f 177 47) (f 177 48) = Z := ⟨_, rfl⟩
  have k2 := k_X12_honest (f := f1) (g := g1) (p := p) (d := d) (e := e) x0 (f 177 0) (f 177 11) (f 177 14) (f 180) (g1 177 40) (g1 177 41) (g1 177 42) (g1 177 43) (f 177 44) (f 177 45) (f 177 46) (f 177 47) (f 177 48) hT1 (congrFun (ka 177 (by decide)) 0) (congrFun (ka 177 (by decide)) 11) (congrFun (ka 177 (by decide)) 14) (ka 180 (by decide)) rfl rfl rfl rfl (congrFun (ka 177 (by decide)) 44) (congrFun (ka 177 (by decide)) 45) (congrFun (ka 177 (by decide)) 46) (congrFun (ka 177 (by decide)) 47) (congrFun (ka 177 (by decide)) 48) (gr_honest hh hH) Z hZ
  obtain ⟨f2, ef2⟩ : ∃ z, mf_X12_honest f1 Z.2.1 Z.2.2.1 Z.2.2.2.1 Z.2.2.2.2.1 Z.2.2.2.2.2.1 Z.2.2.2.2.2.2.1 Z.2.2.2.2.2.2.2.1 = z := ⟨_, rfl⟩
  obtain ⟨g2, eg2⟩ : ∃ z, mg_X12_honest g1 Z.2.2.2.2.2.2.2.2.1 Z.2.2.2.2.2.2.2.2.2.1 Z.2.2.2.2.2.2.2.2.2.2.1 Z.2.2.2.2.2.2.2.2.2.2.2 = z := ⟨_, rfl⟩
  rw [ef2, eg2] at k2
  have kk2 : Keeps l f1 f2 := by rw [← ef2]; unfold mf_X12_honest; exact (kp_u (Or.inr (Or.inr (Or.inr (Or.inr (Or.inr (Or.inl ⟨rfl, by decide, by decide, by decide, by decide, by decide, by decide⟩)))))) (kp_u (Or.inr (Or.inr (Or.inr (Or.inr (Or.inr (Or.inl ⟨rfl, by decide, by decide, by decide, by decide, by decide, by decide⟩)))))) (kp_u (Or.inr (Or.inr (Or.inr (Or.inr (Or.inr (Or.inl ⟨rfl, by decide, by decide, by decide, by decide, by decide, by decide⟩)))))) (kp_u (Or.inr (Or.inr (Or.inr (Or.inr (Or.inr (Or.inl ⟨rfl, by decide, by decide, by decide, by decide, by decide, by decide⟩)))))) (kp_u (Or.inr (Or.inr (Or.inr (Or.inr (Or.inr (Or.inl ⟨rfl, by decide, by decide, by decide, by decide, by decide, by decide⟩)))))) (kp_u (Or.inr (Or.inr (Or.inr (Or.inr (Or.inr (Or.inl ⟨rfl, by decide, by decide, by decide, by decide, by decide, by decide⟩)))))) (kp_u (Or.inr (Or.inr (Or.inr (Or.inr (Or.inr (Or.inl ⟨rfl, by decide, by decide, by decide, by decide, by decide, by decide⟩)))))) kp_rfl)))))))
  have kb2 : KeB f1 f2 := by rw [← ef2]; unfold mf_X12_honest; exact (kb_u (by decide) (kb_u (by decide) (kb_u (by decide) (kb_u (by decide) (kb_u (by decide) (kb_u (by decide) (kb_u (by decide) kb_rfl)))))))
  have hp := pub_honest (x0 := x0) (tens := (f l 4)) (beans := (f (l + 7) 0)) (u1 := (g (l + 10) 0)) (l1 := (g (l + 10) 1)) (u2 := (g (l + 11) 0)) (l2 := (g (l + 11) 1)) (bL := (f (l + 7) 10)) (black := (f (l + 7) 1)) (kL := (f (l + 7) 11)) (as_ := (f (l + 7) 12)) (draws := (f (l + 7) 4)) (drawer := (f (l + 8))) (wb := (f (l + 9))) (fav := (f (l + 7) 3)) (hl := (f 177 14)) (rr := (f 180)) (hU0 := (g1 177 40)) (hD0 := (g1 177 41)) (sU0 := (g1 177 42)) (sD0 := (g1 177 43)) (bL2 := (f 177 44)) (kL2 := (f 177 45)) (pL := (f 177 46)) (pB := (f 177 47)) (iA := (f 177 48)) hh hH
  rw [hY, hZ] at hp
  obtain ⟨ha, hw⟩ := hp
  have w1 : f1 0 12 = Y.2.1 := by rw [← ef1]; exact mr_X11_honest_f0 hl
  have w2 : f2 177 11 = Z.2.2.1 := by rw [← ef2]; exact mr_X12_honest_f1 
  have w4 : ¬ (D_X11_honest x0 (f l 4) (f (l + 7) 0) (g (l + 10) 0) (g (l + 10) 1) (g (l + 11) 0) (g (l + 11) 1) (f (l + 7) 10) (f (l + 7) 1) (f (l + 7) 11) (f (l + 7) 12) (f (l + 7) 4) (f (l + 8)) (f (l + 9)) (f (l + 7) 3)).2.1 = 4 := w_honest
  rw [hY] at w4
  have w3 : f2 0 12 = Y.2.1 := (congrFun (kb2 0 (by decide)) 12).trans w1
  refine ⟨Y.1, f1, g1, p, f2, g2, k1, ?_, ⟨l, r, M, A, I, TP, n, Inv_keep hII (kp_tr kk kk2) kq (by rw [w3, w2]; exact hw) (fun h => absurd (w3.symm.trans h) w4)⟩, hT1, ka am_SC (by decide), kp_row (kp_tr kk kk2) (fun k h => absurd (scr_l hl h) (by decide))⟩
  rw [ha]; exact k2
theorem q_gone {f : Nat → Nat → Int32} {g : Nat → Nat → Int64} {p : Nat → Nat → Option Nat} {d : Nat → Nat × Nat} {e : Nat × Nat} (hI0 : Inv f p) (hT : am_T0 p d) : Run2 Value.int f g p d e 156 294 [] := by
  obtain ⟨l, r, M, A, I, TP, n, hI⟩ := hI0
  have hII := hI
  obtain ⟨hlr, p03, p40, p23, psl, pim, hL, hM5, hP6, hN, hS, hh, hz, hH, hE, hPf, hsy, ⟨q, hq, hsd⟩, hHi, hTP, hA, hUn, hsA, hIm, hI4, hI21, hsI, hn, ht1, ht2, hTp, hfa, hwh, hpl⟩ := hI
  have hl : l = 5 ∨ l = 23 := by omega
  obtain ⟨T, hT3, hT4⟩ : ∃ T, T ≤ 3 ∧ f l 4 = nI T := by obtain ⟨T, a, b⟩ := hL.2.2.2.2.2.2.2.2.2.2.2.2.2.1; exact ⟨T, a, hL.h4.trans b⟩
  obtain ⟨Y, hY⟩ : ∃ Y, D_X11_gone (f l 4) (f (l + 13) 0) (f l 5) (f (l + 13) 2) (f (l + 13) 3) (f (l + 14)) (f (l + 13) 1) (f (l + 15)) (f (l + 16)) = Y := ⟨_, rfl⟩
  have k1 := k_X11_gone (f := f) (g := g) (p := p) (d := d) (e := e) l (f l 4) (f (l + 13) 0) (f 0 12) (f l 5) (f (l + 13) 2) (f (l + 13) 3) (f (l + 14)) (f (l + 13) 1) (f (l + 15)) (f (l + 16)) hT hl p03 rfl rfl rfl rfl rfl rfl rfl rfl rfl rfl (gc_gone hE) Y hY
  obtain ⟨f1, ef1⟩ : ∃ z, mf_X11_gone f l Y.2.1 Y.2.2.1 Y.2.2.2.1 Y.2.2.2.2 = z := ⟨_, rfl⟩
  obtain ⟨g1, eg1⟩ : ∃ z, g = z := ⟨_, rfl⟩
  obtain ⟨p1, ep1⟩ : ∃ z, p = z := ⟨_, rfl⟩
  rw [ef1] at k1
  have kk : Keeps l f f1 := by rw [← ef1]; unfold mf_X11_gone; exact (kp_v (fun _ => Or.inr (Or.inr (Or.inr (Or.inl rfl)))) (kp_u (Or.inr (Or.inr (Or.inl ⟨rfl, by decide⟩))) (kp_u (Or.inr (Or.inr (Or.inl ⟨rfl, by decide⟩))) (kp_u (Or.inl ⟨rfl, rfl⟩) kp_rfl))))
  have ka : KeA f f1 := by rw [← ef1]; unfold mf_X11_gone; exact (ka_v (by omega) (ka_u (by omega) (ka_u (by omega) (ka_u (by decide) ka_rfl))))
  have kq : KeP p p1 := by rw [← ep1]; exact kq_rfl
  have hT1 : am_T0 p1 d := by rw [← ep1]; exact hT
  subst eg1
  subst ep1
  obtain ⟨Z, hZ⟩ : ∃ Z, D_X12_gone (f 177 14) (f 180) = Z := ⟨_, rfl⟩
  have k2 := k_X12_gone (f := f1) (g := g) (p := p) (d := d) (e := e) (f 177 0) (f 177 11) (f 177 14) (f 180) hT1 (congrFun (ka 177 (by decide)) 0) (congrFun (ka 177 (by decide)) 11) (congrFun (ka 177 (by decide)) 14) (ka 180 (by decide)) (gr_gone hL.M8 hL.r5 hE) Z hZ
  obtain ⟨f2, ef2⟩ : ∃ z, mf_X12_gone f1 Z.2.1 Z.2.2 = z := ⟨_, rfl⟩
  obtain ⟨g2, eg2⟩ : ∃ z, g = z := ⟨_, rfl⟩
  rw [ef2] at k2
  have kk2 : Keeps l f1 f2 := by rw [← ef2]; unfold mf_X12_gone; exact (kp_u (Or.inr (Or.inr (Or.inr (Or.inr (Or.inr (Or.inl ⟨rfl, by decide, by decide, by decide, by decide, by decide, by decide⟩)))))) (kp_u (Or.inr (Or.inr (Or.inr (Or.inr (Or.inr (Or.inl ⟨rfl, by decide, by decide, by decide, by decide, by decide, by decide⟩)))))) kp_rfl))
  have kb2 : KeB f1 f2 := by rw [← ef2]; unfold mf_X12_gone; exact (kb_u (by decide) (kb_u (by decide) kb_rfl))
  have hp := pub_gone (tens := (f l 4)) (goneTold := (f (l + 13) 0)) (men := (f l 5)) (fitting := (f (l + 13) 2)) (inAll := (f (l + 13) 3)) (with_ := (f (l + 14))) (amongs := (f (l + 13) 1)) (pair := (f (l + 15))) (ofPair := (f (l + 16))) (hl := (f 177 14)) (rr := (f 180)) hL.M8 hL.r5 hM5 hh hE
  rw [hY, hZ] at hp
  obtain ⟨ha, hw⟩ := hp
  have w1 : f1 0 12 = Y.2.1 := by rw [← ef1]; exact mr_X11_gone_f0 hl
  have w2 : f2 177 11 = Z.2.2 := by rw [← ef2]; exact mr_X12_gone_f1 
  have w4 : ¬ (D_X11_gone (f l 4) (f (l + 13) 0) (f l 5) (f (l + 13) 2) (f (l + 13) 3) (f (l + 14)) (f (l + 13) 1) (f (l + 15)) (f (l + 16))).2.1 = 4 := w_gone
  rw [hY] at w4
  have w3 : f2 0 12 = Y.2.1 := (congrFun (kb2 0 (by decide)) 12).trans w1
  refine ⟨Y.1, f1, g, p, f2, g, k1, ?_, ⟨l, r, M, A, I, TP, n, Inv_keep hII (kp_tr kk kk2) kq (by rw [w3, w2]; exact hw) (fun h => absurd (w3.symm.trans h) w4)⟩, hT1, ka am_SC (by decide), kp_row (kp_tr kk kk2) (fun k h => absurd (scr_l hl h) (by decide))⟩
  rw [ha]; exact k2
theorem q_goneAt {f : Nat → Nat → Int32} {g : Nat → Nat → Int64} {p : Nat → Nat → Option Nat} {d : Nat → Nat × Nat} {e : Nat × Nat} {x0 : Int32} (hI0 : Inv f p) (hT : am_T0 p d) : Run2 Value.int f g p d e 157 295 [.int x0] := by
  obtain ⟨l, r, M, A, I, TP, n, hI⟩ := hI0
  have hII := hI
  obtain ⟨hlr, p03, p40, p23, psl, pim, hL, hM5, hP6, hN, hS, hh, hz, hH, hE, hPf, hsy, ⟨q, hq, hsd⟩, hHi, hTP, hA, hUn, hsA, hIm, hI4, hI21, hsI, hn, ht1, ht2, hTp, hfa, hwh, hpl⟩ := hI
  have hl : l = 5 ∨ l = 23 := by omega
  obtain ⟨T, hT3, hT4⟩ : ∃ T, T ≤ 3 ∧ f l 4 = nI T := by obtain ⟨T, a, b⟩ := hL.2.2.2.2.2.2.2.2.2.2.2.2.2.1; exact ⟨T, a, hL.h4.trans b⟩
  obtain ⟨Y, hY⟩ : ∃ Y, D_X11_goneAt x0 (f l 4) (f (l + 13) 0) (f l 5) (f (l + 13) 1) (f (l + 15)) (f (l + 16)) = Y := ⟨_, rfl⟩
  have k1 := k_X11_goneAt (f := f) (g := g) (p := p) (d := d) (e := e) l x0 (f l 4) (f (l + 13) 0) (f 0 12) (f l 5) (f (l + 13) 1) (f (l + 15)) (f (l + 16)) hT hl p03 rfl rfl rfl rfl rfl rfl rfl (gc_goneAt hE) Y hY
  obtain ⟨f1, ef1⟩ : ∃ z, mf_X11_goneAt f Y.2 = z := ⟨_, rfl⟩
  obtain ⟨g1, eg1⟩ : ∃ z, g = z := ⟨_, rfl⟩
  obtain ⟨p1, ep1⟩ : ∃ z, p = z := ⟨_, rfl⟩
  rw [ef1] at k1
  have kk : Keeps l f f1 := by rw [← ef1]; unfold mf_X11_goneAt; exact (kp_u (Or.inl ⟨rfl, rfl⟩) kp_rfl)
  have ka : KeA f f1 := by rw [← ef1]; unfold mf_X11_goneAt; exact (ka_u (by decide) ka_rfl)
  have kq : KeP p p1 := by rw [← ep1]; exact kq_rfl
  have hT1 : am_T0 p1 d := by rw [← ep1]; exact hT
  subst eg1
  subst ep1
  obtain ⟨Z, hZ⟩ : ∃ Z, D_X12_goneAt x0 (f 177 14) (f 180) = Z := ⟨_, rfl⟩
  have k2 := k_X12_goneAt (f := f1) (g := g) (p := p) (d := d) (e := e) x0 (f 177 0) (f 177 11) (f 177 14) (f 180) hT1 (congrFun (ka 177 (by decide)) 0) (congrFun (ka 177 (by decide)) 11) (congrFun (ka 177 (by decide)) 14) (ka 180 (by decide)) (gr_goneAt hL.M8 hL.r5 hE) Z hZ
  obtain ⟨f2, ef2⟩ : ∃ z, mf_X12_goneAt f1 Z.2.1 Z.2.2 = z := ⟨_, rfl⟩
  obtain ⟨g2, eg2⟩ : ∃ z, g = z := ⟨_, rfl⟩
  rw [ef2] at k2
  have kk2 : Keeps l f1 f2 := by rw [← ef2]; unfold mf_X12_goneAt; exact (kp_u (Or.inr (Or.inr (Or.inr (Or.inr (Or.inr (Or.inl ⟨rfl, by decide, by decide, by decide, by decide, by decide, by decide⟩)))))) (kp_u (Or.inr (Or.inr (Or.inr (Or.inr (Or.inr (Or.inl ⟨rfl, by decide, by decide, by decide, by decide, by decide, by decide⟩)))))) kp_rfl))
  have kb2 : KeB f1 f2 := by rw [← ef2]; unfold mf_X12_goneAt; exact (kb_u (by decide) (kb_u (by decide) kb_rfl))
  have hp := pub_goneAt (x0 := x0) (tens := (f l 4)) (goneTold := (f (l + 13) 0)) (men := (f l 5)) (amongs := (f (l + 13) 1)) (pair := (f (l + 15))) (ofPair := (f (l + 16))) (hl := (f 177 14)) (rr := (f 180)) hL.M8 hL.r5 hM5 hh hE
  rw [hY, hZ] at hp
  have ha : Y.1 = Z.1 := congrArg (fun z => z.1) hp
  have hw : Y.2 = Z.2.2 := congrArg (fun z => z.2) hp
  have w1 : f1 0 12 = Y.2 := by rw [← ef1]; exact mr_X11_goneAt_f0 hl
  have w2 : f2 177 11 = Z.2.2 := by rw [← ef2]; exact mr_X12_goneAt_f1 
  have w4 : ¬ (D_X11_goneAt x0 (f l 4) (f (l + 13) 0) (f l 5) (f (l + 13) 1) (f (l + 15)) (f (l + 16))).2 = 4 := w_goneAt
  rw [hY] at w4
  have w3 : f2 0 12 = Y.2 := (congrFun (kb2 0 (by decide)) 12).trans w1
  refine ⟨Y.1, f1, g, p, f2, g, k1, ?_, ⟨l, r, M, A, I, TP, n, Inv_keep hII (kp_tr kk kk2) kq (by rw [w3, w2]; exact hw) (fun h => absurd (w3.symm.trans h) w4)⟩, hT1, ka am_SC (by decide), kp_row (kp_tr kk kk2) (fun k h => absurd (scr_l hl h) (by decide))⟩
  rw [ha]; exact k2
theorem q_goneOf {f : Nat → Nat → Int32} {g : Nat → Nat → Int64} {p : Nat → Nat → Option Nat} {d : Nat → Nat × Nat} {e : Nat × Nat} {x0 : Int32} (hI0 : Inv f p) (hT : am_T0 p d) : Run2 Value.int f g p d e 158 296 [.int x0] := by
  obtain ⟨l, r, M, A, I, TP, n, hI⟩ := hI0
  have hII := hI
  obtain ⟨hlr, p03, p40, p23, psl, pim, hL, hM5, hP6, hN, hS, hh, hz, hH, hE, hPf, hsy, ⟨q, hq, hsd⟩, hHi, hTP, hA, hUn, hsA, hIm, hI4, hI21, hsI, hn, ht1, ht2, hTp, hfa, hwh, hpl⟩ := hI
  have hl : l = 5 ∨ l = 23 := by omega
  obtain ⟨T, hT3, hT4⟩ : ∃ T, T ≤ 3 ∧ f l 4 = nI T := by obtain ⟨T, a, b⟩ := hL.2.2.2.2.2.2.2.2.2.2.2.2.2.1; exact ⟨T, a, hL.h4.trans b⟩
  obtain ⟨Y, hY⟩ : ∃ Y, D_X11_goneOf x0 (f l 5) (f l 4) (f (l + 13) 0) (f (l + 13) 2) (f (l + 13) 3) (f (l + 14)) (f (l + 13) 1) (f (l + 15)) (f (l + 16)) = Y := ⟨_, rfl⟩
  have k1 := k_X11_goneOf (f := f) (g := g) (p := p) (d := d) (e := e) l x0 (f l 5) (f l 4) (f (l + 13) 0) (f 0 12) (f (l + 13) 2) (f (l + 13) 3) (f (l + 14)) (f (l + 13) 1) (f (l + 15)) (f (l + 16)) hT hl p03 rfl rfl rfl rfl rfl rfl rfl rfl rfl rfl (gc_goneOf hL.M8 hM5 hE) Y hY
  obtain ⟨f1, ef1⟩ : ∃ z, mf_X11_goneOf f l Y.2.1 Y.2.2.1 Y.2.2.2.1 Y.2.2.2.2 = z := ⟨_, rfl⟩
  obtain ⟨g1, eg1⟩ : ∃ z, g = z := ⟨_, rfl⟩
  obtain ⟨p1, ep1⟩ : ∃ z, p = z := ⟨_, rfl⟩
  rw [ef1] at k1
  have kk : Keeps l f f1 := by rw [← ef1]; unfold mf_X11_goneOf; exact (kp_v (fun _ => Or.inr (Or.inr (Or.inr (Or.inl rfl)))) (kp_u (Or.inr (Or.inr (Or.inl ⟨rfl, by decide⟩))) (kp_u (Or.inr (Or.inr (Or.inl ⟨rfl, by decide⟩))) (kp_u (Or.inl ⟨rfl, rfl⟩) kp_rfl))))
  have ka : KeA f f1 := by rw [← ef1]; unfold mf_X11_goneOf; exact (ka_v (by omega) (ka_u (by omega) (ka_u (by omega) (ka_u (by decide) ka_rfl))))
  have kq : KeP p p1 := by rw [← ep1]; exact kq_rfl
  have hT1 : am_T0 p1 d := by rw [← ep1]; exact hT
  subst eg1
  subst ep1
  obtain ⟨Z, hZ⟩ : ∃ Z, D_X12_goneOf x0 (f 177 14) (f 180) = Z := ⟨_, rfl⟩
  have k2 := k_X12_goneOf (f := f1) (g := g) (p := p) (d := d) (e := e) x0 (f 177 0) (f 177 11) (f 177 14) (f 180) hT1 (congrFun (ka 177 (by decide)) 0) (congrFun (ka 177 (by decide)) 11) (congrFun (ka 177 (by decide)) 14) (ka 180 (by decide)) (gr_goneOf hL.M8 hL.r5 hE) Z hZ
  obtain ⟨f2, ef2⟩ : ∃ z, mf_X12_goneOf f1 Z.2.1 Z.2.2 = z := ⟨_, rfl⟩
  obtain ⟨g2, eg2⟩ : ∃ z, g = z := ⟨_, rfl⟩
  rw [ef2] at k2
  have kk2 : Keeps l f1 f2 := by rw [← ef2]; unfold mf_X12_goneOf; exact (kp_u (Or.inr (Or.inr (Or.inr (Or.inr (Or.inr (Or.inl ⟨rfl, by decide, by decide, by decide, by decide, by decide, by decide⟩)))))) (kp_u (Or.inr (Or.inr (Or.inr (Or.inr (Or.inr (Or.inl ⟨rfl, by decide, by decide, by decide, by decide, by decide, by decide⟩)))))) kp_rfl))
  have kb2 : KeB f1 f2 := by rw [← ef2]; unfold mf_X12_goneOf; exact (kb_u (by decide) (kb_u (by decide) kb_rfl))
  have hp := pub_goneOf (x0 := x0) (men := (f l 5)) (tens := (f l 4)) (goneTold := (f (l + 13) 0)) (fitting := (f (l + 13) 2)) (inAll := (f (l + 13) 3)) (with_ := (f (l + 14))) (amongs := (f (l + 13) 1)) (pair := (f (l + 15))) (ofPair := (f (l + 16))) (hl := (f 177 14)) (rr := (f 180)) hL.M8 hL.r5 hM5 (fun h => (hz h).1) hh hE
  rw [hY, hZ] at hp
  obtain ⟨ha, hw⟩ := hp
  have w1 : f1 0 12 = Y.2.1 := by rw [← ef1]; exact mr_X11_goneOf_f0 hl
  have w2 : f2 177 11 = Z.2.2 := by rw [← ef2]; exact mr_X12_goneOf_f1 
  have w4 : ¬ (D_X11_goneOf x0 (f l 5) (f l 4) (f (l + 13) 0) (f (l + 13) 2) (f (l + 13) 3) (f (l + 14)) (f (l + 13) 1) (f (l + 15)) (f (l + 16))).2.1 = 4 := w_goneOf
  rw [hY] at w4
  have w3 : f2 0 12 = Y.2.1 := (congrFun (kb2 0 (by decide)) 12).trans w1
  refine ⟨Y.1, f1, g, p, f2, g, k1, ?_, ⟨l, r, M, A, I, TP, n, Inv_keep hII (kp_tr kk kk2) kq (by rw [w3, w2]; exact hw) (fun h => absurd (w3.symm.trans h) w4)⟩, hT1, ka am_SC (by decide), kp_row (kp_tr kk kk2) (fun k h => absurd (scr_l hl h) (by decide))⟩
  rw [ha]; exact k2
theorem q_surelyGone {f : Nat → Nat → Int32} {g : Nat → Nat → Int64} {p : Nat → Nat → Option Nat} {d : Nat → Nat × Nat} {e : Nat × Nat} (hI0 : Inv f p) (hT : am_T0 p d) : Run2 Value.int f g p d e 159 297 [] := by
  obtain ⟨l, r, M, A, I, TP, n, hI⟩ := hI0
  have hII := hI
  obtain ⟨hlr, p03, p40, p23, psl, pim, hL, hM5, hP6, hN, hS, hh, hz, hH, hE, hPf, hsy, ⟨q, hq, hsd⟩, hHi, hTP, hA, hUn, hsA, hIm, hI4, hI21, hsI, hn, ht1, ht2, hTp, hfa, hwh, hpl⟩ := hI
  have hl : l = 5 ∨ l = 23 := by omega
  obtain ⟨T, hT3, hT4⟩ : ∃ T, T ≤ 3 ∧ f l 4 = nI T := by obtain ⟨T, a, b⟩ := hL.2.2.2.2.2.2.2.2.2.2.2.2.2.1; exact ⟨T, a, hL.h4.trans b⟩
  obtain ⟨Y, hY⟩ : ∃ Y, D_X11_surelyGone (f l 4) (f (l + 13) 0) (f l 5) (f (l + 13) 2) (f (l + 13) 3) (f (l + 14)) (f (l + 13) 1) (f (l + 15)) (f (l + 16)) = Y := ⟨_, rfl⟩
  have k1 := k_X11_surelyGone (f := f) (g := g) (p := p) (d := d) (e := e) l (f l 4) (f (l + 13) 0) (f 0 12) (f l 5) (f (l + 13) 2) (f (l + 13) 3) (f (l + 14)) (f (l + 13) 1) (f (l + 15)) (f (l + 16)) hT hl p03 rfl rfl rfl rfl rfl rfl rfl rfl rfl rfl (gc_surelyGone hE) Y hY
  obtain ⟨f1, ef1⟩ : ∃ z, mf_X11_surelyGone f l Y.2.1 Y.2.2.1 Y.2.2.2.1 Y.2.2.2.2 = z := ⟨_, rfl⟩
  obtain ⟨g1, eg1⟩ : ∃ z, g = z := ⟨_, rfl⟩
  obtain ⟨p1, ep1⟩ : ∃ z, p = z := ⟨_, rfl⟩
  rw [ef1] at k1
  have kk : Keeps l f f1 := by rw [← ef1]; unfold mf_X11_surelyGone; exact (kp_v (fun _ => Or.inr (Or.inr (Or.inr (Or.inl rfl)))) (kp_u (Or.inr (Or.inr (Or.inl ⟨rfl, by decide⟩))) (kp_u (Or.inr (Or.inr (Or.inl ⟨rfl, by decide⟩))) (kp_u (Or.inl ⟨rfl, rfl⟩) kp_rfl))))
  have ka : KeA f f1 := by rw [← ef1]; unfold mf_X11_surelyGone; exact (ka_v (by omega) (ka_u (by omega) (ka_u (by omega) (ka_u (by decide) ka_rfl))))
  have kq : KeP p p1 := by rw [← ep1]; exact kq_rfl
  have hT1 : am_T0 p1 d := by rw [← ep1]; exact hT
  subst eg1
  subst ep1
  obtain ⟨Z, hZ⟩ : ∃ Z, D_X12_surelyGone (f 177 14) (f 180) = Z := ⟨_, rfl⟩
  have k2 := k_X12_surelyGone (f := f1) (g := g) (p := p) (d := d) (e := e) (f 177 0) (f 177 11) (f 177 14) (f 180) hT1 (congrFun (ka 177 (by decide)) 0) (congrFun (ka 177 (by decide)) 11) (congrFun (ka 177 (by decide)) 14) (ka 180 (by decide)) (gr_surelyGone hL.M8 hL.r5 hE) Z hZ
  obtain ⟨f2, ef2⟩ : ∃ z, mf_X12_surelyGone f1 Z.2.1 Z.2.2 = z := ⟨_, rfl⟩
  obtain ⟨g2, eg2⟩ : ∃ z, g = z := ⟨_, rfl⟩
  rw [ef2] at k2
  have kk2 : Keeps l f1 f2 := by rw [← ef2]; unfold mf_X12_surelyGone; exact (kp_u (Or.inr (Or.inr (Or.inr (Or.inr (Or.inr (Or.inl ⟨rfl, by decide, by decide, by decide, by decide, by decide, by decide⟩)))))) (kp_u (Or.inr (Or.inr (Or.inr (Or.inr (Or.inr (Or.inl ⟨rfl, by decide, by decide, by decide, by decide, by decide, by decide⟩)))))) kp_rfl))
  have kb2 : KeB f1 f2 := by rw [← ef2]; unfold mf_X12_surelyGone; exact (kb_u (by decide) (kb_u (by decide) kb_rfl))
  have hp := pub_surelyGone (tens := (f l 4)) (goneTold := (f (l + 13) 0)) (men := (f l 5)) (fitting := (f (l + 13) 2)) (inAll := (f (l + 13) 3)) (with_ := (f (l + 14))) (amongs := (f (l + 13) 1)) (pair := (f (l + 15))) (ofPair := (f (l + 16))) (hl := (f 177 14)) (rr := (f 180)) hL.M8 hL.r5 hM5 hh hE
  rw [hY, hZ] at hp
  obtain ⟨ha, hw⟩ := hp
  have w1 : f1 0 12 = Y.2.1 := by rw [← ef1]; exact mr_X11_surelyGone_f0 hl
  have w2 : f2 177 11 = Z.2.2 := by rw [← ef2]; exact mr_X12_surelyGone_f1 
  have w4 : ¬ (D_X11_surelyGone (f l 4) (f (l + 13) 0) (f l 5) (f (l + 13) 2) (f (l + 13) 3) (f (l + 14)) (f (l + 13) 1) (f (l + 15)) (f (l + 16))).2.1 = 4 := w_surelyGone
  rw [hY] at w4
  have w3 : f2 0 12 = Y.2.1 := (congrFun (kb2 0 (by decide)) 12).trans w1
  refine ⟨Y.1, f1, g, p, f2, g, k1, ?_, ⟨l, r, M, A, I, TP, n, Inv_keep hII (kp_tr kk kk2) kq (by rw [w3, w2]; exact hw) (fun h => absurd (w3.symm.trans h) w4)⟩, hT1, ka am_SC (by decide), kp_row (kp_tr kk kk2) (fun k h => absurd (scr_l hl h) (by decide))⟩
  rw [ha]; exact k2
theorem q_ask {f : Nat → Nat → Int32} {g : Nat → Nat → Int64} {p : Nat → Nat → Option Nat} {d : Nat → Nat × Nat} {e : Nat × Nat} (hI0 : Inv f p) (hT : am_T0 p d) : Run2 Value.int f g p d e 160 300 [] := by
  obtain ⟨l, r, M, A, I, TP, n, hI⟩ := hI0
  have hII := hI
  obtain ⟨hlr, p03, p40, p23, psl, pim, hL, hM5, hP6, hN, hS, hh, hz, hH, hE, hPf, hsy, ⟨q, hq, hsd⟩, hHi, hTP, hA, hUn, hsA, hIm, hI4, hI21, hsI, hn, ht1, ht2, hTp, hfa, hwh, hpl⟩ := hI
  have hl : l = 5 ∨ l = 23 := by omega
  obtain ⟨T, hT3, hT4⟩ : ∃ T, T ≤ 3 ∧ f l 4 = nI T := by obtain ⟨T, a, b⟩ := hL.2.2.2.2.2.2.2.2.2.2.2.2.2.1; exact ⟨T, a, hL.h4.trans b⟩
  obtain ⟨Y, hY⟩ : ∃ Y, D_X11_ask (f l 4) (f (l + 13) 0) (f l 5) (f (l + 13) 2) (f (l + 13) 3) (f (l + 14)) (f (l + 13) 1) (f (l + 15)) (f (l + 16)) = Y := ⟨_, rfl⟩
  have k1 := k_X11_ask (f := f) (g := g) (p := p) (d := d) (e := e) l (f l 4) (f (l + 13) 0) (f 0 12) (f l 5) (f (l + 13) 2) (f (l + 13) 3) (f (l + 14)) (f (l + 13) 1) (f (l + 15)) (f (l + 16)) hT hl p03 rfl rfl rfl rfl rfl rfl rfl rfl rfl rfl (gc_ask hL.M8 hM5 hE) Y hY
  obtain ⟨f1, ef1⟩ : ∃ z, mf_X11_ask f l Y.2.1 Y.2.2.1 Y.2.2.2.1 Y.2.2.2.2 = z := ⟨_, rfl⟩
  obtain ⟨g1, eg1⟩ : ∃ z, g = z := ⟨_, rfl⟩
  obtain ⟨p1, ep1⟩ : ∃ z, p = z := ⟨_, rfl⟩
  rw [ef1] at k1
  have kk : Keeps l f f1 := by rw [← ef1]; unfold mf_X11_ask; exact (kp_v (fun _ => Or.inr (Or.inr (Or.inr (Or.inl rfl)))) (kp_u (Or.inr (Or.inr (Or.inl ⟨rfl, by decide⟩))) (kp_u (Or.inr (Or.inr (Or.inl ⟨rfl, by decide⟩))) (kp_u (Or.inl ⟨rfl, rfl⟩) kp_rfl))))
  have ka : KeA f f1 := by rw [← ef1]; unfold mf_X11_ask; exact (ka_v (by omega) (ka_u (by omega) (ka_u (by omega) (ka_u (by decide) ka_rfl))))
  have kq : KeP p p1 := by rw [← ep1]; exact kq_rfl
  have hT1 : am_T0 p1 d := by rw [← ep1]; exact hT
  subst eg1
  subst ep1
  obtain ⟨Z, hZ⟩ : ∃ Z, D_X12_ask (f 177 14) (f 180) = Z := ⟨_, rfl⟩
  have k2 := k_X12_ask (f := f1) (g := g) (p := p) (d := d) (e := e) (f 177 0) (f 177 11) (f 177 14) (f 180) hT1 (congrFun (ka 177 (by decide)) 0) (congrFun (ka 177 (by decide)) 11) (congrFun (ka 177 (by decide)) 14) (ka 180 (by decide)) (gr_ask hL.M8 hL.r5 hE) Z hZ
  obtain ⟨f2, ef2⟩ : ∃ z, mf_X12_ask f1 Z.2.1 Z.2.2 = z := ⟨_, rfl⟩
  obtain ⟨g2, eg2⟩ : ∃ z, g = z := ⟨_, rfl⟩
  rw [ef2] at k2
  have kk2 : Keeps l f1 f2 := by rw [← ef2]; unfold mf_X12_ask; exact (kp_u (Or.inr (Or.inr (Or.inr (Or.inr (Or.inr (Or.inl ⟨rfl, by decide, by decide, by decide, by decide, by decide, by decide⟩)))))) (kp_u (Or.inr (Or.inr (Or.inr (Or.inr (Or.inr (Or.inl ⟨rfl, by decide, by decide, by decide, by decide, by decide, by decide⟩)))))) kp_rfl))
  have kb2 : KeB f1 f2 := by rw [← ef2]; unfold mf_X12_ask; exact (kb_u (by decide) (kb_u (by decide) kb_rfl))
  have hp := pub_ask (tens := (f l 4)) (goneTold := (f (l + 13) 0)) (men := (f l 5)) (fitting := (f (l + 13) 2)) (inAll := (f (l + 13) 3)) (with_ := (f (l + 14))) (amongs := (f (l + 13) 1)) (pair := (f (l + 15))) (ofPair := (f (l + 16))) (hl := (f 177 14)) (rr := (f 180)) hL.M8 hL.r5 hM5 hh hE
  rw [hY, hZ] at hp
  obtain ⟨ha, hw⟩ := hp
  have w1 : f1 0 12 = Y.2.1 := by rw [← ef1]; exact mr_X11_ask_f0 hl
  have w2 : f2 177 11 = Z.2.2 := by rw [← ef2]; exact mr_X12_ask_f1 
  have w4 : ¬ (D_X11_ask (f l 4) (f (l + 13) 0) (f l 5) (f (l + 13) 2) (f (l + 13) 3) (f (l + 14)) (f (l + 13) 1) (f (l + 15)) (f (l + 16))).2.1 = 4 := w_ask
  rw [hY] at w4
  have w3 : f2 0 12 = Y.2.1 := (congrFun (kb2 0 (by decide)) 12).trans w1
  refine ⟨Y.1, f1, g, p, f2, g, k1, ?_, ⟨l, r, M, A, I, TP, n, Inv_keep hII (kp_tr kk kk2) kq (by rw [w3, w2]; exact hw) (fun h => absurd (w3.symm.trans h) w4)⟩, hT1, ka am_SC (by decide), kp_row (kp_tr kk kk2) (fun k h => absurd (scr_l hl h) (by decide))⟩
  rw [ha]; exact k2
theorem q_askLeaves {f : Nat → Nat → Int32} {g : Nat → Nat → Int64} {p : Nat → Nat → Option Nat} {d : Nat → Nat × Nat} {e : Nat × Nat} (hI0 : Inv f p) (hT : am_T0 p d) : Run2 Value.int f g p d e 161 301 [] := by
  obtain ⟨l, r, M, A, I, TP, n, hI⟩ := hI0
  have hII := hI
  obtain ⟨hlr, p03, p40, p23, psl, pim, hL, hM5, hP6, hN, hS, hh, hz, hH, hE, hPf, hsy, ⟨q, hq, hsd⟩, hHi, hTP, hA, hUn, hsA, hIm, hI4, hI21, hsI, hn, ht1, ht2, hTp, hfa, hwh, hpl⟩ := hI
  have hl : l = 5 ∨ l = 23 := by omega
  obtain ⟨T, hT3, hT4⟩ : ∃ T, T ≤ 3 ∧ f l 4 = nI T := by obtain ⟨T, a, b⟩ := hL.2.2.2.2.2.2.2.2.2.2.2.2.2.1; exact ⟨T, a, hL.h4.trans b⟩
  obtain ⟨Y, hY⟩ : ∃ Y, D_X11_askLeaves (f l 4) (f (l + 13) 0) (f l 5) (f (l + 13) 2) (f (l + 13) 3) (f (l + 14)) (f (l + 13) 1) (f (l + 15)) (f (l + 16)) = Y := ⟨_, rfl⟩
  have k1 := k_X11_askLeaves (f := f) (g := g) (p := p) (d := d) (e := e) l (f l 4) (f (l + 13) 0) (f 0 12) (f l 5) (f (l + 13) 2) (f (l + 13) 3) (f (l + 14)) (f (l + 13) 1) (f (l + 15)) (f (l + 16)) hT hl p03 rfl rfl rfl rfl rfl rfl rfl rfl rfl rfl (gc_askLeaves hL.M8 hL.r5 hM5 hh hE) Y hY
  obtain ⟨f1, ef1⟩ : ∃ z, mf_X11_askLeaves f l Y.2.1 Y.2.2.1 Y.2.2.2.1 Y.2.2.2.2 = z := ⟨_, rfl⟩
  obtain ⟨g1, eg1⟩ : ∃ z, g = z := ⟨_, rfl⟩
  obtain ⟨p1, ep1⟩ : ∃ z, p = z := ⟨_, rfl⟩
  rw [ef1] at k1
  have kk : Keeps l f f1 := by rw [← ef1]; unfold mf_X11_askLeaves; exact (kp_v (fun _ => Or.inr (Or.inr (Or.inr (Or.inl rfl)))) (kp_u (Or.inr (Or.inr (Or.inl ⟨rfl, by decide⟩))) (kp_u (Or.inr (Or.inr (Or.inl ⟨rfl, by decide⟩))) (kp_u (Or.inl ⟨rfl, rfl⟩) kp_rfl))))
  have ka : KeA f f1 := by rw [← ef1]; unfold mf_X11_askLeaves; exact (ka_v (by omega) (ka_u (by omega) (ka_u (by omega) (ka_u (by decide) ka_rfl))))
  have kq : KeP p p1 := by rw [← ep1]; exact kq_rfl
  have hT1 : am_T0 p1 d := by rw [← ep1]; exact hT
  subst eg1
  subst ep1
  obtain ⟨Z, hZ⟩ : ∃ Z, D_X12_askLeaves (f 177 14) (f 180) = Z := ⟨_, rfl⟩
  have k2 := k_X12_askLeaves (f := f1) (g := g) (p := p) (d := d) (e := e) (f 177 0) (f 177 11) (f 177 14) (f 180) hT1 (congrFun (ka 177 (by decide)) 0) (congrFun (ka 177 (by decide)) 11) (congrFun (ka 177 (by decide)) 14) (ka 180 (by decide)) (gr_askLeaves hL.M8 hL.r5 hE) Z hZ
  obtain ⟨f2, ef2⟩ : ∃ z, mf_X12_askLeaves f1 Z.2.1 Z.2.2 = z := ⟨_, rfl⟩
  obtain ⟨g2, eg2⟩ : ∃ z, g = z := ⟨_, rfl⟩
  rw [ef2] at k2
  have kk2 : Keeps l f1 f2 := by rw [← ef2]; unfold mf_X12_askLeaves; exact (kp_u (Or.inr (Or.inr (Or.inr (Or.inr (Or.inr (Or.inl ⟨rfl, by decide, by decide, by decide, by decide, by decide, by decide⟩)))))) (kp_u (Or.inr (Or.inr (Or.inr (Or.inr (Or.inr (Or.inl ⟨rfl, by decide, by decide, by decide, by decide, by decide, by decide⟩)))))) kp_rfl))
  have kb2 : KeB f1 f2 := by rw [← ef2]; unfold mf_X12_askLeaves; exact (kb_u (by decide) (kb_u (by decide) kb_rfl))
  have hp := pub_askLeaves (tens := (f l 4)) (goneTold := (f (l + 13) 0)) (men := (f l 5)) (fitting := (f (l + 13) 2)) (inAll := (f (l + 13) 3)) (with_ := (f (l + 14))) (amongs := (f (l + 13) 1)) (pair := (f (l + 15))) (ofPair := (f (l + 16))) (hl := (f 177 14)) (rr := (f 180)) hL.M8 hL.r5 hM5 hh hE
  rw [hY, hZ] at hp
  obtain ⟨ha, hw⟩ := hp
  have w1 : f1 0 12 = Y.2.1 := by rw [← ef1]; exact mr_X11_askLeaves_f0 hl
  have w2 : f2 177 11 = Z.2.2 := by rw [← ef2]; exact mr_X12_askLeaves_f1 
  have w4 : ¬ (D_X11_askLeaves (f l 4) (f (l + 13) 0) (f l 5) (f (l + 13) 2) (f (l + 13) 3) (f (l + 14)) (f (l + 13) 1) (f (l + 15)) (f (l + 16))).2.1 = 4 := w_askLeaves
  rw [hY] at w4
  have w3 : f2 0 12 = Y.2.1 := (congrFun (kb2 0 (by decide)) 12).trans w1
  refine ⟨Y.1, f1, g, p, f2, g, k1, ?_, ⟨l, r, M, A, I, TP, n, Inv_keep hII (kp_tr kk kk2) kq (by rw [w3, w2]; exact hw) (fun h => absurd (w3.symm.trans h) w4)⟩, hT1, ka am_SC (by decide), kp_row (kp_tr kk kk2) (fun k h => absurd (scr_l hl h) (by decide))⟩
  rw [ha]; exact k2
theorem q_line {f : Nat → Nat → Int32} {g : Nat → Nat → Int64} {p : Nat → Nat → Option Nat} {d : Nat → Nat × Nat} {e : Nat × Nat} {x0 x1 x2 x3 : Int32} (hI0 : Inv f p) (hT : am_T0 p d) : Run2 Value.int f g p d e 164 304 [.int x0, .int x1, .int x2, .int x3] := by
  obtain ⟨l, r, M, A, I, TP, n, hI⟩ := hI0
  have hII := hI
  obtain ⟨hlr, p03, p40, p23, psl, pim, hL, hM5, hP6, hN, hS, hh, hz, hH, hE, hPf, hsy, ⟨q, hq, hsd⟩, hHi, hTP, hA, hUn, hsA, hIm, hI4, hI21, hsI, hn, ht1, ht2, hTp, hfa, hwh, hpl⟩ := hI
  have hl : l = 5 ∨ l = 23 := by omega
  obtain ⟨T, hT3, hT4⟩ : ∃ T, T ≤ 3 ∧ f l 4 = nI T := by obtain ⟨T, a, b⟩ := hL.2.2.2.2.2.2.2.2.2.2.2.2.2.1; exact ⟨T, a, hL.h4.trans b⟩
  obtain ⟨Y, hY⟩ : ∃ Y, D_X11_line x0 x1 x2 x3 (f l 4) = Y := ⟨_, rfl⟩
  have k1 := k_X11_line (f := f) (g := g) (p := p) (d := d) (e := e) l x0 x1 x2 x3 (f l 4) (f 0 12) hT hl p03 rfl rfl Y hY
  obtain ⟨f1, ef1⟩ : ∃ z, mf_X11_line f Y.2 = z := ⟨_, rfl⟩
  obtain ⟨g1, eg1⟩ : ∃ z, g = z := ⟨_, rfl⟩
  obtain ⟨p1, ep1⟩ : ∃ z, p = z := ⟨_, rfl⟩
  rw [ef1] at k1
  have kk : Keeps l f f1 := by rw [← ef1]; unfold mf_X11_line; exact (kp_u (Or.inl ⟨rfl, rfl⟩) kp_rfl)
  have ka : KeA f f1 := by rw [← ef1]; unfold mf_X11_line; exact (ka_u (by decide) ka_rfl)
  have kq : KeP p p1 := by rw [← ep1]; exact kq_rfl
  have hT1 : am_T0 p1 d := by rw [← ep1]; exact hT
  subst eg1
  subst ep1
  obtain ⟨Z, hZ⟩ : ∃ Z, D_X12_line x0 x1 x2 x3 (f 177 14) = Z := ⟨_, rfl⟩
  have k2 := k_X12_line (f := f1) (g := g) (p := p) (d := d) (e := e) x0 x1 x2 x3 (f 177 0) (f 177 11) (f 177 14) hT1 (congrFun (ka 177 (by decide)) 0) (congrFun (ka 177 (by decide)) 11) (congrFun (ka 177 (by decide)) 14) Z hZ
  obtain ⟨f2, ef2⟩ : ∃ z, mf_X12_line f1 Z.2.1 Z.2.2 = z := ⟨_, rfl⟩
  obtain ⟨g2, eg2⟩ : ∃ z, g = z := ⟨_, rfl⟩
  rw [ef2] at k2
  have kk2 : Keeps l f1 f2 := by rw [← ef2]; unfold mf_X12_line; exact (kp_u (Or.inr (Or.inr (Or.inr (Or.inr (Or.inr (Or.inl ⟨rfl, by decide, by decide, by decide, by decide, by decide, by decide⟩)))))) (kp_u (Or.inr (Or.inr (Or.inr (Or.inr (Or.inr (Or.inl ⟨rfl, by decide, by decide, by decide, by decide, by decide, by decide⟩)))))) kp_rfl))
  have kb2 : KeB f1 f2 := by rw [← ef2]; unfold mf_X12_line; exact (kb_u (by decide) (kb_u (by decide) kb_rfl))
  have hp := pub_line (x0 := x0) (x1 := x1) (x2 := x2) (x3 := x3) (tens := (f l 4)) (hl := (f 177 14)) hh
  rw [hY, hZ] at hp
  have ha : Y.1 = Z.1 := congrArg (fun z => z.1) hp
  have hw : Y.2 = Z.2.2 := congrArg (fun z => z.2) hp
  have w1 : f1 0 12 = Y.2 := by rw [← ef1]; exact mr_X11_line_f0 hl
  have w2 : f2 177 11 = Z.2.2 := by rw [← ef2]; exact mr_X12_line_f1 
  have w4 : ¬ (D_X11_line x0 x1 x2 x3 (f l 4)).2 = 4 := w_line
  rw [hY] at w4
  have w3 : f2 0 12 = Y.2 := (congrFun (kb2 0 (by decide)) 12).trans w1
  refine ⟨Y.1, f1, g, p, f2, g, k1, ?_, ⟨l, r, M, A, I, TP, n, Inv_keep hII (kp_tr kk kk2) kq (by rw [w3, w2]; exact hw) (fun h => absurd (w3.symm.trans h) w4)⟩, hT1, ka am_SC (by decide), kp_row (kp_tr kk kk2) (fun k h => absurd (scr_l hl h) (by decide))⟩
  rw [ha]; exact k2
theorem q_rests {f : Nat → Nat → Int32} {g : Nat → Nat → Int64} {p : Nat → Nat → Option Nat} {d : Nat → Nat × Nat} {e : Nat × Nat} {x0 : Int32} (hI0 : Inv f p) (hT : am_T0 p d) : Run2 Value.int f g p d e 166 307 [.int x0] := by
  obtain ⟨l, r, M, A, I, TP, n, hI⟩ := hI0
  have hII := hI
  obtain ⟨hlr, p03, p40, p23, psl, pim, hL, hM5, hP6, hN, hS, hh, hz, hH, hE, hPf, hsy, ⟨q, hq, hsd⟩, hHi, hTP, hA, hUn, hsA, hIm, hI4, hI21, hsI, hn, ht1, ht2, hTp, hfa, hwh, hpl⟩ := hI
  have hl : l = 5 ∨ l = 23 := by omega
  obtain ⟨T, hT3, hT4⟩ : ∃ T, T ≤ 3 ∧ f l 4 = nI T := by obtain ⟨T, a, b⟩ := hL.2.2.2.2.2.2.2.2.2.2.2.2.2.1; exact ⟨T, a, hL.h4.trans b⟩
  obtain ⟨Y, hY⟩ : ∃ Y, D_X11_rests x0 (f l 4) = Y := ⟨_, rfl⟩
  have k1 := k_X11_rests (f := f) (g := g) (p := p) (d := d) (e := e) l x0 (f l 4) (f 0 12) hT hl p03 rfl rfl Y hY
  obtain ⟨f1, ef1⟩ : ∃ z, mf_X11_rests f Y.2 = z := ⟨_, rfl⟩
  obtain ⟨g1, eg1⟩ : ∃ z, g = z := ⟨_, rfl⟩
  obtain ⟨p1, ep1⟩ : ∃ z, p = z := ⟨_, rfl⟩
  rw [ef1] at k1
  have kk : Keeps l f f1 := by rw [← ef1]; unfold mf_X11_rests; exact (kp_u (Or.inl ⟨rfl, rfl⟩) kp_rfl)
  have ka : KeA f f1 := by rw [← ef1]; unfold mf_X11_rests; exact (ka_u (by decide) ka_rfl)
  have kq : KeP p p1 := by rw [← ep1]; exact kq_rfl
  have hT1 : am_T0 p1 d := by rw [← ep1]; exact hT
  subst eg1
  subst ep1
  obtain ⟨Z, hZ⟩ : ∃ Z, D_X12_rests x0 (f 177 14) (f 177 49) = Z := ⟨_, rfl⟩
  have k2 := k_X12_rests (f := f1) (g := g) (p := p) (d := d) (e := e) x0 (f 177 0) (f 177 11) (f 177 14) (f 177 49) hT1 (congrFun (ka 177 (by decide)) 0) (congrFun (ka 177 (by decide)) 11) (congrFun (ka 177 (by decide)) 14) (congrFun (ka 177 (by decide)) 49) Z hZ
  obtain ⟨f2, ef2⟩ : ∃ z, mf_X12_rests f1 Z.2.1 Z.2.2.1 Z.2.2.2 = z := ⟨_, rfl⟩
  obtain ⟨g2, eg2⟩ : ∃ z, g = z := ⟨_, rfl⟩
  rw [ef2] at k2
  have kk2 : Keeps l f1 f2 := by rw [← ef2]; unfold mf_X12_rests; exact (kp_u (Or.inr (Or.inr (Or.inr (Or.inr (Or.inr (Or.inl ⟨rfl, by decide, by decide, by decide, by decide, by decide, by decide⟩)))))) (kp_u (Or.inr (Or.inr (Or.inr (Or.inr (Or.inr (Or.inl ⟨rfl, by decide, by decide, by decide, by decide, by decide, by decide⟩)))))) (kp_u (Or.inr (Or.inr (Or.inr (Or.inr (Or.inr (Or.inl ⟨rfl, by decide, by decide, by decide, by decide, by decide, by decide⟩)))))) kp_rfl)))
  have kb2 : KeB f1 f2 := by rw [← ef2]; unfold mf_X12_rests; exact (kb_u (by decide) (kb_u (by decide) (kb_u (by decide) kb_rfl)))
  have hp := pub_rests (x0 := x0) (tens := (f l 4)) (hl := (f 177 14)) (fR := (f 177 49)) hh
  rw [hY, hZ] at hp
  have ha : Y.1 = Z.1 := congrArg (fun z => z.1) hp
  have hw : Y.2 = Z.2.2.1 := congrArg (fun z => z.2) hp
  have w1 : f1 0 12 = Y.2 := by rw [← ef1]; exact mr_X11_rests_f0 hl
  have w2 : f2 177 11 = Z.2.2.1 := by rw [← ef2]; exact mr_X12_rests_f1 
  have w4 : ¬ (D_X11_rests x0 (f l 4)).2 = 4 := w_rests
  rw [hY] at w4
  have w3 : f2 0 12 = Y.2 := (congrFun (kb2 0 (by decide)) 12).trans w1
  refine ⟨Y.1, f1, g, p, f2, g, k1, ?_, ⟨l, r, M, A, I, TP, n, Inv_keep hII (kp_tr kk kk2) kq (by rw [w3, w2]; exact hw) (fun h => absurd (w3.symm.trans h) w4)⟩, hT1, ka am_SC (by decide), kp_row (kp_tr kk kk2) (fun k h => absurd (scr_l hl h) (by decide))⟩
  rw [ha]; exact k2
theorem q_rest {f : Nat → Nat → Int32} {g : Nat → Nat → Int64} {p : Nat → Nat → Option Nat} {d : Nat → Nat × Nat} {e : Nat × Nat} {x0 : Int32} (hI0 : Inv f p) (hT : am_T0 p d) : Run2 Value.int f g p d e 167 308 [.int x0] := by
  obtain ⟨l, r, M, A, I, TP, n, hI⟩ := hI0
  have hII := hI
  obtain ⟨hlr, p03, p40, p23, psl, pim, hL, hM5, hP6, hN, hS, hh, hz, hH, hE, hPf, hsy, ⟨q, hq, hsd⟩, hHi, hTP, hA, hUn, hsA, hIm, hI4, hI21, hsI, hn, ht1, ht2, hTp, hfa, hwh, hpl⟩ := hI
  have hl : l = 5 ∨ l = 23 := by omega
  obtain ⟨T, hT3, hT4⟩ : ∃ T, T ≤ 3 ∧ f l 4 = nI T := by obtain ⟨T, a, b⟩ := hL.2.2.2.2.2.2.2.2.2.2.2.2.2.1; exact ⟨T, a, hL.h4.trans b⟩
  obtain ⟨Y, hY⟩ : ∃ Y, D_X11_rest x0 (f l 4) = Y := ⟨_, rfl⟩
  have k1 := k_X11_rest (f := f) (g := g) (p := p) (d := d) (e := e) l x0 (f l 4) (f 0 12) hT hl p03 rfl rfl Y hY
  obtain ⟨f1, ef1⟩ : ∃ z, mf_X11_rest f Y.2 = z := ⟨_, rfl⟩
  obtain ⟨g1, eg1⟩ : ∃ z, g = z := ⟨_, rfl⟩
  obtain ⟨p1, ep1⟩ : ∃ z, p = z := ⟨_, rfl⟩
  rw [ef1] at k1
  have kk : Keeps l f f1 := by rw [← ef1]; unfold mf_X11_rest; exact (kp_u (Or.inl ⟨rfl, rfl⟩) kp_rfl)
  have ka : KeA f f1 := by rw [← ef1]; unfold mf_X11_rest; exact (ka_u (by decide) ka_rfl)
  have kq : KeP p p1 := by rw [← ep1]; exact kq_rfl
  have hT1 : am_T0 p1 d := by rw [← ep1]; exact hT
  subst eg1
  subst ep1
  obtain ⟨Z, hZ⟩ : ∃ Z, D_X12_rest x0 (f 177 14) (f 177 49) = Z := ⟨_, rfl⟩
  have k2 := k_X12_rest (f := f1) (g := g) (p := p) (d := d) (e := e) x0 (f 177 0) (f 177 11) (f 177 14) (f 177 49) hT1 (congrFun (ka 177 (by decide)) 0) (congrFun (ka 177 (by decide)) 11) (congrFun (ka 177 (by decide)) 14) (congrFun (ka 177 (by decide)) 49) Z hZ
  obtain ⟨f2, ef2⟩ : ∃ z, mf_X12_rest f1 Z.2.1 Z.2.2.1 Z.2.2.2 = z := ⟨_, rfl⟩
  obtain ⟨g2, eg2⟩ : ∃ z, g = z := ⟨_, rfl⟩
  rw [ef2] at k2
  have kk2 : Keeps l f1 f2 := by rw [← ef2]; unfold mf_X12_rest; exact (kp_u (Or.inr (Or.inr (Or.inr (Or.inr (Or.inr (Or.inl ⟨rfl, by decide, by decide, by decide, by decide, by decide, by decide⟩)))))) (kp_u (Or.inr (Or.inr (Or.inr (Or.inr (Or.inr (Or.inl ⟨rfl, by decide, by decide, by decide, by decide, by decide, by decide⟩)))))) (kp_u (Or.inr (Or.inr (Or.inr (Or.inr (Or.inr (Or.inl ⟨rfl, by decide, by decide, by decide, by decide, by decide, by decide⟩)))))) kp_rfl)))
  have kb2 : KeB f1 f2 := by rw [← ef2]; unfold mf_X12_rest; exact (kb_u (by decide) (kb_u (by decide) (kb_u (by decide) kb_rfl)))
  have hp := pub_rest (x0 := x0) (tens := (f l 4)) (hl := (f 177 14)) (fR := (f 177 49)) hh
  rw [hY, hZ] at hp
  have ha : Y.1 = Z.1 := congrArg (fun z => z.1) hp
  have hw : Y.2 = Z.2.2.1 := congrArg (fun z => z.2) hp
  have w1 : f1 0 12 = Y.2 := by rw [← ef1]; exact mr_X11_rest_f0 hl
  have w2 : f2 177 11 = Z.2.2.1 := by rw [← ef2]; exact mr_X12_rest_f1 
  have w4 : ¬ (D_X11_rest x0 (f l 4)).2 = 4 := w_rest
  rw [hY] at w4
  have w3 : f2 0 12 = Y.2 := (congrFun (kb2 0 (by decide)) 12).trans w1
  refine ⟨Y.1, f1, g, p, f2, g, k1, ?_, ⟨l, r, M, A, I, TP, n, Inv_keep hII (kp_tr kk kk2) kq (by rw [w3, w2]; exact hw) (fun h => absurd (w3.symm.trans h) w4)⟩, hT1, ka am_SC (by decide), kp_row (kp_tr kk kk2) (fun k h => absurd (scr_l hl h) (by decide))⟩
  rw [ha]; exact k2
theorem q_wars {f : Nat → Nat → Int32} {g : Nat → Nat → Int64} {p : Nat → Nat → Option Nat} {d : Nat → Nat × Nat} {e : Nat × Nat} {x0 x1 : Int32} (hI0 : Inv f p) (hT : am_T0 p d) : Run2 Value.int f g p d e 170 313 [.int x0, .int x1] := by
  obtain ⟨l, r, M, A, I, TP, n, hI⟩ := hI0
  have hII := hI
  obtain ⟨hlr, p03, p40, p23, psl, pim, hL, hM5, hP6, hN, hS, hh, hz, hH, hE, hPf, hsy, ⟨q, hq, hsd⟩, hHi, hTP, hA, hUn, hsA, hIm, hI4, hI21, hsI, hn, ht1, ht2, hTp, hfa, hwh, hpl⟩ := hI
  have hl : l = 5 ∨ l = 23 := by omega
  obtain ⟨T, hT3, hT4⟩ : ∃ T, T ≤ 3 ∧ f l 4 = nI T := by obtain ⟨T, a, b⟩ := hL.2.2.2.2.2.2.2.2.2.2.2.2.2.1; exact ⟨T, a, hL.h4.trans b⟩
  obtain ⟨Y, hY⟩ : ∃ Y, D_X11_wars x0 x1 (f l 4) (p 171 0) (f 40 1) (f 171 1) (f 40 2) (f 171 2) (f 40 3) (f 171 3) (f 41) (f 172) (f 42) (f 173) (f 43) (f 174) (f 44) (f 175) (f 169 2) (f 170) (f l 3) (f l 1) (f (l + 4)) (f l 2) (f (l + 6)) (f (l + 3)) (f (l + 5)) (f l 0) l = Y := ⟨_, rfl⟩
  have k1 := k_X11_wars (f := f) (g := g) (p := p) (d := d) (e := e) l x0 x1 (f l 4) (f 0 12) (p 171 0) (f 40 1) (f 171 1) (f 40 2) (f 171 2) (f 40 3) (f 171 3) (f 41) (f 172) (f 42) (f 173) (f 43) (f 174) (f 44) (f 175) (f 169 2) (f 170) (f l 3) (f l 1) (f (l + 4)) (f l 2) (f (l + 6)) (f (l + 3)) (f (l + 5)) (f l 0) hT hl p03 rfl rfl p40 rfl rfl rfl rfl rfl rfl rfl rfl rfl rfl rfl rfl rfl rfl rfl rfl rfl rfl rfl rfl rfl rfl rfl rfl rfl (gc_wars hT3 hT4) Y hY
  obtain ⟨f1, ef1⟩ : ∃ z, mf_X11_wars f Y.2.1 Y.2.2.1 Y.2.2.2.1 Y.2.2.2.2.1 Y.2.2.2.2.2.1 Y.2.2.2.2.2.2.1 Y.2.2.2.2.2.2.2.1 Y.2.2.2.2.2.2.2.2.1 Y.2.2.2.2.2.2.2.2.2.1 Y.2.2.2.2.2.2.2.2.2.2.1 = z := ⟨_, rfl⟩
  obtain ⟨g1, eg1⟩ : ∃ z, g = z := ⟨_, rfl⟩
  obtain ⟨p1, ep1⟩ : ∃ z, mp_X11_wars p Y.2.2.2.2.2.2.2.2.2.2.2 = z := ⟨_, rfl⟩
  rw [ef1, ep1] at k1
  have kk : Keeps l f f1 := by rw [← ef1]; unfold mf_X11_wars; exact (kp_v (fun _ => Or.inr (Or.inr (Or.inr (Or.inr (Or.inl ⟨by decide, by decide⟩))))) (kp_u (Or.inr (Or.inr (Or.inr (Or.inr (Or.inl ⟨by decide, by decide⟩))))) (kp_v (fun _ => Or.inr (Or.inr (Or.inr (Or.inr (Or.inl ⟨by decide, by decide⟩))))) (kp_v (fun _ => Or.inr (Or.inr (Or.inr (Or.inr (Or.inl ⟨by decide, by decide⟩))))) (kp_v (fun _ => Or.inr (Or.inr (Or.inr (Or.inr (Or.inl ⟨by decide, by decide⟩))))) (kp_v (fun _ => Or.inr (Or.inr (Or.inr (Or.inr (Or.inl ⟨by decide, by decide⟩))))) (kp_u (Or.inr (Or.inr (Or.inr (Or.inr (Or.inl ⟨by decide, by decide⟩))))) (kp_u (Or.inr (Or.inr (Or.inr (Or.inr (Or.inl ⟨by decide, by decide⟩))))) (kp_u (Or.inr (Or.inr (Or.inr (Or.inr (Or.inl ⟨by decide, by decide⟩))))) (kp_u (Or.inl ⟨rfl, rfl⟩) kp_rfl))))))))))
  have ka : KeA f f1 := by rw [← ef1]; unfold mf_X11_wars; exact (ka_v (by decide) (ka_u (by decide) (ka_v (by decide) (ka_v (by decide) (ka_v (by decide) (ka_v (by decide) (ka_u (by decide) (ka_u (by decide) (ka_u (by decide) (ka_u (by decide) ka_rfl))))))))))
  have kq : KeP p p1 := by rw [← ep1]; unfold mp_X11_wars; exact (kq_u ⟨by decide, by decide⟩ kq_rfl)
  have hT1 : am_T0 p1 d := by rw [← ep1]; exact mt_X11_wars hl hT
  subst eg1
  obtain ⟨Z, hZ⟩ : ∃ Z, D_X12_wars x0 x1 (f 177 14) (f 180) (f 177 22) (f 177 23) (f 177 24) (f 182) (f 189) (f 190) (f 177 53) (f 177 50) = Z := ⟨_, rfl⟩
  have k2 := k_X12_wars (f := f1) (g := g) (p := p1) (d := d) (e := e) x0 x1 (f 177 0) (f 177 11) (f 177 14) (f 180) (f 177 22) (f 177 23) (f 177 24) (f 182) (f 189) (f 190) (f 177 53) (f 177 50) hT1 (congrFun (ka 177 (by decide)) 0) (congrFun (ka 177 (by decide)) 11) (congrFun (ka 177 (by decide)) 14) (ka 180 (by decide)) (congrFun (ka 177 (by decide)) 22) (congrFun (ka 177 (by decide)) 23) (congrFun (ka 177 (by decide)) 24) (ka 182 (by decide)) (ka 189 (by decide)) (ka 190 (by decide)) (congrFun (ka 177 (by decide)) 53) (congrFun (ka 177 (by decide)) 50) (gr_wars hL hN hS hh) Z hZ
  obtain ⟨f2, ef2⟩ : ∃ z, mf_X12_wars f1 Z.2.1 Z.2.2.1 Z.2.2.2.1 Z.2.2.2.2.1 Z.2.2.2.2.2.1 Z.2.2.2.2.2.2.1 Z.2.2.2.2.2.2.2.1 Z.2.2.2.2.2.2.2.2.1 Z.2.2.2.2.2.2.2.2.2 = z := ⟨_, rfl⟩
  obtain ⟨g2, eg2⟩ : ∃ z, g = z := ⟨_, rfl⟩
  rw [ef2] at k2
  have kk2 : Keeps l f1 f2 := by rw [← ef2]; unfold mf_X12_wars; exact (kp_u (Or.inr (Or.inr (Or.inr (Or.inr (Or.inr (Or.inl ⟨rfl, by decide, by decide, by decide, by decide, by decide, by decide⟩)))))) (kp_u (Or.inr (Or.inr (Or.inr (Or.inr (Or.inr (Or.inl ⟨rfl, by decide, by decide, by decide, by decide, by decide, by decide⟩)))))) (kp_v (fun _ => Or.inr (Or.inr (Or.inr (Or.inr (Or.inr (Or.inr (Or.inr (Or.inr ⟨by decide, by decide⟩)))))))) (kp_v (fun _ => Or.inr (Or.inr (Or.inr (Or.inr (Or.inr (Or.inr (Or.inr (Or.inr ⟨by decide, by decide⟩)))))))) (kp_u (Or.inr (Or.inr (Or.inr (Or.inr (Or.inr (Or.inl ⟨rfl, by decide, by decide, by decide, by decide, by decide, by decide⟩)))))) (kp_u (Or.inr (Or.inr (Or.inr (Or.inr (Or.inr (Or.inl ⟨rfl, by decide, by decide, by decide, by decide, by decide, by decide⟩)))))) (kp_u (Or.inr (Or.inr (Or.inr (Or.inr (Or.inr (Or.inl ⟨rfl, by decide, by decide, by decide, by decide, by decide, by decide⟩)))))) (kp_u (Or.inr (Or.inr (Or.inr (Or.inr (Or.inr (Or.inl ⟨rfl, by decide, by decide, by decide, by decide, by decide, by decide⟩)))))) (kp_u (Or.inr (Or.inr (Or.inr (Or.inr (Or.inr (Or.inl ⟨rfl, by decide, by decide, by decide, by decide, by decide, by decide⟩)))))) kp_rfl)))))))))
  have kb2 : KeB f1 f2 := by rw [← ef2]; unfold mf_X12_wars; exact (kb_u (by decide) (kb_u (by decide) (kb_v (by decide) (kb_v (by decide) (kb_u (by decide) (kb_u (by decide) (kb_u (by decide) (kb_u (by decide) (kb_u (by decide) kb_rfl)))))))))
  have hp := pub_wars (x1 := x0) (x2 := x1) (tens := (f l 4)) (ptr := (p 171 0)) (present := (f 40 1)) (p2 := (f 171 1)) (braced := (f 40 2)) (b2 := (f 171 2)) (seed := (f 40 3)) (s2 := (f 171 3)) (tenOf := (f 41)) (t2 := (f 172)) (feared := (f 42)) (f2 := (f 173)) (angerOf := (f 43)) (an2 := (f 174)) (lotsOf := (f 44)) (l2 := (f 175)) (held := (f 169 2)) (drawnIn := (f 170)) (mutiny := (f l 3)) (oneIn := (f l 1)) (friendsOf := (f (l + 4))) (fear := (f l 2)) (weight := (f (l + 6))) (nerve := (f (l + 3))) (fearTimes := (f (l + 5))) (holds := (f l 0)) (l := l) (hl := (f 177 14)) (rr := (f 180)) (a := (f 177 22)) (b := (f 177 23)) (c := (f 177 24)) (st := (f 182)) (war := (f 189)) (drawnR := (f 190)) (hW := (f 177 53)) (dr := (f 177 50)) hL hN hS hh
  rw [hY, hZ] at hp
  obtain ⟨ha, hw⟩ := hp
  have w1 : f1 0 12 = Y.2.1 := by rw [← ef1]; exact mr_X11_wars_f0 hl
  have w2 : f2 177 11 = Z.2.2.1 := by rw [← ef2]; exact mr_X12_wars_f1 
  have w4 : ¬ (D_X11_wars x0 x1 (f l 4) (p 171 0) (f 40 1) (f 171 1) (f 40 2) (f 171 2) (f 40 3) (f 171 3) (f 41) (f 172) (f 42) (f 173) (f 43) (f 174) (f 44) (f 175) (f 169 2) (f 170) (f l 3) (f l 1) (f (l + 4)) (f l 2) (f (l + 6)) (f (l + 3)) (f (l + 5)) (f l 0) l).2.1 = 4 := w_wars
  rw [hY] at w4
  have w3 : f2 0 12 = Y.2.1 := (congrFun (kb2 0 (by decide)) 12).trans w1
  refine ⟨Y.1, f1, g, p1, f2, g, k1, ?_, ⟨l, r, M, A, I, TP, n, Inv_keep hII (kp_tr kk kk2) kq (by rw [w3, w2]; exact hw) (fun h => absurd (w3.symm.trans h) w4)⟩, hT1, ka am_SC (by decide), kp_row (kp_tr kk kk2) (fun k h => absurd (scr_l hl h) (by decide))⟩
  rw [ha]; exact k2
theorem q_warsLeft {f : Nat → Nat → Int32} {g : Nat → Nat → Int64} {p : Nat → Nat → Option Nat} {d : Nat → Nat × Nat} {e : Nat × Nat} {x0 x1 : Int32} (hI0 : Inv f p) (hT : am_T0 p d) : Run2 Value.int f g p d e 171 314 [.int x0, .int x1] := by
  obtain ⟨l, r, M, A, I, TP, n, hI⟩ := hI0
  have hII := hI
  obtain ⟨hlr, p03, p40, p23, psl, pim, hL, hM5, hP6, hN, hS, hh, hz, hH, hE, hPf, hsy, ⟨q, hq, hsd⟩, hHi, hTP, hA, hUn, hsA, hIm, hI4, hI21, hsI, hn, ht1, ht2, hTp, hfa, hwh, hpl⟩ := hI
  have hl : l = 5 ∨ l = 23 := by omega
  obtain ⟨T, hT3, hT4⟩ : ∃ T, T ≤ 3 ∧ f l 4 = nI T := by obtain ⟨T, a, b⟩ := hL.2.2.2.2.2.2.2.2.2.2.2.2.2.1; exact ⟨T, a, hL.h4.trans b⟩
  obtain ⟨Y, hY⟩ : ∃ Y, D_X11_warsLeft x0 x1 (f l 4) (p 171 0) (f 40 1) (f 171 1) (f 40 2) (f 171 2) (f 40 3) (f 171 3) (f 41) (f 172) (f 42) (f 173) (f 43) (f 174) (f 44) (f 175) (f 169 2) (f 170) (f l 3) (f l 1) (f (l + 4)) (f l 2) (f (l + 6)) (f (l + 3)) (f (l + 5)) (f l 0) l = Y := ⟨_, rfl⟩
  have k1 := k_X11_warsLeft (f := f) (g := g) (p := p) (d := d) (e := e) l x0 x1 (f l 4) (f 0 12) (p 171 0) (f 40 1) (f 171 1) (f 40 2) (f 171 2) (f 40 3) (f 171 3) (f 41) (f 172) (f 42) (f 173) (f 43) (f 174) (f 44) (f 175) (f 169 2) (f 170) (f l 3) (f l 1) (f (l + 4)) (f l 2) (f (l + 6)) (f (l + 3)) (f (l + 5)) (f l 0) hT hl p03 rfl rfl p40 rfl rfl rfl rfl rfl rfl rfl rfl rfl rfl rfl rfl rfl rfl rfl rfl rfl rfl rfl rfl rfl rfl rfl rfl rfl (gc_warsLeft hT3 hT4) Y hY
  obtain ⟨f1, ef1⟩ : ∃ z, mf_X11_warsLeft f Y.2.1 Y.2.2.1 Y.2.2.2.1 Y.2.2.2.2.1 Y.2.2.2.2.2.1 Y.2.2.2.2.2.2.1 Y.2.2.2.2.2.2.2.1 Y.2.2.2.2.2.2.2.2.1 Y.2.2.2.2.2.2.2.2.2.1 Y.2.2.2.2.2.2.2.2.2.2.1 = z := ⟨_, rfl⟩
  obtain ⟨g1, eg1⟩ : ∃ z, g = z := ⟨_, rfl⟩
  obtain ⟨p1, ep1⟩ : ∃ z, mp_X11_warsLeft p Y.2.2.2.2.2.2.2.2.2.2.2 = z := ⟨_, rfl⟩
  rw [ef1, ep1] at k1
  have kk : Keeps l f f1 := by rw [← ef1]; unfold mf_X11_warsLeft; exact (kp_v (fun _ => Or.inr (Or.inr (Or.inr (Or.inr (Or.inl ⟨by decide, by decide⟩))))) (kp_u (Or.inr (Or.inr (Or.inr (Or.inr (Or.inl ⟨by decide, by decide⟩))))) (kp_v (fun _ => Or.inr (Or.inr (Or.inr (Or.inr (Or.inl ⟨by decide, by decide⟩))))) (kp_v (fun _ => Or.inr (Or.inr (Or.inr (Or.inr (Or.inl ⟨by decide, by decide⟩))))) (kp_v (fun _ => Or.inr (Or.inr (Or.inr (Or.inr (Or.inl ⟨by decide, by decide⟩))))) (kp_v (fun _ => Or.inr (Or.inr (Or.inr (Or.inr (Or.inl ⟨by decide, by decide⟩))))) (kp_u (Or.inr (Or.inr (Or.inr (Or.inr (Or.inl ⟨by decide, by decide⟩))))) (kp_u (Or.inr (Or.inr (Or.inr (Or.inr (Or.inl ⟨by decide, by decide⟩))))) (kp_u (Or.inr (Or.inr (Or.inr (Or.inr (Or.inl ⟨by decide, by decide⟩))))) (kp_u (Or.inl ⟨rfl, rfl⟩) kp_rfl))))))))))
  have ka : KeA f f1 := by rw [← ef1]; unfold mf_X11_warsLeft; exact (ka_v (by decide) (ka_u (by decide) (ka_v (by decide) (ka_v (by decide) (ka_v (by decide) (ka_v (by decide) (ka_u (by decide) (ka_u (by decide) (ka_u (by decide) (ka_u (by decide) ka_rfl))))))))))
  have kq : KeP p p1 := by rw [← ep1]; unfold mp_X11_warsLeft; exact (kq_u ⟨by decide, by decide⟩ kq_rfl)
  have hT1 : am_T0 p1 d := by rw [← ep1]; exact mt_X11_warsLeft hl hT
  subst eg1
  obtain ⟨Z, hZ⟩ : ∃ Z, D_X12_warsLeft x0 x1 (f 177 14) (f 180) (f 177 22) (f 177 23) (f 177 24) (f 182) (f 189) (f 190) (f 177 53) (f 177 50) = Z := ⟨_, rfl⟩
  have k2 := k_X12_warsLeft (f := f1) (g := g) (p := p1) (d := d) (e := e) x0 x1 (f 177 0) (f 177 11) (f 177 14) (f 180) (f 177 22) (f 177 23) (f 177 24) (f 182) (f 189) (f 190) (f 177 53) (f 177 50) hT1 (congrFun (ka 177 (by decide)) 0) (congrFun (ka 177 (by decide)) 11) (congrFun (ka 177 (by decide)) 14) (ka 180 (by decide)) (congrFun (ka 177 (by decide)) 22) (congrFun (ka 177 (by decide)) 23) (congrFun (ka 177 (by decide)) 24) (ka 182 (by decide)) (ka 189 (by decide)) (ka 190 (by decide)) (congrFun (ka 177 (by decide)) 53) (congrFun (ka 177 (by decide)) 50) (gr_warsLeft hL hN hS hh) Z hZ
  obtain ⟨f2, ef2⟩ : ∃ z, mf_X12_warsLeft f1 Z.2.1 Z.2.2.1 Z.2.2.2.1 Z.2.2.2.2.1 Z.2.2.2.2.2.1 Z.2.2.2.2.2.2.1 Z.2.2.2.2.2.2.2.1 Z.2.2.2.2.2.2.2.2.1 Z.2.2.2.2.2.2.2.2.2 = z := ⟨_, rfl⟩
  obtain ⟨g2, eg2⟩ : ∃ z, g = z := ⟨_, rfl⟩
  rw [ef2] at k2
  have kk2 : Keeps l f1 f2 := by rw [← ef2]; unfold mf_X12_warsLeft; exact (kp_u (Or.inr (Or.inr (Or.inr (Or.inr (Or.inr (Or.inl ⟨rfl, by decide, by decide, by decide, by decide, by decide, by decide⟩)))))) (kp_u (Or.inr (Or.inr (Or.inr (Or.inr (Or.inr (Or.inl ⟨rfl, by decide, by decide, by decide, by decide, by decide, by decide⟩)))))) (kp_v (fun _ => Or.inr (Or.inr (Or.inr (Or.inr (Or.inr (Or.inr (Or.inr (Or.inr ⟨by decide, by decide⟩)))))))) (kp_v (fun _ => Or.inr (Or.inr (Or.inr (Or.inr (Or.inr (Or.inr (Or.inr (Or.inr ⟨by decide, by decide⟩)))))))) (kp_u (Or.inr (Or.inr (Or.inr (Or.inr (Or.inr (Or.inl ⟨rfl, by decide, by decide, by decide, by decide, by decide, by decide⟩)))))) (kp_u (Or.inr (Or.inr (Or.inr (Or.inr (Or.inr (Or.inl ⟨rfl, by decide, by decide, by decide, by decide, by decide, by decide⟩)))))) (kp_u (Or.inr (Or.inr (Or.inr (Or.inr (Or.inr (Or.inl ⟨rfl, by decide, by decide, by decide, by decide, by decide, by decide⟩)))))) (kp_u (Or.inr (Or.inr (Or.inr (Or.inr (Or.inr (Or.inl ⟨rfl, by decide, by decide, by decide, by decide, by decide, by decide⟩)))))) (kp_u (Or.inr (Or.inr (Or.inr (Or.inr (Or.inr (Or.inl ⟨rfl, by decide, by decide, by decide, by decide, by decide, by decide⟩)))))) kp_rfl)))))))))
  have kb2 : KeB f1 f2 := by rw [← ef2]; unfold mf_X12_warsLeft; exact (kb_u (by decide) (kb_u (by decide) (kb_v (by decide) (kb_v (by decide) (kb_u (by decide) (kb_u (by decide) (kb_u (by decide) (kb_u (by decide) (kb_u (by decide) kb_rfl)))))))))
  have hp := pub_warsLeft (x1 := x0) (x2 := x1) (tens := (f l 4)) (ptr := (p 171 0)) (present := (f 40 1)) (p2 := (f 171 1)) (braced := (f 40 2)) (b2 := (f 171 2)) (seed := (f 40 3)) (s2 := (f 171 3)) (tenOf := (f 41)) (t2 := (f 172)) (feared := (f 42)) (f2 := (f 173)) (angerOf := (f 43)) (an2 := (f 174)) (lotsOf := (f 44)) (l2 := (f 175)) (held := (f 169 2)) (drawnIn := (f 170)) (mutiny := (f l 3)) (oneIn := (f l 1)) (friendsOf := (f (l + 4))) (fear := (f l 2)) (weight := (f (l + 6))) (nerve := (f (l + 3))) (fearTimes := (f (l + 5))) (holds := (f l 0)) (l := l) (hl := (f 177 14)) (rr := (f 180)) (a := (f 177 22)) (b := (f 177 23)) (c := (f 177 24)) (st := (f 182)) (war := (f 189)) (drawnR := (f 190)) (hW := (f 177 53)) (dr := (f 177 50)) hL hN hS hh
  rw [hY, hZ] at hp
  obtain ⟨ha, hw⟩ := hp
  have w1 : f1 0 12 = Y.2.1 := by rw [← ef1]; exact mr_X11_warsLeft_f0 hl
  have w2 : f2 177 11 = Z.2.2.1 := by rw [← ef2]; exact mr_X12_warsLeft_f1 
  have w4 : ¬ (D_X11_warsLeft x0 x1 (f l 4) (p 171 0) (f 40 1) (f 171 1) (f 40 2) (f 171 2) (f 40 3) (f 171 3) (f 41) (f 172) (f 42) (f 173) (f 43) (f 174) (f 44) (f 175) (f 169 2) (f 170) (f l 3) (f l 1) (f (l + 4)) (f l 2) (f (l + 6)) (f (l + 3)) (f (l + 5)) (f l 0) l).2.1 = 4 := w_warsLeft
  rw [hY] at w4
  have w3 : f2 0 12 = Y.2.1 := (congrFun (kb2 0 (by decide)) 12).trans w1
  refine ⟨Y.1, f1, g, p1, f2, g, k1, ?_, ⟨l, r, M, A, I, TP, n, Inv_keep hII (kp_tr kk kk2) kq (by rw [w3, w2]; exact hw) (fun h => absurd (w3.symm.trans h) w4)⟩, hT1, ka am_SC (by decide), kp_row (kp_tr kk kk2) (fun k h => absurd (scr_l hl h) (by decide))⟩
  rw [ha]; exact k2
theorem q_warsOf {f : Nat → Nat → Int32} {g : Nat → Nat → Int64} {p : Nat → Nat → Option Nat} {d : Nat → Nat × Nat} {e : Nat × Nat} {x0 x1 x2 : Int32} (hI0 : Inv f p) (hT : am_T0 p d) : Run2 Value.int f g p d e 172 315 [.int x0, .int x1, .int x2] := by
  obtain ⟨l, r, M, A, I, TP, n, hI⟩ := hI0
  have hII := hI
  obtain ⟨hlr, p03, p40, p23, psl, pim, hL, hM5, hP6, hN, hS, hh, hz, hH, hE, hPf, hsy, ⟨q, hq, hsd⟩, hHi, hTP, hA, hUn, hsA, hIm, hI4, hI21, hsI, hn, ht1, ht2, hTp, hfa, hwh, hpl⟩ := hI
  have hl : l = 5 ∨ l = 23 := by omega
  obtain ⟨T, hT3, hT4⟩ : ∃ T, T ≤ 3 ∧ f l 4 = nI T := by obtain ⟨T, a, b⟩ := hL.2.2.2.2.2.2.2.2.2.2.2.2.2.1; exact ⟨T, a, hL.h4.trans b⟩
  obtain ⟨Y, hY⟩ : ∃ Y, D_X11_warsOf x0 x1 x2 (f l 5) (p 171 0) (f 40 1) (f 171 1) (f 40 2) (f 171 2) (f 40 3) (f 171 3) (f 41) (f 172) (f 42) (f 173) (f 43) (f 174) (f 44) (f 175) (f 169 2) (f 170) (f l 4) (f l 3) (f l 1) (f (l + 4)) (f l 2) (f (l + 6)) (f (l + 3)) (f (l + 5)) (f l 0) l = Y := ⟨_, rfl⟩
  have k1 := k_X11_warsOf (f := f) (g := g) (p := p) (d := d) (e := e) l x0 x1 x2 (f l 5) (f 0 12) (p 171 0) (f 40 1) (f 171 1) (f 40 2) (f 171 2) (f 40 3) (f 171 3) (f 41) (f 172) (f 42) (f 173) (f 43) (f 174) (f 44) (f 175) (f 169 2) (f 170) (f l 4) (f l 3) (f l 1) (f (l + 4)) (f l 2) (f (l + 6)) (f (l + 3)) (f (l + 5)) (f l 0) hT hl p03 rfl rfl p40 rfl rfl rfl rfl rfl rfl rfl rfl rfl rfl rfl rfl rfl rfl rfl rfl rfl rfl rfl rfl rfl rfl rfl rfl rfl rfl (gc_warsOf hL.M8 hM5 hT3 hT4) Y hY
  obtain ⟨f1, ef1⟩ : ∃ z, mf_X11_warsOf f Y.2.1 Y.2.2.1 Y.2.2.2.1 Y.2.2.2.2.1 Y.2.2.2.2.2.1 Y.2.2.2.2.2.2.1 Y.2.2.2.2.2.2.2.1 Y.2.2.2.2.2.2.2.2.1 Y.2.2.2.2.2.2.2.2.2.1 Y.2.2.2.2.2.2.2.2.2.2.1 = z := ⟨_, rfl⟩
  obtain ⟨g1, eg1⟩ : ∃ z, g = z := ⟨_, rfl⟩
  obtain ⟨p1, ep1⟩ : ∃ z, mp_X11_warsOf p Y.2.2.2.2.2.2.2.2.2.2.2 = z := ⟨_, rfl⟩
  rw [ef1, ep1] at k1
  have kk : Keeps l f f1 := by rw [← ef1]; unfold mf_X11_warsOf; exact (kp_v (fun _ => Or.inr (Or.inr (Or.inr (Or.inr (Or.inl ⟨by decide, by decide⟩))))) (kp_u (Or.inr (Or.inr (Or.inr (Or.inr (Or.inl ⟨by decide, by decide⟩))))) (kp_v (fun _ => Or.inr (Or.inr (Or.inr (Or.inr (Or.inl ⟨by decide, by decide⟩))))) (kp_v (fun _ => Or.inr (Or.inr (Or.inr (Or.inr (Or.inl ⟨by decide, by decide⟩))))) (kp_v (fun _ => Or.inr (Or.inr (Or.inr (Or.inr (Or.inl ⟨by decide, by decide⟩))))) (kp_v (fun _ => Or.inr (Or.inr (Or.inr (Or.inr (Or.inl ⟨by decide, by decide⟩))))) (kp_u (Or.inr (Or.inr (Or.inr (Or.inr (Or.inl ⟨by decide, by decide⟩))))) (kp_u (Or.inr (Or.inr (Or.inr (Or.inr (Or.inl ⟨by decide, by decide⟩))))) (kp_u (Or.inr (Or.inr (Or.inr (Or.inr (Or.inl ⟨by decide, by decide⟩))))) (kp_u (Or.inl ⟨rfl, rfl⟩) kp_rfl))))))))))
  have ka : KeA f f1 := by rw [← ef1]; unfold mf_X11_warsOf; exact (ka_v (by decide) (ka_u (by decide) (ka_v (by decide) (ka_v (by decide) (ka_v (by decide) (ka_v (by decide) (ka_u (by decide) (ka_u (by decide) (ka_u (by decide) (ka_u (by decide) ka_rfl))))))))))
  have kq : KeP p p1 := by rw [← ep1]; unfold mp_X11_warsOf; exact (kq_u ⟨by decide, by decide⟩ kq_rfl)
  have hT1 : am_T0 p1 d := by rw [← ep1]; exact mt_X11_warsOf hl hT
  subst eg1
  obtain ⟨Z, hZ⟩ : ∃ Z, D_X12_warsOf x0 x1 x2 (f 177 14) (f 180) (f 177 22) (f 177 23) (f 177 24) (f 182) (f 189) (f 190) (f 177 53) (f 177 50) = Z := ⟨_, rfl⟩
  have k2 := k_X12_warsOf (f := f1) (g := g) (p := p1) (d := d) (e := e) x0 x1 x2 (f 177 0) (f 177 11) (f 177 14) (f 180) (f 177 22) (f 177 23) (f 177 24) (f 182) (f 189) (f 190) (f 177 53) (f 177 50) hT1 (congrFun (ka 177 (by decide)) 0) (congrFun (ka 177 (by decide)) 11) (congrFun (ka 177 (by decide)) 14) (ka 180 (by decide)) (congrFun (ka 177 (by decide)) 22) (congrFun (ka 177 (by decide)) 23) (congrFun (ka 177 (by decide)) 24) (ka 182 (by decide)) (ka 189 (by decide)) (ka 190 (by decide)) (congrFun (ka 177 (by decide)) 53) (congrFun (ka 177 (by decide)) 50) (gr_warsOf hL hN hS hh (fun h => (hz h).1)) Z hZ
  obtain ⟨f2, ef2⟩ : ∃ z, mf_X12_warsOf f1 Z.2.1 Z.2.2.1 Z.2.2.2.1 Z.2.2.2.2.1 Z.2.2.2.2.2.1 Z.2.2.2.2.2.2.1 Z.2.2.2.2.2.2.2.1 Z.2.2.2.2.2.2.2.2.1 Z.2.2.2.2.2.2.2.2.2 = z := ⟨_, rfl⟩
  obtain ⟨g2, eg2⟩ : ∃ z, g = z := ⟨_, rfl⟩
  rw [ef2] at k2
  have kk2 : Keeps l f1 f2 := by rw [← ef2]; unfold mf_X12_warsOf; exact (kp_u (Or.inr (Or.inr (Or.inr (Or.inr (Or.inr (Or.inl ⟨rfl, by decide, by decide, by decide, by decide, by decide, by decide⟩)))))) (kp_u (Or.inr (Or.inr (Or.inr (Or.inr (Or.inr (Or.inl ⟨rfl, by decide, by decide, by decide, by decide, by decide, by decide⟩)))))) (kp_v (fun _ => Or.inr (Or.inr (Or.inr (Or.inr (Or.inr (Or.inr (Or.inr (Or.inr ⟨by decide, by decide⟩)))))))) (kp_v (fun _ => Or.inr (Or.inr (Or.inr (Or.inr (Or.inr (Or.inr (Or.inr (Or.inr ⟨by decide, by decide⟩)))))))) (kp_u (Or.inr (Or.inr (Or.inr (Or.inr (Or.inr (Or.inl ⟨rfl, by decide, by decide, by decide, by decide, by decide, by decide⟩)))))) (kp_u (Or.inr (Or.inr (Or.inr (Or.inr (Or.inr (Or.inl ⟨rfl, by decide, by decide, by decide, by decide, by decide, by decide⟩)))))) (kp_u (Or.inr (Or.inr (Or.inr (Or.inr (Or.inr (Or.inl ⟨rfl, by decide, by decide, by decide, by decide, by decide, by decide⟩)))))) (kp_u (Or.inr (Or.inr (Or.inr (Or.inr (Or.inr (Or.inl ⟨rfl, by decide, by decide, by decide, by decide, by decide, by decide⟩)))))) (kp_u (Or.inr (Or.inr (Or.inr (Or.inr (Or.inr (Or.inl ⟨rfl, by decide, by decide, by decide, by decide, by decide, by decide⟩)))))) kp_rfl)))))))))
  have kb2 : KeB f1 f2 := by rw [← ef2]; unfold mf_X12_warsOf; exact (kb_u (by decide) (kb_u (by decide) (kb_v (by decide) (kb_v (by decide) (kb_u (by decide) (kb_u (by decide) (kb_u (by decide) (kb_u (by decide) (kb_u (by decide) kb_rfl)))))))))
  have hp := pub_warsOf (x0 := x0) (x1 := x1) (x2 := x2) (men := (f l 5)) (ptr := (p 171 0)) (present := (f 40 1)) (p2 := (f 171 1)) (braced := (f 40 2)) (b2 := (f 171 2)) (seed := (f 40 3)) (s2 := (f 171 3)) (tenOf := (f 41)) (t2 := (f 172)) (feared := (f 42)) (f2 := (f 173)) (angerOf := (f 43)) (an2 := (f 174)) (lotsOf := (f 44)) (l2 := (f 175)) (held := (f 169 2)) (drawnIn := (f 170)) (tens := (f l 4)) (mutiny := (f l 3)) (oneIn := (f l 1)) (friendsOf := (f (l + 4))) (fear := (f l 2)) (weight := (f (l + 6))) (nerve := (f (l + 3))) (fearTimes := (f (l + 5))) (holds := (f l 0)) (l := l) (hl := (f 177 14)) (rr := (f 180)) (a := (f 177 22)) (b := (f 177 23)) (c := (f 177 24)) (st := (f 182)) (war := (f 189)) (drawnR := (f 190)) (hW := (f 177 53)) (dr := (f 177 50)) hL hN hS hh hM5 (fun h => (hz h).1)
  rw [hY, hZ] at hp
  obtain ⟨ha, hw⟩ := hp
  have w1 : f1 0 12 = Y.2.1 := by rw [← ef1]; exact mr_X11_warsOf_f0 hl
  have w2 : f2 177 11 = Z.2.2.1 := by rw [← ef2]; exact mr_X12_warsOf_f1 
  have w4 : ¬ (D_X11_warsOf x0 x1 x2 (f l 5) (p 171 0) (f 40 1) (f 171 1) (f 40 2) (f 171 2) (f 40 3) (f 171 3) (f 41) (f 172) (f 42) (f 173) (f 43) (f 174) (f 44) (f 175) (f 169 2) (f 170) (f l 4) (f l 3) (f l 1) (f (l + 4)) (f l 2) (f (l + 6)) (f (l + 3)) (f (l + 5)) (f l 0) l).2.1 = 4 := w_warsOf
  rw [hY] at w4
  have w3 : f2 0 12 = Y.2.1 := (congrFun (kb2 0 (by decide)) 12).trans w1
  refine ⟨Y.1, f1, g, p1, f2, g, k1, ?_, ⟨l, r, M, A, I, TP, n, Inv_keep hII (kp_tr kk kk2) kq (by rw [w3, w2]; exact hw) (fun h => absurd (w3.symm.trans h) w4)⟩, hT1, ka am_SC (by decide), kp_row (kp_tr kk kk2) (fun k h => absurd (scr_l hl h) (by decide))⟩
  rw [ha]; exact k2
