/-! ACTS: a call on the class, then on the reference: the same answer, and the relation stands again -/
theorem k_addImage3 {f : Nat → Nat → Int32} {g : Nat → Nat → Int64} {p : Nat → Nat → Option Nat} {d : Nat → Nat × Nat} {e : Nat × Nat} (hT0 : am_T0 p d) (h : f 45 4 = 3) : am_runs (am_en 51 [.ref 45, .ref 40]) (f, g, p, d, e) = some (some (.int (-1)), (f, g, p, d, e)) := by
  show am_runs (51, 0, [.ref 45, .ref 40], []) (f, g, p, d, e) = _
  refine (am_bl 1 (f' := (51, 1, [.ref 45, .ref 40], [.ref 45])) rfl).trans ?_
  refine (rr_gi rfl (t0_k hT0 rfl) h).trans ?_
  refine (am_bl 1 (f' := (51, 5, [.ref 45, .ref 40], [.int 3, .int 3])) rfl).trans ?_
  refine (rj_lt rfl).trans ?_
  rw [if_neg (by decide)]
  refine (am_bl 1 (f' := (51, 9, [.ref 45, .ref 40], [.int (-1)])) rfl).trans ?_
  exact am_grb rfl rfl (Or.inl rfl) rfl
theorem k_image3 {f : Nat → Nat → Int32} {g : Nat → Nat → Int64} {p : Nat → Nat → Option Nat} {d : Nat → Nat × Nat} {e : Nat × Nat} {l : Nat} (hl : l = 5 ∨ l = 23) (hT0 : am_T0 p d) (p03 : p 0 3 = some l) (h4 : ¬ f l 4 = 0) (h : f 45 4 = 3) : am_runs (am_en 178 [.ref 0]) (f, g, p, d, e) = some (some (.int (-1)), (am_u (am_u f 0 12 0) 0 12 3, g, p, d, e)) := by
  have t1 : D_X11_troubleOfLegion (f l 4) = 0 := by unfold D_X11_troubleOfLegion; rw [if_neg h4]
  show am_runs (178, 0, [.ref 0, .retAddr 0], []) (f, g, p, d, e) = _
  refine (am_bl 2 (f' := (178, 2, [.ref 0, .retAddr 0], [.ref 0, .ref 0])) rfl).trans ?_
  refine (ar_cV (v := .int 0) (μ' := (f, g, p, d, e)) rfl rfl rfl rfl rfl rfl rfl (t0_k hT0 rfl) rfl (k_X11_troubleOfLegion l (f l 4) hT0 hl p03 rfl 0 t1)).trans ?_
  refine (ar_cV (v := .int 0) (μ' := (am_u f 0 12 0, g, p, d, e)) rfl rfl rfl rfl rfl rfl rfl (t0_k hT0 rfl) rfl (k_X11_refused 0 (f 0 12) hT0 rfl (0, 0) (by decide))).trans ?_
  refine (ri_eq rfl).trans ?_
  rw [if_pos rfl]
  refine (am_bl 1 (f' := (178, 14, [.ref 0, .retAddr 0], [.ref 0])) rfl).trans ?_
  refine (ar_gr (r := 45) rfl (t0_k hT0 rfl) (t0_p hT0 rfl)).trans ?_
  refine (am_bl 1 (f' := (178, 18, [.ref 0, .retAddr 0], [.ref 0, .ref 45])) rfl).trans ?_
  refine (ar_gr (r := 40) rfl (t0_k hT0 rfl) (t0_p hT0 rfl)).trans ?_
  refine (ar_cV (v := .int (-1)) (μ' := (am_u f 0 12 0, g, p, d, e)) rfl rfl rfl rfl rfl rfl rfl (t0_k hT0 rfl) rfl (k_addImage3 hT0 ((au_ne _ _ (Or.inl (by decide))).trans h))).trans ?_
  refine (am_bl 4 (f' := (178, 28, [.ref 0, .int (-1)], [.int (-1), .int (-1), .ref 0])) rfl).trans ?_
  refine (rj_ne rfl).trans ?_
  rw [if_pos rfl]
  refine (am_bl 2 (f' := (178, 36, [.ref 0, .int (-1)], [.int 3, .ref 0])) rfl).trans ?_
  refine (ar_cV (v := .int 1) (μ' := (am_u (am_u f 0 12 0) 0 12 3, g, p, d, e)) rfl rfl rfl rfl rfl rfl rfl (t0_k hT0 rfl) rfl (k_X11_refused 3 0 hT0 (au_eq _ _ _ _) (1, 3) (by decide))).trans ?_
  refine (ri_eq rfl).trans ?_
  rw [if_neg (by decide)]
  refine (am_bl 2 (f' := (178, 47, [.ref 0, .int (-1)], [.int (-1)])) rfl).trans ?_
  exact am_grb rfl rfl (Or.inl rfl) rfl
theorem k_goBack0 {f : Nat → Nat → Int32} {g : Nat → Nat → Int64} {p : Nat → Nat → Option Nat} {d : Nat → Nat × Nat} {e : Nat × Nat} {x0 : Int32} (hT0 : am_T0 p d) (h : x0 < 0 ∨ (¬ x0 < 0 ∧ ¬ x0 < f 45 4)) : am_runs (am_en 52 [.ref 45, .int x0, .ref 40]) (f, g, p, d, e) = some (some (.int 0), (f, g, p, d, e)) := by
  show am_runs (52, 0, [.ref 45, .int x0, .ref 40], []) (f, g, p, d, e) = _
  refine (am_bl 1 (f' := (52, 1, [.ref 45, .int x0, .ref 40], [.int x0])) rfl).trans ?_
  refine (ri_lt rfl).trans ?_
  have E : am_runs (52, 12, [.ref 45, .int x0, .ref 40], []) (f, g, p, d, e) = some (some (.int 0), (f, g, p, d, e)) := (am_bl 1 (f' := (52, 13, [.ref 45, .int x0, .ref 40], [.int 0])) rfl).trans (am_grb rfl rfl (Or.inr (Or.inl rfl)) rfl)
  rcases h with h | ⟨h1, h2⟩
  · rw [if_pos h]; exact E
  · rw [if_neg h1]
    refine (am_bl 2 (f' := (52, 6, [.ref 45, .int x0, .ref 40], [.ref 45, .int x0])) rfl).trans ?_
    refine (rr_gi rfl (t0_k hT0 rfl) rfl).trans ?_
    refine (rj_lt rfl).trans ?_
    rw [if_neg h2]; exact E
theorem k_back0 {f : Nat → Nat → Int32} {g : Nat → Nat → Int64} {p : Nat → Nat → Option Nat} {d : Nat → Nat × Nat} {e : Nat × Nat} {x0 : Int32} (hT0 : am_T0 p d) (h : x0 < 0 ∨ (¬ x0 < 0 ∧ ¬ x0 < f 45 4)) : am_runs (am_en 179 [.ref 0, .int x0]) (f, g, p, d, e) = some (some (.int 0), (am_u f 0 12 1, g, p, d, e)) := by
  show am_runs (179, 0, [.ref 0, .int x0], []) (f, g, p, d, e) = _
  refine (am_bl 2 (f' := (179, 2, [.ref 0, .int x0], [.ref 0, .ref 0])) rfl).trans ?_
  refine (ar_gr (r := 45) rfl (t0_k hT0 rfl) (t0_p hT0 rfl)).trans ?_
  refine (am_bl 2 (f' := (179, 7, [.ref 0, .int x0], [.ref 0, .int x0, .ref 45, .ref 0])) rfl).trans ?_
  refine (ar_gr (r := 40) rfl (t0_k hT0 rfl) (t0_p hT0 rfl)).trans ?_
  refine (ar_cV (v := .int 0) (μ' := (f, g, p, d, e)) rfl rfl rfl rfl rfl rfl rfl (t0_k hT0 rfl) rfl (k_goBack0 hT0 h)).trans ?_
  refine (ri_eq rfl).trans ?_
  rw [if_pos rfl]
  refine (am_bl 1 (f' := (179, 21, [.ref 0, .int x0], [.int 1, .ref 0])) rfl).trans ?_
  refine (ar_cV (v := .int 1) (μ' := (am_u f 0 12 1, g, p, d, e)) rfl rfl rfl rfl rfl rfl rfl (t0_k hT0 rfl) rfl (k_X11_refused 1 (f 0 12) hT0 rfl (1, 1) (by decide))).trans ?_
  refine (ri_ne rfl).trans ?_
  rw [if_neg (by decide)]
  refine (am_bl 1 (f' := (179, 32, [.ref 0, .int x0], [.int 0])) rfl).trans ?_
  exact am_grb rfl rfl (Or.inr (Or.inl rfl)) rfl
theorem q_lot {f : Nat → Nat → Int32} {g : Nat → Nat → Int64} {p : Nat → Nat → Option Nat} {d : Nat → Nat × Nat} {e : Nat × Nat} {x0 : Int32} (hI0 : Inv f p) (hT : am_T0 p d) : Run2 Value.int f g p d e 173 317 [.int x0] := by
  obtain ⟨l, r, M, A, I, TP, n, hI⟩ := hI0
  have hII := hI
  obtain ⟨hlr, p03, p40, p23, psl, pim, hL, hM5, hP6, hN, hS, hh, hz, hH, hE, hPf, hsy, ⟨q, hq, hsd⟩, hHi, hTP, hA, hUn, hsA, hIm, hI4, hI21, hsI, hn, ht1, ht2, hTp, hfa, hwh, hpl⟩ := hI
  have hl : l = 5 ∨ l = 23 := by omega
  have hP : TP < 16 := hHi.1
  have hA16 : A ≤ 16 := hHi.2.1
  have hI3 : I ≤ 3 := hIm.1
  obtain ⟨T, hT3, hT4⟩ : ∃ T, T ≤ 3 ∧ f l 4 = nI T := by obtain ⟨T, a, b⟩ := hL.2.2.2.2.2.2.2.2.2.2.2.2.2.1; exact ⟨T, a, hL.h4.trans b⟩
  have hcl : (nI TP).toNatClampNeg = TP := nI_clamp (by omega)
  obtain ⟨Y, hY⟩ : ∃ Y, D_X11_lot x0 (f l 4) (f 40 1) (f 43) (f l 3) (f 41) (nI TP) (p (5 * TP + 48) 0) (f (5 * TP + 48) 1) (f 40 2) (f (5 * TP + 48) 2) (f 40 3) (f (5 * TP + 48) 3) (f (5 * TP + 49)) (f 42) (f (5 * TP + 50)) (f (5 * TP + 51)) (f 44) (f (5 * TP + 52)) (f 45 3) (f l 1) (f (l + 4)) l = Y := ⟨_, rfl⟩
  have k1 := k_X11_lot (f := f) (g := g) (p := p) (d := d) (e := e) l x0 (f l 4) (f 40 1) (f 43) (f l 3) (f 41) (f 0 12) (nI TP) (p (5 * TP + 48) 0) (f (5 * TP + 48) 1) (f 40 2) (f (5 * TP + 48) 2) (f 40 3) (f (5 * TP + 48) 3) (f (5 * TP + 49)) (f 42) (f (5 * TP + 50)) (f (5 * TP + 51)) (f 44) (f (5 * TP + 52)) (f 45 3) (f l 1) (f (l + 4)) hT hl p03 rfl rfl rfl p40 rfl rfl rfl hTP (by rw [hcl]) (by rw [hcl]) rfl (by rw [hcl]) rfl (by rw [hcl]) (by rw [hcl]) rfl (by rw [hcl]) (by rw [hcl]) rfl (by rw [hcl]) rfl rfl rfl (gc_lot hP rfl hT3 hT4) Y hY
  rw [hcl] at k1
  obtain ⟨f1, ef1⟩ : ∃ z, mf_X11_lot f TP Y.2.1 Y.2.2.1 Y.2.2.2.1 Y.2.2.2.2.1 Y.2.2.2.2.2.1 Y.2.2.2.2.2.2.1 Y.2.2.2.2.2.2.2.1 Y.2.2.2.2.2.2.2.2.1 Y.2.2.2.2.2.2.2.2.2.1 Y.2.2.2.2.2.2.2.2.2.2.1 Y.2.2.2.2.2.2.2.2.2.2.2.2.1 Y.2.2.2.2.2.2.2.2.2.2.2.2.2.1 Y.2.2.2.2.2.2.2.2.2.2.2.2.2.2.1 Y.2.2.2.2.2.2.2.2.2.2.2.2.2.2.2.1 Y.2.2.2.2.2.2.2.2.2.2.2.2.2.2.2.2 = z := ⟨_, rfl⟩
  rw [ef1] at k1
  obtain ⟨p1, ep1⟩ : ∃ z, mp_X11_lot p TP Y.2.2.2.2.2.2.2.2.2.2.2.1 = z := ⟨_, rfl⟩
  rw [ep1] at k1
  have ka : KeA f f1 := by rw [← ef1]; unfold mf_X11_lot; exact (ka_v (by omega) (ka_v (by omega) (ka_v (by omega) (ka_u (by omega) (ka_u (by omega) (ka_u (by omega) (ka_u (by omega) (ka_v (by omega) (ka_v (by omega) (ka_v (by omega) (ka_v (by omega) (ka_u (by omega) (ka_u (by omega) (ka_u (by omega) (ka_u (by omega) ka_rfl)))))))))))))))
  have hT1 : am_T0 p1 d := by rw [← ep1]; exact mt_X11_lot hl hP hT
  obtain ⟨Z, hZ⟩ : ∃ Z, D_X12_lot x0 (f 177 14) (f 180) (f 182) (nI A) (f 183) (f 177 50) = Z := ⟨_, rfl⟩
  have k2 := k_X12_lot (f := f1) (g := g) (p := p1) (d := d) (e := e) x0 (f 177 0) (f 177 11) (f 177 14) (f 180) (f 182) (nI A) (f 183) (f 177 50) hT1 (congrFun (ka 177 (by decide)) 0) (congrFun (ka 177 (by decide)) 11) (congrFun (ka 177 (by decide)) 14) (ka 180 (by decide)) (ka 182 (by decide)) ((congrFun (ka 177 (by decide)) 20).trans hUn) (ka 183 (by decide)) (congrFun (ka 177 (by decide)) 50) (gr_lot hL hN hS hh hA16 hsd hq) Z hZ
  obtain ⟨f2, ef2⟩ : ∃ z, mf_X12_lot f1 Z.2.1 Z.2.2.1 Z.2.2.2.1 Z.2.2.2.2.1 Z.2.2.2.2.2.1 Z.2.2.2.2.2.2 = z := ⟨_, rfl⟩
  rw [ef2] at k2
  have kb2 : KeB f1 f2 := by rw [← ef2]; unfold mf_X12_lot; exact (kb_v (by omega) (kb_u (by omega) (kb_u (by omega) (kb_v (by omega) (kb_u (by omega) (kb_u (by omega) kb_rfl))))))
  have w4 : ¬ (D_X11_lot x0 (f l 4) (f 40 1) (f 43) (f l 3) (f 41) (nI TP) (p (5 * TP + 48) 0) (f (5 * TP + 48) 1) (f 40 2) (f (5 * TP + 48) 2) (f 40 3) (f (5 * TP + 48) 3) (f (5 * TP + 49)) (f 42) (f (5 * TP + 50)) (f (5 * TP + 51)) (f 44) (f (5 * TP + 52)) (f 45 3) (f l 1) (f (l + 4)) l).2.1 = 4 := w_lot
  rw [hY] at w4
  rcases act_lot (x0 := x0) (tens := (f l 4)) (present := (f 40 1)) (angerOf := (f 43)) (mutiny := (f l 3)) (tenOf := (f 41)) (top := (nI TP)) (ptr := (p (5 * TP + 48) 0)) (p2 := (f (5 * TP + 48) 1)) (braced := (f 40 2)) (b2 := (f (5 * TP + 48) 2)) (seed := (f 40 3)) (s2 := (f (5 * TP + 48) 3)) (t2 := (f (5 * TP + 49))) (feared := (f 42)) (f2 := (f (5 * TP + 50))) (an2 := (f (5 * TP + 51))) (lotsOf := (f 44)) (l2 := (f (5 * TP + 52))) (acts := (f 45 3)) (oneIn := (f l 1)) (friendsOf := (f (l + 4))) (l := l) (hl := (f 177 14)) (rr := (f 180)) (st := (f 182)) (undos := (nI A)) (undone := (f 183)) (dr := (f 177 50)) hL hN hS hh hsd hq with ⟨w, hw0, e1, e2⟩ | ⟨n', black, q', st', Y', hn3, hx, hq', e1, e2, hN', hS'⟩
  · have e1 := hY.symm.trans e1
    have e2 := hZ.symm.trans e2
    subst e1 e2
    dsimp only at k1 k2 ef1 ep1 ef2 w4
    have kk : KeS (Scr l) f f1 := by rw [← ef1]; unfold mf_X11_lot; exact (ks_vo rfl (ks_vo rfl (ks_vo rfl (ks_uo rfl (ks_uo rfl (ks_uo rfl (ks_uo hTP.symm (ks_vo rfl (ks_vo rfl (ks_vo rfl (ks_vo rfl (ks_uo rfl (ks_uo rfl (ks_uo rfl (ks_u (by unfold Scr; omega) ks_rfl)))))))))))))))
    have kq : KeP p p1 := by rw [← ep1]; unfold mp_X11_lot; exact (ks_uo (S := fun a k => 143 ≤ a ∧ a ≤ 176) rfl ks_rfl)
    have kk2 : KeS (Scr l) f f2 := by rw [← ef2]; unfold mf_X12_lot; exact (ks_vo rfl (ks_u (by unfold Scr; omega) (ks_uo hUn.symm (ks_vo rfl (ks_u (by unfold Scr; omega) (ks_u (by unfold Scr; omega) kk))))))
    have w1 := ((congrFun (kb2 (0) (by omega)) 12).trans ((congrFun (congrFun ef1.symm (0)) 12).trans (Eq.trans (congrFun (va_up_ne _ _ (by omega)) _) (Eq.trans (congrFun (va_up_ne _ _ (by omega)) _) (Eq.trans (congrFun (va_up_ne _ _ (by omega)) _) (Eq.trans (au_ne _ _ (Or.inl (by omega))) (Eq.trans (au_ne _ _ (Or.inl (by omega))) (Eq.trans (au_ne _ _ (Or.inl (by omega))) (Eq.trans (au_ne _ _ (Or.inl (by omega))) (Eq.trans (congrFun (va_up_ne _ _ (by omega)) _) (Eq.trans (congrFun (va_up_ne _ _ (by omega)) _) (Eq.trans (congrFun (va_up_ne _ _ (by omega)) _) (Eq.trans (congrFun (va_up_ne _ _ (by omega)) _) (Eq.trans (au_ne _ _ (Or.inl (by omega))) (Eq.trans (au_ne _ _ (Or.inl (by omega))) (Eq.trans (au_ne _ _ (Or.inl (by omega))) (au_eq _ _ _ _)))))))))))))))))
    have w2 : f2 177 11 = _ := ((congrFun (congrFun ef2.symm 177) 11).trans (Eq.trans (congrFun (va_up_ne _ _ (by omega)) _) (Eq.trans (au_ne _ _ (Or.inr (by decide))) (Eq.trans (au_ne _ _ (Or.inr (by decide))) (Eq.trans (congrFun (va_up_ne _ _ (by omega)) _) (au_eq _ _ _ _))))))
    exact ⟨_, f1, g, p1, f2, g, k1, k2, ⟨l, r, M, A, I, TP, n, Inv_keep hII kk2 kq (w1.trans w2.symm) (fun h => absurd (w1.symm.trans h) w4)⟩, hT1, ka am_SC (by decide), ks_row kk2 (fun k h => absurd (scr_l hl h) (by decide))⟩
  · have e1 := hY.symm.trans e1
    have e2 := hZ.symm.trans e2
    subst e1 e2
    dsimp only at k1 k2 ef1 ep1 ef2 w4
    have kk1 : KeS (SA l TP) f f1 := by rw [← ef1]; unfold mf_X11_lot; exact (ks_v (fun k => by unfold SA Scr; omega) (ks_v (fun k => by unfold SA Scr; omega) (ks_v (fun k => by unfold SA Scr; omega) (ks_u (by unfold SA Scr; omega) (ks_u (by unfold SA Scr; omega) (ks_u (by unfold SA Scr; omega) (ks_u (by unfold SA Scr; omega) (ks_v (fun k => by unfold SA Scr; omega) (ks_v (fun k => by unfold SA Scr; omega) (ks_v (fun k => by unfold SA Scr; omega) (ks_v (fun k => by unfold SA Scr; omega) (ks_u (by unfold SA Scr; omega) (ks_u (by unfold SA Scr; omega) (ks_u (by unfold SA Scr; omega) (ks_u (by unfold SA Scr; omega) ks_rfl)))))))))))))))
    have kk : KeS (SA l TP) f f2 := by rw [← ef2]; unfold mf_X12_lot; exact (ks_v (fun k => by unfold SA Scr; omega) (ks_u (by unfold SA Scr; omega) (ks_u (by unfold SA Scr; omega) (ks_v (fun k => by unfold SA Scr; omega) (ks_u (by unfold SA Scr; omega) (ks_u (by unfold SA Scr; omega) kk1))))))
    have kp : KeS (PA TP) p p1 := by rw [← ep1]; unfold mp_X11_lot; exact (ks_u (by unfold PA; omega) ks_rfl)
    have hpt : p1 (5 * TP + 48) 0 = some l := by rw [← ep1]; unfold mp_X11_lot; exact (au_eq _ _ _ _)
    have s1 : f2 (5 * TP + 48) 1 = _ := ((congrFun (kb2 (5 * TP + 48) (by omega)) 1).trans ((congrFun (congrFun ef1.symm (5 * TP + 48)) 1).trans (Eq.trans (congrFun (va_up_ne _ _ (by omega)) _) (Eq.trans (congrFun (va_up_ne _ _ (by omega)) _) (Eq.trans (congrFun (va_up_ne _ _ (by omega)) _) (Eq.trans (au_ne _ _ (Or.inl (by omega))) (Eq.trans (au_ne _ _ (Or.inl (by omega))) (Eq.trans (au_ne _ _ (Or.inl (by omega))) (Eq.trans (au_ne _ _ (Or.inl (by omega))) (Eq.trans (congrFun (va_up_ne _ _ (by omega)) _) (Eq.trans (congrFun (va_up_ne _ _ (by omega)) _) (Eq.trans (congrFun (va_up_ne _ _ (by omega)) _) (Eq.trans (congrFun (va_up_ne _ _ (by omega)) _) (Eq.trans (au_ne _ _ (Or.inr (by decide))) (Eq.trans (au_ne _ _ (Or.inr (by decide))) (au_eq _ _ _ _))))))))))))))))
    have s2 : f2 (5 * TP + 48) 2 = _ := ((congrFun (kb2 (5 * TP + 48) (by omega)) 2).trans ((congrFun (congrFun ef1.symm (5 * TP + 48)) 2).trans (Eq.trans (congrFun (va_up_ne _ _ (by omega)) _) (Eq.trans (congrFun (va_up_ne _ _ (by omega)) _) (Eq.trans (congrFun (va_up_ne _ _ (by omega)) _) (Eq.trans (au_ne _ _ (Or.inl (by omega))) (Eq.trans (au_ne _ _ (Or.inl (by omega))) (Eq.trans (au_ne _ _ (Or.inl (by omega))) (Eq.trans (au_ne _ _ (Or.inl (by omega))) (Eq.trans (congrFun (va_up_ne _ _ (by omega)) _) (Eq.trans (congrFun (va_up_ne _ _ (by omega)) _) (Eq.trans (congrFun (va_up_ne _ _ (by omega)) _) (Eq.trans (congrFun (va_up_ne _ _ (by omega)) _) (Eq.trans (au_ne _ _ (Or.inr (by decide))) (au_eq _ _ _ _)))))))))))))))
    have s3 : f2 (5 * TP + 48) 3 = _ := ((congrFun (kb2 (5 * TP + 48) (by omega)) 3).trans ((congrFun (congrFun ef1.symm (5 * TP + 48)) 3).trans (Eq.trans (congrFun (va_up_ne _ _ (by omega)) _) (Eq.trans (congrFun (va_up_ne _ _ (by omega)) _) (Eq.trans (congrFun (va_up_ne _ _ (by omega)) _) (Eq.trans (au_ne _ _ (Or.inl (by omega))) (Eq.trans (au_ne _ _ (Or.inl (by omega))) (Eq.trans (au_ne _ _ (Or.inl (by omega))) (Eq.trans (au_ne _ _ (Or.inl (by omega))) (Eq.trans (congrFun (va_up_ne _ _ (by omega)) _) (Eq.trans (congrFun (va_up_ne _ _ (by omega)) _) (Eq.trans (congrFun (va_up_ne _ _ (by omega)) _) (Eq.trans (congrFun (va_up_ne _ _ (by omega)) _) (au_eq _ _ _ _))))))))))))))
    have s4 : f2 (5 * TP + 49) = _ := ((kb2 (5 * TP + 49) (by omega)).trans ((congrFun ef1.symm (5 * TP + 49)).trans (Eq.trans (va_up_ne _ _ (by omega)) (Eq.trans (va_up_ne _ _ (by omega)) (Eq.trans (va_up_ne _ _ (by omega)) (Eq.trans (am_urow (by omega)) (Eq.trans (am_urow (by omega)) (Eq.trans (am_urow (by omega)) (Eq.trans (am_urow (by omega)) (Eq.trans (va_up_ne _ _ (by omega)) (Eq.trans (va_up_ne _ _ (by omega)) (Eq.trans (va_up_ne _ _ (by omega)) (va_up_self _ _ _)))))))))))))
    have s5 : f2 (5 * TP + 50) = _ := ((kb2 (5 * TP + 50) (by omega)).trans ((congrFun ef1.symm (5 * TP + 50)).trans (Eq.trans (va_up_ne _ _ (by omega)) (Eq.trans (va_up_ne _ _ (by omega)) (Eq.trans (va_up_ne _ _ (by omega)) (Eq.trans (am_urow (by omega)) (Eq.trans (am_urow (by omega)) (Eq.trans (am_urow (by omega)) (Eq.trans (am_urow (by omega)) (Eq.trans (va_up_ne _ _ (by omega)) (Eq.trans (va_up_ne _ _ (by omega)) (va_up_self _ _ _))))))))))))
    have s6 : f2 (5 * TP + 51) = _ := ((kb2 (5 * TP + 51) (by omega)).trans ((congrFun ef1.symm (5 * TP + 51)).trans (Eq.trans (va_up_ne _ _ (by omega)) (Eq.trans (va_up_ne _ _ (by omega)) (Eq.trans (va_up_ne _ _ (by omega)) (Eq.trans (am_urow (by omega)) (Eq.trans (am_urow (by omega)) (Eq.trans (am_urow (by omega)) (Eq.trans (am_urow (by omega)) (Eq.trans (va_up_ne _ _ (by omega)) (va_up_self _ _ _)))))))))))
    have s7 : f2 (5 * TP + 52) = _ := ((kb2 (5 * TP + 52) (by omega)).trans ((congrFun ef1.symm (5 * TP + 52)).trans (Eq.trans (va_up_ne _ _ (by omega)) (Eq.trans (va_up_ne _ _ (by omega)) (Eq.trans (va_up_ne _ _ (by omega)) (Eq.trans (am_urow (by omega)) (Eq.trans (am_urow (by omega)) (Eq.trans (am_urow (by omega)) (Eq.trans (am_urow (by omega)) (va_up_self _ _ _))))))))))
    have r1 : f2 40 1 = _ := ((congrFun (kb2 (40) (by omega)) 1).trans ((congrFun (congrFun ef1.symm (40)) 1).trans (Eq.trans (congrFun (va_up_ne _ _ (by omega)) _) (Eq.trans (congrFun (va_up_ne _ _ (by omega)) _) (Eq.trans (congrFun (va_up_ne _ _ (by omega)) _) (au_eq _ _ _ _))))))
    have r2 : f2 40 2 = _ := ((congrFun (kb2 (40) (by omega)) 2).trans ((congrFun (congrFun ef1.symm (40)) 2).trans (Eq.trans (congrFun (va_up_ne _ _ (by omega)) _) (Eq.trans (congrFun (va_up_ne _ _ (by omega)) _) (Eq.trans (congrFun (va_up_ne _ _ (by omega)) _) (Eq.trans (au_ne _ _ (Or.inr (by decide))) (Eq.trans (au_ne _ _ (Or.inr (by decide))) (Eq.trans (au_ne _ _ (Or.inl (by omega))) (Eq.trans (au_ne _ _ (Or.inl (by omega))) (Eq.trans (congrFun (va_up_ne _ _ (by omega)) _) (Eq.trans (congrFun (va_up_ne _ _ (by omega)) _) (Eq.trans (congrFun (va_up_ne _ _ (by omega)) _) (Eq.trans (congrFun (va_up_ne _ _ (by omega)) _) (Eq.trans (au_ne _ _ (Or.inl (by omega))) (Eq.trans (au_ne _ _ (Or.inl (by omega))) (Eq.trans (au_ne _ _ (Or.inl (by omega))) (au_ne _ _ (Or.inl (by omega)))))))))))))))))))
    have r3 : f2 40 3 = _ := ((congrFun (kb2 (40) (by omega)) 3).trans ((congrFun (congrFun ef1.symm (40)) 3).trans (Eq.trans (congrFun (va_up_ne _ _ (by omega)) _) (Eq.trans (congrFun (va_up_ne _ _ (by omega)) _) (Eq.trans (congrFun (va_up_ne _ _ (by omega)) _) (Eq.trans (au_ne _ _ (Or.inr (by decide))) (au_eq _ _ _ _)))))))
    have r4 : f2 41 = _ := ((kb2 (41) (by omega)).trans ((congrFun ef1.symm (41)).trans (Eq.trans (va_up_ne _ _ (by omega)) (Eq.trans (va_up_ne _ _ (by omega)) (Eq.trans (va_up_ne _ _ (by omega)) (Eq.trans (am_urow (by omega)) (Eq.trans (am_urow (by omega)) (Eq.trans (am_urow (by omega)) (Eq.trans (am_urow (by omega)) (Eq.trans (va_up_ne _ _ (by omega)) (Eq.trans (va_up_ne _ _ (by omega)) (Eq.trans (va_up_ne _ _ (by omega)) (Eq.trans (va_up_ne _ _ (by omega)) (Eq.trans (am_urow (by omega)) (Eq.trans (am_urow (by omega)) (Eq.trans (am_urow (by omega)) (am_urow (by omega))))))))))))))))))
    have r5 : f2 42 = _ := ((kb2 (42) (by omega)).trans ((congrFun ef1.symm (42)).trans (Eq.trans (va_up_ne _ _ (by omega)) (va_up_self _ _ _))))
    have r6 : f2 43 = _ := ((kb2 (43) (by omega)).trans ((congrFun ef1.symm (43)).trans (va_up_self _ _ _)))
    have r7 : f2 44 = _ := ((kb2 (44) (by omega)).trans ((congrFun ef1.symm (44)).trans (Eq.trans (va_up_ne _ _ (by omega)) (Eq.trans (va_up_ne _ _ (by omega)) (va_up_self _ _ _)))))
    have t2 : f2 45 2 = _ := ((congrFun (kb2 (45) (by omega)) 2).trans ((congrFun (congrFun ef1.symm (45)) 2).trans (Eq.trans (congrFun (va_up_ne _ _ (by omega)) _) (Eq.trans (congrFun (va_up_ne _ _ (by omega)) _) (Eq.trans (congrFun (va_up_ne _ _ (by omega)) _) (Eq.trans (au_ne _ _ (Or.inl (by omega))) (Eq.trans (au_ne _ _ (Or.inl (by omega))) (Eq.trans (au_ne _ _ (Or.inr (by decide))) (au_eq _ _ _ _)))))))))
    have t3 : f2 45 3 = _ := ((congrFun (kb2 (45) (by omega)) 3).trans ((congrFun (congrFun ef1.symm (45)) 3).trans (Eq.trans (congrFun (va_up_ne _ _ (by omega)) _) (Eq.trans (congrFun (va_up_ne _ _ (by omega)) _) (Eq.trans (congrFun (va_up_ne _ _ (by omega)) _) (Eq.trans (au_ne _ _ (Or.inl (by omega))) (Eq.trans (au_ne _ _ (Or.inl (by omega))) (au_eq _ _ _ _))))))))
    have w1 : f2 0 12 = _ := ((congrFun (kb2 (0) (by omega)) 12).trans ((congrFun (congrFun ef1.symm (0)) 12).trans (Eq.trans (congrFun (va_up_ne _ _ (by omega)) _) (Eq.trans (congrFun (va_up_ne _ _ (by omega)) _) (Eq.trans (congrFun (va_up_ne _ _ (by omega)) _) (Eq.trans (au_ne _ _ (Or.inl (by omega))) (Eq.trans (au_ne _ _ (Or.inl (by omega))) (Eq.trans (au_ne _ _ (Or.inl (by omega))) (Eq.trans (au_ne _ _ (Or.inl (by omega))) (Eq.trans (congrFun (va_up_ne _ _ (by omega)) _) (Eq.trans (congrFun (va_up_ne _ _ (by omega)) _) (Eq.trans (congrFun (va_up_ne _ _ (by omega)) _) (Eq.trans (congrFun (va_up_ne _ _ (by omega)) _) (Eq.trans (au_ne _ _ (Or.inl (by omega))) (Eq.trans (au_ne _ _ (Or.inl (by omega))) (Eq.trans (au_ne _ _ (Or.inl (by omega))) (au_eq _ _ _ _)))))))))))))))))
    have u1 : f2 182 = _ := ((congrFun ef2.symm 182).trans (va_up_self _ _ _))
    have u2 : f2 183 = _ := ((congrFun ef2.symm 183).trans (Eq.trans (va_up_ne _ _ (by omega)) (Eq.trans (am_urow (by omega)) (Eq.trans (am_urow (by omega)) (va_up_self _ _ _)))))
    have u3 : f2 177 20 = _ := ((congrFun (congrFun ef2.symm 177) 20).trans (Eq.trans (congrFun (va_up_ne _ _ (by omega)) _) (Eq.trans (au_ne _ _ (Or.inr (by decide))) (au_eq _ _ _ _))))
    have w2 : f2 177 11 = _ := ((congrFun (congrFun ef2.symm 177) 11).trans (Eq.trans (congrFun (va_up_ne _ _ (by omega)) _) (Eq.trans (au_ne _ _ (Or.inr (by decide))) (Eq.trans (au_ne _ _ (Or.inr (by decide))) (Eq.trans (congrFun (va_up_ne _ _ (by omega)) _) (au_eq _ _ _ _))))))
    have hh0 : ¬ f 177 14 = 0 := fun h0 => by
      have h1 : (D_X12_lot x0 (f 177 14) (f 180) (f 182) (nI A) (f 183) (f 177 50)).2.2.1 = 1 := by unfold D_X12_lot D_X12_isTen; rw [if_pos h0, if_pos rfl]; rfl
      rw [hZ] at h1
      exact absurd (show (0 : Int32) = 1 from h1) (by decide)
    exact ⟨_, f1, g, p1, f2, g, k1, k2, Inv_hist hII kk kp hpt s1 s2 s3 s4 s5 s6 s7 (by rw [t2, hTP]) t3 (by rw [u2, hUn]) (by rw [u3, hUn]) (by rw [r1, r2, r3, r4, r5, r6, r7, u1]; exact hN') (by rw [r1]; exact hS') ⟨q', hq', r3⟩ hh0 (w1.trans w2.symm) (fun h => absurd (w1.symm.trans h) (by decide)), hT1, ka am_SC (by decide), ks_row kk (fun k => by unfold SA Scr am_SC; omega)⟩
theorem q_braces {f : Nat → Nat → Int32} {g : Nat → Nat → Int64} {p : Nat → Nat → Option Nat} {d : Nat → Nat × Nat} {e : Nat × Nat} {x0 x1 : Int32} (hI0 : Inv f p) (hT : am_T0 p d) (hb1 : x1 = 0 ∨ x1 = 1) : Run2 Value.int f g p d e 174 318 [.int x0, .int x1] := by
  obtain ⟨l, r, M, A, I, TP, n, hI⟩ := hI0
  have hII := hI
  obtain ⟨hlr, p03, p40, p23, psl, pim, hL, hM5, hP6, hN, hS, hh, hz, hH, hE, hPf, hsy, ⟨q, hq, hsd⟩, hHi, hTP, hA, hUn, hsA, hIm, hI4, hI21, hsI, hn, ht1, ht2, hTp, hfa, hwh, hpl⟩ := hI
  have hl : l = 5 ∨ l = 23 := by omega
  have hP : TP < 16 := hHi.1
  have hA16 : A ≤ 16 := hHi.2.1
  have hI3 : I ≤ 3 := hIm.1
  obtain ⟨T, hT3, hT4⟩ : ∃ T, T ≤ 3 ∧ f l 4 = nI T := by obtain ⟨T, a, b⟩ := hL.2.2.2.2.2.2.2.2.2.2.2.2.2.1; exact ⟨T, a, hL.h4.trans b⟩
  have hcl : (nI TP).toNatClampNeg = TP := nI_clamp (by omega)
  obtain ⟨Y, hY⟩ : ∃ Y, D_X11_braces x0 x1 (f l 5) (f 40 1) (f 40 2) (nI TP) (p (5 * TP + 48) 0) (f (5 * TP + 48) 1) (f (5 * TP + 48) 2) (f 40 3) (f (5 * TP + 48) 3) (f 41) (f (5 * TP + 49)) (f 42) (f (5 * TP + 50)) (f 43) (f (5 * TP + 51)) (f 44) (f (5 * TP + 52)) (f 45 3) l = Y := ⟨_, rfl⟩
  have k1 := k_X11_braces (f := f) (g := g) (p := p) (d := d) (e := e) l x0 x1 (f l 5) (f 40 1) (f 40 2) (f 0 12) (nI TP) (p (5 * TP + 48) 0) (f (5 * TP + 48) 1) (f (5 * TP + 48) 2) (f 40 3) (f (5 * TP + 48) 3) (f 41) (f (5 * TP + 49)) (f 42) (f (5 * TP + 50)) (f 43) (f (5 * TP + 51)) (f 44) (f (5 * TP + 52)) (f 45 3) hT hl p03 rfl rfl rfl rfl hTP p40 (by rw [hcl]) (by rw [hcl]) (by rw [hcl]) rfl (by rw [hcl]) rfl (by rw [hcl]) rfl (by rw [hcl]) rfl (by rw [hcl]) rfl (by rw [hcl]) rfl (gc_braces hP rfl) Y hY
  rw [hcl] at k1
  obtain ⟨f1, ef1⟩ : ∃ z, mf_X11_braces f TP Y.2.1 Y.2.2.1 Y.2.2.2.1 Y.2.2.2.2.1 Y.2.2.2.2.2.1 Y.2.2.2.2.2.2.1 Y.2.2.2.2.2.2.2.1 Y.2.2.2.2.2.2.2.2.1 Y.2.2.2.2.2.2.2.2.2.1 Y.2.2.2.2.2.2.2.2.2.2.1 Y.2.2.2.2.2.2.2.2.2.2.2.2 = z := ⟨_, rfl⟩
  rw [ef1] at k1
  obtain ⟨p1, ep1⟩ : ∃ z, mp_X11_braces p TP Y.2.2.2.2.2.2.2.2.2.2.2.1 = z := ⟨_, rfl⟩
  rw [ep1] at k1
  have ka : KeA f f1 := by rw [← ef1]; unfold mf_X11_braces; exact (ka_u (by omega) (ka_u (by omega) (ka_u (by omega) (ka_v (by omega) (ka_v (by omega) (ka_v (by omega) (ka_v (by omega) (ka_u (by omega) (ka_u (by omega) (ka_u (by omega) (ka_u (by omega) ka_rfl)))))))))))
  have hT1 : am_T0 p1 d := by rw [← ep1]; exact mt_X11_braces hl hP hT
  obtain ⟨Z, hZ⟩ : ∃ Z, D_X12_braces x0 x1 (f 177 14) (f 180) (f 182) (nI A) (f 183) = Z := ⟨_, rfl⟩
  have k2 := k_X12_braces (f := f1) (g := g) (p := p1) (d := d) (e := e) x0 x1 (f 177 0) (f 177 11) (f 177 14) (f 180) (f 182) (nI A) (f 183) hT1 (congrFun (ka 177 (by decide)) 0) (congrFun (ka 177 (by decide)) 11) (congrFun (ka 177 (by decide)) 14) (ka 180 (by decide)) (ka 182 (by decide)) ((congrFun (ka 177 (by decide)) 20).trans hUn) (ka 183 (by decide)) (gr_braces hA16) Z hZ
  obtain ⟨f2, ef2⟩ : ∃ z, mf_X12_braces f1 Z.2.1 Z.2.2.1 Z.2.2.2.1 Z.2.2.2.2.1 Z.2.2.2.2.2 = z := ⟨_, rfl⟩
  rw [ef2] at k2
  have kb2 : KeB f1 f2 := by rw [← ef2]; unfold mf_X12_braces; exact (kb_v (by omega) (kb_u (by omega) (kb_v (by omega) (kb_u (by omega) (kb_u (by omega) kb_rfl)))))
  have w4 : ¬ (D_X11_braces x0 x1 (f l 5) (f 40 1) (f 40 2) (nI TP) (p (5 * TP + 48) 0) (f (5 * TP + 48) 1) (f (5 * TP + 48) 2) (f 40 3) (f (5 * TP + 48) 3) (f 41) (f (5 * TP + 49)) (f 42) (f (5 * TP + 50)) (f 43) (f (5 * TP + 51)) (f 44) (f (5 * TP + 52)) (f 45 3) l).2.1 = 4 := w_braces
  rw [hY] at w4
  rcases act_braces (x0 := x0) (x1 := x1) (men := (f l 5)) (present := (f 40 1)) (braced := (f 40 2)) (top := (nI TP)) (ptr := (p (5 * TP + 48) 0)) (p2 := (f (5 * TP + 48) 1)) (b2 := (f (5 * TP + 48) 2)) (seed := (f 40 3)) (s2 := (f (5 * TP + 48) 3)) (tenOf := (f 41)) (t2 := (f (5 * TP + 49))) (feared := (f 42)) (f2 := (f (5 * TP + 50))) (angerOf := (f 43)) (an2 := (f (5 * TP + 51))) (lotsOf := (f 44)) (l2 := (f (5 * TP + 52))) (acts := (f 45 3)) (l := l) (hl := (f 177 14)) (rr := (f 180)) (st := (f 182)) (undos := (nI A)) (undone := (f 183)) hL hN hS hh hM5 (fun h => (hz h).1) hb1 with ⟨w, hw0, e1, e2⟩ | ⟨b', st', e1, e2, hN'⟩
  · have e1 := hY.symm.trans e1
    have e2 := hZ.symm.trans e2
    subst e1 e2
    dsimp only at k1 k2 ef1 ep1 ef2 w4
    have kk : KeS (Scr l) f f1 := by rw [← ef1]; unfold mf_X11_braces; exact (ks_uo rfl (ks_uo rfl (ks_uo hTP.symm (ks_vo rfl (ks_vo rfl (ks_vo rfl (ks_vo rfl (ks_uo rfl (ks_uo rfl (ks_uo rfl (ks_u (by unfold Scr; omega) ks_rfl)))))))))))
    have kq : KeP p p1 := by rw [← ep1]; unfold mp_X11_braces; exact (ks_uo (S := fun a k => 143 ≤ a ∧ a ≤ 176) rfl ks_rfl)
    have kk2 : KeS (Scr l) f f2 := by rw [← ef2]; unfold mf_X12_braces; exact (ks_vo rfl (ks_uo hUn.symm (ks_vo rfl (ks_u (by unfold Scr; omega) (ks_u (by unfold Scr; omega) kk)))))
    have w1 := ((congrFun (kb2 (0) (by omega)) 12).trans ((congrFun (congrFun ef1.symm (0)) 12).trans (Eq.trans (au_ne _ _ (Or.inl (by omega))) (Eq.trans (au_ne _ _ (Or.inl (by omega))) (Eq.trans (au_ne _ _ (Or.inl (by omega))) (Eq.trans (congrFun (va_up_ne _ _ (by omega)) _) (Eq.trans (congrFun (va_up_ne _ _ (by omega)) _) (Eq.trans (congrFun (va_up_ne _ _ (by omega)) _) (Eq.trans (congrFun (va_up_ne _ _ (by omega)) _) (Eq.trans (au_ne _ _ (Or.inl (by omega))) (Eq.trans (au_ne _ _ (Or.inl (by omega))) (Eq.trans (au_ne _ _ (Or.inl (by omega))) (au_eq _ _ _ _)))))))))))))
    have w2 : f2 177 11 = _ := ((congrFun (congrFun ef2.symm 177) 11).trans (Eq.trans (congrFun (va_up_ne _ _ (by omega)) _) (Eq.trans (au_ne _ _ (Or.inr (by decide))) (Eq.trans (congrFun (va_up_ne _ _ (by omega)) _) (au_eq _ _ _ _)))))
    exact ⟨_, f1, g, p1, f2, g, k1, k2, ⟨l, r, M, A, I, TP, n, Inv_keep hII kk2 kq (w1.trans w2.symm) (fun h => absurd (w1.symm.trans h) w4)⟩, hT1, ka am_SC (by decide), ks_row kk2 (fun k h => absurd (scr_l hl h) (by decide))⟩
  · have e1 := hY.symm.trans e1
    have e2 := hZ.symm.trans e2
    subst e1 e2
    dsimp only at k1 k2 ef1 ep1 ef2 w4
    have kk1 : KeS (SA l TP) f f1 := by rw [← ef1]; unfold mf_X11_braces; exact (ks_u (by unfold SA Scr; omega) (ks_u (by unfold SA Scr; omega) (ks_u (by unfold SA Scr; omega) (ks_v (fun k => by unfold SA Scr; omega) (ks_v (fun k => by unfold SA Scr; omega) (ks_v (fun k => by unfold SA Scr; omega) (ks_v (fun k => by unfold SA Scr; omega) (ks_u (by unfold SA Scr; omega) (ks_u (by unfold SA Scr; omega) (ks_u (by unfold SA Scr; omega) (ks_u (by unfold SA Scr; omega) ks_rfl)))))))))))
    have kk : KeS (SA l TP) f f2 := by rw [← ef2]; unfold mf_X12_braces; exact (ks_v (fun k => by unfold SA Scr; omega) (ks_u (by unfold SA Scr; omega) (ks_v (fun k => by unfold SA Scr; omega) (ks_u (by unfold SA Scr; omega) (ks_u (by unfold SA Scr; omega) kk1)))))
    have kp : KeS (PA TP) p p1 := by rw [← ep1]; unfold mp_X11_braces; exact (ks_u (by unfold PA; omega) ks_rfl)
    have hpt : p1 (5 * TP + 48) 0 = some l := by rw [← ep1]; unfold mp_X11_braces; exact (au_eq _ _ _ _)
    have s1 : f2 (5 * TP + 48) 1 = _ := ((congrFun (kb2 (5 * TP + 48) (by omega)) 1).trans ((congrFun (congrFun ef1.symm (5 * TP + 48)) 1).trans (Eq.trans (au_ne _ _ (Or.inl (by omega))) (Eq.trans (au_ne _ _ (Or.inl (by omega))) (Eq.trans (au_ne _ _ (Or.inl (by omega))) (Eq.trans (congrFun (va_up_ne _ _ (by omega)) _) (Eq.trans (congrFun (va_up_ne _ _ (by omega)) _) (Eq.trans (congrFun (va_up_ne _ _ (by omega)) _) (Eq.trans (congrFun (va_up_ne _ _ (by omega)) _) (Eq.trans (au_ne _ _ (Or.inr (by decide))) (Eq.trans (au_ne _ _ (Or.inr (by decide))) (au_eq _ _ _ _))))))))))))
    have s2 : f2 (5 * TP + 48) 2 = _ := ((congrFun (kb2 (5 * TP + 48) (by omega)) 2).trans ((congrFun (congrFun ef1.symm (5 * TP + 48)) 2).trans (Eq.trans (au_ne _ _ (Or.inl (by omega))) (Eq.trans (au_ne _ _ (Or.inl (by omega))) (Eq.trans (au_ne _ _ (Or.inl (by omega))) (Eq.trans (congrFun (va_up_ne _ _ (by omega)) _) (Eq.trans (congrFun (va_up_ne _ _ (by omega)) _) (Eq.trans (congrFun (va_up_ne _ _ (by omega)) _) (Eq.trans (congrFun (va_up_ne _ _ (by omega)) _) (Eq.trans (au_ne _ _ (Or.inr (by decide))) (au_eq _ _ _ _)))))))))))
    have s3 : f2 (5 * TP + 48) 3 = _ := ((congrFun (kb2 (5 * TP + 48) (by omega)) 3).trans ((congrFun (congrFun ef1.symm (5 * TP + 48)) 3).trans (Eq.trans (au_ne _ _ (Or.inl (by omega))) (Eq.trans (au_ne _ _ (Or.inl (by omega))) (Eq.trans (au_ne _ _ (Or.inl (by omega))) (Eq.trans (congrFun (va_up_ne _ _ (by omega)) _) (Eq.trans (congrFun (va_up_ne _ _ (by omega)) _) (Eq.trans (congrFun (va_up_ne _ _ (by omega)) _) (Eq.trans (congrFun (va_up_ne _ _ (by omega)) _) (au_eq _ _ _ _))))))))))
    have s4 : f2 (5 * TP + 49) = _ := ((kb2 (5 * TP + 49) (by omega)).trans ((congrFun ef1.symm (5 * TP + 49)).trans (Eq.trans (am_urow (by omega)) (Eq.trans (am_urow (by omega)) (Eq.trans (am_urow (by omega)) (Eq.trans (va_up_ne _ _ (by omega)) (Eq.trans (va_up_ne _ _ (by omega)) (Eq.trans (va_up_ne _ _ (by omega)) (va_up_self _ _ _)))))))))
    have s5 : f2 (5 * TP + 50) = _ := ((kb2 (5 * TP + 50) (by omega)).trans ((congrFun ef1.symm (5 * TP + 50)).trans (Eq.trans (am_urow (by omega)) (Eq.trans (am_urow (by omega)) (Eq.trans (am_urow (by omega)) (Eq.trans (va_up_ne _ _ (by omega)) (Eq.trans (va_up_ne _ _ (by omega)) (va_up_self _ _ _))))))))
    have s6 : f2 (5 * TP + 51) = _ := ((kb2 (5 * TP + 51) (by omega)).trans ((congrFun ef1.symm (5 * TP + 51)).trans (Eq.trans (am_urow (by omega)) (Eq.trans (am_urow (by omega)) (Eq.trans (am_urow (by omega)) (Eq.trans (va_up_ne _ _ (by omega)) (va_up_self _ _ _)))))))
    have s7 : f2 (5 * TP + 52) = _ := ((kb2 (5 * TP + 52) (by omega)).trans ((congrFun ef1.symm (5 * TP + 52)).trans (Eq.trans (am_urow (by omega)) (Eq.trans (am_urow (by omega)) (Eq.trans (am_urow (by omega)) (va_up_self _ _ _))))))
    have r1 : f2 40 1 = _ := ((congrFun (kb2 (40) (by omega)) 1).trans ((congrFun (congrFun ef1.symm (40)) 1).trans (Eq.trans (au_ne _ _ (Or.inr (by decide))) (Eq.trans (au_ne _ _ (Or.inl (by omega))) (Eq.trans (au_ne _ _ (Or.inl (by omega))) (Eq.trans (congrFun (va_up_ne _ _ (by omega)) _) (Eq.trans (congrFun (va_up_ne _ _ (by omega)) _) (Eq.trans (congrFun (va_up_ne _ _ (by omega)) _) (Eq.trans (congrFun (va_up_ne _ _ (by omega)) _) (Eq.trans (au_ne _ _ (Or.inl (by omega))) (Eq.trans (au_ne _ _ (Or.inl (by omega))) (Eq.trans (au_ne _ _ (Or.inl (by omega))) (au_ne _ _ (Or.inl (by omega)))))))))))))))
    have r2 : f2 40 2 = _ := ((congrFun (kb2 (40) (by omega)) 2).trans ((congrFun (congrFun ef1.symm (40)) 2).trans (au_eq _ _ _ _)))
    have r3 : f2 40 3 = _ := ((congrFun (kb2 (40) (by omega)) 3).trans ((congrFun (congrFun ef1.symm (40)) 3).trans (Eq.trans (au_ne _ _ (Or.inr (by decide))) (Eq.trans (au_ne _ _ (Or.inl (by omega))) (Eq.trans (au_ne _ _ (Or.inl (by omega))) (Eq.trans (congrFun (va_up_ne _ _ (by omega)) _) (Eq.trans (congrFun (va_up_ne _ _ (by omega)) _) (Eq.trans (congrFun (va_up_ne _ _ (by omega)) _) (Eq.trans (congrFun (va_up_ne _ _ (by omega)) _) (Eq.trans (au_ne _ _ (Or.inl (by omega))) (Eq.trans (au_ne _ _ (Or.inl (by omega))) (Eq.trans (au_ne _ _ (Or.inl (by omega))) (au_ne _ _ (Or.inl (by omega)))))))))))))))
    have r4 : f2 41 = _ := ((kb2 (41) (by omega)).trans ((congrFun ef1.symm (41)).trans (Eq.trans (am_urow (by omega)) (Eq.trans (am_urow (by omega)) (Eq.trans (am_urow (by omega)) (Eq.trans (va_up_ne _ _ (by omega)) (Eq.trans (va_up_ne _ _ (by omega)) (Eq.trans (va_up_ne _ _ (by omega)) (Eq.trans (va_up_ne _ _ (by omega)) (Eq.trans (am_urow (by omega)) (Eq.trans (am_urow (by omega)) (Eq.trans (am_urow (by omega)) (am_urow (by omega))))))))))))))
    have r5 : f2 42 = _ := ((kb2 (42) (by omega)).trans ((congrFun ef1.symm (42)).trans (Eq.trans (am_urow (by omega)) (Eq.trans (am_urow (by omega)) (Eq.trans (am_urow (by omega)) (Eq.trans (va_up_ne _ _ (by omega)) (Eq.trans (va_up_ne _ _ (by omega)) (Eq.trans (va_up_ne _ _ (by omega)) (Eq.trans (va_up_ne _ _ (by omega)) (Eq.trans (am_urow (by omega)) (Eq.trans (am_urow (by omega)) (Eq.trans (am_urow (by omega)) (am_urow (by omega))))))))))))))
    have r6 : f2 43 = _ := ((kb2 (43) (by omega)).trans ((congrFun ef1.symm (43)).trans (Eq.trans (am_urow (by omega)) (Eq.trans (am_urow (by omega)) (Eq.trans (am_urow (by omega)) (Eq.trans (va_up_ne _ _ (by omega)) (Eq.trans (va_up_ne _ _ (by omega)) (Eq.trans (va_up_ne _ _ (by omega)) (Eq.trans (va_up_ne _ _ (by omega)) (Eq.trans (am_urow (by omega)) (Eq.trans (am_urow (by omega)) (Eq.trans (am_urow (by omega)) (am_urow (by omega))))))))))))))
    have r7 : f2 44 = _ := ((kb2 (44) (by omega)).trans ((congrFun ef1.symm (44)).trans (Eq.trans (am_urow (by omega)) (Eq.trans (am_urow (by omega)) (Eq.trans (am_urow (by omega)) (Eq.trans (va_up_ne _ _ (by omega)) (Eq.trans (va_up_ne _ _ (by omega)) (Eq.trans (va_up_ne _ _ (by omega)) (Eq.trans (va_up_ne _ _ (by omega)) (Eq.trans (am_urow (by omega)) (Eq.trans (am_urow (by omega)) (Eq.trans (am_urow (by omega)) (am_urow (by omega))))))))))))))
    have t2 : f2 45 2 = _ := ((congrFun (kb2 (45) (by omega)) 2).trans ((congrFun (congrFun ef1.symm (45)) 2).trans (Eq.trans (au_ne _ _ (Or.inl (by omega))) (Eq.trans (au_ne _ _ (Or.inr (by decide))) (au_eq _ _ _ _)))))
    have t3 : f2 45 3 = _ := ((congrFun (kb2 (45) (by omega)) 3).trans ((congrFun (congrFun ef1.symm (45)) 3).trans (Eq.trans (au_ne _ _ (Or.inl (by omega))) (au_eq _ _ _ _))))
    have w1 : f2 0 12 = _ := ((congrFun (kb2 (0) (by omega)) 12).trans ((congrFun (congrFun ef1.symm (0)) 12).trans (Eq.trans (au_ne _ _ (Or.inl (by omega))) (Eq.trans (au_ne _ _ (Or.inl (by omega))) (Eq.trans (au_ne _ _ (Or.inl (by omega))) (Eq.trans (congrFun (va_up_ne _ _ (by omega)) _) (Eq.trans (congrFun (va_up_ne _ _ (by omega)) _) (Eq.trans (congrFun (va_up_ne _ _ (by omega)) _) (Eq.trans (congrFun (va_up_ne _ _ (by omega)) _) (Eq.trans (au_ne _ _ (Or.inl (by omega))) (Eq.trans (au_ne _ _ (Or.inl (by omega))) (Eq.trans (au_ne _ _ (Or.inl (by omega))) (au_eq _ _ _ _)))))))))))))
    have u1 : f2 182 = _ := ((congrFun ef2.symm 182).trans (va_up_self _ _ _))
    have u2 : f2 183 = _ := ((congrFun ef2.symm 183).trans (Eq.trans (va_up_ne _ _ (by omega)) (Eq.trans (am_urow (by omega)) (va_up_self _ _ _))))
    have u3 : f2 177 20 = _ := ((congrFun (congrFun ef2.symm 177) 20).trans (Eq.trans (congrFun (va_up_ne _ _ (by omega)) _) (au_eq _ _ _ _)))
    have w2 : f2 177 11 = _ := ((congrFun (congrFun ef2.symm 177) 11).trans (Eq.trans (congrFun (va_up_ne _ _ (by omega)) _) (Eq.trans (au_ne _ _ (Or.inr (by decide))) (Eq.trans (congrFun (va_up_ne _ _ (by omega)) _) (au_eq _ _ _ _)))))
    have hh0 : ¬ f 177 14 = 0 := fun h0 => by
      have h1 : (D_X12_braces x0 x1 (f 177 14) (f 180) (f 182) (nI A) (f 183)).2.2.1 = 1 := by unfold D_X12_braces D_X12_isMan; rw [if_pos h0, if_pos rfl]; rfl
      rw [hZ] at h1
      exact absurd (show (0 : Int32) = 1 from h1) (by decide)
    exact ⟨_, f1, g, p1, f2, g, k1, k2, Inv_hist hII kk kp hpt s1 s2 s3 s4 s5 s6 s7 (by rw [t2, hTP]) t3 (by rw [u2, hUn]) (by rw [u3, hUn]) (by rw [r1, r2, r3, r4, r5, r6, r7, u1]; exact hN') (by rw [r1]; exact hS) ⟨q, hq, r3.trans hsd⟩ hh0 (w1.trans w2.symm) (fun h => absurd (w1.symm.trans h) (by decide)), hT1, ka am_SC (by decide), ks_row kk (fun k => by unfold SA Scr am_SC; omega)⟩
theorem q_move {f : Nat → Nat → Int32} {g : Nat → Nat → Int64} {p : Nat → Nat → Option Nat} {d : Nat → Nat × Nat} {e : Nat × Nat} {x0 x1 : Int32} (hI0 : Inv f p) (hT : am_T0 p d) : Run2 Value.int f g p d e 175 319 [.int x0, .int x1] := by
  obtain ⟨l, r, M, A, I, TP, n, hI⟩ := hI0
  have hII := hI
  obtain ⟨hlr, p03, p40, p23, psl, pim, hL, hM5, hP6, hN, hS, hh, hz, hH, hE, hPf, hsy, ⟨q, hq, hsd⟩, hHi, hTP, hA, hUn, hsA, hIm, hI4, hI21, hsI, hn, ht1, ht2, hTp, hfa, hwh, hpl⟩ := hI
  have hl : l = 5 ∨ l = 23 := by omega
  have hP : TP < 16 := hHi.1
  have hA16 : A ≤ 16 := hHi.2.1
  have hI3 : I ≤ 3 := hIm.1
  obtain ⟨T, hT3, hT4⟩ : ∃ T, T ≤ 3 ∧ f l 4 = nI T := by obtain ⟨T, a, b⟩ := hL.2.2.2.2.2.2.2.2.2.2.2.2.2.1; exact ⟨T, a, hL.h4.trans b⟩
  have hcl : (nI TP).toNatClampNeg = TP := nI_clamp (by omega)
  obtain ⟨Y, hY⟩ : ∃ Y, D_X11_move x0 x1 (f l 5) (f l 4) (f 40 1) (f 41) (nI TP) (p (5 * TP + 48) 0) (f (5 * TP + 48) 1) (f 40 2) (f (5 * TP + 48) 2) (f 40 3) (f (5 * TP + 48) 3) (f (5 * TP + 49)) (f 42) (f (5 * TP + 50)) (f 43) (f (5 * TP + 51)) (f 44) (f (5 * TP + 52)) (f 45 3) l = Y := ⟨_, rfl⟩
  have k1 := k_X11_move (f := f) (g := g) (p := p) (d := d) (e := e) l x0 x1 (f l 5) (f l 4) (f 40 1) (f 41) (f 0 12) (nI TP) (p (5 * TP + 48) 0) (f (5 * TP + 48) 1) (f 40 2) (f (5 * TP + 48) 2) (f 40 3) (f (5 * TP + 48) 3) (f (5 * TP + 49)) (f 42) (f (5 * TP + 50)) (f 43) (f (5 * TP + 51)) (f 44) (f (5 * TP + 52)) (f 45 3) hT hl p03 rfl rfl rfl rfl rfl hTP p40 (by rw [hcl]) (by rw [hcl]) rfl (by rw [hcl]) rfl (by rw [hcl]) (by rw [hcl]) rfl (by rw [hcl]) rfl (by rw [hcl]) rfl (by rw [hcl]) rfl (gc_move hP rfl hL.M8 hM5) Y hY
  rw [hcl] at k1
  obtain ⟨f1, ef1⟩ : ∃ z, mf_X11_move f TP Y.2.1 Y.2.2.1 Y.2.2.2.1 Y.2.2.2.2.1 Y.2.2.2.2.2.1 Y.2.2.2.2.2.2.1 Y.2.2.2.2.2.2.2.1 Y.2.2.2.2.2.2.2.2.1 Y.2.2.2.2.2.2.2.2.2.1 Y.2.2.2.2.2.2.2.2.2.2.1 Y.2.2.2.2.2.2.2.2.2.2.2.2.1 Y.2.2.2.2.2.2.2.2.2.2.2.2.2 = z := ⟨_, rfl⟩
  rw [ef1] at k1
  obtain ⟨p1, ep1⟩ : ∃ z, mp_X11_move p TP Y.2.2.2.2.2.2.2.2.2.2.2.1 = z := ⟨_, rfl⟩
  rw [ep1] at k1
  have ka : KeA f f1 := by rw [← ef1]; unfold mf_X11_move; exact (ka_v (by omega) (ka_v (by omega) (ka_u (by omega) (ka_u (by omega) (ka_v (by omega) (ka_v (by omega) (ka_v (by omega) (ka_v (by omega) (ka_u (by omega) (ka_u (by omega) (ka_u (by omega) (ka_u (by omega) ka_rfl))))))))))))
  have hT1 : am_T0 p1 d := by rw [← ep1]; exact mt_X11_move hl hP hT
  obtain ⟨Z, hZ⟩ : ∃ Z, D_X12_move x0 x1 (f 177 14) (f 180) (f 182) (nI A) (f 183) = Z := ⟨_, rfl⟩
  have k2 := k_X12_move (f := f1) (g := g) (p := p1) (d := d) (e := e) x0 x1 (f 177 0) (f 177 11) (f 177 14) (f 180) (f 182) (nI A) (f 183) hT1 (congrFun (ka 177 (by decide)) 0) (congrFun (ka 177 (by decide)) 11) (congrFun (ka 177 (by decide)) 14) (ka 180 (by decide)) (ka 182 (by decide)) ((congrFun (ka 177 (by decide)) 20).trans hUn) (ka 183 (by decide)) (gr_move hA16 hL.M8 hL.r5 (fun h => (hz h).1)) Z hZ
  obtain ⟨f2, ef2⟩ : ∃ z, mf_X12_move f1 Z.2.1 Z.2.2.1 Z.2.2.2.1 Z.2.2.2.2.1 Z.2.2.2.2.2 = z := ⟨_, rfl⟩
  rw [ef2] at k2
  have kb2 : KeB f1 f2 := by rw [← ef2]; unfold mf_X12_move; exact (kb_v (by omega) (kb_u (by omega) (kb_v (by omega) (kb_u (by omega) (kb_u (by omega) kb_rfl)))))
  have w4 : ¬ (D_X11_move x0 x1 (f l 5) (f l 4) (f 40 1) (f 41) (nI TP) (p (5 * TP + 48) 0) (f (5 * TP + 48) 1) (f 40 2) (f (5 * TP + 48) 2) (f 40 3) (f (5 * TP + 48) 3) (f (5 * TP + 49)) (f 42) (f (5 * TP + 50)) (f 43) (f (5 * TP + 51)) (f 44) (f (5 * TP + 52)) (f 45 3) l).2.1 = 4 := w_move
  rw [hY] at w4
  rcases act_move (x0 := x0) (x1 := x1) (men := (f l 5)) (tens := (f l 4)) (present := (f 40 1)) (tenOf := (f 41)) (top := (nI TP)) (ptr := (p (5 * TP + 48) 0)) (p2 := (f (5 * TP + 48) 1)) (braced := (f 40 2)) (b2 := (f (5 * TP + 48) 2)) (seed := (f 40 3)) (s2 := (f (5 * TP + 48) 3)) (t2 := (f (5 * TP + 49))) (feared := (f 42)) (f2 := (f (5 * TP + 50))) (angerOf := (f 43)) (an2 := (f (5 * TP + 51))) (lotsOf := (f 44)) (l2 := (f (5 * TP + 52))) (acts := (f 45 3)) (l := l) (hl := (f 177 14)) (rr := (f 180)) (st := (f 182)) (undos := (nI A)) (undone := (f 183)) hL hN hS hh hM5 (fun h => (hz h).1) with ⟨w, hw0, e1, e2⟩ | ⟨m, st', hm, hx, e1, e2, hN'⟩
  · have e1 := hY.symm.trans e1
    have e2 := hZ.symm.trans e2
    subst e1 e2
    dsimp only at k1 k2 ef1 ep1 ef2 w4
    have kk : KeS (Scr l) f f1 := by rw [← ef1]; unfold mf_X11_move; exact (ks_vo rfl (ks_vo rfl (ks_uo rfl (ks_uo hTP.symm (ks_vo rfl (ks_vo rfl (ks_vo rfl (ks_vo rfl (ks_uo rfl (ks_uo rfl (ks_uo rfl (ks_u (by unfold Scr; omega) ks_rfl))))))))))))
    have kq : KeP p p1 := by rw [← ep1]; unfold mp_X11_move; exact (ks_uo (S := fun a k => 143 ≤ a ∧ a ≤ 176) rfl ks_rfl)
    have kk2 : KeS (Scr l) f f2 := by rw [← ef2]; unfold mf_X12_move; exact (ks_vo rfl (ks_uo hUn.symm (ks_vo rfl (ks_u (by unfold Scr; omega) (ks_u (by unfold Scr; omega) kk)))))
    have w1 := ((congrFun (kb2 (0) (by omega)) 12).trans ((congrFun (congrFun ef1.symm (0)) 12).trans (Eq.trans (congrFun (va_up_ne _ _ (by omega)) _) (Eq.trans (congrFun (va_up_ne _ _ (by omega)) _) (Eq.trans (au_ne _ _ (Or.inl (by omega))) (Eq.trans (au_ne _ _ (Or.inl (by omega))) (Eq.trans (congrFun (va_up_ne _ _ (by omega)) _) (Eq.trans (congrFun (va_up_ne _ _ (by omega)) _) (Eq.trans (congrFun (va_up_ne _ _ (by omega)) _) (Eq.trans (congrFun (va_up_ne _ _ (by omega)) _) (Eq.trans (au_ne _ _ (Or.inl (by omega))) (Eq.trans (au_ne _ _ (Or.inl (by omega))) (Eq.trans (au_ne _ _ (Or.inl (by omega))) (au_eq _ _ _ _))))))))))))))
    have w2 : f2 177 11 = _ := ((congrFun (congrFun ef2.symm 177) 11).trans (Eq.trans (congrFun (va_up_ne _ _ (by omega)) _) (Eq.trans (au_ne _ _ (Or.inr (by decide))) (Eq.trans (congrFun (va_up_ne _ _ (by omega)) _) (au_eq _ _ _ _)))))
    exact ⟨_, f1, g, p1, f2, g, k1, k2, ⟨l, r, M, A, I, TP, n, Inv_keep hII kk2 kq (w1.trans w2.symm) (fun h => absurd (w1.symm.trans h) w4)⟩, hT1, ka am_SC (by decide), ks_row kk2 (fun k h => absurd (scr_l hl h) (by decide))⟩
  · have e1 := hY.symm.trans e1
    have e2 := hZ.symm.trans e2
    subst e1 e2
    dsimp only at k1 k2 ef1 ep1 ef2 w4
    have kk1 : KeS (SA l TP) f f1 := by rw [← ef1]; unfold mf_X11_move; exact (ks_v (fun k => by unfold SA Scr; omega) (ks_v (fun k => by unfold SA Scr; omega) (ks_u (by unfold SA Scr; omega) (ks_u (by unfold SA Scr; omega) (ks_v (fun k => by unfold SA Scr; omega) (ks_v (fun k => by unfold SA Scr; omega) (ks_v (fun k => by unfold SA Scr; omega) (ks_v (fun k => by unfold SA Scr; omega) (ks_u (by unfold SA Scr; omega) (ks_u (by unfold SA Scr; omega) (ks_u (by unfold SA Scr; omega) (ks_u (by unfold SA Scr; omega) ks_rfl))))))))))))
    have kk : KeS (SA l TP) f f2 := by rw [← ef2]; unfold mf_X12_move; exact (ks_v (fun k => by unfold SA Scr; omega) (ks_u (by unfold SA Scr; omega) (ks_v (fun k => by unfold SA Scr; omega) (ks_u (by unfold SA Scr; omega) (ks_u (by unfold SA Scr; omega) kk1)))))
    have kp : KeS (PA TP) p p1 := by rw [← ep1]; unfold mp_X11_move; exact (ks_u (by unfold PA; omega) ks_rfl)
    have hpt : p1 (5 * TP + 48) 0 = some l := by rw [← ep1]; unfold mp_X11_move; exact (au_eq _ _ _ _)
    have s1 : f2 (5 * TP + 48) 1 = _ := ((congrFun (kb2 (5 * TP + 48) (by omega)) 1).trans ((congrFun (congrFun ef1.symm (5 * TP + 48)) 1).trans (Eq.trans (congrFun (va_up_ne _ _ (by omega)) _) (Eq.trans (congrFun (va_up_ne _ _ (by omega)) _) (Eq.trans (au_ne _ _ (Or.inl (by omega))) (Eq.trans (au_ne _ _ (Or.inl (by omega))) (Eq.trans (congrFun (va_up_ne _ _ (by omega)) _) (Eq.trans (congrFun (va_up_ne _ _ (by omega)) _) (Eq.trans (congrFun (va_up_ne _ _ (by omega)) _) (Eq.trans (congrFun (va_up_ne _ _ (by omega)) _) (Eq.trans (au_ne _ _ (Or.inr (by decide))) (Eq.trans (au_ne _ _ (Or.inr (by decide))) (au_eq _ _ _ _)))))))))))))
    have s2 : f2 (5 * TP + 48) 2 = _ := ((congrFun (kb2 (5 * TP + 48) (by omega)) 2).trans ((congrFun (congrFun ef1.symm (5 * TP + 48)) 2).trans (Eq.trans (congrFun (va_up_ne _ _ (by omega)) _) (Eq.trans (congrFun (va_up_ne _ _ (by omega)) _) (Eq.trans (au_ne _ _ (Or.inl (by omega))) (Eq.trans (au_ne _ _ (Or.inl (by omega))) (Eq.trans (congrFun (va_up_ne _ _ (by omega)) _) (Eq.trans (congrFun (va_up_ne _ _ (by omega)) _) (Eq.trans (congrFun (va_up_ne _ _ (by omega)) _) (Eq.trans (congrFun (va_up_ne _ _ (by omega)) _) (Eq.trans (au_ne _ _ (Or.inr (by decide))) (au_eq _ _ _ _))))))))))))
    have s3 : f2 (5 * TP + 48) 3 = _ := ((congrFun (kb2 (5 * TP + 48) (by omega)) 3).trans ((congrFun (congrFun ef1.symm (5 * TP + 48)) 3).trans (Eq.trans (congrFun (va_up_ne _ _ (by omega)) _) (Eq.trans (congrFun (va_up_ne _ _ (by omega)) _) (Eq.trans (au_ne _ _ (Or.inl (by omega))) (Eq.trans (au_ne _ _ (Or.inl (by omega))) (Eq.trans (congrFun (va_up_ne _ _ (by omega)) _) (Eq.trans (congrFun (va_up_ne _ _ (by omega)) _) (Eq.trans (congrFun (va_up_ne _ _ (by omega)) _) (Eq.trans (congrFun (va_up_ne _ _ (by omega)) _) (au_eq _ _ _ _)))))))))))
    have s4 : f2 (5 * TP + 49) = _ := ((kb2 (5 * TP + 49) (by omega)).trans ((congrFun ef1.symm (5 * TP + 49)).trans (Eq.trans (va_up_ne _ _ (by omega)) (Eq.trans (va_up_ne _ _ (by omega)) (Eq.trans (am_urow (by omega)) (Eq.trans (am_urow (by omega)) (Eq.trans (va_up_ne _ _ (by omega)) (Eq.trans (va_up_ne _ _ (by omega)) (Eq.trans (va_up_ne _ _ (by omega)) (va_up_self _ _ _))))))))))
    have s5 : f2 (5 * TP + 50) = _ := ((kb2 (5 * TP + 50) (by omega)).trans ((congrFun ef1.symm (5 * TP + 50)).trans (Eq.trans (va_up_ne _ _ (by omega)) (Eq.trans (va_up_ne _ _ (by omega)) (Eq.trans (am_urow (by omega)) (Eq.trans (am_urow (by omega)) (Eq.trans (va_up_ne _ _ (by omega)) (Eq.trans (va_up_ne _ _ (by omega)) (va_up_self _ _ _)))))))))
    have s6 : f2 (5 * TP + 51) = _ := ((kb2 (5 * TP + 51) (by omega)).trans ((congrFun ef1.symm (5 * TP + 51)).trans (Eq.trans (va_up_ne _ _ (by omega)) (Eq.trans (va_up_ne _ _ (by omega)) (Eq.trans (am_urow (by omega)) (Eq.trans (am_urow (by omega)) (Eq.trans (va_up_ne _ _ (by omega)) (va_up_self _ _ _))))))))
    have s7 : f2 (5 * TP + 52) = _ := ((kb2 (5 * TP + 52) (by omega)).trans ((congrFun ef1.symm (5 * TP + 52)).trans (Eq.trans (va_up_ne _ _ (by omega)) (Eq.trans (va_up_ne _ _ (by omega)) (Eq.trans (am_urow (by omega)) (Eq.trans (am_urow (by omega)) (va_up_self _ _ _)))))))
    have r1 : f2 40 1 = _ := ((congrFun (kb2 (40) (by omega)) 1).trans ((congrFun (congrFun ef1.symm (40)) 1).trans (Eq.trans (congrFun (va_up_ne _ _ (by omega)) _) (Eq.trans (congrFun (va_up_ne _ _ (by omega)) _) (Eq.trans (au_ne _ _ (Or.inl (by omega))) (Eq.trans (au_ne _ _ (Or.inl (by omega))) (Eq.trans (congrFun (va_up_ne _ _ (by omega)) _) (Eq.trans (congrFun (va_up_ne _ _ (by omega)) _) (Eq.trans (congrFun (va_up_ne _ _ (by omega)) _) (Eq.trans (congrFun (va_up_ne _ _ (by omega)) _) (Eq.trans (au_ne _ _ (Or.inl (by omega))) (Eq.trans (au_ne _ _ (Or.inl (by omega))) (Eq.trans (au_ne _ _ (Or.inl (by omega))) (au_ne _ _ (Or.inl (by omega))))))))))))))))
    have r2 : f2 40 2 = _ := ((congrFun (kb2 (40) (by omega)) 2).trans ((congrFun (congrFun ef1.symm (40)) 2).trans (Eq.trans (congrFun (va_up_ne _ _ (by omega)) _) (Eq.trans (congrFun (va_up_ne _ _ (by omega)) _) (Eq.trans (au_ne _ _ (Or.inl (by omega))) (Eq.trans (au_ne _ _ (Or.inl (by omega))) (Eq.trans (congrFun (va_up_ne _ _ (by omega)) _) (Eq.trans (congrFun (va_up_ne _ _ (by omega)) _) (Eq.trans (congrFun (va_up_ne _ _ (by omega)) _) (Eq.trans (congrFun (va_up_ne _ _ (by omega)) _) (Eq.trans (au_ne _ _ (Or.inl (by omega))) (Eq.trans (au_ne _ _ (Or.inl (by omega))) (Eq.trans (au_ne _ _ (Or.inl (by omega))) (au_ne _ _ (Or.inl (by omega))))))))))))))))
    have r3 : f2 40 3 = _ := ((congrFun (kb2 (40) (by omega)) 3).trans ((congrFun (congrFun ef1.symm (40)) 3).trans (Eq.trans (congrFun (va_up_ne _ _ (by omega)) _) (Eq.trans (congrFun (va_up_ne _ _ (by omega)) _) (Eq.trans (au_ne _ _ (Or.inl (by omega))) (Eq.trans (au_ne _ _ (Or.inl (by omega))) (Eq.trans (congrFun (va_up_ne _ _ (by omega)) _) (Eq.trans (congrFun (va_up_ne _ _ (by omega)) _) (Eq.trans (congrFun (va_up_ne _ _ (by omega)) _) (Eq.trans (congrFun (va_up_ne _ _ (by omega)) _) (Eq.trans (au_ne _ _ (Or.inl (by omega))) (Eq.trans (au_ne _ _ (Or.inl (by omega))) (Eq.trans (au_ne _ _ (Or.inl (by omega))) (au_ne _ _ (Or.inl (by omega))))))))))))))))
    have r4 : f2 41 = _ := ((kb2 (41) (by omega)).trans ((congrFun ef1.symm (41)).trans (Eq.trans (va_up_ne _ _ (by omega)) (va_up_self _ _ _))))
    have r5 : f2 42 = _ := ((kb2 (42) (by omega)).trans ((congrFun ef1.symm (42)).trans (va_up_self _ _ _)))
    have r6 : f2 43 = _ := ((kb2 (43) (by omega)).trans ((congrFun ef1.symm (43)).trans (Eq.trans (va_up_ne _ _ (by omega)) (Eq.trans (va_up_ne _ _ (by omega)) (Eq.trans (am_urow (by omega)) (Eq.trans (am_urow (by omega)) (Eq.trans (va_up_ne _ _ (by omega)) (Eq.trans (va_up_ne _ _ (by omega)) (Eq.trans (va_up_ne _ _ (by omega)) (Eq.trans (va_up_ne _ _ (by omega)) (Eq.trans (am_urow (by omega)) (Eq.trans (am_urow (by omega)) (Eq.trans (am_urow (by omega)) (am_urow (by omega)))))))))))))))
    have r7 : f2 44 = _ := ((kb2 (44) (by omega)).trans ((congrFun ef1.symm (44)).trans (Eq.trans (va_up_ne _ _ (by omega)) (Eq.trans (va_up_ne _ _ (by omega)) (Eq.trans (am_urow (by omega)) (Eq.trans (am_urow (by omega)) (Eq.trans (va_up_ne _ _ (by omega)) (Eq.trans (va_up_ne _ _ (by omega)) (Eq.trans (va_up_ne _ _ (by omega)) (Eq.trans (va_up_ne _ _ (by omega)) (Eq.trans (am_urow (by omega)) (Eq.trans (am_urow (by omega)) (Eq.trans (am_urow (by omega)) (am_urow (by omega)))))))))))))))
    have t2 : f2 45 2 = _ := ((congrFun (kb2 (45) (by omega)) 2).trans ((congrFun (congrFun ef1.symm (45)) 2).trans (Eq.trans (congrFun (va_up_ne _ _ (by omega)) _) (Eq.trans (congrFun (va_up_ne _ _ (by omega)) _) (Eq.trans (au_ne _ _ (Or.inr (by decide))) (au_eq _ _ _ _))))))
    have t3 : f2 45 3 = _ := ((congrFun (kb2 (45) (by omega)) 3).trans ((congrFun (congrFun ef1.symm (45)) 3).trans (Eq.trans (congrFun (va_up_ne _ _ (by omega)) _) (Eq.trans (congrFun (va_up_ne _ _ (by omega)) _) (au_eq _ _ _ _)))))
    have w1 : f2 0 12 = _ := ((congrFun (kb2 (0) (by omega)) 12).trans ((congrFun (congrFun ef1.symm (0)) 12).trans (Eq.trans (congrFun (va_up_ne _ _ (by omega)) _) (Eq.trans (congrFun (va_up_ne _ _ (by omega)) _) (Eq.trans (au_ne _ _ (Or.inl (by omega))) (Eq.trans (au_ne _ _ (Or.inl (by omega))) (Eq.trans (congrFun (va_up_ne _ _ (by omega)) _) (Eq.trans (congrFun (va_up_ne _ _ (by omega)) _) (Eq.trans (congrFun (va_up_ne _ _ (by omega)) _) (Eq.trans (congrFun (va_up_ne _ _ (by omega)) _) (Eq.trans (au_ne _ _ (Or.inl (by omega))) (Eq.trans (au_ne _ _ (Or.inl (by omega))) (Eq.trans (au_ne _ _ (Or.inl (by omega))) (au_eq _ _ _ _))))))))))))))
    have u1 : f2 182 = _ := ((congrFun ef2.symm 182).trans (va_up_self _ _ _))
    have u2 : f2 183 = _ := ((congrFun ef2.symm 183).trans (Eq.trans (va_up_ne _ _ (by omega)) (Eq.trans (am_urow (by omega)) (va_up_self _ _ _))))
    have u3 : f2 177 20 = _ := ((congrFun (congrFun ef2.symm 177) 20).trans (Eq.trans (congrFun (va_up_ne _ _ (by omega)) _) (au_eq _ _ _ _)))
    have w2 : f2 177 11 = _ := ((congrFun (congrFun ef2.symm 177) 11).trans (Eq.trans (congrFun (va_up_ne _ _ (by omega)) _) (Eq.trans (au_ne _ _ (Or.inr (by decide))) (Eq.trans (congrFun (va_up_ne _ _ (by omega)) _) (au_eq _ _ _ _)))))
    have hh0 : ¬ f 177 14 = 0 := fun h0 => by have := (hz h0).1; omega
    exact ⟨_, f1, g, p1, f2, g, k1, k2, Inv_hist hII kk kp hpt s1 s2 s3 s4 s5 s6 s7 (by rw [t2, hTP]) t3 (by rw [u2, hUn]) (by rw [u3, hUn]) (by rw [r1, r2, r3, r4, r5, r6, r7, u1]; exact hN') (by rw [r1]; exact hS) ⟨q, hq, r3.trans hsd⟩ hh0 (w1.trans w2.symm) (fun h => absurd (w1.symm.trans h) (by decide)), hT1, ka am_SC (by decide), ks_row kk (fun k => by unfold SA Scr am_SC; omega)⟩
theorem q_seed {f : Nat → Nat → Int32} {g : Nat → Nat → Int64} {p : Nat → Nat → Option Nat} {d : Nat → Nat × Nat} {e : Nat × Nat} {x0 : Int32} (hI0 : Inv f p) (hT : am_T0 p d) : Run2 Value.int f g p d e 176 320 [.int x0] := by
  obtain ⟨l, r, M, A, I, TP, n, hI⟩ := hI0
  have hII := hI
  obtain ⟨hlr, p03, p40, p23, psl, pim, hL, hM5, hP6, hN, hS, hh, hz, hH, hE, hPf, hsy, ⟨q, hq, hsd⟩, hHi, hTP, hA, hUn, hsA, hIm, hI4, hI21, hsI, hn, ht1, ht2, hTp, hfa, hwh, hpl⟩ := hI
  have hl : l = 5 ∨ l = 23 := by omega
  have hP : TP < 16 := hHi.1
  have hA16 : A ≤ 16 := hHi.2.1
  have hI3 : I ≤ 3 := hIm.1
  obtain ⟨T, hT3, hT4⟩ : ∃ T, T ≤ 3 ∧ f l 4 = nI T := by obtain ⟨T, a, b⟩ := hL.2.2.2.2.2.2.2.2.2.2.2.2.2.1; exact ⟨T, a, hL.h4.trans b⟩
  obtain ⟨Y, hY⟩ : ∃ Y, D_X11_seed x0 (f l 4) (f 40 3) = Y := ⟨_, rfl⟩
  have k1 := k_X11_seed (f := f) (g := g) (p := p) (d := d) (e := e) l x0 (f l 4) (f 0 12) (f 40 3) hT hl p03 rfl rfl rfl Y hY
  obtain ⟨f1, ef1⟩ : ∃ z, mf_X11_seed f Y.2.1 Y.2.2 = z := ⟨_, rfl⟩
  rw [ef1] at k1
  have ka : KeA f f1 := by rw [← ef1]; unfold mf_X11_seed; exact (ka_u (by omega) (ka_u (by omega) ka_rfl))
  obtain ⟨Z, hZ⟩ : ∃ Z, D_X12_seed x0 (f 177 14) (f 182) = Z := ⟨_, rfl⟩
  have k2 := k_X12_seed (f := f1) (g := g) (p := p) (d := d) (e := e) x0 (f 177 0) (f 177 11) (f 177 14) (f 182) hT (congrFun (ka 177 (by decide)) 0) (congrFun (ka 177 (by decide)) 11) (congrFun (ka 177 (by decide)) 14) (ka 182 (by decide)) Z hZ
  obtain ⟨f2, ef2⟩ : ∃ z, mf_X12_seed f1 Z.2.1 Z.2.2.1 Z.2.2.2 = z := ⟨_, rfl⟩
  rw [ef2] at k2
  have kb2 : KeB f1 f2 := by rw [← ef2]; unfold mf_X12_seed; exact (kb_v (by omega) (kb_u (by omega) (kb_u (by omega) kb_rfl)))
  have w4 : ¬ (D_X11_seed x0 (f l 4) (f 40 3)).2.1 = 4 := w_seed
  rw [hY] at w4
  rcases act_seed (x0 := x0) (tens := (f l 4)) (seed := (f 40 3)) (hl := (f 177 14)) (st := (f 182)) hL.M8 hN hh with ⟨w, hw0, e1, e2⟩ | ⟨q', hq', hx, e1, e2, hN'⟩
  · have e1 := hY.symm.trans e1
    have e2 := hZ.symm.trans e2
    subst e1 e2
    dsimp only at k1 k2 ef1 ef2 w4
    have kk : KeS (Scr l) f f1 := by rw [← ef1]; unfold mf_X11_seed; exact (ks_uo rfl (ks_u (by unfold Scr; omega) ks_rfl))
    have kk2 : KeS (Scr l) f f2 := by rw [← ef2]; unfold mf_X12_seed; exact (ks_vo rfl (ks_u (by unfold Scr; omega) (ks_u (by unfold Scr; omega) kk)))
    have w1 := ((congrFun (kb2 (0) (by omega)) 12).trans ((congrFun (congrFun ef1.symm (0)) 12).trans (Eq.trans (au_ne _ _ (Or.inl (by omega))) (au_eq _ _ _ _))))
    have w2 : f2 177 11 = _ := ((congrFun (congrFun ef2.symm 177) 11).trans (Eq.trans (congrFun (va_up_ne _ _ (by omega)) _) (au_eq _ _ _ _)))
    exact ⟨_, f1, g, p, f2, g, k1, k2, ⟨l, r, M, A, I, TP, n, Inv_keep hII kk2 kq_rfl (w1.trans w2.symm) (fun h => absurd (w1.symm.trans h) w4)⟩, hT, ka am_SC (by decide), ks_row kk2 (fun k h => absurd (scr_l hl h) (by decide))⟩
  · have e1 := hY.symm.trans e1
    have e2 := hZ.symm.trans e2
    subst e1 e2
    dsimp only at k1 k2 ef1 ef2 w4
    have kk1 : KeS (SUn l) f f1 := by rw [← ef1]; unfold mf_X11_seed; exact (ks_u (by unfold SUn Scr; omega) (ks_u (by unfold SUn Scr; omega) ks_rfl))
    have kk : KeS (SUn l) f f2 := by rw [← ef2]; unfold mf_X12_seed; exact (ks_v (fun k => by unfold SUn Scr; omega) (ks_u (by unfold SUn Scr; omega) (ks_u (by unfold SUn Scr; omega) kk1)))
    have r1 : f2 40 1 = _ := ((congrFun (kb2 (40) (by omega)) 1).trans ((congrFun (congrFun ef1.symm (40)) 1).trans (Eq.trans (au_ne _ _ (Or.inr (by decide))) (au_ne _ _ (Or.inl (by omega))))))
    have r2 : f2 40 2 = _ := ((congrFun (kb2 (40) (by omega)) 2).trans ((congrFun (congrFun ef1.symm (40)) 2).trans (Eq.trans (au_ne _ _ (Or.inr (by decide))) (au_ne _ _ (Or.inl (by omega))))))
    have r3 : f2 40 3 = _ := ((congrFun (kb2 (40) (by omega)) 3).trans ((congrFun (congrFun ef1.symm (40)) 3).trans (au_eq _ _ _ _)))
    have r4 : f2 41 = _ := ((kb2 (41) (by omega)).trans ((congrFun ef1.symm (41)).trans (Eq.trans (am_urow (by omega)) (am_urow (by omega)))))
    have r5 : f2 42 = _ := ((kb2 (42) (by omega)).trans ((congrFun ef1.symm (42)).trans (Eq.trans (am_urow (by omega)) (am_urow (by omega)))))
    have r6 : f2 43 = _ := ((kb2 (43) (by omega)).trans ((congrFun ef1.symm (43)).trans (Eq.trans (am_urow (by omega)) (am_urow (by omega)))))
    have r7 : f2 44 = _ := ((kb2 (44) (by omega)).trans ((congrFun ef1.symm (44)).trans (Eq.trans (am_urow (by omega)) (am_urow (by omega)))))
    have t2 : f2 45 2 = _ := ((congrFun (kb2 (45) (by omega)) 2).trans ((congrFun (congrFun ef1.symm (45)) 2).trans (Eq.trans (au_ne _ _ (Or.inl (by omega))) (au_ne _ _ (Or.inl (by omega))))))
    have t3 : f2 45 3 = _ := ((congrFun (kb2 (45) (by omega)) 3).trans ((congrFun (congrFun ef1.symm (45)) 3).trans (Eq.trans (au_ne _ _ (Or.inl (by omega))) (au_ne _ _ (Or.inl (by omega))))))
    have w1 : f2 0 12 = _ := ((congrFun (kb2 (0) (by omega)) 12).trans ((congrFun (congrFun ef1.symm (0)) 12).trans (Eq.trans (au_ne _ _ (Or.inl (by omega))) (au_eq _ _ _ _))))
    have u1 : f2 182 = _ := ((congrFun ef2.symm 182).trans (va_up_self _ _ _))
    have w2 : f2 177 11 = _ := ((congrFun (congrFun ef2.symm 177) 11).trans (Eq.trans (congrFun (va_up_ne _ _ (by omega)) _) (au_eq _ _ _ _)))
    have u3 : f2 177 20 = f 177 20 := (show f2 177 20 = f1 177 20 from by rw [← ef2]; unfold mf_X12_seed; exact (Eq.trans (congrFun (va_up_ne _ _ (by omega)) _) (Eq.trans (au_ne _ _ (Or.inr (by decide))) (au_ne _ _ (Or.inr (by decide)))))).trans (congrFun (ka 177 (by decide)) 20)
    have hh0 : ¬ f 177 14 = 0 := fun h0 => by
      have h1 : (D_X12_seed x0 (f 177 14) (f 182)).2.2.1 = 1 := by unfold D_X12_seed; rw [if_pos h0]; rfl
      rw [hZ] at h1
      exact absurd (show (0 : Int32) = 1 from h1) (by decide)
    exact ⟨_, f1, g, p, f2, g, k1, k2, Inv_now hII kk ks_rfl p40 ⟨by rw [r1, r2, r3, r4, r5, r6, r7, u1]; exact hN', by rw [r1]; exact hS, q', hq', r3.trans hx⟩ hHi (t2.trans hTP) (t3.trans hA) (u3.trans hUn) hsA hh0 (w1.trans w2.symm) (fun h => absurd (w1.symm.trans h) (by decide)), hT, ka am_SC (by decide), ks_row kk (fun k => by unfold SUn Scr am_SC; omega)⟩
theorem q_undo {f : Nat → Nat → Int32} {g : Nat → Nat → Int64} {p : Nat → Nat → Option Nat} {d : Nat → Nat × Nat} {e : Nat × Nat} (hI0 : Inv f p) (hT : am_T0 p d) : Run2 Value.int f g p d e 177 321 [] := by
  obtain ⟨l, r, M, A, I, TP, n, hI⟩ := hI0
  have hII := hI
  obtain ⟨hlr, p03, p40, p23, psl, pim, hL, hM5, hP6, hN, hS, hh, hz, hH, hE, hPf, hsy, ⟨q, hq, hsd⟩, hHi, hTP, hA, hUn, hsA, hIm, hI4, hI21, hsI, hn, ht1, ht2, hTp, hfa, hwh, hpl⟩ := hI
  have hl : l = 5 ∨ l = 23 := by omega
  have hP : TP < 16 := hHi.1
  have hA16 : A ≤ 16 := hHi.2.1
  have hI3 : I ≤ 3 := hIm.1
  obtain ⟨T, hT3, hT4⟩ : ∃ T, T ≤ 3 ∧ f l 4 = nI T := by obtain ⟨T, a, b⟩ := hL.2.2.2.2.2.2.2.2.2.2.2.2.2.1; exact ⟨T, a, hL.h4.trans b⟩
  obtain ⟨ml, hml, hpm⟩ := psl ((TP + 15) % 16) (Nat.mod_lt _ (by decide))
  have hj : jrm (nI TP + 16 - 1) 16 = nI ((TP + 15) % 16) := by rw [show (16 : Int32) = nI 16 from rfl, nI_add, show TP + 16 = TP + 15 + 1 by omega, nI_prd, i_rem (by omega) (by omega)]
  have hcl : (jrm (nI TP + 16 - 1) 16).toNatClampNeg = (TP + 15) % 16 := by rw [hj]; exact nI_clamp (by omega)
  obtain ⟨Y, hY⟩ : ∃ Y, D_X11_undo (nI A) (nI TP) (p 40 0) (f (5 * ((TP + 15) % 16) + 48) 1) (f 40 1) (f (5 * ((TP + 15) % 16) + 48) 2) (f 40 2) (f (5 * ((TP + 15) % 16) + 48) 3) (f 40 3) (f (5 * ((TP + 15) % 16) + 49)) (f 41) (f (5 * ((TP + 15) % 16) + 50)) (f 42) (f (5 * ((TP + 15) % 16) + 51)) (f 43) (f (5 * ((TP + 15) % 16) + 52)) (f 44) ml = Y := ⟨_, rfl⟩
  have k1 := k_X11_undo (f := f) (g := g) (p := p) (d := d) (e := e) ml (nI A) (nI TP) (p 40 0) (f (5 * ((TP + 15) % 16) + 48) 1) (f 40 1) (f (5 * ((TP + 15) % 16) + 48) 2) (f 40 2) (f (5 * ((TP + 15) % 16) + 48) 3) (f 40 3) (f (5 * ((TP + 15) % 16) + 49)) (f 41) (f (5 * ((TP + 15) % 16) + 50)) (f 42) (f (5 * ((TP + 15) % 16) + 51)) (f 43) (f (5 * ((TP + 15) % 16) + 52)) (f 44) (f 0 12) hT hml hA hTP (by rw [hcl]; exact hpm) rfl (by rw [hcl]) rfl (by rw [hcl]) rfl (by rw [hcl]) rfl (by rw [hcl]) rfl (by rw [hcl]) rfl (by rw [hcl]) rfl (by rw [hcl]) rfl rfl (gc_undo hP rfl) Y hY
  obtain ⟨f1, ef1⟩ : ∃ z, mf_X11_undo f Y.2.1 Y.2.2.1 Y.2.2.2.1 Y.2.2.2.2.1 Y.2.2.2.2.2.1 Y.2.2.2.2.2.2.1 Y.2.2.2.2.2.2.2.1 Y.2.2.2.2.2.2.2.2.1 Y.2.2.2.2.2.2.2.2.2.1 Y.2.2.2.2.2.2.2.2.2.2.2 = z := ⟨_, rfl⟩
  rw [ef1] at k1
  obtain ⟨p1, ep1⟩ : ∃ z, mp_X11_undo p Y.2.2.2.2.2.2.2.2.2.2.1 = z := ⟨_, rfl⟩
  rw [ep1] at k1
  have ka : KeA f f1 := by rw [← ef1]; unfold mf_X11_undo; exact (ka_u (by omega) (ka_v (by omega) (ka_v (by omega) (ka_v (by omega) (ka_v (by omega) (ka_u (by omega) (ka_u (by omega) (ka_u (by omega) (ka_u (by omega) (ka_u (by omega) ka_rfl))))))))))
  have hT1 : am_T0 p1 d := by rw [← ep1]; exact mt_X11_undo hl hT
  obtain ⟨Z, hZ⟩ : ∃ Z, D_X12_undo (nI A) (f 183) (f 182) = Z := ⟨_, rfl⟩
  have k2 := k_X12_undo (f := f1) (g := g) (p := p1) (d := d) (e := e) (f 177 0) (f 177 11) (nI A) (f 183) (f 182) hT1 (congrFun (ka 177 (by decide)) 0) (congrFun (ka 177 (by decide)) 11) ((congrFun (ka 177 (by decide)) 20).trans hUn) (ka 183 (by decide)) (ka 182 (by decide)) (gr_undo hA16) Z hZ
  obtain ⟨f2, ef2⟩ : ∃ z, mf_X12_undo f1 Z.2.1 Z.2.2.1 Z.2.2.2.1 Z.2.2.2.2 = z := ⟨_, rfl⟩
  rw [ef2] at k2
  have kb2 : KeB f1 f2 := by rw [← ef2]; unfold mf_X12_undo; exact (kb_v (by omega) (kb_u (by omega) (kb_u (by omega) (kb_u (by omega) kb_rfl))))
  rcases act_undo (A := A) (top := (nI TP)) (ptr := (p 40 0)) (p := (f (5 * ((TP + 15) % 16) + 48) 1)) (p2 := (f 40 1)) (b := (f (5 * ((TP + 15) % 16) + 48) 2)) (b2 := (f 40 2)) (s := (f (5 * ((TP + 15) % 16) + 48) 3)) (s2 := (f 40 3)) (t := (f (5 * ((TP + 15) % 16) + 49))) (t2 := (f 41)) (f := (f (5 * ((TP + 15) % 16) + 50))) (f2 := (f 42)) (an := (f (5 * ((TP + 15) % 16) + 51))) (an2 := (f 43)) (lo := (f (5 * ((TP + 15) % 16) + 52))) (l2 := (f 44)) (l := ml) (undone := (f 183)) (st := (f 182)) with ⟨hA0, e1, e2⟩ | ⟨B, hB, ee⟩
  · have e1 := hY.symm.trans e1
    have e2 := hZ.symm.trans e2
    subst e1 e2
    dsimp only at k1 k2 ef1 ep1 ef2
    have kk : KeS (Scr l) f f1 := by rw [← ef1]; unfold mf_X11_undo; exact (ks_u (by unfold Scr; omega) (ks_vo rfl (ks_vo rfl (ks_vo rfl (ks_vo rfl (ks_uo rfl (ks_uo rfl (ks_uo rfl (ks_uo hTP.symm (ks_uo hA.symm ks_rfl))))))))))
    have kq : KeP p p1 := by rw [← ep1]; unfold mp_X11_undo; exact (ks_uo (S := fun a k => 143 ≤ a ∧ a ≤ 176) rfl ks_rfl)
    have kk2 : KeS (Scr l) f f2 := by rw [← ef2]; unfold mf_X12_undo; exact (ks_vo rfl (ks_uo hUn.symm (ks_u (by unfold Scr; omega) (ks_u (by unfold Scr; omega) kk))))
    have w1 := ((congrFun (kb2 (0) (by omega)) 12).trans ((congrFun (congrFun ef1.symm (0)) 12).trans (au_eq _ _ _ _)))
    have w2 : f2 177 11 = _ := ((congrFun (congrFun ef2.symm 177) 11).trans (Eq.trans (congrFun (va_up_ne _ _ (by omega)) _) (Eq.trans (au_ne _ _ (Or.inr (by decide))) (au_eq _ _ _ _))))
    exact ⟨_, f1, g, p1, f2, g, k1, k2, ⟨l, r, M, A, I, TP, n, Inv_keep hII kk2 kq (w1.trans w2.symm) (fun h => absurd (w1.symm.trans h) (by decide))⟩, hT1, ka am_SC (by decide), ks_row kk2 (fun k h => absurd (scr_l hl h) (by decide))⟩
  · obtain ⟨e1, e2⟩ := ee hA16
    have e1 := hY.symm.trans e1
    have e2 := hZ.symm.trans e2
    subst e1 e2
    dsimp only at k1 k2 ef1 ep1 ef2
    have kk1 : KeS (SUn l) f f1 := by rw [← ef1]; unfold mf_X11_undo; exact (ks_u (by unfold SUn Scr; omega) (ks_v (fun k => by unfold SUn Scr; omega) (ks_v (fun k => by unfold SUn Scr; omega) (ks_v (fun k => by unfold SUn Scr; omega) (ks_v (fun k => by unfold SUn Scr; omega) (ks_u (by unfold SUn Scr; omega) (ks_u (by unfold SUn Scr; omega) (ks_u (by unfold SUn Scr; omega) (ks_u (by unfold SUn Scr; omega) (ks_u (by unfold SUn Scr; omega) ks_rfl))))))))))
    have kk : KeS (SUn l) f f2 := by rw [← ef2]; unfold mf_X12_undo; exact (ks_v (fun k => by unfold SUn Scr; omega) (ks_u (by unfold SUn Scr; omega) (ks_u (by unfold SUn Scr; omega) (ks_u (by unfold SUn Scr; omega) kk1))))
    have kp : KeS PUn p p1 := by rw [← ep1]; unfold mp_X11_undo; exact (ks_u (by unfold PUn; omega) ks_rfl)
    have hml2 : ml = l := by
      have h1 := hsA B (by omega)
      rw [show slot TP A B = (TP + 15) % 16 by unfold slot; omega, hpm] at h1
      exact Option.some.inj h1
    have hpt : p1 40 0 = some l := by rw [← ep1, ← hml2]; unfold mp_X11_undo; exact (au_eq _ _ _ _)
    have r1 : f2 40 1 = _ := ((congrFun (kb2 (40) (by omega)) 1).trans ((congrFun (congrFun ef1.symm (40)) 1).trans (Eq.trans (au_ne _ _ (Or.inl (by omega))) (Eq.trans (congrFun (va_up_ne _ _ (by omega)) _) (Eq.trans (congrFun (va_up_ne _ _ (by omega)) _) (Eq.trans (congrFun (va_up_ne _ _ (by omega)) _) (Eq.trans (congrFun (va_up_ne _ _ (by omega)) _) (Eq.trans (au_ne _ _ (Or.inr (by decide))) (Eq.trans (au_ne _ _ (Or.inr (by decide))) (au_eq _ _ _ _))))))))))
    have r2 : f2 40 2 = _ := ((congrFun (kb2 (40) (by omega)) 2).trans ((congrFun (congrFun ef1.symm (40)) 2).trans (Eq.trans (au_ne _ _ (Or.inl (by omega))) (Eq.trans (congrFun (va_up_ne _ _ (by omega)) _) (Eq.trans (congrFun (va_up_ne _ _ (by omega)) _) (Eq.trans (congrFun (va_up_ne _ _ (by omega)) _) (Eq.trans (congrFun (va_up_ne _ _ (by omega)) _) (Eq.trans (au_ne _ _ (Or.inr (by decide))) (au_eq _ _ _ _)))))))))
    have r3 : f2 40 3 = _ := ((congrFun (kb2 (40) (by omega)) 3).trans ((congrFun (congrFun ef1.symm (40)) 3).trans (Eq.trans (au_ne _ _ (Or.inl (by omega))) (Eq.trans (congrFun (va_up_ne _ _ (by omega)) _) (Eq.trans (congrFun (va_up_ne _ _ (by omega)) _) (Eq.trans (congrFun (va_up_ne _ _ (by omega)) _) (Eq.trans (congrFun (va_up_ne _ _ (by omega)) _) (au_eq _ _ _ _))))))))
    have r4 : f2 41 = _ := ((kb2 (41) (by omega)).trans ((congrFun ef1.symm (41)).trans (Eq.trans (am_urow (by omega)) (Eq.trans (va_up_ne _ _ (by omega)) (Eq.trans (va_up_ne _ _ (by omega)) (Eq.trans (va_up_ne _ _ (by omega)) (va_up_self _ _ _)))))))
    have r5 : f2 42 = _ := ((kb2 (42) (by omega)).trans ((congrFun ef1.symm (42)).trans (Eq.trans (am_urow (by omega)) (Eq.trans (va_up_ne _ _ (by omega)) (Eq.trans (va_up_ne _ _ (by omega)) (va_up_self _ _ _))))))
    have r6 : f2 43 = _ := ((kb2 (43) (by omega)).trans ((congrFun ef1.symm (43)).trans (Eq.trans (am_urow (by omega)) (Eq.trans (va_up_ne _ _ (by omega)) (va_up_self _ _ _)))))
    have r7 : f2 44 = _ := ((kb2 (44) (by omega)).trans ((congrFun ef1.symm (44)).trans (Eq.trans (am_urow (by omega)) (va_up_self _ _ _))))
    have t2 : f2 45 2 = _ := ((congrFun (kb2 (45) (by omega)) 2).trans ((congrFun (congrFun ef1.symm (45)) 2).trans (Eq.trans (au_ne _ _ (Or.inl (by omega))) (Eq.trans (congrFun (va_up_ne _ _ (by omega)) _) (Eq.trans (congrFun (va_up_ne _ _ (by omega)) _) (Eq.trans (congrFun (va_up_ne _ _ (by omega)) _) (Eq.trans (congrFun (va_up_ne _ _ (by omega)) _) (Eq.trans (au_ne _ _ (Or.inl (by omega))) (Eq.trans (au_ne _ _ (Or.inl (by omega))) (Eq.trans (au_ne _ _ (Or.inl (by omega))) (au_eq _ _ _ _)))))))))))
    have t3 : f2 45 3 = _ := ((congrFun (kb2 (45) (by omega)) 3).trans ((congrFun (congrFun ef1.symm (45)) 3).trans (Eq.trans (au_ne _ _ (Or.inl (by omega))) (Eq.trans (congrFun (va_up_ne _ _ (by omega)) _) (Eq.trans (congrFun (va_up_ne _ _ (by omega)) _) (Eq.trans (congrFun (va_up_ne _ _ (by omega)) _) (Eq.trans (congrFun (va_up_ne _ _ (by omega)) _) (Eq.trans (au_ne _ _ (Or.inl (by omega))) (Eq.trans (au_ne _ _ (Or.inl (by omega))) (Eq.trans (au_ne _ _ (Or.inl (by omega))) (Eq.trans (au_ne _ _ (Or.inr (by decide))) (au_eq _ _ _ _))))))))))))
    have w1 : f2 0 12 = _ := ((congrFun (kb2 (0) (by omega)) 12).trans ((congrFun (congrFun ef1.symm (0)) 12).trans (au_eq _ _ _ _)))
    have u1 : f2 182 = _ := ((congrFun ef2.symm 182).trans (va_up_self _ _ _))
    have u3 : f2 177 20 = _ := ((congrFun (congrFun ef2.symm 177) 20).trans (Eq.trans (congrFun (va_up_ne _ _ (by omega)) _) (au_eq _ _ _ _)))
    have w2 : f2 177 11 = _ := ((congrFun (congrFun ef2.symm 177) 11).trans (Eq.trans (congrFun (va_up_ne _ _ (by omega)) _) (Eq.trans (au_ne _ _ (Or.inr (by decide))) (au_eq _ _ _ _))))
    have hh0 : ¬ f 177 14 = 0 := fun h0 => by have := (hz h0).2.2.2.1; omega
    subst hB
    obtain ⟨v1, v2, v3⟩ := undo_rel hL.M8 hHi (st := f 182) (t2 := f 41) (f2 := f 42) (a2 := f 43) (l2 := f 44)
    exact ⟨_, f1, g, p1, f2, g, k1, k2, Inv_now hII kk kp hpt (by rw [r1, r2, r3, r4, r5, r6, r7, u1]; exact v1) v2 (t2.trans v3) t3 u3 (fun i hi => by rw [show slot ((TP + 15) % 16) B i = slot TP (B + 1) i by unfold slot; omega]; exact hsA i (by omega)) hh0 (w1.trans w2.symm) (fun h => absurd (w1.symm.trans h) (by decide)), hT1, ka am_SC (by decide), ks_row kk (fun k => by unfold SUn Scr am_SC; omega)⟩
theorem q_back {f : Nat → Nat → Int32} {g : Nat → Nat → Int64} {p : Nat → Nat → Option Nat} {d : Nat → Nat × Nat} {e : Nat × Nat} {x0 : Int32} (hI0 : Inv f p) (hT : am_T0 p d) : Run2 Value.int f g p d e 179 323 [.int x0] := by
  obtain ⟨l, r, M, A, I, TP, n, hI⟩ := hI0
  have hII := hI
  obtain ⟨hlr, p03, p40, p23, psl, pim, hL, hM5, hP6, hN, hS, hh, hz, hH, hE, hPf, hsy, ⟨q, hq, hsd⟩, hHi, hTP, hA, hUn, hsA, hIm, hI4, hI21, hsI, hn, ht1, ht2, hTp, hfa, hwh, hpl⟩ := hI
  have hl : l = 5 ∨ l = 23 := by omega
  have hP : TP < 16 := hHi.1
  have hA16 : A ≤ 16 := hHi.2.1
  have hI3 : I ≤ 3 := hIm.1
  obtain ⟨T, hT3, hT4⟩ : ∃ T, T ≤ 3 ∧ f l 4 = nI T := by obtain ⟨T, a, b⟩ := hL.2.2.2.2.2.2.2.2.2.2.2.2.2.1; exact ⟨T, a, hL.h4.trans b⟩
  by_cases hx : ∃ j, j < I ∧ x0 = nI j
  · obtain ⟨j, hj, hx⟩ := hx
    subst hx
    have hcl : (nI j).toNatClampNeg = j := nI_clamp (by omega)
    obtain ⟨Y, hY⟩ : ∃ Y, D_X11_back ((nI j)) (nI I) (p 40 0) (f (5 * j + 128) 1) (f 40 1) (f (5 * j + 128) 2) (f 40 2) (f (5 * j + 128) 3) (f 40 3) (f (5 * j + 129)) (f 41) (f (5 * j + 130)) (f 42) (f (5 * j + 131)) (f 43) (f (5 * j + 132)) (f 44) (f 45 3) l = Y := ⟨_, rfl⟩
    have k1 := k_X11_back (f := f) (g := g) (p := p) (d := d) (e := e) l (nI j) (nI I) (p 40 0) (f (5 * j + 128) 1) (f 40 1) (f (5 * j + 128) 2) (f 40 2) (f (5 * j + 128) 3) (f 40 3) (f (5 * j + 129)) (f 41) (f (5 * j + 130)) (f 42) (f (5 * j + 131)) (f 43) (f (5 * j + 132)) (f 44) (f 45 3) (f 0 12) hT hl hI4 (by rw [hcl]; exact hsI j hj) rfl (by rw [hcl]) rfl (by rw [hcl]) rfl (by rw [hcl]) rfl (by rw [hcl]) rfl (by rw [hcl]) rfl (by rw [hcl]) rfl (by rw [hcl]) rfl rfl rfl (gc_back hI3 rfl) Y hY
    obtain ⟨f1, ef1⟩ : ∃ z, mf_X11_back f Y.2.1 Y.2.2.1 Y.2.2.2.1 Y.2.2.2.2.1 Y.2.2.2.2.2.1 Y.2.2.2.2.2.2.1 Y.2.2.2.2.2.2.2.1 Y.2.2.2.2.2.2.2.2.1 Y.2.2.2.2.2.2.2.2.2.2 = z := ⟨_, rfl⟩
    rw [ef1] at k1
    obtain ⟨p1, ep1⟩ : ∃ z, mp_X11_back p Y.2.2.2.2.2.2.2.2.2.1 = z := ⟨_, rfl⟩
    rw [ep1] at k1
    have ka : KeA f f1 := by rw [← ef1]; unfold mf_X11_back; exact (ka_u (by omega) (ka_u (by omega) (ka_v (by omega) (ka_v (by omega) (ka_v (by omega) (ka_v (by omega) (ka_u (by omega) (ka_u (by omega) (ka_u (by omega) ka_rfl)))))))))
    have hT1 : am_T0 p1 d := by rw [← ep1]; exact mt_X11_back hl hT
    obtain ⟨Z, hZ⟩ : ∃ Z, D_X12_back ((nI j)) (nI I) (f 184) (f 182) (f 177 20) = Z := ⟨_, rfl⟩
    have k2 := k_X12_back (f := f1) (g := g) (p := p1) (d := d) (e := e) (nI j) (f 177 0) (f 177 11) (nI I) (f 184) (f 182) (f 177 20) hT1 (congrFun (ka 177 (by decide)) 0) (congrFun (ka 177 (by decide)) 11) ((congrFun (ka 177 (by decide)) 21).trans hI21) (ka 184 (by decide)) (ka 182 (by decide)) (congrFun (ka 177 (by decide)) 20) (gr_back hI3) Z hZ
    obtain ⟨f2, ef2⟩ : ∃ z, mf_X12_back f1 Z.2.1 Z.2.2.1 Z.2.2.2.1 Z.2.2.2.2 = z := ⟨_, rfl⟩
    rw [ef2] at k2
    have kb2 : KeB f1 f2 := by rw [← ef2]; unfold mf_X12_back; exact (kb_u (by omega) (kb_v (by omega) (kb_u (by omega) (kb_u (by omega) kb_rfl))))
    rcases act_back (x0 := ((nI j))) (I := I) (ptr := (p 40 0)) (p := (f (5 * j + 128) 1)) (p2 := (f 40 1)) (b := (f (5 * j + 128) 2)) (b2 := (f 40 2)) (s := (f (5 * j + 128) 3)) (s2 := (f 40 3)) (t := (f (5 * j + 129))) (t2 := (f 41)) (f := (f (5 * j + 130))) (f2 := (f 42)) (an := (f (5 * j + 131))) (an2 := (f 43)) (lo := (f (5 * j + 132))) (l2 := (f 44)) (acts := (f 45 3)) (l := l) (kept := (f 184)) (st := (f 182)) (undos := (f 177 20)) hI3 with ⟨e1, e2⟩ | ⟨i, hi, hx, e1, e2⟩
    · have e1 := hY.symm.trans e1
      have e2 := hZ.symm.trans e2
      subst e1 e2
      dsimp only at k1 k2 ef1 ep1 ef2
      have kk : KeS (Scr l) f f1 := by rw [← ef1]; unfold mf_X11_back; exact (ks_u (by unfold Scr; omega) (ks_uo rfl (ks_vo rfl (ks_vo rfl (ks_vo rfl (ks_vo rfl (ks_uo rfl (ks_uo rfl (ks_uo rfl ks_rfl)))))))))
      have kq : KeP p p1 := by rw [← ep1]; unfold mp_X11_back; exact (ks_uo (S := fun a k => 143 ≤ a ∧ a ≤ 176) rfl ks_rfl)
      have kk2 : KeS (Scr l) f f2 := by rw [← ef2]; unfold mf_X12_back; exact (ks_uo rfl (ks_vo rfl (ks_u (by unfold Scr; omega) (ks_u (by unfold Scr; omega) kk))))
      have w1 := ((congrFun (kb2 (0) (by omega)) 12).trans ((congrFun (congrFun ef1.symm (0)) 12).trans (au_eq _ _ _ _)))
      have w2 : f2 177 11 = _ := ((congrFun (congrFun ef2.symm 177) 11).trans (Eq.trans (au_ne _ _ (Or.inr (by decide))) (Eq.trans (congrFun (va_up_ne _ _ (by omega)) _) (au_eq _ _ _ _))))
      exact ⟨_, f1, g, p1, f2, g, k1, k2, ⟨l, r, M, A, I, TP, n, Inv_keep hII kk2 kq (w1.trans w2.symm) (fun h => absurd (w1.symm.trans h) (by decide))⟩, hT1, ka am_SC (by decide), ks_row kk2 (fun k h => absurd (scr_l hl h) (by decide))⟩
    · have hij : i = j := ((nI_eq (by omega) (by omega)).mp hx).symm
      subst hij
      have e1 := hY.symm.trans e1
      have e2 := hZ.symm.trans e2
      subst e1 e2
      dsimp only at k1 k2 ef1 ep1 ef2
      have kk1 : KeS (SUn l) f f1 := by rw [← ef1]; unfold mf_X11_back; exact (ks_u (by unfold SUn Scr; omega) (ks_u (by unfold SUn Scr; omega) (ks_v (fun k => by unfold SUn Scr; omega) (ks_v (fun k => by unfold SUn Scr; omega) (ks_v (fun k => by unfold SUn Scr; omega) (ks_v (fun k => by unfold SUn Scr; omega) (ks_u (by unfold SUn Scr; omega) (ks_u (by unfold SUn Scr; omega) (ks_u (by unfold SUn Scr; omega) ks_rfl)))))))))
      have kk : KeS (SUn l) f f2 := by rw [← ef2]; unfold mf_X12_back; exact (ks_u (by unfold SUn Scr; omega) (ks_v (fun k => by unfold SUn Scr; omega) (ks_u (by unfold SUn Scr; omega) (ks_u (by unfold SUn Scr; omega) kk1))))
      have kp : KeS PUn p p1 := by rw [← ep1]; unfold mp_X11_back; exact (ks_u (by unfold PUn; omega) ks_rfl)
      have hpt : p1 40 0 = some l := by rw [← ep1]; unfold mp_X11_back; exact (au_eq _ _ _ _)
      have r1 : f2 40 1 = _ := ((congrFun (kb2 (40) (by omega)) 1).trans ((congrFun (congrFun ef1.symm (40)) 1).trans (Eq.trans (au_ne _ _ (Or.inl (by omega))) (Eq.trans (au_ne _ _ (Or.inl (by omega))) (Eq.trans (congrFun (va_up_ne _ _ (by omega)) _) (Eq.trans (congrFun (va_up_ne _ _ (by omega)) _) (Eq.trans (congrFun (va_up_ne _ _ (by omega)) _) (Eq.trans (congrFun (va_up_ne _ _ (by omega)) _) (Eq.trans (au_ne _ _ (Or.inr (by decide))) (Eq.trans (au_ne _ _ (Or.inr (by decide))) (au_eq _ _ _ _)))))))))))
      have r2 : f2 40 2 = _ := ((congrFun (kb2 (40) (by omega)) 2).trans ((congrFun (congrFun ef1.symm (40)) 2).trans (Eq.trans (au_ne _ _ (Or.inl (by omega))) (Eq.trans (au_ne _ _ (Or.inl (by omega))) (Eq.trans (congrFun (va_up_ne _ _ (by omega)) _) (Eq.trans (congrFun (va_up_ne _ _ (by omega)) _) (Eq.trans (congrFun (va_up_ne _ _ (by omega)) _) (Eq.trans (congrFun (va_up_ne _ _ (by omega)) _) (Eq.trans (au_ne _ _ (Or.inr (by decide))) (au_eq _ _ _ _))))))))))
      have r3 : f2 40 3 = _ := ((congrFun (kb2 (40) (by omega)) 3).trans ((congrFun (congrFun ef1.symm (40)) 3).trans (Eq.trans (au_ne _ _ (Or.inl (by omega))) (Eq.trans (au_ne _ _ (Or.inl (by omega))) (Eq.trans (congrFun (va_up_ne _ _ (by omega)) _) (Eq.trans (congrFun (va_up_ne _ _ (by omega)) _) (Eq.trans (congrFun (va_up_ne _ _ (by omega)) _) (Eq.trans (congrFun (va_up_ne _ _ (by omega)) _) (au_eq _ _ _ _)))))))))
      have r4 : f2 41 = _ := ((kb2 (41) (by omega)).trans ((congrFun ef1.symm (41)).trans (Eq.trans (am_urow (by omega)) (Eq.trans (am_urow (by omega)) (Eq.trans (va_up_ne _ _ (by omega)) (Eq.trans (va_up_ne _ _ (by omega)) (Eq.trans (va_up_ne _ _ (by omega)) (va_up_self _ _ _))))))))
      have r5 : f2 42 = _ := ((kb2 (42) (by omega)).trans ((congrFun ef1.symm (42)).trans (Eq.trans (am_urow (by omega)) (Eq.trans (am_urow (by omega)) (Eq.trans (va_up_ne _ _ (by omega)) (Eq.trans (va_up_ne _ _ (by omega)) (va_up_self _ _ _)))))))
      have r6 : f2 43 = _ := ((kb2 (43) (by omega)).trans ((congrFun ef1.symm (43)).trans (Eq.trans (am_urow (by omega)) (Eq.trans (am_urow (by omega)) (Eq.trans (va_up_ne _ _ (by omega)) (va_up_self _ _ _))))))
      have r7 : f2 44 = _ := ((kb2 (44) (by omega)).trans ((congrFun ef1.symm (44)).trans (Eq.trans (am_urow (by omega)) (Eq.trans (am_urow (by omega)) (va_up_self _ _ _)))))
      have t2 : f2 45 2 = _ := ((congrFun (kb2 (45) (by omega)) 2).trans ((congrFun (congrFun ef1.symm (45)) 2).trans (Eq.trans (au_ne _ _ (Or.inl (by omega))) (Eq.trans (au_ne _ _ (Or.inr (by decide))) (Eq.trans (congrFun (va_up_ne _ _ (by omega)) _) (Eq.trans (congrFun (va_up_ne _ _ (by omega)) _) (Eq.trans (congrFun (va_up_ne _ _ (by omega)) _) (Eq.trans (congrFun (va_up_ne _ _ (by omega)) _) (Eq.trans (au_ne _ _ (Or.inl (by omega))) (Eq.trans (au_ne _ _ (Or.inl (by omega))) (au_ne _ _ (Or.inl (by omega)))))))))))))
      have t3 : f2 45 3 = _ := ((congrFun (kb2 (45) (by omega)) 3).trans ((congrFun (congrFun ef1.symm (45)) 3).trans (Eq.trans (au_ne _ _ (Or.inl (by omega))) (au_eq _ _ _ _))))
      have w1 : f2 0 12 = _ := ((congrFun (kb2 (0) (by omega)) 12).trans ((congrFun (congrFun ef1.symm (0)) 12).trans (au_eq _ _ _ _)))
      have u1 : f2 182 = _ := ((congrFun ef2.symm 182).trans (Eq.trans (am_urow (by omega)) (va_up_self _ _ _)))
      have u3 : f2 177 20 = _ := ((congrFun (congrFun ef2.symm 177) 20).trans (au_eq _ _ _ _))
      have w2 : f2 177 11 = _ := ((congrFun (congrFun ef2.symm 177) 11).trans (Eq.trans (au_ne _ _ (Or.inr (by decide))) (Eq.trans (congrFun (va_up_ne _ _ (by omega)) _) (au_eq _ _ _ _))))
      have hh0 : ¬ f 177 14 = 0 := fun h0 => by have := (hz h0).2.2.2.2; omega
      have v1 := back_rel hL.M8 hi hIm (st := f 182) (t2 := f 41) (f2 := f 42) (a2 := f 43) (l2 := f 44)
      exact ⟨_, f1, g, p1, f2, g, k1, k2, Inv_now hII kk kp hpt (by rw [r1, r2, r3, r4, r5, r6, r7, u1]; exact v1) (A' := 0) ⟨hP, by omega, fun i hi => absurd hi (Nat.not_lt_zero i)⟩ (t2.trans hTP) t3 u3 (fun i hi => absurd hi (Nat.not_lt_zero i)) hh0 (w1.trans w2.symm) (fun h => absurd (w1.symm.trans h) (by decide)), hT1, ka am_SC (by decide), ks_row kk (fun k => by unfold SUn Scr am_SC; omega)⟩
  · have hr : x0 < 0 ∨ (¬ x0 < 0 ∧ ¬ x0 < f 45 4) := by
      by_cases h0 : x0 < 0
      · exact Or.inl h0
      · obtain ⟨j, j1, j2⟩ := nI_of h0
        refine Or.inr ⟨h0, fun h1 => hx ⟨j, ?_, j2⟩⟩
        rw [hI4, j2] at h1
        exact (nI_ltI j1 (by omega)).mp h1
    have k1 := k_back0 (f := f) (g := g) (p := p) (d := d) (e := e) hT hr
    obtain ⟨f1, ef1⟩ : ∃ z, am_u f 0 12 1 = z := ⟨_, rfl⟩
    rw [ef1] at k1
    have ka : KeA f f1 := by rw [← ef1]; exact (ka_u (by omega) ka_rfl)
    obtain ⟨Z, hZ⟩ : ∃ Z, D_X12_back x0 (nI I) (f 184) (f 182) (f 177 20) = Z := ⟨_, rfl⟩
    have k2 := k_X12_back (f := f1) (g := g) (p := p) (d := d) (e := e) x0 (f 177 0) (f 177 11) (nI I) (f 184) (f 182) (f 177 20) hT (congrFun (ka 177 (by decide)) 0) (congrFun (ka 177 (by decide)) 11) ((congrFun (ka 177 (by decide)) 21).trans hI21) (ka 184 (by decide)) (ka 182 (by decide)) (congrFun (ka 177 (by decide)) 20) (gr_back hI3) Z hZ
    obtain ⟨f2, ef2⟩ : ∃ z, mf_X12_back f1 Z.2.1 Z.2.2.1 Z.2.2.2.1 Z.2.2.2.2 = z := ⟨_, rfl⟩
    rw [ef2] at k2
    have kb2 : KeB f1 f2 := by rw [← ef2]; unfold mf_X12_back; exact (kb_u (by omega) (kb_v (by omega) (kb_u (by omega) (kb_u (by omega) kb_rfl))))
    rcases act_back (x0 := x0) (I := I) (kept := (f 184)) (st := (f 182)) (undos := (f 177 20)) (ptr := p 40 0) (p := 0) (p2 := 0) (b := 0) (b2 := 0) (s := 0) (s2 := 0) (t := f 0) (t2 := f 0) (f := f 0) (f2 := f 0) (an := f 0) (an2 := f 0) (lo := f 0) (l2 := f 0) (acts := 0) (l := l) hI3 with ⟨e1, e2⟩ | ⟨i, hi, hx1, e1, e2⟩
    · have e2 := hZ.symm.trans e2
      subst e2
      dsimp only at k2 ef2
      have kk : KeS (Scr l) f f1 := by rw [← ef1]; exact (ks_u (by unfold Scr; omega) ks_rfl)
      have kk2 : KeS (Scr l) f f2 := by rw [← ef2]; unfold mf_X12_back; exact (ks_uo rfl (ks_vo rfl (ks_u (by unfold Scr; omega) (ks_u (by unfold Scr; omega) kk))))
      have w1 : f2 0 12 = 1 := (congrFun (kb2 0 (by decide)) 12).trans (by rw [← ef1]; exact au_eq _ _ _ _)
      have w2 : f2 177 11 = _ := ((congrFun (congrFun ef2.symm 177) 11).trans (Eq.trans (au_ne _ _ (Or.inr (by decide))) (Eq.trans (congrFun (va_up_ne _ _ (by omega)) _) (au_eq _ _ _ _))))
      exact ⟨_, f1, g, p, f2, g, k1, k2, ⟨l, r, M, A, I, TP, n, Inv_keep hII kk2 kq_rfl (w1.trans w2.symm) (fun h => absurd (w1.symm.trans h) (by decide))⟩, hT, ka am_SC (by decide), ks_row kk2 (fun k h => absurd (scr_l hl h) (by decide))⟩
    · exact absurd ⟨i, hi, hx1⟩ hx
theorem q_image {f : Nat → Nat → Int32} {g : Nat → Nat → Int64} {p : Nat → Nat → Option Nat} {d : Nat → Nat × Nat} {e : Nat × Nat} (hI0 : Inv f p) (hT : am_T0 p d) : Run2 Value.int f g p d e 178 322 [] := by
  obtain ⟨l, r, M, A, I, TP, n, hI⟩ := hI0
  have hII := hI
  obtain ⟨hlr, p03, p40, p23, psl, pim, hL, hM5, hP6, hN, hS, hh, hz, hH, hE, hPf, hsy, ⟨q, hq, hsd⟩, hHi, hTP, hA, hUn, hsA, hIm, hI4, hI21, hsI, hn, ht1, ht2, hTp, hfa, hwh, hpl⟩ := hI
  have hl : l = 5 ∨ l = 23 := by omega
  have hP : TP < 16 := hHi.1
  have hA16 : A ≤ 16 := hHi.2.1
  have hI3 : I ≤ 3 := hIm.1
  obtain ⟨T, hT3, hT4⟩ : ∃ T, T ≤ 3 ∧ f l 4 = nI T := by obtain ⟨T, a, b⟩ := hL.2.2.2.2.2.2.2.2.2.2.2.2.2.1; exact ⟨T, a, hL.h4.trans b⟩
  by_cases hI33 : I < 3
  · have hcl : (nI I).toNatClampNeg = I := nI_clamp (by omega)
    obtain ⟨Y, hY⟩ : ∃ Y, D_X11_image (f l 4) (nI I) (p (5 * I + 128) 0) (f 40 1) (f (5 * I + 128) 1) (f 40 2) (f (5 * I + 128) 2) (f 40 3) (f (5 * I + 128) 3) (f 41) (f (5 * I + 129)) (f 42) (f (5 * I + 130)) (f 43) (f (5 * I + 131)) (f 44) (f (5 * I + 132)) l = Y := ⟨_, rfl⟩
    have k1 := k_X11_image (f := f) (g := g) (p := p) (d := d) (e := e) l (f l 4) (f 0 12) (nI I) (p (5 * I + 128) 0) (f 40 1) (f (5 * I + 128) 1) (f 40 2) (f (5 * I + 128) 2) (f 40 3) (f (5 * I + 128) 3) (f 41) (f (5 * I + 129)) (f 42) (f (5 * I + 130)) (f 43) (f (5 * I + 131)) (f 44) (f (5 * I + 132)) hT hl p03 rfl rfl hI4 p40 (by rw [hcl]) rfl (by rw [hcl]) rfl (by rw [hcl]) rfl (by rw [hcl]) rfl (by rw [hcl]) rfl (by rw [hcl]) rfl (by rw [hcl]) rfl (by rw [hcl]) (gc_image hI33 rfl) Y hY
    rw [hcl] at k1
    obtain ⟨f1, ef1⟩ : ∃ z, mf_X11_image f I Y.2.1 Y.2.2.1 Y.2.2.2.1 Y.2.2.2.2.1 Y.2.2.2.2.2.1 Y.2.2.2.2.2.2.1 Y.2.2.2.2.2.2.2.1 Y.2.2.2.2.2.2.2.2.1 Y.2.2.2.2.2.2.2.2.2.1 = z := ⟨_, rfl⟩
    rw [ef1] at k1
    obtain ⟨p1, ep1⟩ : ∃ z, mp_X11_image p I Y.2.2.2.2.2.2.2.2.2.2 = z := ⟨_, rfl⟩
    rw [ep1] at k1
    have ka : KeA f f1 := by rw [← ef1]; unfold mf_X11_image; exact (ka_u (by omega) (ka_v (by omega) (ka_v (by omega) (ka_v (by omega) (ka_v (by omega) (ka_u (by omega) (ka_u (by omega) (ka_u (by omega) (ka_u (by omega) ka_rfl)))))))))
    have hT1 : am_T0 p1 d := by rw [← ep1]; exact mt_X11_image hl hI33 hT
    obtain ⟨Z, hZ⟩ : ∃ Z, D_X12_image (f 177 14) (nI I) (f 182) (f 184) = Z := ⟨_, rfl⟩
    have k2 := k_X12_image (f := f1) (g := g) (p := p1) (d := d) (e := e) (f 177 0) (f 177 11) (f 177 14) (nI I) (f 182) (f 184) hT1 (congrFun (ka 177 (by decide)) 0) (congrFun (ka 177 (by decide)) 11) (congrFun (ka 177 (by decide)) 14) ((congrFun (ka 177 (by decide)) 21).trans hI21) (ka 182 (by decide)) (ka 184 (by decide)) (gr_image hI3) Z hZ
    obtain ⟨f2, ef2⟩ : ∃ z, mf_X12_image f1 Z.2.1 Z.2.2.1 Z.2.2.2.1 Z.2.2.2.2 = z := ⟨_, rfl⟩
    rw [ef2] at k2
    have kb2 : KeB f1 f2 := by rw [← ef2]; unfold mf_X12_image; exact (kb_u (by omega) (kb_v (by omega) (kb_u (by omega) (kb_u (by omega) kb_rfl))))
    have w4 : ¬ (D_X11_image (f l 4) (nI I) (p (5 * I + 128) 0) (f 40 1) (f (5 * I + 128) 1) (f 40 2) (f (5 * I + 128) 2) (f 40 3) (f (5 * I + 128) 3) (f 41) (f (5 * I + 129)) (f 42) (f (5 * I + 130)) (f 43) (f (5 * I + 131)) (f 44) (f (5 * I + 132)) l).2.1 = 4 := w_image
    rw [hY] at w4
    rcases act_image (tens := (f l 4)) (I := I) (ptr := (p (5 * I + 128) 0)) (p := (f 40 1)) (p2 := (f (5 * I + 128) 1)) (b := (f 40 2)) (b2 := (f (5 * I + 128) 2)) (s := (f 40 3)) (s2 := (f (5 * I + 128) 3)) (t := (f 41)) (t2 := (f (5 * I + 129))) (f := (f 42)) (f2 := (f (5 * I + 130))) (an := (f 43)) (an2 := (f (5 * I + 131))) (lo := (f 44)) (l2 := (f (5 * I + 132))) (l := l) (hl := (f 177 14)) (st := (f 182)) (kept := (f 184)) hh hI3 with ⟨w, hw0, e1, e2⟩ | ⟨_, hh0, e1, e2⟩
    · have e1 := hY.symm.trans e1
      have e2 := hZ.symm.trans e2
      subst e1 e2
      dsimp only at k1 k2 ef1 ep1 ef2 w4
      have kk : KeS (Scr l) f f1 := by rw [← ef1]; unfold mf_X11_image; exact (ks_uo hI4.symm (ks_vo rfl (ks_vo rfl (ks_vo rfl (ks_vo rfl (ks_uo rfl (ks_uo rfl (ks_uo rfl (ks_u (by unfold Scr; omega) ks_rfl)))))))))
      have kq : KeP p p1 := by rw [← ep1]; unfold mp_X11_image; exact (ks_uo (S := fun a k => 143 ≤ a ∧ a ≤ 176) rfl ks_rfl)
      have kk2 : KeS (Scr l) f f2 := by rw [← ef2]; unfold mf_X12_image; exact (ks_uo hI21.symm (ks_vo rfl (ks_u (by unfold Scr; omega) (ks_u (by unfold Scr; omega) kk))))
      have w1 := ((congrFun (kb2 (0) (by omega)) 12).trans ((congrFun (congrFun ef1.symm (0)) 12).trans (Eq.trans (au_ne _ _ (Or.inl (by omega))) (Eq.trans (congrFun (va_up_ne _ _ (by omega)) _) (Eq.trans (congrFun (va_up_ne _ _ (by omega)) _) (Eq.trans (congrFun (va_up_ne _ _ (by omega)) _) (Eq.trans (congrFun (va_up_ne _ _ (by omega)) _) (Eq.trans (au_ne _ _ (Or.inl (by omega))) (Eq.trans (au_ne _ _ (Or.inl (by omega))) (Eq.trans (au_ne _ _ (Or.inl (by omega))) (au_eq _ _ _ _)))))))))))
      have w2 : f2 177 11 = _ := ((congrFun (congrFun ef2.symm 177) 11).trans (Eq.trans (au_ne _ _ (Or.inr (by decide))) (Eq.trans (congrFun (va_up_ne _ _ (by omega)) _) (au_eq _ _ _ _))))
      exact ⟨_, f1, g, p1, f2, g, k1, k2, ⟨l, r, M, A, I, TP, n, Inv_keep hII kk2 kq (w1.trans w2.symm) (fun h => absurd (w1.symm.trans h) w4)⟩, hT1, ka am_SC (by decide), ks_row kk2 (fun k h => absurd (scr_l hl h) (by decide))⟩
    · have e1 := hY.symm.trans e1
      have e2 := hZ.symm.trans e2
      subst e1 e2
      dsimp only at k1 k2 ef1 ep1 ef2 w4
      have kk1 : KeS (SIm l I) f f1 := by rw [← ef1]; unfold mf_X11_image; exact (ks_u (by unfold SIm Scr; omega) (ks_v (fun k => by unfold SIm Scr; omega) (ks_v (fun k => by unfold SIm Scr; omega) (ks_v (fun k => by unfold SIm Scr; omega) (ks_v (fun k => by unfold SIm Scr; omega) (ks_u (by unfold SIm Scr; omega) (ks_u (by unfold SIm Scr; omega) (ks_u (by unfold SIm Scr; omega) (ks_u (by unfold SIm Scr; omega) ks_rfl)))))))))
      have kk : KeS (SIm l I) f f2 := by rw [← ef2]; unfold mf_X12_image; exact (ks_u (by unfold SIm Scr; omega) (ks_v (fun k => by unfold SIm Scr; omega) (ks_u (by unfold SIm Scr; omega) (ks_u (by unfold SIm Scr; omega) kk1))))
      have kp : KeS (PIm I) p p1 := by rw [← ep1]; unfold mp_X11_image; exact (ks_u (by unfold PIm; omega) ks_rfl)
      have hpt : p1 (5 * I + 128) 0 = some l := by rw [← ep1]; unfold mp_X11_image; exact (au_eq _ _ _ _)
      have s1 : f2 (5 * I + 128) 1 = _ := ((congrFun (kb2 (5 * I + 128) (by omega)) 1).trans ((congrFun (congrFun ef1.symm (5 * I + 128)) 1).trans (Eq.trans (au_ne _ _ (Or.inl (by omega))) (Eq.trans (congrFun (va_up_ne _ _ (by omega)) _) (Eq.trans (congrFun (va_up_ne _ _ (by omega)) _) (Eq.trans (congrFun (va_up_ne _ _ (by omega)) _) (Eq.trans (congrFun (va_up_ne _ _ (by omega)) _) (Eq.trans (au_ne _ _ (Or.inr (by decide))) (Eq.trans (au_ne _ _ (Or.inr (by decide))) (au_eq _ _ _ _))))))))))
      have s2 : f2 (5 * I + 128) 2 = _ := ((congrFun (kb2 (5 * I + 128) (by omega)) 2).trans ((congrFun (congrFun ef1.symm (5 * I + 128)) 2).trans (Eq.trans (au_ne _ _ (Or.inl (by omega))) (Eq.trans (congrFun (va_up_ne _ _ (by omega)) _) (Eq.trans (congrFun (va_up_ne _ _ (by omega)) _) (Eq.trans (congrFun (va_up_ne _ _ (by omega)) _) (Eq.trans (congrFun (va_up_ne _ _ (by omega)) _) (Eq.trans (au_ne _ _ (Or.inr (by decide))) (au_eq _ _ _ _)))))))))
      have s3 : f2 (5 * I + 128) 3 = _ := ((congrFun (kb2 (5 * I + 128) (by omega)) 3).trans ((congrFun (congrFun ef1.symm (5 * I + 128)) 3).trans (Eq.trans (au_ne _ _ (Or.inl (by omega))) (Eq.trans (congrFun (va_up_ne _ _ (by omega)) _) (Eq.trans (congrFun (va_up_ne _ _ (by omega)) _) (Eq.trans (congrFun (va_up_ne _ _ (by omega)) _) (Eq.trans (congrFun (va_up_ne _ _ (by omega)) _) (au_eq _ _ _ _))))))))
      have s4 : f2 (5 * I + 129) = _ := ((kb2 (5 * I + 129) (by omega)).trans ((congrFun ef1.symm (5 * I + 129)).trans (Eq.trans (am_urow (by omega)) (Eq.trans (va_up_ne _ _ (by omega)) (Eq.trans (va_up_ne _ _ (by omega)) (Eq.trans (va_up_ne _ _ (by omega)) (va_up_self _ _ _)))))))
      have s5 : f2 (5 * I + 130) = _ := ((kb2 (5 * I + 130) (by omega)).trans ((congrFun ef1.symm (5 * I + 130)).trans (Eq.trans (am_urow (by omega)) (Eq.trans (va_up_ne _ _ (by omega)) (Eq.trans (va_up_ne _ _ (by omega)) (va_up_self _ _ _))))))
      have s6 : f2 (5 * I + 131) = _ := ((kb2 (5 * I + 131) (by omega)).trans ((congrFun ef1.symm (5 * I + 131)).trans (Eq.trans (am_urow (by omega)) (Eq.trans (va_up_ne _ _ (by omega)) (va_up_self _ _ _)))))
      have s7 : f2 (5 * I + 132) = _ := ((kb2 (5 * I + 132) (by omega)).trans ((congrFun ef1.symm (5 * I + 132)).trans (Eq.trans (am_urow (by omega)) (va_up_self _ _ _))))
      have t4 : f2 45 4 = _ := ((congrFun (kb2 (45) (by omega)) 4).trans ((congrFun (congrFun ef1.symm (45)) 4).trans (au_eq _ _ _ _)))
      have w1 : f2 0 12 = _ := ((congrFun (kb2 (0) (by omega)) 12).trans ((congrFun (congrFun ef1.symm (0)) 12).trans (Eq.trans (au_ne _ _ (Or.inl (by omega))) (Eq.trans (congrFun (va_up_ne _ _ (by omega)) _) (Eq.trans (congrFun (va_up_ne _ _ (by omega)) _) (Eq.trans (congrFun (va_up_ne _ _ (by omega)) _) (Eq.trans (congrFun (va_up_ne _ _ (by omega)) _) (Eq.trans (au_ne _ _ (Or.inl (by omega))) (Eq.trans (au_ne _ _ (Or.inl (by omega))) (Eq.trans (au_ne _ _ (Or.inl (by omega))) (au_eq _ _ _ _)))))))))))
      have u1 : f2 184 = _ := ((congrFun ef2.symm 184).trans (Eq.trans (am_urow (by omega)) (va_up_self _ _ _)))
      have u3 : f2 177 21 = _ := ((congrFun (congrFun ef2.symm 177) 21).trans (au_eq _ _ _ _))
      have w2 : f2 177 11 = _ := ((congrFun (congrFun ef2.symm 177) 11).trans (Eq.trans (au_ne _ _ (Or.inr (by decide))) (Eq.trans (congrFun (va_up_ne _ _ (by omega)) _) (au_eq _ _ _ _))))
      exact ⟨_, f1, g, p1, f2, g, k1, k2, Inv_img hII hI33 kk kp hpt s1 s2 s3 s4 s5 s6 s7 t4 u1 u3 hh0 (w1.trans w2.symm) (fun h => absurd (w1.symm.trans h) (by decide)), hT1, ka am_SC (by decide), ks_row kk (fun k => by unfold SIm Scr am_SC; omega)⟩
  · have hI3e : I = 3 := by omega
    subst hI3e
    have hh0 : ¬ f 177 14 = 0 := fun h0 => by have := (hz h0).2.2.2.2; omega
    have h4 : ¬ f l 4 = 0 := fun h => hh0 (hh.mpr h)
    have k1 := k_image3 (f := f) (g := g) (p := p) (d := d) (e := e) hl hT p03 h4 hI4
    obtain ⟨f1, ef1⟩ : ∃ z, am_u (am_u f 0 12 0) 0 12 3 = z := ⟨_, rfl⟩
    rw [ef1] at k1
    have ka : KeA f f1 := by rw [← ef1]; exact (ka_u (by omega) (ka_u (by omega) ka_rfl))
    obtain ⟨Z, hZ⟩ : ∃ Z, D_X12_image (f 177 14) (nI 3) (f 182) (f 184) = Z := ⟨_, rfl⟩
    have k2 := k_X12_image (f := f1) (g := g) (p := p) (d := d) (e := e) (f 177 0) (f 177 11) (f 177 14) (nI 3) (f 182) (f 184) hT (congrFun (ka 177 (by decide)) 0) (congrFun (ka 177 (by decide)) 11) (congrFun (ka 177 (by decide)) 14) ((congrFun (ka 177 (by decide)) 21).trans hI21) (ka 182 (by decide)) (ka 184 (by decide)) (gr_image hI3) Z hZ
    obtain ⟨f2, ef2⟩ : ∃ z, mf_X12_image f1 Z.2.1 Z.2.2.1 Z.2.2.2.1 Z.2.2.2.2 = z := ⟨_, rfl⟩
    rw [ef2] at k2
    have kb2 : KeB f1 f2 := by rw [← ef2]; unfold mf_X12_image; exact (kb_u (by omega) (kb_v (by omega) (kb_u (by omega) (kb_u (by omega) kb_rfl))))
    have e2 : D_X12_image (f 177 14) (nI 3) (f 182) (f 184) = (-1, 0, 3, f 184, nI 3) := by unfold D_X12_image; rw [if_neg hh0, if_pos (show nI 3 = 3 from rfl)]; rfl
    have e2 := hZ.symm.trans e2
    subst e2
    dsimp only at k2 ef2
    have kk : KeS (Scr l) f f1 := by rw [← ef1]; exact (ks_u (by unfold Scr; omega) (ks_u (by unfold Scr; omega) ks_rfl))
    have kk2 : KeS (Scr l) f f2 := by rw [← ef2]; unfold mf_X12_image; exact (ks_uo hI21.symm (ks_vo rfl (ks_u (by unfold Scr; omega) (ks_u (by unfold Scr; omega) kk))))
    have w1 : f2 0 12 = 3 := (congrFun (kb2 0 (by decide)) 12).trans (by rw [← ef1]; exact au_eq _ _ _ _)
    have w2 : f2 177 11 = _ := ((congrFun (congrFun ef2.symm 177) 11).trans (Eq.trans (au_ne _ _ (Or.inr (by decide))) (Eq.trans (congrFun (va_up_ne _ _ (by omega)) _) (au_eq _ _ _ _))))
    exact ⟨_, f1, g, p, f2, g, k1, k2, ⟨l, r, M, A, 3, TP, n, Inv_keep hII kk2 kq_rfl (w1.trans w2.symm) (fun h => absurd (w1.symm.trans h) (by decide))⟩, hT, ka am_SC (by decide), ks_row kk2 (fun k h => absurd (scr_l hl h) (by decide))⟩
theorem q_feed {f : Nat → Nat → Int32} {g : Nat → Nat → Int64} {p : Nat → Nat → Option Nat} {d : Nat → Nat × Nat} {e : Nat × Nat} {x0 x1 x2 x3 x4 : Int32} (hI0 : Inv f p) (hT : am_T0 p d) : Run2 Value.int f g p d e 112 192 [.int x0, .int x1, .int x2, .int x3, .int x4] := by
  obtain ⟨l, r, M, A, I, TP, n, hI⟩ := hI0
  have hII := hI
  obtain ⟨hlr, p03, p40, p23, psl, pim, hL, hM5, hP6, hN, hS, hh, hz, hH, hE, hPf, hsy, ⟨q, hq, hsd⟩, hHi, hTP, hA, hUn, hsA, hIm, hI4, hI21, hsI, hn, ht1, ht2, hTp, hfa, hwh, hpl⟩ := hI
  have hl : l = 5 ∨ l = 23 := by omega
  have hP : TP < 16 := hHi.1
  have hA16 : A ≤ 16 := hHi.2.1
  have hI3 : I ≤ 3 := hIm.1
  obtain ⟨T, hT3, hT4⟩ : ∃ T, T ≤ 3 ∧ f l 4 = nI T := by obtain ⟨T, a, b⟩ := hL.2.2.2.2.2.2.2.2.2.2.2.2.2.1; exact ⟨T, a, hL.h4.trans b⟩
  obtain ⟨Y, hY⟩ : ∃ Y, D_X11_feed x0 x1 x2 x3 x4 (nI n) (f 1) = Y := ⟨_, rfl⟩
  have k1 := k_X11_feed (f := f) (g := g) (p := p) (d := d) (e := e) x0 x1 x2 x3 x4 (nI n) (f 1) hT ht1 rfl (gc_feed hn) Y hY
  obtain ⟨f1, ef1⟩ : ∃ z, mf_X11_feed f Y.2.1 Y.2.2 = z := ⟨_, rfl⟩
  rw [ef1] at k1
  have ka : KeA f f1 := by rw [← ef1]; unfold mf_X11_feed; exact (ka_u (by omega) (ka_v (by omega) ka_rfl))
  obtain ⟨Z, hZ⟩ : ∃ Z, D_X12_feed x0 x1 x2 x3 x4 (nI n) (f 178) = Z := ⟨_, rfl⟩
  have k2 := k_X12_feed (f := f1) (g := g) (p := p) (d := d) (e := e) x0 x1 x2 x3 x4 (f 177 0) (nI n) (f 178) hT (congrFun (ka 177 (by decide)) 0) ((congrFun (ka 177 (by decide)) 2).trans ht2) (ka 178 (by decide)) (gr_feed hn) Z hZ
  obtain ⟨f2, ef2⟩ : ∃ z, mf_X12_feed f1 Z.2.1 Z.2.2.1 Z.2.2.2 = z := ⟨_, rfl⟩
  rw [ef2] at k2
  have kb2 : KeB f1 f2 := by rw [← ef2]; unfold mf_X12_feed; exact (kb_u (by omega) (kb_v (by omega) (kb_u (by omega) kb_rfl)))
  have kk1 : KeS (SF l) f f1 := by rw [← ef1]; unfold mf_X11_feed; exact (ks_u (by unfold SF Scr; omega) (ks_v (fun k => by unfold SF Scr; omega) ks_rfl))
  have kk : KeS (SF l) f f2 := by rw [← ef2]; unfold mf_X12_feed; exact (ks_u (by unfold SF Scr; omega) (ks_v (fun k => by unfold SF Scr; omega) (ks_u (by unfold SF Scr; omega) kk1)))
  have w1 : f2 0 12 = f 0 12 := ((congrFun (kb2 (0) (by omega)) 12).trans ((congrFun (congrFun ef1.symm (0)) 12).trans (Eq.trans (au_ne _ _ (Or.inr (by decide))) (congrFun (va_up_ne _ _ (by omega)) _))))
  have w2 : f2 177 11 = f 177 11 := (show f2 177 11 = f1 177 11 from by rw [← ef2]; unfold mf_X12_feed; exact (Eq.trans (au_ne _ _ (Or.inr (by decide))) (Eq.trans (congrFun (va_up_ne _ _ (by omega)) _) (au_ne _ _ (Or.inr (by decide)))))).trans (congrFun (ka 177 (by decide)) 11)
  have r1 : f2 0 1 = _ := ((congrFun (kb2 (0) (by omega)) 1).trans ((congrFun (congrFun ef1.symm (0)) 1).trans (au_eq _ _ _ _)))
  have r2 : f2 1 = _ := ((kb2 (1) (by omega)).trans ((congrFun ef1.symm (1)).trans (Eq.trans (am_urow (by omega)) (va_up_self _ _ _))))
  have u1 : f2 177 2 = _ := ((congrFun (congrFun ef2.symm 177) 2).trans (au_eq _ _ _ _))
  have u2 : f2 178 = _ := ((congrFun ef2.symm 178).trans (Eq.trans (am_urow (by omega)) (va_up_self _ _ _)))
  rcases act_feed (x0 := x0) (x1 := x1) (x2 := x2) (x3 := x3) (x4 := x4) (n := n) (bytes := (f 1)) (tape := (f 178)) hn hTp with ⟨e1, e2⟩ | ⟨h980, b', t', e1, e2, hT'⟩
  · have e1 := hY.symm.trans e1
    have e2 := hZ.symm.trans e2
    subst e1 e2
    dsimp only at k1 k2 r1 r2 u1 u2
    exact ⟨_, f1, g, p, f2, g, k1, k2, ⟨l, r, M, A, I, TP, _, Inv_feed hII kk hn r1 u1 (by rw [r2, u2]; exact hTp) w1 w2⟩, hT, ka am_SC (by decide), ks_row kk (fun k => by unfold SF Scr am_SC; omega)⟩
  · have e1 := hY.symm.trans e1
    have e2 := hZ.symm.trans e2
    subst e1 e2
    dsimp only at k1 k2 r1 r2 u1 u2
    exact ⟨_, f1, g, p, f2, g, k1, k2, ⟨l, r, M, A, I, TP, _, Inv_feed hII kk (show n + 20 ≤ 1000 by omega) r1 u1 (by rw [r2, u2]; exact hT') w1 w2⟩, hT, ka am_SC (by decide), ks_row kk (fun k => by unfold SF Scr am_SC; omega)⟩
theorem q_size {f : Nat → Nat → Int32} {g : Nat → Nat → Int64} {p : Nat → Nat → Option Nat} {d : Nat → Nat × Nat} {e : Nat × Nat} {x0 : Int32} (hI0 : Inv f p) (hT : am_T0 p d) : Run2 Value.int f g p d e 180 325 [.int x0] := by
  obtain ⟨l, r, M, A, I, TP, n, hI⟩ := hI0
  have hII := hI
  obtain ⟨hlr, p03, p40, p23, psl, pim, hL, hM5, hP6, hN, hS, hh, hz, hH, hE, hPf, hsy, ⟨q, hq, hsd⟩, hHi, hTP, hA, hUn, hsA, hIm, hI4, hI21, hsI, hn, ht1, ht2, hTp, hfa, hwh, hpl⟩ := hI
  have hl : l = 5 ∨ l = 23 := by omega
  have hP : TP < 16 := hHi.1
  have hA16 : A ≤ 16 := hHi.2.1
  have hI3 : I ≤ 3 := hIm.1
  obtain ⟨T, hT3, hT4⟩ : ∃ T, T ≤ 3 ∧ f l 4 = nI T := by obtain ⟨T, a, b⟩ := hL.2.2.2.2.2.2.2.2.2.2.2.2.2.1; exact ⟨T, a, hL.h4.trans b⟩
  have hd7 : f (l + 7) 4 = f 180 7 := by
    rcases hH with ⟨_, _, h7, h8⟩ | ⟨B, K, S, D, _, _, _, _, _, _, _, _, _, _, _, _, h7, h8, _⟩
    · exact h8.trans h7.symm
    · exact h8.trans h7.symm
  have ha8 : f (l + 13) 1 = f 180 8 := by
    obtain ⟨_, D, _, h7, h8, _⟩ := hE
    exact h8.trans h7.symm
  have hz9 : f 177 14 = 0 → f 182 29 = 0 ∧ f 177 20 = 0 ∧ f 45 4 = 0 := fun h => by
    obtain ⟨_, _, z1, z2, z3⟩ := hz h
    exact ⟨z1, by rw [hUn, z2]; rfl, by rw [hI4, z3]; rfl⟩
  obtain ⟨Y, hY⟩ : ∃ Y, D_X11_size x0 (f l 0) (f l 1) (f l 2) (f l 3) (f l 4) (f l 5) (f l 6) (f (l + 7) 4) (f (l + 13) 1) (f 40 3) (f 45 3) (f 45 4) (f 0 1) = Y := ⟨_, rfl⟩
  have k1 := k_X11_size (f := f) (g := g) (p := p) (d := d) (e := e) l x0 (f l 0) (f l 1) (f l 2) (f l 3) (f l 4) (f l 5) (f l 6) (f (l + 7) 4) (f (l + 13) 1) (f 40 3) (f 45 3) (f 45 4) (f 0 1) hT hl p03 rfl rfl rfl rfl rfl rfl rfl rfl rfl rfl rfl rfl rfl Y hY
  obtain ⟨Z, hZ⟩ : ∃ Z, D_X12_size x0 (f 177 2) (f 177 14) (f 182) (f 177 20) (f 177 21) (f 180) = Z := ⟨_, rfl⟩
  have k2 := k_X12_size (f := f) (g := g) (p := p) (d := d) (e := e) x0 (f 177 0) (f 177 2) (f 177 14) (f 182) (f 177 20) (f 177 21) (f 180) hT rfl rfl rfl rfl rfl rfl rfl gr_size Z hZ
  obtain ⟨f2, ef2⟩ : ∃ z, mf_X12_size f Z.2 = z := ⟨_, rfl⟩
  rw [ef2] at k2
  have kk2 : KeS (Scr l) f f2 := by rw [← ef2]; unfold mf_X12_size; exact (ks_u (by unfold Scr; omega) ks_rfl)
  have w1 : f2 0 12 = f 0 12 := by rw [← ef2]; unfold mf_X12_size; exact (au_ne _ _ (Or.inl (by omega)))
  have w2 : f2 177 11 = f 177 11 := by rw [← ef2]; unfold mf_X12_size; exact (au_ne _ _ (Or.inr (by decide)))
  have hp : Y = Z.1 := by rw [← hY, ← hZ]; rw [show f 177 2 = f 0 1 from ht2.trans ht1.symm, show f 177 21 = f 45 4 from hI21.trans hI4.symm]; exact pub_size hL hN hh (hM5.trans hL.r5.symm) hP6 hd7 ha8 (hA.trans hUn.symm) (fun h => (hz h).2.1) hz9
  exact ⟨Y, f, g, p, f2, g, k1, by rw [hp]; exact k2, ⟨l, r, M, A, I, TP, n, Inv_keep hII kk2 kq_rfl (by rw [w1, w2]; exact hwh) (fun h => hpl (w1.symm.trans h))⟩, hT, rfl, ks_row kk2 (fun k h => absurd (scr_l hl h) (by decide))⟩
theorem q_fault {f : Nat → Nat → Int32} {g : Nat → Nat → Int64} {p : Nat → Nat → Option Nat} {d : Nat → Nat × Nat} {e : Nat × Nat} (hI0 : Inv f p) (hT : am_T0 p d) : Run2 Value.int f g p d e 115 222 [] := by
  obtain ⟨l, r, M, A, I, TP, n, hI⟩ := hI0
  have hII := hI
  obtain ⟨hlr, p03, p40, p23, psl, pim, hL, hM5, hP6, hN, hS, hh, hz, hH, hE, hPf, hsy, ⟨q, hq, hsd⟩, hHi, hTP, hA, hUn, hsA, hIm, hI4, hI21, hsI, hn, ht1, ht2, hTp, hfa, hwh, hpl⟩ := hI
  have hl : l = 5 ∨ l = 23 := by omega
  have hP : TP < 16 := hHi.1
  have hA16 : A ≤ 16 := hHi.2.1
  have hI3 : I ≤ 3 := hIm.1
  obtain ⟨T, hT3, hT4⟩ : ∃ T, T ≤ 3 ∧ f l 4 = nI T := by obtain ⟨T, a, b⟩ := hL.2.2.2.2.2.2.2.2.2.2.2.2.2.1; exact ⟨T, a, hL.h4.trans b⟩
  obtain ⟨Y, hY⟩ : ∃ Y, D_X11_fault (f 0 10) = Y := ⟨_, rfl⟩
  have k1 := k_X11_fault (f := f) (g := g) (p := p) (d := d) (e := e) (f 0 10) hT rfl Y hY
  obtain ⟨Z, hZ⟩ : ∃ Z, D_X12_fault (f 177 9) = Z := ⟨_, rfl⟩
  have k2 := k_X12_fault (f := f) (g := g) (p := p) (d := d) (e := e) (f 177 0) (f 177 9) hT rfl rfl Z hZ
  obtain ⟨f2, ef2⟩ : ∃ z, mf_X12_fault f Z.2 = z := ⟨_, rfl⟩
  rw [ef2] at k2
  have kk2 : KeS (Scr l) f f2 := by rw [← ef2]; unfold mf_X12_fault; exact (ks_u (by unfold Scr; omega) ks_rfl)
  have w1 : f2 0 12 = f 0 12 := by rw [← ef2]; unfold mf_X12_fault; exact (au_ne _ _ (Or.inl (by omega)))
  have w2 : f2 177 11 = f 177 11 := by rw [← ef2]; unfold mf_X12_fault; exact (au_ne _ _ (Or.inr (by decide)))
  have hp : Y = Z.1 := by rw [← hY, ← hZ]; exact hfa
  exact ⟨Y, f, g, p, f2, g, k1, by rw [hp]; exact k2, ⟨l, r, M, A, I, TP, n, Inv_keep hII kk2 kq_rfl (by rw [w1, w2]; exact hwh) (fun h => hpl (w1.symm.trans h))⟩, hT, rfl, ks_row kk2 (fun k h => absurd (scr_l hl h) (by decide))⟩
theorem q_trouble {f : Nat → Nat → Int32} {g : Nat → Nat → Int64} {p : Nat → Nat → Option Nat} {d : Nat → Nat × Nat} {e : Nat × Nat} (hI0 : Inv f p) (hT : am_T0 p d) : Run2 Value.int f g p d e 181 326 [] := by
  obtain ⟨l, r, M, A, I, TP, n, hI⟩ := hI0
  have hII := hI
  obtain ⟨hlr, p03, p40, p23, psl, pim, hL, hM5, hP6, hN, hS, hh, hz, hH, hE, hPf, hsy, ⟨q, hq, hsd⟩, hHi, hTP, hA, hUn, hsA, hIm, hI4, hI21, hsI, hn, ht1, ht2, hTp, hfa, hwh, hpl⟩ := hI
  have hl : l = 5 ∨ l = 23 := by omega
  have hP : TP < 16 := hHi.1
  have hA16 : A ≤ 16 := hHi.2.1
  have hI3 : I ≤ 3 := hIm.1
  obtain ⟨T, hT3, hT4⟩ : ∃ T, T ≤ 3 ∧ f l 4 = nI T := by obtain ⟨T, a, b⟩ := hL.2.2.2.2.2.2.2.2.2.2.2.2.2.1; exact ⟨T, a, hL.h4.trans b⟩
  obtain ⟨Y, hY⟩ : ∃ Y, D_X11_trouble (f 0 12) = Y := ⟨_, rfl⟩
  have k1 := k_X11_trouble (f := f) (g := g) (p := p) (d := d) (e := e) (f 0 12) hT rfl Y hY
  obtain ⟨Z, hZ⟩ : ∃ Z, D_X12_trouble (f 177 11) = Z := ⟨_, rfl⟩
  have k2 := k_X12_trouble (f := f) (g := g) (p := p) (d := d) (e := e) (f 177 0) (f 177 11) hT rfl rfl Z hZ
  obtain ⟨f2, ef2⟩ : ∃ z, mf_X12_trouble f Z.2 = z := ⟨_, rfl⟩
  rw [ef2] at k2
  have kk2 : KeS (Scr l) f f2 := by rw [← ef2]; unfold mf_X12_trouble; exact (ks_u (by unfold Scr; omega) ks_rfl)
  have w1 : f2 0 12 = f 0 12 := by rw [← ef2]; unfold mf_X12_trouble; exact (au_ne _ _ (Or.inl (by omega)))
  have w2 : f2 177 11 = f 177 11 := by rw [← ef2]; unfold mf_X12_trouble; exact (au_ne _ _ (Or.inr (by decide)))
  have hp : Y = Z.1 := by rw [← hY, ← hZ]; exact hwh
  exact ⟨Y, f, g, p, f2, g, k1, by rw [hp]; exact k2, ⟨l, r, M, A, I, TP, n, Inv_keep hII kk2 kq_rfl (by rw [w1, w2]; exact hwh) (fun h => hpl (w1.symm.trans h))⟩, hT, rfl, ks_row kk2 (fun k h => absurd (scr_l hl h) (by decide))⟩
theorem where_eq {y w a b : Int32} (h : y = w) (g : y = 4 → a = b) : D_X11_where y a = (D_X12_where w b).1 := by
  subst h
  show (if y = 4 then a else (-1) : Int32) = (if y = 4 then b else (-1) : Int32)
  by_cases c : y = 4
  · rw [if_pos c, if_pos c]; exact g c
  · rw [if_neg c, if_neg c]
theorem q_where {f : Nat → Nat → Int32} {g : Nat → Nat → Int64} {p : Nat → Nat → Option Nat} {d : Nat → Nat × Nat} {e : Nat × Nat} (hI0 : Inv f p) (hT : am_T0 p d) : Run2 Value.int f g p d e 116 223 [] := by
  obtain ⟨l, r, M, A, I, TP, n, hI⟩ := hI0
  have hII := hI
  obtain ⟨hlr, p03, p40, p23, psl, pim, hL, hM5, hP6, hN, hS, hh, hz, hH, hE, hPf, hsy, ⟨q, hq, hsd⟩, hHi, hTP, hA, hUn, hsA, hIm, hI4, hI21, hsI, hn, ht1, ht2, hTp, hfa, hwh, hpl⟩ := hI
  have hl : l = 5 ∨ l = 23 := by omega
  have hP : TP < 16 := hHi.1
  have hA16 : A ≤ 16 := hHi.2.1
  have hI3 : I ≤ 3 := hIm.1
  obtain ⟨T, hT3, hT4⟩ : ∃ T, T ≤ 3 ∧ f l 4 = nI T := by obtain ⟨T, a, b⟩ := hL.2.2.2.2.2.2.2.2.2.2.2.2.2.1; exact ⟨T, a, hL.h4.trans b⟩
  obtain ⟨Y, hY⟩ : ∃ Y, D_X11_where (f 0 12) (f 0 11) = Y := ⟨_, rfl⟩
  have k1 := k_X11_where (f := f) (g := g) (p := p) (d := d) (e := e) (f 0 12) (f 0 11) hT rfl rfl Y hY
  obtain ⟨Z, hZ⟩ : ∃ Z, D_X12_where (f 177 11) (f 177 10) = Z := ⟨_, rfl⟩
  have k2 := k_X12_where (f := f) (g := g) (p := p) (d := d) (e := e) (f 177 0) (f 177 11) (f 177 10) hT rfl rfl rfl Z hZ
  obtain ⟨f2, ef2⟩ : ∃ z, mf_X12_where f Z.2 = z := ⟨_, rfl⟩
  rw [ef2] at k2
  have kk2 : KeS (Scr l) f f2 := by rw [← ef2]; unfold mf_X12_where; exact (ks_u (by unfold Scr; omega) ks_rfl)
  have w1 : f2 0 12 = f 0 12 := by rw [← ef2]; unfold mf_X12_where; exact (au_ne _ _ (Or.inl (by omega)))
  have w2 : f2 177 11 = f 177 11 := by rw [← ef2]; unfold mf_X12_where; exact (au_ne _ _ (Or.inr (by decide)))
  have hp : Y = Z.1 := by rw [← hY, ← hZ]; exact where_eq hwh hpl
  exact ⟨Y, f, g, p, f2, g, k1, by rw [hp]; exact k2, ⟨l, r, M, A, I, TP, n, Inv_keep hII kk2 kq_rfl (by rw [w1, w2]; exact hwh) (fun h => hpl (w1.symm.trans h))⟩, hT, rfl, ks_row kk2 (fun k h => absurd (scr_l hl h) (by decide))⟩
