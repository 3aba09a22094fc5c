/-! THE LAW'S LOOP -/
def Step (f : Nat → Nat → Int32) (g : Nat → Nat → Int64) (p : Nat → Nat → Option Nat) (d : Nat → Nat × Nat) (n s pc i : Nat) : Prop := ∃ f' g' p' d' n' s', (∀ z, am_ge (am_runs (327, 1977, [.retAddr 1, .ref 0, .ref 177, .ref 191, .int (nI i), .retAddr 0, .retAddr 0], []) (f', g', p', d', n', s')) z → am_ge (am_runs (327, pc, [.retAddr 1, .ref 0, .ref 177, .ref 191, .int (nI i), .retAddr 0, .retAddr 0], []) (f, g, p, d, n, s)) z) ∧ Inv f' p' ∧ am_T0 p' d' ∧ d' am_SC = d am_SC ∧ n ≤ n' ∧ n' ≤ n + 1 ∧ s' ≤ s + 6
theorem Step_of {f : Nat → Nat → Int32} {g : Nat → Nat → Int64} {p : Nat → Nat → Option Nat} {d : Nat → Nat × Nat} {n s : Nat} {pc i : Nat} (h : StepE f g p d (n, s) pc i) : Step f g p d n s pc i := by
  obtain ⟨f', g', p', h1, h2, h3⟩ := h
  exact ⟨f', g', p', d, n, s, fun z hz => am_gt h1 hz, h2, h3, rfl, Nat.le_refl _, Nat.le_succ _, Nat.le_add_right _ _⟩
theorem ar_lnS {q pc Ln : Nat} {L S : List Value} {inf : am_I} {f : Nat → Nat → Int32} {g : Nat → Nat → Int64} {p : Nat → Nat → Option Nat} {d : Nat → Nat × Nat} {n s : Nat} (h : am_fetch q pc = some (.arraylength, 1, inf)) (hD : d am_SC = (18, Ln)) : am_runs (q, pc, L, .retAddr 1 :: S) (f, g, p, d, n, s) = am_runs (q, pc + 1, L, .int (nI Ln) :: S) (f, g, p, d, n, s) := by
  have e : nI Ln = nI (d am_SC).2 := by rw [hD]
  rw [e]; exact am_g h rfl
theorem T0_jk {p : Nat → Nat → Option Nat} {d : Nat → Nat × Nat} {n : Nat} (hT : am_T0 p d) (hn : 192 ≤ n) : am_T0 p (va_up d n (99, 0)) := ⟨fun a x e => by
    have := am_kd_lt e
    rw [va_up_ne _ _ (by omega)]; exact hT.1 a x e, hT.2⟩
theorem keep_thrown {l r M A I TP k : Nat} {f : Nat → Nat → Int32} {p : Nat → Nat → Option Nat} {c : Int32} (hI : InvL l r M A I TP k f p) : Inv (mf_X12_led f c) p := by
  have hI1 := hI
  obtain ⟨hlr, p03, p40, p23, psl, pim, hL, hM5, hP6, hN, hS, hh, hz, hH, hE, hPf, hsy, ⟨q, hq, hsd⟩, hHi, hTP, hA, hUn, hsA, hIm, hI4, hI21, hsI, hn, ht1, ht2, hTp, hfa, hwh, hpl⟩ := hI1
  refine ⟨l, r, M, A, I, TP, k, Inv_keep hI (kp_u (Or.inr (Or.inr (Or.inr (Or.inr (Or.inr (Or.inl ⟨rfl, by decide, by decide, by decide, by decide, by decide, by decide⟩)))))) kp_rfl) kq_rfl ?_ ?_⟩
  · rw [show mf_X12_led f c 0 12 = f 0 12 from au_ne _ _ (Or.inl (by decide)), show mf_X12_led f c 177 11 = f 177 11 from au_ne _ _ (Or.inr (by decide))]; exact hwh
  · rw [show mf_X12_led f c 0 12 = f 0 12 from au_ne _ _ (Or.inl (by decide))]; exact hpl
set_option maxRecDepth 20000 in
theorem c_led {f : Nat → Nat → Int32} {g : Nat → Nat → Int64} {p : Nat → Nat → Option Nat} {d : Nat → Nat × Nat} {n s : Nat} {Ln i : Nat} (hI : Inv f p) (hT : am_T0 p d) (hD : d am_SC = (18, Ln)) (hL3 : Ln ≤ 3072) (hi : i + 6 ≤ Ln) (hn192 : 192 ≤ n) (hn6 : n < 600000) : Step f g p d n s 1883 i := by
  obtain ⟨l, r, M, A, I, TP, n0, hII⟩ := hI
  have hI1 := hII
  obtain ⟨hlr, p03, p40, p23, psl, pim, hL, hM5, hP6, hN, hS, hh, hz, hH, hE, hPf, hsy, ⟨q, hq, hsd⟩, hHi, hTP, hA, hUn, hsA, hIm, hI4, hI21, hsI, hn, ht1, ht2, hTp, hfa, hwh, hpl⟩ := hI1
  have hl : l = 5 ∨ l = 23 := by omega
  have p04 : p 0 4 = some 40 := t0_p hT rfl
  have hok : am_ledok (f, g, p, d, n, s) 0 = true := by
    unfold am_ledok
    show (match p 0 3, p 0 4 with
      | some t, some w => decide ((d t).1 = 4 ∧ f t 5 ≤ 8) && decide ((d w).1 = 6)
      | _, _ => false) = true
    rw [p03, p04]
    show (decide ((d l).1 = 4 ∧ f l 5 ≤ 8) && decide ((d 40).1 = 6)) = true
    rw [t0_lk0 hT hl, t0_k hT (show am_kd 40 = some (6, 0) from rfl), hM5]
    simp only [Bool.and_eq_true, decide_eq_true_eq]
    exact ⟨⟨trivial, (show nI M ≤ nI 8 from nI_le hL.M8 (by decide))⟩, trivial⟩
  have hP : am_cat ([] : List Value) ≤ 8 ∧ (d 0).1 = 11 ∧ d 191 = (15, 1) ∧ n < 600000 ∧ am_ledok (f, g, p, d, n, s) 0 = true := ⟨by decide, by rw [t0_k hT (show am_kd 0 = some (11, 0) from rfl)], t0_k hT rfl, hn6, hok⟩
  rcases led_rel (μ := (f, g, p, d, n, s)) (v := f am_SC (i + 1)) (hl := f 177 14) (rr := f 180) (st := f 182) hL.M8 p03 p04 hM5 hN.1 hL.r5 (fun h => (hz h).1) with ⟨k, e1, e2⟩ | ⟨e1, e2⟩
  · have hT1 : am_T0 p d := hT
    have hD1 : d am_SC = (18, Ln) := hD
    have k2 := k_X12_led (f := f) (g := (am_u g 191 0 (nI k).toInt64)) (p := p) (d := d) (e := (n, s)) (f am_SC (i + 1)) (f 177 14) (f 180) (f 182) (f 177 0) hT1 rfl rfl rfl rfl (gr_led hL.M8 hL.r5) _ e2
    have k3 := k_X12_thrown (f := mf_X12_led f 0) (g := (am_u g 191 0 (nI k).toInt64)) (p := p) (d := d) (e := (n, s)) 0 hT1 mr_X12_led_f0 0 rfl
    refine ⟨mf_X12_led f 0, (am_u g 191 0 (nI k).toInt64), p, d, n, s, fun z hz1 => ?_, keep_thrown hII, hT1, hD1.trans hD.symm, by omega, by omega, by omega⟩
    refine am_gt (am_bl 5 (f' := (327, 1889, [.retAddr 1, .ref 0, .ref 177, .ref 191, .int (nI i), .retAddr 0, .retAddr 0], [.int (nI i + 1), .retAddr 1, .ref 0])) rfl) ?_
    refine am_gt (rr_sc rfl hD hL3 (sx1 i) (by omega) rfl) ?_
    refine am_gt (am_bl 1 (f' := (327, 1891, [.retAddr 1, .ref 0, .ref 177, .ref 191, .int (nI i), .retAddr 0, .retAddr 0], [.ref 191, .int (f am_SC (i + 1)), .ref 0])) rfl) ?_
    refine am_gt (ar_led1 rfl hP e1) ?_
    refine am_gt (am_bl 6 (f' := (327, 1902, [.retAddr 1, .ref 0, .ref 177, .ref 191, .int (nI i), .int 0, .retAddr 0], [.int (nI i + 1), .retAddr 1, .ref 177])) rfl) ?_
    refine am_gt (rr_sc rfl hD1 hL3 (sx1 i) (by omega) rfl) ?_
    refine am_gt (ar_cV (v := .int (nI k)) (μ' := (mf_X12_led f 0, (am_u g 191 0 (nI k).toInt64), p, d, n, s)) rfl rfl rfl rfl rfl rfl rfl (t0_k hT1 rfl) rfl k2) ?_
    refine am_gt (am_bl 2 (f' := (327, 1909, [.retAddr 1, .ref 0, .ref 177, .ref 191, .int (nI i), .int 0, .int (nI k)], [.ref 177])) rfl) ?_
    refine am_gt (ar_cV (v := .int 0) (μ' := (mf_X12_led f 0, (am_u g 191 0 (nI k).toInt64), p, d, n, s)) rfl rfl rfl rfl rfl rfl rfl (t0_k hT1 rfl) rfl k3) ?_
    refine am_gt (am_bl 1 (f' := (327, 1914, [.retAddr 1, .ref 0, .ref 177, .ref 191, .int (nI i), .int 0, .int (nI k)], [.int 0, .int 0])) rfl) ?_
    refine am_gt ((rj_eq rfl).trans (if_pos rfl)) ?_
    refine am_gt (am_bl 1 (f' := (327, 1921, [.retAddr 1, .ref 0, .ref 177, .ref 191, .int (nI i), .int 0, .int (nI k)], [.int 0])) rfl) ?_
    refine am_gt ((ri_ne rfl).trans (if_pos rfl)) ?_
    refine am_gt (am_bl 2 (f' := (327, 1926, [.retAddr 1, .ref 0, .ref 177, .ref 191, .int (nI i), .int 0, .int (nI k)], [.int 0, .ref 191])) rfl) ?_
    refine am_gt (rr_al (j := 0) rfl (t0_k hT1 rfl) rfl (by decide) (by decide) (au_eq _ _ _ _)) ?_
    refine am_gt (am_bl 3 (f' := (327, 1931, [.retAddr 1, .ref 0, .ref 177, .ref 191, .int (nI i), .int 0, .int (nI k)], [.int (lg_cmp (nI k).toInt64 (nI k).toInt64)])) rfl) ?_
    refine am_gt ((ri_eq rfl).trans (if_pos (lc_self _))) ?_
    refine am_gt (am_bl 1 (f' := (327, 1977, [.retAddr 1, .ref 0, .ref 177, .ref 191, .int (nI i), .int 0, .int (nI k)], [])) rfl) ?_
    exact am_gf (am_lLc am_kr (am_lLc am_kr (am_lLc am_kr (am_lLc am_kr (am_lLc am_kr (am_lLc am_ku (am_lLc am_ku am_lLn))))))) hz1
  · have hT1 : am_T0 p (va_up d n (99, 0)) := T0_jk hT hn192
    have hD1 : (va_up d n (99, 0)) am_SC = (18, Ln) := (va_up_ne _ _ (by unfold am_SC; omega)).trans hD
    have k2 := k_X12_led (f := f) (g := g) (p := p) (d := (va_up d n (99, 0))) (e := (n + 1, s + 6)) (f am_SC (i + 1)) (f 177 14) (f 180) (f 182) (f 177 0) hT1 rfl rfl rfl rfl (gr_led hL.M8 hL.r5) _ e2
    have k3 := k_X12_thrown (f := mf_X12_led f 1) (g := g) (p := p) (d := (va_up d n (99, 0))) (e := (n + 1, s + 6)) 1 hT1 mr_X12_led_f0 1 rfl
    refine ⟨mf_X12_led f 1, g, p, (va_up d n (99, 0)), n + 1, s + 6, fun z hz1 => ?_, keep_thrown hII, hT1, hD1.trans hD.symm, by omega, by omega, by omega⟩
    refine am_gt (am_bl 5 (f' := (327, 1889, [.retAddr 1, .ref 0, .ref 177, .ref 191, .int (nI i), .retAddr 0, .retAddr 0], [.int (nI i + 1), .retAddr 1, .ref 0])) rfl) ?_
    refine am_gt (rr_sc rfl hD hL3 (sx1 i) (by omega) rfl) ?_
    refine am_gt (am_bl 1 (f' := (327, 1891, [.retAddr 1, .ref 0, .ref 177, .ref 191, .int (nI i), .retAddr 0, .retAddr 0], [.ref 191, .int (f am_SC (i + 1)), .ref 0])) rfl) ?_
    refine am_gt (ar_led0 rfl hP e1) ?_
    refine am_gt (am_bl 6 (f' := (327, 1902, [.retAddr 1, .ref 0, .ref 177, .ref 191, .int (nI i), .int 1, .retAddr 0], [.int (nI i + 1), .retAddr 1, .ref 177])) rfl) ?_
    refine am_gt (rr_sc rfl hD1 hL3 (sx1 i) (by omega) rfl) ?_
    refine am_gt (ar_cV (v := .int 0) (μ' := (mf_X12_led f 1, g, p, (va_up d n (99, 0)), n + 1, s + 6)) rfl rfl rfl rfl rfl rfl rfl (t0_k hT1 rfl) rfl k2) ?_
    refine am_gt (am_bl 2 (f' := (327, 1909, [.retAddr 1, .ref 0, .ref 177, .ref 191, .int (nI i), .int 1, .int 0], [.ref 177])) rfl) ?_
    refine am_gt (ar_cV (v := .int 1) (μ' := (mf_X12_led f 1, g, p, (va_up d n (99, 0)), n + 1, s + 6)) rfl rfl rfl rfl rfl rfl rfl (t0_k hT1 rfl) rfl k3) ?_
    refine am_gt (am_bl 1 (f' := (327, 1914, [.retAddr 1, .ref 0, .ref 177, .ref 191, .int (nI i), .int 1, .int 0], [.int 1, .int 1])) rfl) ?_
    refine am_gt ((rj_eq rfl).trans (if_pos rfl)) ?_
    refine am_gt (am_bl 1 (f' := (327, 1921, [.retAddr 1, .ref 0, .ref 177, .ref 191, .int (nI i), .int 1, .int 0], [.int 1])) rfl) ?_
    refine am_gt ((ri_ne rfl).trans (if_neg (by decide))) ?_
    refine am_gt (am_bl 1 (f' := (327, 1977, [.retAddr 1, .ref 0, .ref 177, .ref 191, .int (nI i), .int 1, .int 0], [])) rfl) ?_
    exact am_gf (am_lLc am_kr (am_lLc am_kr (am_lLc am_kr (am_lLc am_kr (am_lLc am_kr (am_lLc am_ku (am_lLc am_ku am_lLn))))))) hz1
theorem and63 (v : Int32) : ∃ c, c < 64 ∧ v &&& 63 = nI c := by
  have h1 : sm (v &&& 63) := sm_and' v (fun k h1 h2 => (by decide : ∀ k, k < 32 → 8 ≤ k → bt 63 k = false) k h2 h1)
  obtain ⟨c, hc, e⟩ := sm_nat h1
  refine ⟨c, ?_, e⟩
  have e2 : nI c &&& 63 = nI c := by rw [← e, Int32.and_assoc]; rfl
  exact (by decide +kernel : ∀ c, c < 256 → nI c &&& 63 = nI c → c < 64) c hc e2
theorem lt_few : ∀ a, a < 6 → ∀ b, b < 6 → nI a - 6 < nI b := by decide +kernel
theorem end_iff {Ln i : Nat} (hL : Ln ≤ 3072) (hi : i ≤ Ln) : (nI Ln - 6 < nI i) ↔ Ln < i + 6 := by
  by_cases c : Ln < 6
  · exact ⟨fun _ => by omega, fun _ => lt_few Ln c i (by omega)⟩
  · have e : nI Ln - 6 = nI (Ln - 6) := by
      rw [show nI Ln = nI (Ln - 6) + 6 by rw [show (6 : Int32) = nI 6 from rfl, nI_add, show Ln - 6 + 6 = Ln by omega]]
      exact Int32.add_sub_cancel _ _
    rw [e, nI_ltI (by omega) (by omega)]
    omega
set_option maxRecDepth 20000 in
theorem law_test {f : Nat → Nat → Int32} {g : Nat → Nat → Int64} {p : Nat → Nat → Option Nat} {d : Nat → Nat × Nat} {n s : Nat} {Ln i : Nat} (hD : d am_SC = (18, Ln)) : am_runs (327, 23, [.retAddr 1, .ref 0, .ref 177, .ref 191, .int (nI i), .retAddr 0, .retAddr 0], []) (f, g, p, d, n, s) = if nI Ln - 6 < nI i then am_runs (327, 1983, [.retAddr 1, .ref 0, .ref 177, .ref 191, .int (nI i), .retAddr 0, .retAddr 0], []) (f, g, p, d, n, s) else am_runs (327, 33, [.retAddr 1, .ref 0, .ref 177, .ref 191, .int (nI i), .retAddr 0, .retAddr 0], []) (f, g, p, d, n, s) := by
  refine (am_bl 2 (f' := (327, 26, [.retAddr 1, .ref 0, .ref 177, .ref 191, .int (nI i), .retAddr 0, .retAddr 0], [.retAddr 1, .int (nI i)])) rfl).trans ?_
  refine (ar_lnS rfl hD).trans ?_
  refine (am_bl 2 (f' := (327, 30, [.retAddr 1, .ref 0, .ref 177, .ref 191, .int (nI i), .retAddr 0, .retAddr 0], [.int (nI Ln - 6), .int (nI i)])) rfl).trans ?_
  exact rj_gt rfl
set_option maxRecDepth 20000 in
theorem law_end {f : Nat → Nat → Int32} {g : Nat → Nat → Int64} {p : Nat → Nat → Option Nat} {d : Nat → Nat × Nat} {n s : Nat} {i : Nat} : am_runs (327, 1983, [.retAddr 1, .ref 0, .ref 177, .ref 191, .int (nI i), .retAddr 0, .retAddr 0], []) (f, g, p, d, n, s) = some (some (.int 1), (f, g, p, d, n, s)) := by
  refine (am_bl 1 (f' := (327, 1984, [.retAddr 1, .ref 0, .ref 177, .ref 191, .int (nI i), .retAddr 0, .retAddr 0], [.int 1])) rfl).trans ?_
  exact am_grb rfl rfl (Or.inr (Or.inr rfl)) rfl
set_option maxRecDepth 20000 in
theorem law_pick {f : Nat → Nat → Int32} {g : Nat → Nat → Int64} {p : Nat → Nat → Option Nat} {d : Nat → Nat × Nat} {n s : Nat} {Ln i c : Nat} (hD : d am_SC = (18, Ln)) (hL : Ln ≤ 3072) (hi : i + 6 ≤ Ln) (hc : f am_SC i &&& 63 = nI c) : am_runs (327, 33, [.retAddr 1, .ref 0, .ref 177, .ref 191, .int (nI i), .retAddr 0, .retAddr 0], []) (f, g, p, d, n, s) = am_runs (327, 40, [.retAddr 1, .ref 0, .ref 177, .ref 191, .int (nI i), .retAddr 0, .retAddr 0], [.int (nI c)]) (f, g, p, d, n, s) := by
  refine (am_bl 2 (f' := (327, 36, [.retAddr 1, .ref 0, .ref 177, .ref 191, .int (nI i), .retAddr 0, .retAddr 0], [.int (nI i), .retAddr 1])) rfl).trans ?_
  refine (rr_sc rfl hD hL rfl (by omega) rfl).trans ?_
  refine (am_bl 2 (f' := (327, 40, [.retAddr 1, .ref 0, .ref 177, .ref 191, .int (nI i), .retAddr 0, .retAddr 0], [.int (f am_SC i &&& 63)])) rfl).trans ?_
  rw [hc]
set_option maxRecDepth 20000 in
theorem law_next {f : Nat → Nat → Int32} {g : Nat → Nat → Int64} {p : Nat → Nat → Option Nat} {d : Nat → Nat × Nat} {n s : Nat} {i : Nat} : am_runs (327, 1977, [.retAddr 1, .ref 0, .ref 177, .ref 191, .int (nI i), .retAddr 0, .retAddr 0], []) (f, g, p, d, n, s) = am_runs (327, 23, [.retAddr 1, .ref 0, .ref 177, .ref 191, .int (nI (i + 6)), .retAddr 0, .retAddr 0], []) (f, g, p, d, n, s) := by
  refine (am_bl 2 (f' := (327, 23, [.retAddr 1, .ref 0, .ref 177, .ref 191, .int (nI i + 6), .retAddr 0, .retAddr 0], [])) rfl).trans ?_
  rw [show nI i + 6 = nI (i + 6) by rw [show (6 : Int32) = nI 6 from rfl, nI_add]]
set_option maxRecDepth 20000 in
set_option maxHeartbeats 4000000 in
theorem law_case {f : Nat → Nat → Int32} {g : Nat → Nat → Int64} {p : Nat → Nat → Option Nat} {d : Nat → Nat × Nat} {n s : Nat} {Ln i c : Nat} (hc : c < 64) (hI : Inv f p) (hT : am_T0 p d) (hD : d am_SC = (18, Ln)) (hL : Ln ≤ 3072) (hi : i + 6 ≤ Ln) (hn : 192 ≤ n) (hn6 : n < 600000) : ∃ pc, am_runs (327, 40, [.retAddr 1, .ref 0, .ref 177, .ref 191, .int (nI i), .retAddr 0, .retAddr 0], [.int (nI c)]) (f, g, p, d, n, s) = am_runs (327, pc, [.retAddr 1, .ref 0, .ref 177, .ref 191, .int (nI i), .retAddr 0, .retAddr 0], []) (f, g, p, d, n, s) ∧ Step f g p d n s pc i :=
  match c, hc with
  | 0, _ => ⟨268, ar_sw (t := 268) rfl rfl, Step_of (c_feed hI hT hD hL hi)⟩
  | 1, _ => ⟨341, ar_sw (t := 341) rfl rfl, Step_of (c_legion hI hT hD hL hi)⟩
  | 2, _ => ⟨366, ar_sw (t := 366) rfl rfl, Step_of (c_fault hI hT hD hL hi)⟩
  | 3, _ => ⟨379, ar_sw (t := 379) rfl rfl, Step_of (c_where hI hT hD hL hi)⟩
  | 4, _ => ⟨392, ar_sw (t := 392) rfl rfl, Step_of (c_man hI hT hD hL hi)⟩
  | 5, _ => ⟨429, ar_sw (t := 429) rfl rfl, Step_of (c_ten hI hT hD hL hi)⟩
  | 6, _ => ⟨466, ar_sw (t := 466) rfl rfl, Step_of (c_there hI hT hD hL hi)⟩
  | 7, _ => ⟨479, ar_sw (t := 479) rfl rfl, Step_of (c_anger hI hT hD hL hi)⟩
  | 8, _ => ⟨492, ar_sw (t := 492) rfl rfl, Step_of (c_mutiny hI hT hD hL hi)⟩
  | 9, _ => ⟨505, ar_sw (t := 505) rfl rfl, Step_of (c_runs hI hT hD hL hi)⟩
  | 10, _ => ⟨530, ar_sw (t := 530) rfl rfl, Step_of (c_holds hI hT hD hL hi)⟩
  | 11, _ => ⟨555, ar_sw (t := 555) rfl rfl, Step_of (c_worst hI hT hD hL hi)⟩
  | 12, _ => ⟨568, ar_sw (t := 568) rfl rfl, Step_of (c_breaks hI hT hD hL hi)⟩
  | 13, _ => ⟨581, ar_sw (t := 581) rfl rfl, Step_of (c_brace hI hT hD hL hi)⟩
  | 14, _ => ⟨606, ar_sw (t := 606) rfl rfl, Step_of (c_toHearten hI hT hD hL hi)⟩
  | 15, _ => ⟨631, ar_sw (t := 631) rfl rfl, Step_of (c_fearFor hI hT hD hL hi)⟩
  | 16, _ => ⟨656, ar_sw (t := 656) rfl rfl, Step_of (c_sets hI hT hD hL hi)⟩
  | 17, _ => ⟨681, ar_sw (t := 681) rfl rfl, Step_of (c_drawn hI hT hD hL hi)⟩
  | 18, _ => ⟨735, ar_sw (t := 735) rfl rfl, Step_of (c_holdsAfter hI hT hD hL hi)⟩
  | 19, _ => ⟨801, ar_sw (t := 801) rfl rfl, Step_of (c_mutinyAfter hI hT hD hL hi)⟩
  | 20, _ => ⟨855, ar_sw (t := 855) rfl rfl, Step_of (c_runsAfter hI hT hD hL hi)⟩
  | 21, _ => ⟨921, ar_sw (t := 921) rfl rfl, Step_of (c_worstSet hI hT hD hL hi)⟩
  | 22, _ => ⟨958, ar_sw (t := 958) rfl rfl, Step_of (c_order hI hT hD hL hi)⟩
  | 23, _ => ⟨983, ar_sw (t := 983) rfl rfl, Step_of (c_orderOdds hI hT hD hL hi)⟩
  | 24, _ => ⟨1037, ar_sw (t := 1037) rfl rfl, Step_of (c_friends hI hT hD hL hi)⟩
  | 25, _ => ⟨1050, ar_sw (t := 1050) rfl rfl, Step_of (c_newTen hI hT hD hL hi)⟩
  | 26, _ => ⟨1075, ar_sw (t := 1075) rfl rfl, Step_of (c_friendsNow hI hT hD hL hi)⟩
  | 27, _ => ⟨1088, ar_sw (t := 1088) rfl rfl, Step_of (c_doubt hI hT hD hL hi)⟩
  | 28, _ => ⟨1130, ar_sw (t := 1130) rfl rfl, Step_of (c_next hI hT hD hL hi)⟩
  | 29, _ => ⟨1184, ar_sw (t := 1184) rfl rfl, Step_of (c_doubtIf hI hT hD hL hi)⟩
  | 30, _ => ⟨1266, ar_sw (t := 1266) rfl rfl, Step_of (c_honest hI hT hD hL hi)⟩
  | 31, _ => ⟨1308, ar_sw (t := 1308) rfl rfl, Step_of (c_gone hI hT hD hL hi)⟩
  | 32, _ => ⟨1321, ar_sw (t := 1321) rfl rfl, Step_of (c_goneAt hI hT hD hL hi)⟩
  | 33, _ => ⟨1346, ar_sw (t := 1346) rfl rfl, Step_of (c_goneOf hI hT hD hL hi)⟩
  | 34, _ => ⟨1371, ar_sw (t := 1371) rfl rfl, Step_of (c_surelyGone hI hT hD hL hi)⟩
  | 35, _ => ⟨1384, ar_sw (t := 1384) rfl rfl, Step_of (c_ask hI hT hD hL hi)⟩
  | 36, _ => ⟨1397, ar_sw (t := 1397) rfl rfl, Step_of (c_askLeaves hI hT hD hL hi)⟩
  | 37, _ => ⟨1410, ar_sw (t := 1410) rfl rfl, Step_of (c_line hI hT hD hL hi)⟩
  | 38, _ => ⟨1519, ar_sw (t := 1519) rfl rfl, Step_of (c_rests hI hT hD hL hi)⟩
  | 39, _ => ⟨1544, ar_sw (t := 1544) rfl rfl, Step_of (c_rest hI hT hD hL hi)⟩
  | 40, _ => ⟨1569, ar_sw (t := 1569) rfl rfl, Step_of (c_wars hI hT hD hL hi)⟩
  | 41, _ => ⟨1606, ar_sw (t := 1606) rfl rfl, Step_of (c_warsLeft hI hT hD hL hi)⟩
  | 42, _ => ⟨1643, ar_sw (t := 1643) rfl rfl, Step_of (c_warsOf hI hT hD hL hi)⟩
  | 43, _ => ⟨1692, ar_sw (t := 1692) rfl rfl, Step_of (c_lot hI hT hD hL hi)⟩
  | 44, _ => ⟨1717, ar_sw (t := 1717) rfl rfl, Step_of (c_braces hI hT hD hL hi)⟩
  | 45, _ => ⟨1770, ar_sw (t := 1770) rfl rfl, Step_of (c_move hI hT hD hL hi)⟩
  | 46, _ => ⟨1807, ar_sw (t := 1807) rfl rfl, Step_of (c_seed hI hT hD hL hi)⟩
  | 47, _ => ⟨1832, ar_sw (t := 1832) rfl rfl, Step_of (c_undo hI hT hD hL hi)⟩
  | 48, _ => ⟨1845, ar_sw (t := 1845) rfl rfl, Step_of (c_image hI hT hD hL hi)⟩
  | 49, _ => ⟨1858, ar_sw (t := 1858) rfl rfl, Step_of (c_back hI hT hD hL hi)⟩
  | 50, _ => ⟨1883, ar_sw (t := 1883) rfl rfl, c_led hI hT hD hL hi hn hn6⟩
  | 51, _ => ⟨1939, ar_sw (t := 1939) rfl rfl, Step_of (c_size hI hT hD hL hi)⟩
  | 52, _ => ⟨1964, ar_sw (t := 1964) rfl rfl, Step_of (c_trouble hI hT hD hL hi)⟩
  | 53, _ => ⟨1977, ar_sw (t := 1977) rfl rfl, Step_of ⟨f, g, p, rfl, hI, hT⟩⟩
  | 54, _ => ⟨1977, ar_sw (t := 1977) rfl rfl, Step_of ⟨f, g, p, rfl, hI, hT⟩⟩
  | 55, _ => ⟨1977, ar_sw (t := 1977) rfl rfl, Step_of ⟨f, g, p, rfl, hI, hT⟩⟩
  | 56, _ => ⟨1977, ar_sw (t := 1977) rfl rfl, Step_of ⟨f, g, p, rfl, hI, hT⟩⟩
  | 57, _ => ⟨1977, ar_sw (t := 1977) rfl rfl, Step_of ⟨f, g, p, rfl, hI, hT⟩⟩
  | 58, _ => ⟨1977, ar_sw (t := 1977) rfl rfl, Step_of ⟨f, g, p, rfl, hI, hT⟩⟩
  | 59, _ => ⟨1977, ar_sw (t := 1977) rfl rfl, Step_of ⟨f, g, p, rfl, hI, hT⟩⟩
  | 60, _ => ⟨1977, ar_sw (t := 1977) rfl rfl, Step_of ⟨f, g, p, rfl, hI, hT⟩⟩
  | 61, _ => ⟨1977, ar_sw (t := 1977) rfl rfl, Step_of ⟨f, g, p, rfl, hI, hT⟩⟩
  | 62, _ => ⟨1977, ar_sw (t := 1977) rfl rfl, Step_of ⟨f, g, p, rfl, hI, hT⟩⟩
  | 63, _ => ⟨1977, ar_sw (t := 1977) rfl rfl, Step_of ⟨f, g, p, rfl, hI, hT⟩⟩
  | c + 64, h => absurd h (by omega)
theorem law_loop {Ln : Nat} (hL : Ln ≤ 3072) : ∀ (m : Nat) {f : Nat → Nat → Int32} {g : Nat → Nat → Int64} {p : Nat → Nat → Option Nat} {d : Nat → Nat × Nat} {n s : Nat} {i : Nat}, Inv f p → am_T0 p d → d am_SC = (18, Ln) → i ≤ Ln → Ln ≤ i + 6 * m + 5 → 192 ≤ n → n + m ≤ 600000 → ∃ r, am_runs (327, 23, [.retAddr 1, .ref 0, .ref 177, .ref 191, .int (nI i), .retAddr 0, .retAddr 0], []) (f, g, p, d, n, s) = some (some (.int 1), r) ∧ r.2.2.2.2.1 ≤ n + m ∧ r.2.2.2.2.2 ≤ s + 6 * m := by
  intro m
  induction m with
  | zero =>
    intro f g p d n s i hI hT hD hi h1 h2 h3
    refine ⟨(f, g, p, d, n, s), ?_, Nat.le_add_right _ _, Nat.le_add_right _ _⟩
    rw [law_test hD, if_pos ((end_iff hL hi).mpr (by omega))]
    exact law_end
  | succ m ih =>
    intro f g p d n s i hI hT hD hi h1 h2 h3
    by_cases c : Ln < i + 6
    · refine ⟨(f, g, p, d, n, s), ?_, Nat.le_add_right _ _, Nat.le_add_right _ _⟩
      rw [law_test hD, if_pos ((end_iff hL hi).mpr c)]
      exact law_end
    · obtain ⟨v, hv, e⟩ := and63 (f am_SC i)
      obtain ⟨pc, e1, f', g', p', d', n', s', hz, hI', hT', hD', b1, b2, b3⟩ := law_case (f := f) (g := g) (p := p) (d := d) (n := n) (s := s) (i := i) hv hI hT hD hL (by omega) h2 (by omega)
      obtain ⟨r, hr, r1, r2⟩ := ih (f := f') (g := g') (p := p') (d := d') (n := n') (s := s') (i := i + 6) hI' hT' (hD'.trans hD) (by omega) (by omega) (by omega) (by omega)
      refine ⟨r, ?_, by omega, by omega⟩
      rw [law_test hD, if_neg (fun h => c ((end_iff hL hi).mp h)), law_pick hD hL (by omega) e, e1]
      refine am_ge_eq (hz _ ?_)
      rw [law_next, hr]
      exact am_ge_rfl
