/-! LOOPS, by program -/
theorem x_X6_menOf_4 (μ : am_M) (a : Nat) (x0 : Int32) (k : Nat) (s : Int32) (hk : k < 2 ^ 31) (h : sh_Now μ a) (s1 : (¬ (8 ≤ (nI k))) → (¬ ((dv_X11_has μ (μ.1 a 1) (nI k)) = 0)) → am_out (nI k) 8 = false) : am_runs (6, 4, [.ref a, .int x0, .int s, .int (nI k)], []) μ = if 8 ≤ (nI k) then some (some (.int s), μ) else if (dv_X11_has μ (μ.1 a 1) (nI k)) = 0 then am_runs (6, 4, [.ref a, .int x0, .int s, .int ((nI k) + 1)], []) μ else if (μ.1 (a + 1) k) = x0 then am_runs (6, 4, [.ref a, .int x0, .int (s ||| (1 <<< ((nI k) &&& 31))), .int ((nI k) + 1)], []) μ else am_runs (6, 4, [.ref a, .int x0, .int s, .int ((nI k) + 1)], []) μ := by
  refine Eq.trans (am_g rfl rfl) ?_
  refine Eq.trans (am_gbp (x := 8) rfl (by decide)) ?_
  refine Eq.trans (am_br rfl rfl) ?_
  refine am_itc (fun c1 => ?_) (fun c1 => ?_)
  · refine Eq.trans (am_g rfl rfl) ?_
    exact am_grb rfl rfl (Or.inl rfl) rfl
  · refine Eq.trans (am_g rfl rfl) ?_
    refine Eq.trans (am_ggi rfl (congrArg Prod.fst (sh_Now_k h))) ?_
    refine Eq.trans (am_g rfl rfl) ?_
    refine Eq.trans (am_gcS rfl rfl rfl rfl rfl rfl (k_X11_has μ (μ.1 a 1) (nI k))) ?_
    refine Eq.trans (am_br rfl rfl) ?_
    refine am_itc (fun c2 => ?_) (fun c2 => ?_)
    · refine Eq.trans (am_gin (y := 1) rfl rfl (by decide)) ?_
      refine Eq.trans (am_g rfl rfl) ?_
      rfl
    · refine Eq.trans (am_g rfl rfl) ?_
      refine Eq.trans (am_ggr (r := (a + 1)) rfl (congrArg Prod.fst (sh_Now_k h)) (sh_Now_p4 h)) ?_
      refine Eq.trans (am_g rfl rfl) ?_
      refine Eq.trans (am_gaiN (j := k) rfl (sh_Now_a4 h) (s1 c1 c2) (nI_clamp hk)) ?_
      refine Eq.trans (am_g rfl rfl) ?_
      refine Eq.trans (am_br rfl rfl) ?_
      refine am_itc (fun c3 => ?_) (fun c3 => ?_)
      · refine Eq.trans (am_g rfl rfl) ?_
        refine Eq.trans (am_gic (x := 1) rfl (by decide)) ?_
        refine Eq.trans (am_g rfl rfl) ?_
        refine Eq.trans (am_g rfl rfl) ?_
        refine Eq.trans (am_g rfl rfl) ?_
        refine Eq.trans (am_g rfl rfl) ?_
        refine Eq.trans (am_gin (y := 1) rfl rfl (by decide)) ?_
        refine Eq.trans (am_g rfl rfl) ?_
        rfl
      · refine Eq.trans (am_gin (y := 1) rfl rfl (by decide)) ?_
        refine Eq.trans (am_g rfl rfl) ?_
        rfl
def st_X6_menOf_4 (μ : am_M) (a : Nat) (x0 : Int32) (k : Nat) (s : Int32) : Int32 := if (dv_X11_has μ (μ.1 a 1) (nI k)) = 0 then s else if (μ.1 (a + 1) k) = x0 then s ||| (1 <<< ((nI k) &&& 31)) else s
theorem l_X6_menOf_4 (μ : am_M) (a : Nat) (x0 : Int32) (h : sh_Now μ a) (s : Int32) : (fun (k : Nat) (s : Int32) => am_runs (6, 4, [.ref a, .int x0, .int s, .int (nI k)], []) μ) 0 s = (fun (s : Int32) => (fun (k : Nat) => some (some (.int s), μ)) (8)) (am_fo (st_X6_menOf_4 μ a x0) (8) s) := by
  refine am_for (8) (fun (k : Nat) (s : Int32) => am_runs (6, 4, [.ref a, .int x0, .int s, .int (nI k)], []) μ) (fun (s : Int32) => (fun (k : Nat) => some (some (.int s), μ)) (8)) (st_X6_menOf_4 μ a x0) ?_ ?_ s
  · intro s
    try dsimp only
    rw [x_X6_menOf_4 μ a x0 (8) s (by omega) h (fun c => absurd (Int32.le_refl _) c), if_pos (Int32.le_refl _)]
  · intro k s hk
    try dsimp only
    rw [x_X6_menOf_4 μ a x0 k s (by omega) h (fun _ _ => am_out_nI hk (by decide)), if_neg (nI_ge hk (by decide)), nI_1]
    unfold st_X6_menOf_4
    all_goals
      by_cases e1 : (dv_X11_has μ (μ.1 a 1) (nI k)) = 0
      · simp only [if_pos e1]
        all_goals rfl
      · simp only [if_neg e1]
        all_goals
          by_cases e2 : (μ.1 (a + 1) k) = x0
          · simp only [if_pos e2]
            all_goals rfl
          · simp only [if_neg e2]
            all_goals rfl
theorem x_X12_ones_4 (μ : am_M) (x0 : Int32) (k : Nat) (s : Int32) (hk : k < 2 ^ 31) : am_runs (189, 4, [.int x0, .int s, .int (nI k)], []) μ = if 8 ≤ (nI k) then some (some (.int s), μ) else am_runs (189, 4, [.int x0, .int (s + ((x0 >>> ((nI k) &&& 31)) &&& 1)), .int ((nI k) + 1)], []) μ := by
  refine Eq.trans (am_g rfl rfl) ?_
  refine Eq.trans (am_gbp (x := 8) rfl (by decide)) ?_
  refine Eq.trans (am_br rfl rfl) ?_
  refine am_itc (fun c1 => ?_) (fun c1 => ?_)
  · refine Eq.trans (am_g rfl rfl) ?_
    exact am_grb rfl rfl (Or.inl rfl) rfl
  · refine Eq.trans (am_g rfl rfl) ?_
    refine Eq.trans (am_g rfl rfl) ?_
    refine Eq.trans (am_g rfl rfl) ?_
    refine Eq.trans (am_g rfl rfl) ?_
    refine Eq.trans (am_gic (x := 1) rfl (by decide)) ?_
    refine Eq.trans (am_g rfl rfl) ?_
    refine Eq.trans (am_g rfl rfl) ?_
    refine Eq.trans (am_g rfl rfl) ?_
    refine Eq.trans (am_gin (y := 1) rfl rfl (by decide)) ?_
    refine Eq.trans (am_g rfl rfl) ?_
    rfl
def st_X12_ones_4 (μ : am_M) (x0 : Int32) (k : Nat) (s : Int32) : Int32 := s + ((x0 >>> ((nI k) &&& 31)) &&& 1)
theorem l_X12_ones_4 (μ : am_M) (x0 : Int32) (s : Int32) : (fun (k : Nat) (s : Int32) => am_runs (189, 4, [.int x0, .int s, .int (nI k)], []) μ) 0 s = (fun (s : Int32) => (fun (k : Nat) => some (some (.int s), μ)) (8)) (am_fo (st_X12_ones_4 μ x0) (8) s) := by
  refine am_for (8) (fun (k : Nat) (s : Int32) => am_runs (189, 4, [.int x0, .int s, .int (nI k)], []) μ) (fun (s : Int32) => (fun (k : Nat) => some (some (.int s), μ)) (8)) (st_X12_ones_4 μ x0) ?_ ?_ s
  · intro s
    try dsimp only
    rw [x_X12_ones_4 μ x0 (8) s (by omega), if_pos (Int32.le_refl _)]
  · intro k s hk
    try dsimp only
    rw [x_X12_ones_4 μ x0 k s (by omega), if_neg (nI_ge hk (by decide)), nI_1]
    unfold st_X12_ones_4
    all_goals rfl
