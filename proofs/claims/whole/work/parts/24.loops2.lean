/-! METHODS WITH ONE COUNTED LOOP, in closed form, by program (wip/gen/autoloop.py) -/
theorem x_X6_angerOfAll (μ : am_M) (a : Nat) (h : sh_Now μ a) : am_runs (4, 0, [.ref a, .retAddr 0, .retAddr 0], []) μ = am_runs (4, 4, [.ref a, .int 0, .int 0], []) μ := by
  refine Eq.trans (am_gic (x := 0) rfl (by decide)) ?_
  refine Eq.trans (am_g rfl rfl) ?_
  refine Eq.trans (am_gic (x := 0) rfl (by decide)) ?_
  refine Eq.trans (am_g rfl rfl) ?_
  rfl
theorem x_X6_angerOfAll_4 (μ : am_M) (a : Nat) (k : Nat) (s : Int32) (hk : k < 2 ^ 31) (h : sh_Now μ a) (s1 : (¬ (8 ≤ (nI k))) → (¬ ((dv_X11_has μ (μ.1 a 1) (nI k)) = 0)) → am_out (nI k) 8 = false) : am_runs (4, 4, [.ref a, .int s, .int (nI k)], []) μ = if 8 ≤ (nI k) then some (some (.int s), μ) else if (dv_X11_has μ (μ.1 a 1) (nI k)) = 0 then am_runs (4, 4, [.ref a, .int s, .int ((nI k) + 1)], []) μ else am_runs (4, 4, [.ref a, .int (s + (μ.1 (a + 3) k)), .int ((nI k) + 1)], []) μ := by
  refine Eq.trans (am_g rfl rfl) ?_
  refine Eq.trans (am_gbp (x := 8) rfl (by decide)) ?_
  refine Eq.trans (am_br rfl rfl) ?_
  refine am_itc (fun c1 => ?_) (fun c1 => ?_)
  · refine Eq.trans (am_g rfl rfl) ?_
    exact am_grb rfl rfl (Or.inl rfl) rfl
  · refine Eq.trans (am_g rfl rfl) ?_
    refine Eq.trans (am_ggi rfl (congrArg Prod.fst (sh_Now_k h))) ?_
    refine Eq.trans (am_g rfl rfl) ?_
    refine Eq.trans (am_gcS rfl rfl rfl rfl rfl rfl (k_X11_has μ (μ.1 a 1) (nI k))) ?_
    refine Eq.trans (am_br rfl rfl) ?_
    refine am_itc (fun c2 => ?_) (fun c2 => ?_)
    · refine Eq.trans (am_gin (y := 1) rfl rfl (by decide)) ?_
      refine Eq.trans (am_g rfl rfl) ?_
      rfl
    · refine Eq.trans (am_g rfl rfl) ?_
      refine Eq.trans (am_g rfl rfl) ?_
      refine Eq.trans (am_ggr (r := (a + 3)) rfl (congrArg Prod.fst (sh_Now_k h)) (sh_Now_p6 h)) ?_
      refine Eq.trans (am_g rfl rfl) ?_
      refine Eq.trans (am_gaiN (j := k) rfl (sh_Now_a6 h) (s1 c1 c2) (nI_clamp hk)) ?_
      refine Eq.trans (am_g rfl rfl) ?_
      refine Eq.trans (am_g rfl rfl) ?_
      refine Eq.trans (am_gin (y := 1) rfl rfl (by decide)) ?_
      refine Eq.trans (am_g rfl rfl) ?_
      rfl
def st_X6_angerOfAll_4 (μ : am_M) (a : Nat) (k : Nat) (s : Int32) : Int32 := if (dv_X11_has μ (μ.1 a 1) (nI k)) = 0 then s else s + (μ.1 (a + 3) k)
theorem l_X6_angerOfAll_4 (μ : am_M) (a : Nat) (h : sh_Now μ a) (s : Int32) : (fun (k : Nat) (s : Int32) => am_runs (4, 4, [.ref a, .int s, .int (nI k)], []) μ) 0 s = (fun (s : Int32) => (fun (k : Nat) => some (some (.int s), μ)) (8)) (am_fo (st_X6_angerOfAll_4 μ a) (8) s) := by
  refine am_for (8) (fun (k : Nat) (s : Int32) => am_runs (4, 4, [.ref a, .int s, .int (nI k)], []) μ) (fun (s : Int32) => (fun (k : Nat) => some (some (.int s), μ)) (8)) (st_X6_angerOfAll_4 μ a) ?_ ?_ s
  · intro s
    try dsimp only
    rw [x_X6_angerOfAll_4 μ a (8) s (by omega) h (fun c _ => absurd (by decide) c), if_pos (show (8 ≤ (nI (8))) from by decide)]
  · intro k s hk
    try dsimp only
    rw [x_X6_angerOfAll_4 μ a k s (by omega) h (fun _ _ => am_out_nI (by omega) (by decide)), if_neg (show ¬ (8 ≤ (nI k)) from nI_ge hk (by decide)), nI_1]
    unfold st_X6_angerOfAll_4
    all_goals
      by_cases e1 : (dv_X11_has μ (μ.1 a 1) (nI k)) = 0
      · simp only [if_pos e1]
        all_goals rfl
      · simp only [if_neg e1]
        all_goals rfl
def dv_X6_angerOfAll (μ : am_M) (a : Nat) : Int32 := (am_fo (st_X6_angerOfAll_4 μ a) 8 0)
theorem k_X6_angerOfAll (μ : am_M) (a : Nat) (h : sh_Now μ a) : am_runs (am_en 4 [.ref a]) μ = some (some (.int (dv_X6_angerOfAll μ a)), μ) := by
  refine Eq.trans (x_X6_angerOfAll μ a h) ?_
  refine Eq.trans (l_X6_angerOfAll_4 μ a h 0) ?_
  rfl
theorem x_X6_menOf (μ : am_M) (a : Nat) (x0 : Int32) (h : sh_Now μ a) : am_runs (6, 0, [.ref a, .int x0, .retAddr 0, .retAddr 0], []) μ = am_runs (6, 4, [.ref a, .int x0, .int 0, .int 0], []) μ := by
  refine Eq.trans (am_gic (x := 0) rfl (by decide)) ?_
  refine Eq.trans (am_g rfl rfl) ?_
  refine Eq.trans (am_gic (x := 0) rfl (by decide)) ?_
  refine Eq.trans (am_g rfl rfl) ?_
  rfl
theorem x_X6_menOf_4 (μ : am_M) (a : Nat) (x0 : Int32) (k : Nat) (s : Int32) (hk : k < 2 ^ 31) (h : sh_Now μ a) (s1 : (¬ (8 ≤ (nI k))) → (¬ ((dv_X11_has μ (μ.1 a 1) (nI k)) = 0)) → am_out (nI k) 8 = false) : am_runs (6, 4, [.ref a, .int x0, .int s, .int (nI k)], []) μ = if 8 ≤ (nI k) then some (some (.int s), μ) else if (dv_X11_has μ (μ.1 a 1) (nI k)) = 0 then am_runs (6, 4, [.ref a, .int x0, .int s, .int ((nI k) + 1)], []) μ else if (μ.1 (a + 1) k) = x0 then am_runs (6, 4, [.ref a, .int x0, .int (s ||| (1 <<< ((nI k) &&& 31))), .int ((nI k) + 1)], []) μ else am_runs (6, 4, [.ref a, .int x0, .int s, .int ((nI k) + 1)], []) μ := by
  refine Eq.trans (am_g rfl rfl) ?_
  refine Eq.trans (am_gbp (x := 8) rfl (by decide)) ?_
  refine Eq.trans (am_br rfl rfl) ?_
  refine am_itc (fun c1 => ?_) (fun c1 => ?_)
  · refine Eq.trans (am_g rfl rfl) ?_
    exact am_grb rfl rfl (Or.inl rfl) rfl
  · refine Eq.trans (am_g rfl rfl) ?_
    refine Eq.trans (am_ggi rfl (congrArg Prod.fst (sh_Now_k h))) ?_
    refine Eq.trans (am_g rfl rfl) ?_
    refine Eq.trans (am_gcS rfl rfl rfl rfl rfl rfl (k_X11_has μ (μ.1 a 1) (nI k))) ?_
    refine Eq.trans (am_br rfl rfl) ?_
    refine am_itc (fun c2 => ?_) (fun c2 => ?_)
    · refine Eq.trans (am_gin (y := 1) rfl rfl (by decide)) ?_
      refine Eq.trans (am_g rfl rfl) ?_
      rfl
    · refine Eq.trans (am_g rfl rfl) ?_
      refine Eq.trans (am_ggr (r := (a + 1)) rfl (congrArg Prod.fst (sh_Now_k h)) (sh_Now_p4 h)) ?_
      refine Eq.trans (am_g rfl rfl) ?_
      refine Eq.trans (am_gaiN (j := k) rfl (sh_Now_a4 h) (s1 c1 c2) (nI_clamp hk)) ?_
      refine Eq.trans (am_g rfl rfl) ?_
      refine Eq.trans (am_br rfl rfl) ?_
      refine am_itc (fun c3 => ?_) (fun c3 => ?_)
      · refine Eq.trans (am_g rfl rfl) ?_
        refine Eq.trans (am_gic (x := 1) rfl (by decide)) ?_
        refine Eq.trans (am_g rfl rfl) ?_
        refine Eq.trans (am_g rfl rfl) ?_
        refine Eq.trans (am_g rfl rfl) ?_
        refine Eq.trans (am_g rfl rfl) ?_
        refine Eq.trans (am_gin (y := 1) rfl rfl (by decide)) ?_
        refine Eq.trans (am_g rfl rfl) ?_
        rfl
      · refine Eq.trans (am_gin (y := 1) rfl rfl (by decide)) ?_
        refine Eq.trans (am_g rfl rfl) ?_
        rfl
def st_X6_menOf_4 (μ : am_M) (a : Nat) (x0 : Int32) (k : Nat) (s : Int32) : Int32 := if (dv_X11_has μ (μ.1 a 1) (nI k)) = 0 then s else if (μ.1 (a + 1) k) = x0 then s ||| (1 <<< ((nI k) &&& 31)) else s
theorem l_X6_menOf_4 (μ : am_M) (a : Nat) (x0 : Int32) (h : sh_Now μ a) (s : Int32) : (fun (k : Nat) (s : Int32) => am_runs (6, 4, [.ref a, .int x0, .int s, .int (nI k)], []) μ) 0 s = (fun (s : Int32) => (fun (k : Nat) => some (some (.int s), μ)) (8)) (am_fo (st_X6_menOf_4 μ a x0) (8) s) := by
  refine am_for (8) (fun (k : Nat) (s : Int32) => am_runs (6, 4, [.ref a, .int x0, .int s, .int (nI k)], []) μ) (fun (s : Int32) => (fun (k : Nat) => some (some (.int s), μ)) (8)) (st_X6_menOf_4 μ a x0) ?_ ?_ s
  · intro s
    try dsimp only
    rw [x_X6_menOf_4 μ a x0 (8) s (by omega) h (fun c _ => absurd (by decide) c), if_pos (show (8 ≤ (nI (8))) from by decide)]
  · intro k s hk
    try dsimp only
    rw [x_X6_menOf_4 μ a x0 k s (by omega) h (fun _ _ => am_out_nI (by omega) (by decide)), if_neg (show ¬ (8 ≤ (nI k)) from nI_ge hk (by decide)), nI_1]
    unfold st_X6_menOf_4
    all_goals
      by_cases e1 : (dv_X11_has μ (μ.1 a 1) (nI k)) = 0
      · simp only [if_pos e1]
        all_goals rfl
      · simp only [if_neg e1]
        all_goals
          by_cases e2 : (μ.1 (a + 1) k) = x0
          · simp only [if_pos e2]
            all_goals rfl
          · simp only [if_neg e2]
            all_goals rfl
def dv_X6_menOf (μ : am_M) (a : Nat) (x0 : Int32) : Int32 := (am_fo (st_X6_menOf_4 μ a x0) 8 0)
theorem k_X6_menOf (μ : am_M) (a : Nat) (x0 : Int32) (h : sh_Now μ a) : am_runs (am_en 6 [.ref a, .int x0]) μ = some (some (.int (dv_X6_menOf μ a x0)), μ) := by
  refine Eq.trans (x_X6_menOf μ a x0 h) ?_
  refine Eq.trans (l_X6_menOf_4 μ a x0 h 0) ?_
  rfl
theorem x_X1_countMen (μ : am_M) (a : Nat) (x0 : Int32) (h : sh_Ear μ a) : am_runs (24, 0, [.ref a, .int x0, .retAddr 0], []) μ = am_runs (24, 2, [.ref a, .int x0, .int 0], []) μ := by
  refine Eq.trans (am_gic (x := 0) rfl (by decide)) ?_
  refine Eq.trans (am_g rfl rfl) ?_
  rfl
theorem x_X1_countMen_2 (μ : am_M) (a : Nat) (x0 : Int32) (k : Nat) (s : (Nat → Nat → Int32) × (Nat → Nat → Int64)) (hk : k < 2 ^ 31) (h : sh_Ear μ a) (s1 : (¬ (8 ≤ (nI k))) → am_out (nI k) 8 = false) : am_runs (24, 2, [.ref a, .int x0, .int (nI k)], []) (s.1, s.2, μ.2.2) = if 8 ≤ (nI k) then some (none, (s.1, s.2, μ.2.2)) else am_runs (24, 2, [.ref a, .int x0, .int ((nI k) + 1)], []) (am_si (s.1, s.2, μ.2.2) (a + 1) k (((s.1, s.2, μ.2.2).1 (a + 1) k) + ((x0 >>> ((nI k) &&& 31)) &&& 1))) := by
  refine Eq.trans (am_g rfl rfl) ?_
  refine Eq.trans (am_gbp (x := 8) rfl (by decide)) ?_
  refine Eq.trans (am_br rfl rfl) ?_
  refine am_itc (fun c1 => ?_) (fun c1 => ?_)
  · exact am_gr rfl rfl rfl
  · refine Eq.trans (am_g rfl rfl) ?_
    refine Eq.trans (am_ggr (r := (a + 1)) rfl (congrArg Prod.fst (sh_Ear_k h)) (sh_Ear_p4 h)) ?_
    refine Eq.trans (am_g rfl rfl) ?_
    refine Eq.trans (am_gb rfl ⟨rfl, rfl⟩ rfl) ?_
    refine Eq.trans (am_gaiN (j := k) rfl (sh_Ear_a4 h) (s1 c1) (nI_clamp hk)) ?_
    refine Eq.trans (am_g rfl rfl) ?_
    refine Eq.trans (am_g rfl rfl) ?_
    refine Eq.trans (am_g rfl rfl) ?_
    refine Eq.trans (am_gic (x := 1) rfl (by decide)) ?_
    refine Eq.trans (am_g rfl rfl) ?_
    refine Eq.trans (am_g rfl rfl) ?_
    refine Eq.trans (am_gsiN (j := k) rfl (sh_Ear_a4 h) (s1 c1) (nI_clamp hk)) ?_
    refine Eq.trans (am_gin (y := 1) rfl rfl (by decide)) ?_
    refine Eq.trans (am_g rfl rfl) ?_
    rfl
def st_X1_countMen_2 (μ : am_M) (a : Nat) (x0 : Int32) (k : Nat) (s : (Nat → Nat → Int32) × (Nat → Nat → Int64)) : (Nat → Nat → Int32) × (Nat → Nat → Int64) := ((am_si (s.1, s.2, μ.2.2) (a + 1) k (((s.1, s.2, μ.2.2).1 (a + 1) k) + ((x0 >>> ((nI k) &&& 31)) &&& 1))).1, (am_si (s.1, s.2, μ.2.2) (a + 1) k (((s.1, s.2, μ.2.2).1 (a + 1) k) + ((x0 >>> ((nI k) &&& 31)) &&& 1))).2.1)
theorem l_X1_countMen_2 (μ : am_M) (a : Nat) (x0 : Int32) (h : sh_Ear μ a) (s : (Nat → Nat → Int32) × (Nat → Nat → Int64)) : (fun (k : Nat) (s : (Nat → Nat → Int32) × (Nat → Nat → Int64)) => am_runs (24, 2, [.ref a, .int x0, .int (nI k)], []) (s.1, s.2, μ.2.2)) 0 s = (fun (s : (Nat → Nat → Int32) × (Nat → Nat → Int64)) => (fun (k : Nat) => some (none, (s.1, s.2, μ.2.2))) (8)) (am_fo (st_X1_countMen_2 μ a x0) (8) s) := by
  refine am_for (8) (fun (k : Nat) (s : (Nat → Nat → Int32) × (Nat → Nat → Int64)) => am_runs (24, 2, [.ref a, .int x0, .int (nI k)], []) (s.1, s.2, μ.2.2)) (fun (s : (Nat → Nat → Int32) × (Nat → Nat → Int64)) => (fun (k : Nat) => some (none, (s.1, s.2, μ.2.2))) (8)) (st_X1_countMen_2 μ a x0) ?_ ?_ s
  · intro s
    try dsimp only
    rw [x_X1_countMen_2 μ a x0 (8) s (by omega) h (fun c => absurd (by decide) c), if_pos (show (8 ≤ (nI (8))) from by decide)]
  · intro k s hk
    try dsimp only
    rw [x_X1_countMen_2 μ a x0 k s (by omega) h (fun _ => am_out_nI (by omega) (by decide)), if_neg (show ¬ (8 ≤ (nI k)) from nI_ge hk (by decide)), nI_1]
    unfold st_X1_countMen_2
    all_goals rfl
def dm_X1_countMen (μ : am_M) (a : Nat) (x0 : Int32) : am_M := ((((am_fo (st_X1_countMen_2 μ a x0) 8 (μ.1, μ.2.1)).1, (am_fo (st_X1_countMen_2 μ a x0) 8 (μ.1, μ.2.1)).2, μ.2.2).1), (((am_fo (st_X1_countMen_2 μ a x0) 8 (μ.1, μ.2.1)).1, (am_fo (st_X1_countMen_2 μ a x0) 8 (μ.1, μ.2.1)).2, μ.2.2).2.1), μ.2.2)
theorem k_X1_countMen (μ : am_M) (a : Nat) (x0 : Int32) (h : sh_Ear μ a) : am_runs (am_en 24 [.ref a, .int x0]) μ = some (none, dm_X1_countMen μ a x0) := by
  refine Eq.trans (x_X1_countMen μ a x0 h) ?_
  refine Eq.trans (l_X1_countMen_2 μ a x0 h (μ.1, μ.2.1)) ?_
  rfl
theorem x_X12_ones (μ : am_M) (x0 : Int32) : am_runs (189, 0, [.int x0, .retAddr 0, .retAddr 0], []) μ = am_runs (189, 4, [.int x0, .int 0, .int 0], []) μ := by
  refine Eq.trans (am_gic (x := 0) rfl (by decide)) ?_
  refine Eq.trans (am_g rfl rfl) ?_
  refine Eq.trans (am_gic (x := 0) rfl (by decide)) ?_
  refine Eq.trans (am_g rfl rfl) ?_
  rfl
theorem x_X12_ones_4 (μ : am_M) (x0 : Int32) (k : Nat) (s : Int32) (hk : k < 2 ^ 31) : am_runs (189, 4, [.int x0, .int s, .int (nI k)], []) μ = if 8 ≤ (nI k) then some (some (.int s), μ) else am_runs (189, 4, [.int x0, .int (s + ((x0 >>> ((nI k) &&& 31)) &&& 1)), .int ((nI k) + 1)], []) μ := by
  refine Eq.trans (am_g rfl rfl) ?_
  refine Eq.trans (am_gbp (x := 8) rfl (by decide)) ?_
  refine Eq.trans (am_br rfl rfl) ?_
  refine am_itc (fun c1 => ?_) (fun c1 => ?_)
  · refine Eq.trans (am_g rfl rfl) ?_
    exact am_grb rfl rfl (Or.inl rfl) rfl
  · refine Eq.trans (am_g rfl rfl) ?_
    refine Eq.trans (am_g rfl rfl) ?_
    refine Eq.trans (am_g rfl rfl) ?_
    refine Eq.trans (am_g rfl rfl) ?_
    refine Eq.trans (am_gic (x := 1) rfl (by decide)) ?_
    refine Eq.trans (am_g rfl rfl) ?_
    refine Eq.trans (am_g rfl rfl) ?_
    refine Eq.trans (am_g rfl rfl) ?_
    refine Eq.trans (am_gin (y := 1) rfl rfl (by decide)) ?_
    refine Eq.trans (am_g rfl rfl) ?_
    rfl
def st_X12_ones_4 (μ : am_M) (x0 : Int32) (k : Nat) (s : Int32) : Int32 := s + ((x0 >>> ((nI k) &&& 31)) &&& 1)
theorem l_X12_ones_4 (μ : am_M) (x0 : Int32) (s : Int32) : (fun (k : Nat) (s : Int32) => am_runs (189, 4, [.int x0, .int s, .int (nI k)], []) μ) 0 s = (fun (s : Int32) => (fun (k : Nat) => some (some (.int s), μ)) (8)) (am_fo (st_X12_ones_4 μ x0) (8) s) := by
  refine am_for (8) (fun (k : Nat) (s : Int32) => am_runs (189, 4, [.int x0, .int s, .int (nI k)], []) μ) (fun (s : Int32) => (fun (k : Nat) => some (some (.int s), μ)) (8)) (st_X12_ones_4 μ x0) ?_ ?_ s
  · intro s
    try dsimp only
    rw [x_X12_ones_4 μ x0 (8) s (by omega), if_pos (show (8 ≤ (nI (8))) from by decide)]
  · intro k s hk
    try dsimp only
    rw [x_X12_ones_4 μ x0 k s (by omega), if_neg (show ¬ (8 ≤ (nI k)) from nI_ge hk (by decide)), nI_1]
    unfold st_X12_ones_4
    all_goals rfl
def dv_X12_ones (μ : am_M) (x0 : Int32) : Int32 := (am_fo (st_X12_ones_4 μ x0) 8 0)
theorem k_X12_ones (μ : am_M) (x0 : Int32) : am_runs (am_en 189 [.int x0]) μ = some (some (.int (dv_X12_ones μ x0)), μ) := by
  refine Eq.trans (x_X12_ones μ x0) ?_
  refine Eq.trans (l_X12_ones_4 μ x0 0) ?_
  rfl
