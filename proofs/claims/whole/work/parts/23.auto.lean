/-! CLOSED FORMS, by program (wip/gen/auto.py): methods without loops -/
theorem x_X11_has (μ : am_M) (x0 : Int32) (x1 : Int32) : am_runs (3, 0, [.int x0, .int x1], []) μ = if ((x0 >>> (x1 &&& 31)) &&& 1) = 0 then some (some (.int 0), μ) else some (some (.int 1), μ) := by
  refine Eq.trans (am_g rfl rfl) ?_
  refine Eq.trans (am_g rfl rfl) ?_
  refine Eq.trans (am_g rfl rfl) ?_
  refine Eq.trans (am_gic (x := 1) rfl (by decide)) ?_
  refine Eq.trans (am_g rfl rfl) ?_
  refine Eq.trans (am_br rfl rfl) ?_
  refine am_itc (fun c1 => ?_) (fun c1 => ?_)
  · refine Eq.trans (am_gic (x := 0) rfl (by decide)) ?_
    exact am_grb rfl rfl (Or.inr (Or.inl rfl)) rfl
  · refine Eq.trans (am_gic (x := 1) rfl (by decide)) ?_
    refine Eq.trans (am_g rfl rfl) ?_
    exact am_grb rfl rfl (Or.inr (Or.inr rfl)) rfl
def dv_X11_has (μ : am_M) (x0 : Int32) (x1 : Int32) : Int32 := if ((x0 >>> (x1 &&& 31)) &&& 1) = 0 then 0 else 1
theorem k_X11_has (μ : am_M) (x0 : Int32) (x1 : Int32) : am_runs (am_en 3 [.int x0, .int x1]) μ = some (some (.int (dv_X11_has μ x0 x1)), μ) := by
  refine (x_X11_has μ x0 x1).trans ?_
  unfold dv_X11_has
  all_goals
    by_cases e1 : ((x0 >>> (x1 &&& 31)) &&& 1) = 0
    · simp only [if_pos e1]
      all_goals rfl
    · simp only [if_neg e1]
      all_goals rfl
theorem x_J6_bitCount_0f7a4 (μ : am_M) (x0 : Int32) : am_runs (7, 0, [.int x0], []) μ = some (some (.int ((((((((x0 - ((((x0 : Int32).toUInt32 >>> ((1 : Int32).toUInt32 &&& Int32.toUInt32 31)).toInt32) &&& 1431655765)) &&& 858993459) + (((((x0 - ((((x0 : Int32).toUInt32 >>> ((1 : Int32).toUInt32 &&& Int32.toUInt32 31)).toInt32) &&& 1431655765)) : Int32).toUInt32 >>> ((2 : Int32).toUInt32 &&& Int32.toUInt32 31)).toInt32) &&& 858993459)) + ((((((x0 - ((((x0 : Int32).toUInt32 >>> ((1 : Int32).toUInt32 &&& Int32.toUInt32 31)).toInt32) &&& 1431655765)) &&& 858993459) + (((((x0 - ((((x0 : Int32).toUInt32 >>> ((1 : Int32).toUInt32 &&& Int32.toUInt32 31)).toInt32) &&& 1431655765)) : Int32).toUInt32 >>> ((2 : Int32).toUInt32 &&& Int32.toUInt32 31)).toInt32) &&& 858993459)) : Int32).toUInt32 >>> ((4 : Int32).toUInt32 &&& Int32.toUInt32 31)).toInt32)) &&& 252645135) + ((((((((x0 - ((((x0 : Int32).toUInt32 >>> ((1 : Int32).toUInt32 &&& Int32.toUInt32 31)).toInt32) &&& 1431655765)) &&& 858993459) + (((((x0 - ((((x0 : Int32).toUInt32 >>> ((1 : Int32).toUInt32 &&& Int32.toUInt32 31)).toInt32) &&& 1431655765)) : Int32).toUInt32 >>> ((2 : Int32).toUInt32 &&& Int32.toUInt32 31)).toInt32) &&& 858993459)) + ((((((x0 - ((((x0 : Int32).toUInt32 >>> ((1 : Int32).toUInt32 &&& Int32.toUInt32 31)).toInt32) &&& 1431655765)) &&& 858993459) + (((((x0 - ((((x0 : Int32).toUInt32 >>> ((1 : Int32).toUInt32 &&& Int32.toUInt32 31)).toInt32) &&& 1431655765)) : Int32).toUInt32 >>> ((2 : Int32).toUInt32 &&& Int32.toUInt32 31)).toInt32) &&& 858993459)) : Int32).toUInt32 >>> ((4 : Int32).toUInt32 &&& Int32.toUInt32 31)).toInt32)) &&& 252645135) : Int32).toUInt32 >>> ((8 : Int32).toUInt32 &&& Int32.toUInt32 31)).toInt32)) + (((((((((x0 - ((((x0 : Int32).toUInt32 >>> ((1 : Int32).toUInt32 &&& Int32.toUInt32 31)).toInt32) &&& 1431655765)) &&& 858993459) + (((((x0 - ((((x0 : Int32).toUInt32 >>> ((1 : Int32).toUInt32 &&& Int32.toUInt32 31)).toInt32) &&& 1431655765)) : Int32).toUInt32 >>> ((2 : Int32).toUInt32 &&& Int32.toUInt32 31)).toInt32) &&& 858993459)) + ((((((x0 - ((((x0 : Int32).toUInt32 >>> ((1 : Int32).toUInt32 &&& Int32.toUInt32 31)).toInt32) &&& 1431655765)) &&& 858993459) + (((((x0 - ((((x0 : Int32).toUInt32 >>> ((1 : Int32).toUInt32 &&& Int32.toUInt32 31)).toInt32) &&& 1431655765)) : Int32).toUInt32 >>> ((2 : Int32).toUInt32 &&& Int32.toUInt32 31)).toInt32) &&& 858993459)) : Int32).toUInt32 >>> ((4 : Int32).toUInt32 &&& Int32.toUInt32 31)).toInt32)) &&& 252645135) + ((((((((x0 - ((((x0 : Int32).toUInt32 >>> ((1 : Int32).toUInt32 &&& Int32.toUInt32 31)).toInt32) &&& 1431655765)) &&& 858993459) + (((((x0 - ((((x0 : Int32).toUInt32 >>> ((1 : Int32).toUInt32 &&& Int32.toUInt32 31)).toInt32) &&& 1431655765)) : Int32).toUInt32 >>> ((2 : Int32).toUInt32 &&& Int32.toUInt32 31)).toInt32) &&& 858993459)) + ((((((x0 - ((((x0 : Int32).toUInt32 >>> ((1 : Int32).toUInt32 &&& Int32.toUInt32 31)).toInt32) &&& 1431655765)) &&& 858993459) + (((((x0 - ((((x0 : Int32).toUInt32 >>> ((1 : Int32).toUInt32 &&& Int32.toUInt32 31)).toInt32) &&& 1431655765)) : Int32).toUInt32 >>> ((2 : Int32).toUInt32 &&& Int32.toUInt32 31)).toInt32) &&& 858993459)) : Int32).toUInt32 >>> ((4 : Int32).toUInt32 &&& Int32.toUInt32 31)).toInt32)) &&& 252645135) : Int32).toUInt32 >>> ((8 : Int32).toUInt32 &&& Int32.toUInt32 31)).toInt32)) : Int32).toUInt32 >>> ((16 : Int32).toUInt32 &&& Int32.toUInt32 31)).toInt32)) &&& 63)), μ) := by
  refine Eq.trans (am_g rfl rfl) ?_
  refine Eq.trans (am_g rfl rfl) ?_
  refine Eq.trans (am_gic (x := 1) rfl (by decide)) ?_
  refine Eq.trans (am_g rfl rfl) ?_
  refine Eq.trans (am_gliw (x := 1431655765) rfl (by decide)) ?_
  refine Eq.trans (am_g rfl rfl) ?_
  refine Eq.trans (am_g rfl rfl) ?_
  refine Eq.trans (am_g rfl rfl) ?_
  refine Eq.trans (am_g rfl rfl) ?_
  refine Eq.trans (am_gliw (x := 858993459) rfl (by decide)) ?_
  refine Eq.trans (am_g rfl rfl) ?_
  refine Eq.trans (am_g rfl rfl) ?_
  refine Eq.trans (am_gic (x := 2) rfl (by decide)) ?_
  refine Eq.trans (am_g rfl rfl) ?_
  refine Eq.trans (am_gliw (x := 858993459) rfl (by decide)) ?_
  refine Eq.trans (am_g rfl rfl) ?_
  refine Eq.trans (am_g rfl rfl) ?_
  refine Eq.trans (am_g rfl rfl) ?_
  refine Eq.trans (am_g rfl rfl) ?_
  refine Eq.trans (am_g rfl rfl) ?_
  refine Eq.trans (am_gic (x := 4) rfl (by decide)) ?_
  refine Eq.trans (am_g rfl rfl) ?_
  refine Eq.trans (am_g rfl rfl) ?_
  refine Eq.trans (am_gliw (x := 252645135) rfl (by decide)) ?_
  refine Eq.trans (am_g rfl rfl) ?_
  refine Eq.trans (am_g rfl rfl) ?_
  refine Eq.trans (am_g rfl rfl) ?_
  refine Eq.trans (am_g rfl rfl) ?_
  refine Eq.trans (am_gbp (x := 8) rfl (by decide)) ?_
  refine Eq.trans (am_g rfl rfl) ?_
  refine Eq.trans (am_g rfl rfl) ?_
  refine Eq.trans (am_g rfl rfl) ?_
  refine Eq.trans (am_g rfl rfl) ?_
  refine Eq.trans (am_g rfl rfl) ?_
  refine Eq.trans (am_gbp (x := 16) rfl (by decide)) ?_
  refine Eq.trans (am_g rfl rfl) ?_
  refine Eq.trans (am_g rfl rfl) ?_
  refine Eq.trans (am_g rfl rfl) ?_
  refine Eq.trans (am_g rfl rfl) ?_
  refine Eq.trans (am_gbp (x := 63) rfl (by decide)) ?_
  refine Eq.trans (am_g rfl rfl) ?_
  exact am_grb rfl rfl (Or.inl rfl) rfl
def dv_J6_bitCount_0f7a4 (μ : am_M) (x0 : Int32) : Int32 := (((((((x0 - ((((x0 : Int32).toUInt32 >>> ((1 : Int32).toUInt32 &&& Int32.toUInt32 31)).toInt32) &&& 1431655765)) &&& 858993459) + (((((x0 - ((((x0 : Int32).toUInt32 >>> ((1 : Int32).toUInt32 &&& Int32.toUInt32 31)).toInt32) &&& 1431655765)) : Int32).toUInt32 >>> ((2 : Int32).toUInt32 &&& Int32.toUInt32 31)).toInt32) &&& 858993459)) + ((((((x0 - ((((x0 : Int32).toUInt32 >>> ((1 : Int32).toUInt32 &&& Int32.toUInt32 31)).toInt32) &&& 1431655765)) &&& 858993459) + (((((x0 - ((((x0 : Int32).toUInt32 >>> ((1 : Int32).toUInt32 &&& Int32.toUInt32 31)).toInt32) &&& 1431655765)) : Int32).toUInt32 >>> ((2 : Int32).toUInt32 &&& Int32.toUInt32 31)).toInt32) &&& 858993459)) : Int32).toUInt32 >>> ((4 : Int32).toUInt32 &&& Int32.toUInt32 31)).toInt32)) &&& 252645135) + ((((((((x0 - ((((x0 : Int32).toUInt32 >>> ((1 : Int32).toUInt32 &&& Int32.toUInt32 31)).toInt32) &&& 1431655765)) &&& 858993459) + (((((x0 - ((((x0 : Int32).toUInt32 >>> ((1 : Int32).toUInt32 &&& Int32.toUInt32 31)).toInt32) &&& 1431655765)) : Int32).toUInt32 >>> ((2 : Int32).toUInt32 &&& Int32.toUInt32 31)).toInt32) &&& 858993459)) + ((((((x0 - ((((x0 : Int32).toUInt32 >>> ((1 : Int32).toUInt32 &&& Int32.toUInt32 31)).toInt32) &&& 1431655765)) &&& 858993459) + (((((x0 - ((((x0 : Int32).toUInt32 >>> ((1 : Int32).toUInt32 &&& Int32.toUInt32 31)).toInt32) &&& 1431655765)) : Int32).toUInt32 >>> ((2 : Int32).toUInt32 &&& Int32.toUInt32 31)).toInt32) &&& 858993459)) : Int32).toUInt32 >>> ((4 : Int32).toUInt32 &&& Int32.toUInt32 31)).toInt32)) &&& 252645135) : Int32).toUInt32 >>> ((8 : Int32).toUInt32 &&& Int32.toUInt32 31)).toInt32)) + (((((((((x0 - ((((x0 : Int32).toUInt32 >>> ((1 : Int32).toUInt32 &&& Int32.toUInt32 31)).toInt32) &&& 1431655765)) &&& 858993459) + (((((x0 - ((((x0 : Int32).toUInt32 >>> ((1 : Int32).toUInt32 &&& Int32.toUInt32 31)).toInt32) &&& 1431655765)) : Int32).toUInt32 >>> ((2 : Int32).toUInt32 &&& Int32.toUInt32 31)).toInt32) &&& 858993459)) + ((((((x0 - ((((x0 : Int32).toUInt32 >>> ((1 : Int32).toUInt32 &&& Int32.toUInt32 31)).toInt32) &&& 1431655765)) &&& 858993459) + (((((x0 - ((((x0 : Int32).toUInt32 >>> ((1 : Int32).toUInt32 &&& Int32.toUInt32 31)).toInt32) &&& 1431655765)) : Int32).toUInt32 >>> ((2 : Int32).toUInt32 &&& Int32.toUInt32 31)).toInt32) &&& 858993459)) : Int32).toUInt32 >>> ((4 : Int32).toUInt32 &&& Int32.toUInt32 31)).toInt32)) &&& 252645135) + ((((((((x0 - ((((x0 : Int32).toUInt32 >>> ((1 : Int32).toUInt32 &&& Int32.toUInt32 31)).toInt32) &&& 1431655765)) &&& 858993459) + (((((x0 - ((((x0 : Int32).toUInt32 >>> ((1 : Int32).toUInt32 &&& Int32.toUInt32 31)).toInt32) &&& 1431655765)) : Int32).toUInt32 >>> ((2 : Int32).toUInt32 &&& Int32.toUInt32 31)).toInt32) &&& 858993459)) + ((((((x0 - ((((x0 : Int32).toUInt32 >>> ((1 : Int32).toUInt32 &&& Int32.toUInt32 31)).toInt32) &&& 1431655765)) &&& 858993459) + (((((x0 - ((((x0 : Int32).toUInt32 >>> ((1 : Int32).toUInt32 &&& Int32.toUInt32 31)).toInt32) &&& 1431655765)) : Int32).toUInt32 >>> ((2 : Int32).toUInt32 &&& Int32.toUInt32 31)).toInt32) &&& 858993459)) : Int32).toUInt32 >>> ((4 : Int32).toUInt32 &&& Int32.toUInt32 31)).toInt32)) &&& 252645135) : Int32).toUInt32 >>> ((8 : Int32).toUInt32 &&& Int32.toUInt32 31)).toInt32)) : Int32).toUInt32 >>> ((16 : Int32).toUInt32 &&& Int32.toUInt32 31)).toInt32)) &&& 63
theorem k_J6_bitCount_0f7a4 (μ : am_M) (x0 : Int32) : am_runs (am_en 7 [.int x0]) μ = some (some (.int (dv_J6_bitCount_0f7a4 μ x0)), μ) := by
  refine (x_J6_bitCount_0f7a4 μ x0).trans ?_
  rfl
theorem x_X1_clear (μ : am_M) (a : Nat) (h : sh_Ear μ a) : am_runs (20, 0, [.ref a], []) μ = some (none, am_si (am_si μ a 0 (-1)) a 1 0) := by
  refine Eq.trans (am_g rfl rfl) ?_
  refine Eq.trans (am_gic (x := -1) rfl (by decide)) ?_
  refine Eq.trans (am_gpi rfl (congrArg Prod.fst (sh_Ear_k h))) ?_
  refine Eq.trans (am_g rfl rfl) ?_
  refine Eq.trans (am_gic (x := 0) rfl (by decide)) ?_
  refine Eq.trans (am_gpi rfl (congrArg Prod.fst (sh_Ear_k h))) ?_
  exact am_gr rfl rfl rfl
def dm_X1_clear (μ : am_M) (a : Nat) : am_M := (((am_si (am_si μ a 0 (-1)) a 1 0).1), ((am_si (am_si μ a 0 (-1)) a 1 0).2.1), μ.2.2)
theorem k_X1_clear (μ : am_M) (a : Nat) (h : sh_Ear μ a) : am_runs (am_en 20 [.ref a]) μ = some (none, dm_X1_clear μ a) := by
  refine (x_X1_clear μ a h).trans ?_
  rfl
theorem x_X1_isTold (μ : am_M) (a : Nat) (h : sh_Ear μ a) : am_runs (21, 0, [.ref a], []) μ = if (μ.1 a 0) = (-1) then some (some (.int 0), μ) else some (some (.int 1), μ) := by
  refine Eq.trans (am_g rfl rfl) ?_
  refine Eq.trans (am_ggi rfl (congrArg Prod.fst (sh_Ear_k h))) ?_
  refine Eq.trans (am_gic (x := -1) rfl (by decide)) ?_
  refine Eq.trans (am_br rfl rfl) ?_
  refine am_itc (fun c1 => ?_) (fun c1 => ?_)
  · refine Eq.trans (am_gic (x := 0) rfl (by decide)) ?_
    exact am_grb rfl rfl (Or.inr (Or.inl rfl)) rfl
  · refine Eq.trans (am_gic (x := 1) rfl (by decide)) ?_
    refine Eq.trans (am_g rfl rfl) ?_
    exact am_grb rfl rfl (Or.inr (Or.inr rfl)) rfl
def dv_X1_isTold (μ : am_M) (a : Nat) : Int32 := if (μ.1 a 0) = (-1) then 0 else 1
theorem k_X1_isTold (μ : am_M) (a : Nat) (h : sh_Ear μ a) : am_runs (am_en 21 [.ref a]) μ = some (some (.int (dv_X1_isTold μ a)), μ) := by
  refine (x_X1_isTold μ a h).trans ?_
  unfold dv_X1_isTold
  all_goals
    by_cases e1 : (μ.1 a 0) = (-1)
    · simp only [if_pos e1]
      all_goals rfl
    · simp only [if_neg e1]
      all_goals rfl
theorem x_X1_addAmong (μ : am_M) (a : Nat) (x0 : Int32) (x1 : Int32) (x2 : Int32) (h : sh_Ear μ a) (s1 : (¬ (5 ≤ (μ.1 a 1))) → am_out (μ.1 a 1) 5 = false) (s2 : (¬ (5 ≤ (μ.1 a 1))) → am_out ((am_si μ (a + 2) (μ.1 a 1).toNatClampNeg ((1 <<< (x0 &&& 31)) ||| (1 <<< (x1 &&& 31)))).1 a 1) 5 = false) : am_runs (22, 0, [.ref a, .int x0, .int x1, .int x2], []) μ = if 5 ≤ (μ.1 a 1) then some (none, μ) else some (none, am_si (am_si (am_si μ (a + 2) (μ.1 a 1).toNatClampNeg ((1 <<< (x0 &&& 31)) ||| (1 <<< (x1 &&& 31)))) (a + 3) ((am_si μ (a + 2) (μ.1 a 1).toNatClampNeg ((1 <<< (x0 &&& 31)) ||| (1 <<< (x1 &&& 31)))).1 a 1).toNatClampNeg x2) a 1 (((am_si (am_si μ (a + 2) (μ.1 a 1).toNatClampNeg ((1 <<< (x0 &&& 31)) ||| (1 <<< (x1 &&& 31)))) (a + 3) ((am_si μ (a + 2) (μ.1 a 1).toNatClampNeg ((1 <<< (x0 &&& 31)) ||| (1 <<< (x1 &&& 31)))).1 a 1).toNatClampNeg x2).1 a 1) + 1)) := by
  refine Eq.trans (am_g rfl rfl) ?_
  refine Eq.trans (am_ggi rfl (congrArg Prod.fst (sh_Ear_k h))) ?_
  refine Eq.trans (am_gic (x := 5) rfl (by decide)) ?_
  refine Eq.trans (am_br rfl rfl) ?_
  refine am_itc (fun c1 => ?_) (fun c1 => ?_)
  · exact am_gr rfl rfl rfl
  · refine Eq.trans (am_g rfl rfl) ?_
    refine Eq.trans (am_ggr (r := (a + 2)) rfl (congrArg Prod.fst (sh_Ear_k h)) (sh_Ear_p5 h)) ?_
    refine Eq.trans (am_g rfl rfl) ?_
    refine Eq.trans (am_ggi rfl (congrArg Prod.fst (sh_Ear_k h))) ?_
    refine Eq.trans (am_gic (x := 1) rfl (by decide)) ?_
    refine Eq.trans (am_g rfl rfl) ?_
    refine Eq.trans (am_g rfl rfl) ?_
    refine Eq.trans (am_gic (x := 1) rfl (by decide)) ?_
    refine Eq.trans (am_g rfl rfl) ?_
    refine Eq.trans (am_g rfl rfl) ?_
    refine Eq.trans (am_g rfl rfl) ?_
    refine Eq.trans (am_gsiN rfl (sh_Ear_a5 h) (s1 c1) rfl) ?_
    refine Eq.trans (am_g rfl rfl) ?_
    refine Eq.trans (am_ggr (r := (a + 3)) rfl (congrArg Prod.fst (sh_Ear_k h)) (sh_Ear_p6 h)) ?_
    refine Eq.trans (am_g rfl rfl) ?_
    refine Eq.trans (am_ggi rfl (congrArg Prod.fst (sh_Ear_k h))) ?_
    refine Eq.trans (am_g rfl rfl) ?_
    refine Eq.trans (am_gsiN rfl (sh_Ear_a6 h) (s2 c1) rfl) ?_
    refine Eq.trans (am_g rfl rfl) ?_
    refine Eq.trans (am_gb rfl rfl rfl) ?_
    refine Eq.trans (am_ggi rfl (congrArg Prod.fst (sh_Ear_k h))) ?_
    refine Eq.trans (am_gic (x := 1) rfl (by decide)) ?_
    refine Eq.trans (am_g rfl rfl) ?_
    refine Eq.trans (am_gpi rfl (congrArg Prod.fst (sh_Ear_k h))) ?_
    exact am_gr rfl rfl rfl
def ds_X1_addAmong (μ : am_M) (a : Nat) (x0 : Int32) (x1 : Int32) (x2 : Int32) : Prop := ((¬ (5 ≤ (μ.1 a 1))) → am_out (μ.1 a 1) 5 = false) ∧ ((¬ (5 ≤ (μ.1 a 1))) → am_out ((am_si μ (a + 2) (μ.1 a 1).toNatClampNeg ((1 <<< (x0 &&& 31)) ||| (1 <<< (x1 &&& 31)))).1 a 1) 5 = false)
def dm_X1_addAmong (μ : am_M) (a : Nat) (x0 : Int32) (x1 : Int32) (x2 : Int32) : am_M := ((if 5 ≤ (μ.1 a 1) then μ.1 else (am_si (am_si (am_si μ (a + 2) (μ.1 a 1).toNatClampNeg ((1 <<< (x0 &&& 31)) ||| (1 <<< (x1 &&& 31)))) (a + 3) ((am_si μ (a + 2) (μ.1 a 1).toNatClampNeg ((1 <<< (x0 &&& 31)) ||| (1 <<< (x1 &&& 31)))).1 a 1).toNatClampNeg x2) a 1 (((am_si (am_si μ (a + 2) (μ.1 a 1).toNatClampNeg ((1 <<< (x0 &&& 31)) ||| (1 <<< (x1 &&& 31)))) (a + 3) ((am_si μ (a + 2) (μ.1 a 1).toNatClampNeg ((1 <<< (x0 &&& 31)) ||| (1 <<< (x1 &&& 31)))).1 a 1).toNatClampNeg x2).1 a 1) + 1)).1), (if 5 ≤ (μ.1 a 1) then μ.2.1 else (am_si (am_si (am_si μ (a + 2) (μ.1 a 1).toNatClampNeg ((1 <<< (x0 &&& 31)) ||| (1 <<< (x1 &&& 31)))) (a + 3) ((am_si μ (a + 2) (μ.1 a 1).toNatClampNeg ((1 <<< (x0 &&& 31)) ||| (1 <<< (x1 &&& 31)))).1 a 1).toNatClampNeg x2) a 1 (((am_si (am_si μ (a + 2) (μ.1 a 1).toNatClampNeg ((1 <<< (x0 &&& 31)) ||| (1 <<< (x1 &&& 31)))) (a + 3) ((am_si μ (a + 2) (μ.1 a 1).toNatClampNeg ((1 <<< (x0 &&& 31)) ||| (1 <<< (x1 &&& 31)))).1 a 1).toNatClampNeg x2).1 a 1) + 1)).2.1), μ.2.2)
theorem k_X1_addAmong (μ : am_M) (a : Nat) (x0 : Int32) (x1 : Int32) (x2 : Int32) (h : sh_Ear μ a) (hs : ds_X1_addAmong μ a x0 x1 x2) : am_runs (am_en 22 [.ref a, .int x0, .int x1, .int x2]) μ = some (none, dm_X1_addAmong μ a x0 x1 x2) := by
  refine (x_X1_addAmong μ a x0 x1 x2 h hs.1 hs.2).trans ?_
  unfold dm_X1_addAmong
  all_goals
    by_cases e1 : 5 ≤ (μ.1 a 1)
    · simp only [if_pos e1]
      all_goals rfl
    · simp only [if_neg e1]
      all_goals rfl
theorem x_X1_leftBy (μ : am_M) (a : Nat) (x0 : Int32) (h : sh_Ear μ a) (s1 : (¬ (x0 < 0)) → (x0 < 8) → am_out x0 8 = false) : am_runs (27, 0, [.ref a, .int x0], []) μ = if x0 < 0 then some (some (.int (μ.1 a 2)), μ) else if x0 < 8 then some (some (.int (if (μ.1 (a + 1) x0.toNatClampNeg) < ((μ.1 a 2) - (μ.1 (a + 1) x0.toNatClampNeg)) then ((μ.1 a 2) - (μ.1 (a + 1) x0.toNatClampNeg)) else (μ.1 (a + 1) x0.toNatClampNeg))), μ) else some (some (.int (μ.1 a 2)), μ) := by
  refine Eq.trans (am_g rfl rfl) ?_
  refine Eq.trans (am_br rfl rfl) ?_
  refine am_itc (fun c1 => ?_) (fun c1 => ?_)
  · refine Eq.trans (am_g rfl rfl) ?_
    refine Eq.trans (am_ggi rfl (congrArg Prod.fst (sh_Ear_k h))) ?_
    exact am_grb rfl rfl (Or.inl rfl) rfl
  · refine Eq.trans (am_g rfl rfl) ?_
    refine Eq.trans (am_gbp (x := 8) rfl (by decide)) ?_
    refine Eq.trans (am_br rfl rfl) ?_
    refine am_itc (fun c2 => ?_) (fun c2 => ?_)
    · refine Eq.trans (am_g rfl rfl) ?_
      refine Eq.trans (am_ggr (r := (a + 1)) rfl (congrArg Prod.fst (sh_Ear_k h)) (sh_Ear_p4 h)) ?_
      refine Eq.trans (am_g rfl rfl) ?_
      refine Eq.trans (am_gaiN rfl (sh_Ear_a4 h) (s1 c1 c2) rfl) ?_
      refine Eq.trans (am_g rfl rfl) ?_
      refine Eq.trans (am_ggi rfl (congrArg Prod.fst (sh_Ear_k h))) ?_
      refine Eq.trans (am_g rfl rfl) ?_
      refine Eq.trans (am_ggr (r := (a + 1)) rfl (congrArg Prod.fst (sh_Ear_k h)) (sh_Ear_p4 h)) ?_
      refine Eq.trans (am_g rfl rfl) ?_
      refine Eq.trans (am_gaiN rfl (sh_Ear_a4 h) (s1 c1 c2) rfl) ?_
      refine Eq.trans (am_g rfl rfl) ?_
      refine Eq.trans (am_gmax rfl rfl) ?_
      exact am_grb rfl rfl (Or.inl rfl) rfl
    · refine Eq.trans (am_g rfl rfl) ?_
      refine Eq.trans (am_ggi rfl (congrArg Prod.fst (sh_Ear_k h))) ?_
      exact am_grb rfl rfl (Or.inl rfl) rfl
def ds_X1_leftBy (μ : am_M) (a : Nat) (x0 : Int32) : Prop := ((¬ (x0 < 0)) → (x0 < 8) → am_out x0 8 = false)
def dv_X1_leftBy (μ : am_M) (a : Nat) (x0 : Int32) : Int32 := if x0 < 0 then μ.1 a 2 else if x0 < 8 then if (μ.1 (a + 1) x0.toNatClampNeg) < ((μ.1 a 2) - (μ.1 (a + 1) x0.toNatClampNeg)) then ((μ.1 a 2) - (μ.1 (a + 1) x0.toNatClampNeg)) else (μ.1 (a + 1) x0.toNatClampNeg) else μ.1 a 2
theorem k_X1_leftBy (μ : am_M) (a : Nat) (x0 : Int32) (h : sh_Ear μ a) (hs : ds_X1_leftBy μ a x0) : am_runs (am_en 27 [.ref a, .int x0]) μ = some (some (.int (dv_X1_leftBy μ a x0)), μ) := by
  refine (x_X1_leftBy μ a x0 h hs).trans ?_
  unfold dv_X1_leftBy
  all_goals
    by_cases e1 : x0 < 0
    · simp only [if_pos e1]
      all_goals rfl
    · simp only [if_neg e1]
      all_goals
        by_cases e2 : x0 < 8
        · simp only [if_pos e2]
          all_goals rfl
        · simp only [if_neg e2]
          all_goals rfl
theorem x_X2_clear (μ : am_M) (a : Nat) (h : sh_Hel μ a) : am_runs (31, 0, [.ref a], []) μ = some (none, am_si (am_si μ a 0 0) a 4 0) := by
  refine Eq.trans (am_g rfl rfl) ?_
  refine Eq.trans (am_gic (x := 0) rfl (by decide)) ?_
  refine Eq.trans (am_gpi rfl (congrArg Prod.fst (sh_Hel_k h))) ?_
  refine Eq.trans (am_g rfl rfl) ?_
  refine Eq.trans (am_gic (x := 0) rfl (by decide)) ?_
  refine Eq.trans (am_gpi rfl (congrArg Prod.fst (sh_Hel_k h))) ?_
  exact am_gr rfl rfl rfl
def dm_X2_clear (μ : am_M) (a : Nat) : am_M := (((am_si (am_si μ a 0 0) a 4 0).1), ((am_si (am_si μ a 0 0) a 4 0).2.1), μ.2.2)
theorem k_X2_clear (μ : am_M) (a : Nat) (h : sh_Hel μ a) : am_runs (am_en 31 [.ref a]) μ = some (none, dm_X2_clear μ a) := by
  refine (x_X2_clear μ a h).trans ?_
  rfl
theorem x_X2_isTold (μ : am_M) (a : Nat) (h : sh_Hel μ a) : am_runs (32, 0, [.ref a], []) μ = if (μ.1 a 0) ≤ 0 then some (some (.int 0), μ) else some (some (.int 1), μ) := by
  refine Eq.trans (am_g rfl rfl) ?_
  refine Eq.trans (am_ggi rfl (congrArg Prod.fst (sh_Hel_k h))) ?_
  refine Eq.trans (am_br rfl rfl) ?_
  refine am_itc (fun c1 => ?_) (fun c1 => ?_)
  · refine Eq.trans (am_gic (x := 0) rfl (by decide)) ?_
    exact am_grb rfl rfl (Or.inr (Or.inl rfl)) rfl
  · refine Eq.trans (am_gic (x := 1) rfl (by decide)) ?_
    refine Eq.trans (am_g rfl rfl) ?_
    exact am_grb rfl rfl (Or.inr (Or.inr rfl)) rfl
def dv_X2_isTold (μ : am_M) (a : Nat) : Int32 := if (μ.1 a 0) ≤ 0 then 0 else 1
theorem k_X2_isTold (μ : am_M) (a : Nat) (h : sh_Hel μ a) : am_runs (am_en 32 [.ref a]) μ = some (some (.int (dv_X2_isTold μ a)), μ) := by
  refine (x_X2_isTold μ a h).trans ?_
  unfold dv_X2_isTold
  all_goals
    by_cases e1 : (μ.1 a 0) ≤ 0
    · simp only [if_pos e1]
      all_goals rfl
    · simp only [if_neg e1]
      all_goals rfl
theorem x_X2_addDraw (μ : am_M) (a : Nat) (x0 : Int32) (x1 : Int32) (h : sh_Hel μ a) (s1 : (¬ (6 ≤ (μ.1 a 4))) → am_out (μ.1 a 4) 6 = false) (s2 : (¬ (6 ≤ (μ.1 a 4))) → am_out ((am_si μ (a + 1) (μ.1 a 4).toNatClampNeg x0).1 a 4) 6 = false) : am_runs (33, 0, [.ref a, .int x0, .int x1], []) μ = if 6 ≤ (μ.1 a 4) then some (none, μ) else some (none, am_si (am_si (am_si μ (a + 1) (μ.1 a 4).toNatClampNeg x0) (a + 2) ((am_si μ (a + 1) (μ.1 a 4).toNatClampNeg x0).1 a 4).toNatClampNeg (vp_nar .boolean x1)) a 4 (((am_si (am_si μ (a + 1) (μ.1 a 4).toNatClampNeg x0) (a + 2) ((am_si μ (a + 1) (μ.1 a 4).toNatClampNeg x0).1 a 4).toNatClampNeg (vp_nar .boolean x1)).1 a 4) + 1)) := by
  refine Eq.trans (am_g rfl rfl) ?_
  refine Eq.trans (am_ggi rfl (congrArg Prod.fst (sh_Hel_k h))) ?_
  refine Eq.trans (am_gbp (x := 6) rfl (by decide)) ?_
  refine Eq.trans (am_br rfl rfl) ?_
  refine am_itc (fun c1 => ?_) (fun c1 => ?_)
  · exact am_gr rfl rfl rfl
  · refine Eq.trans (am_g rfl rfl) ?_
    refine Eq.trans (am_ggr (r := (a + 1)) rfl (congrArg Prod.fst (sh_Hel_k h)) (sh_Hel_p5 h)) ?_
    refine Eq.trans (am_g rfl rfl) ?_
    refine Eq.trans (am_ggi rfl (congrArg Prod.fst (sh_Hel_k h))) ?_
    refine Eq.trans (am_g rfl rfl) ?_
    refine Eq.trans (am_gsiN rfl (sh_Hel_a5 h) (s1 c1) rfl) ?_
    refine Eq.trans (am_g rfl rfl) ?_
    refine Eq.trans (am_ggr (r := (a + 2)) rfl (congrArg Prod.fst (sh_Hel_k h)) (sh_Hel_p6 h)) ?_
    refine Eq.trans (am_g rfl rfl) ?_
    refine Eq.trans (am_ggi rfl (congrArg Prod.fst (sh_Hel_k h))) ?_
    refine Eq.trans (am_g rfl rfl) ?_
    refine Eq.trans (am_gszN rfl (sh_Hel_a6 h) (s2 c1) rfl) ?_
    refine Eq.trans (am_g rfl rfl) ?_
    refine Eq.trans (am_gb rfl rfl rfl) ?_
    refine Eq.trans (am_ggi rfl (congrArg Prod.fst (sh_Hel_k h))) ?_
    refine Eq.trans (am_gic (x := 1) rfl (by decide)) ?_
    refine Eq.trans (am_g rfl rfl) ?_
    refine Eq.trans (am_gpi rfl (congrArg Prod.fst (sh_Hel_k h))) ?_
    exact am_gr rfl rfl rfl
def ds_X2_addDraw (μ : am_M) (a : Nat) (x0 : Int32) (x1 : Int32) : Prop := ((¬ (6 ≤ (μ.1 a 4))) → am_out (μ.1 a 4) 6 = false) ∧ ((¬ (6 ≤ (μ.1 a 4))) → am_out ((am_si μ (a + 1) (μ.1 a 4).toNatClampNeg x0).1 a 4) 6 = false)
def dm_X2_addDraw (μ : am_M) (a : Nat) (x0 : Int32) (x1 : Int32) : am_M := ((if 6 ≤ (μ.1 a 4) then μ.1 else (am_si (am_si (am_si μ (a + 1) (μ.1 a 4).toNatClampNeg x0) (a + 2) ((am_si μ (a + 1) (μ.1 a 4).toNatClampNeg x0).1 a 4).toNatClampNeg (vp_nar .boolean x1)) a 4 (((am_si (am_si μ (a + 1) (μ.1 a 4).toNatClampNeg x0) (a + 2) ((am_si μ (a + 1) (μ.1 a 4).toNatClampNeg x0).1 a 4).toNatClampNeg (vp_nar .boolean x1)).1 a 4) + 1)).1), (if 6 ≤ (μ.1 a 4) then μ.2.1 else (am_si (am_si (am_si μ (a + 1) (μ.1 a 4).toNatClampNeg x0) (a + 2) ((am_si μ (a + 1) (μ.1 a 4).toNatClampNeg x0).1 a 4).toNatClampNeg (vp_nar .boolean x1)) a 4 (((am_si (am_si μ (a + 1) (μ.1 a 4).toNatClampNeg x0) (a + 2) ((am_si μ (a + 1) (μ.1 a 4).toNatClampNeg x0).1 a 4).toNatClampNeg (vp_nar .boolean x1)).1 a 4) + 1)).2.1), μ.2.2)
theorem k_X2_addDraw (μ : am_M) (a : Nat) (x0 : Int32) (x1 : Int32) (h : sh_Hel μ a) (hs : ds_X2_addDraw μ a x0 x1) : am_runs (am_en 33 [.ref a, .int x0, .int x1]) μ = some (none, dm_X2_addDraw μ a x0 x1) := by
  refine (x_X2_addDraw μ a x0 x1 h hs.1 hs.2).trans ?_
  unfold dm_X2_addDraw
  all_goals
    by_cases e1 : 6 ≤ (μ.1 a 4)
    · simp only [if_pos e1]
      all_goals rfl
    · simp only [if_neg e1]
      all_goals rfl
theorem x_X2_weightShaken (μ : am_M) (a : Nat) (h : sh_Hel μ a) : am_runs (41, 0, [.ref a], []) μ = some (some (.long ((((μ.1 a 2).toInt64) * (μ.2.1 (a + 4) 0)) * (μ.2.1 (a + 3) 1))), μ) := by
  refine Eq.trans (am_g rfl rfl) ?_
  refine Eq.trans (am_ggi rfl (congrArg Prod.fst (sh_Hel_k h))) ?_
  refine Eq.trans (am_g rfl rfl) ?_
  refine Eq.trans (am_g rfl rfl) ?_
  refine Eq.trans (am_ggr (r := (a + 4)) rfl (congrArg Prod.fst (sh_Hel_k h)) (sh_Hel_p8 h)) ?_
  refine Eq.trans (am_ggl rfl (congrArg Prod.fst (sh_Hel_a8 h))) ?_
  refine Eq.trans (am_g rfl rfl) ?_
  refine Eq.trans (am_g rfl rfl) ?_
  refine Eq.trans (am_ggr (r := (a + 3)) rfl (congrArg Prod.fst (sh_Hel_k h)) (sh_Hel_p7 h)) ?_
  refine Eq.trans (am_ggl rfl (congrArg Prod.fst (sh_Hel_a7 h))) ?_
  refine Eq.trans (am_g rfl rfl) ?_
  exact am_gr rfl rfl rfl
def dv_X2_weightShaken (μ : am_M) (a : Nat) : Int64 := (((μ.1 a 2).toInt64) * (μ.2.1 (a + 4) 0)) * (μ.2.1 (a + 3) 1)
theorem k_X2_weightShaken (μ : am_M) (a : Nat) (h : sh_Hel μ a) : am_runs (am_en 41 [.ref a]) μ = some (some (.long (dv_X2_weightShaken μ a)), μ) := by
  refine (x_X2_weightShaken μ a h).trans ?_
  rfl
theorem x_X2_weightHonest (μ : am_M) (a : Nat) (h : sh_Hel μ a) : am_runs (42, 0, [.ref a], []) μ = some (some (.long ((((100 - (μ.1 a 2)).toInt64) * (μ.2.1 (a + 3) 0)) * (μ.2.1 (a + 4) 1))), μ) := by
  refine Eq.trans (am_gbp (x := 100) rfl (by decide)) ?_
  refine Eq.trans (am_g rfl rfl) ?_
  refine Eq.trans (am_ggi rfl (congrArg Prod.fst (sh_Hel_k h))) ?_
  refine Eq.trans (am_g rfl rfl) ?_
  refine Eq.trans (am_g rfl rfl) ?_
  refine Eq.trans (am_g rfl rfl) ?_
  refine Eq.trans (am_ggr (r := (a + 3)) rfl (congrArg Prod.fst (sh_Hel_k h)) (sh_Hel_p7 h)) ?_
  refine Eq.trans (am_ggl rfl (congrArg Prod.fst (sh_Hel_a7 h))) ?_
  refine Eq.trans (am_g rfl rfl) ?_
  refine Eq.trans (am_g rfl rfl) ?_
  refine Eq.trans (am_ggr (r := (a + 4)) rfl (congrArg Prod.fst (sh_Hel_k h)) (sh_Hel_p8 h)) ?_
  refine Eq.trans (am_ggl rfl (congrArg Prod.fst (sh_Hel_a8 h))) ?_
  refine Eq.trans (am_g rfl rfl) ?_
  exact am_gr rfl rfl rfl
def dv_X2_weightHonest (μ : am_M) (a : Nat) : Int64 := (((100 - (μ.1 a 2)).toInt64) * (μ.2.1 (a + 3) 0)) * (μ.2.1 (a + 4) 1)
theorem k_X2_weightHonest (μ : am_M) (a : Nat) (h : sh_Hel μ a) : am_runs (am_en 42 [.ref a]) μ = some (some (.long (dv_X2_weightHonest μ a)), μ) := by
  refine (x_X2_weightHonest μ a h).trans ?_
  rfl
theorem x_X3_clear (μ : am_M) (a : Nat) (h : μ.2.2.2.1 a = (3, 0)) : am_runs (48, 0, [.ref a], []) μ = some (none, am_si (am_si μ a 3 0) a 4 0) := by
  refine Eq.trans (am_g rfl rfl) ?_
  refine Eq.trans (am_gic (x := 0) rfl (by decide)) ?_
  refine Eq.trans (am_gpi rfl (congrArg Prod.fst h)) ?_
  refine Eq.trans (am_g rfl rfl) ?_
  refine Eq.trans (am_gic (x := 0) rfl (by decide)) ?_
  refine Eq.trans (am_gpi rfl (congrArg Prod.fst h)) ?_
  exact am_gr rfl rfl rfl
def dm_X3_clear (μ : am_M) (a : Nat) : am_M := (((am_si (am_si μ a 3 0) a 4 0).1), ((am_si (am_si μ a 3 0) a 4 0).2.1), μ.2.2)
theorem k_X3_clear (μ : am_M) (a : Nat) (h : μ.2.2.2.1 a = (3, 0)) : am_runs (am_en 48 [.ref a]) μ = some (none, dm_X3_clear μ a) := by
  refine (x_X3_clear μ a h).trans ?_
  rfl
theorem x_X11_isPart (μ : am_M) (x0 : Int32) (x1 : Int32) : am_runs (57, 0, [.int x0, .int x1], []) μ = if (x0 &&& (x1 ^^^ (-1))) = 0 then some (some (.int 1), μ) else some (some (.int 0), μ) := by
  refine Eq.trans (am_g rfl rfl) ?_
  refine Eq.trans (am_g rfl rfl) ?_
  refine Eq.trans (am_gic (x := -1) rfl (by decide)) ?_
  refine Eq.trans (am_g rfl rfl) ?_
  refine Eq.trans (am_g rfl rfl) ?_
  refine Eq.trans (am_br rfl rfl) ?_
  refine am_itc (fun c1 => ?_) (fun c1 => ?_)
  · refine Eq.trans (am_gic (x := 1) rfl (by decide)) ?_
    refine Eq.trans (am_g rfl rfl) ?_
    exact am_grb rfl rfl (Or.inr (Or.inr rfl)) rfl
  · refine Eq.trans (am_gic (x := 0) rfl (by decide)) ?_
    exact am_grb rfl rfl (Or.inr (Or.inl rfl)) rfl
def dv_X11_isPart (μ : am_M) (x0 : Int32) (x1 : Int32) : Int32 := if (x0 &&& (x1 ^^^ (-1))) = 0 then 1 else 0
theorem k_X11_isPart (μ : am_M) (x0 : Int32) (x1 : Int32) : am_runs (am_en 57 [.int x0, .int x1]) μ = some (some (.int (dv_X11_isPart μ x0 x1)), μ) := by
  refine (x_X11_isPart μ x0 x1).trans ?_
  unfold dv_X11_isPart
  all_goals
    by_cases e1 : (x0 &&& (x1 ^^^ (-1))) = 0
    · simp only [if_pos e1]
      all_goals rfl
    · simp only [if_neg e1]
      all_goals rfl
theorem x_X7_part (μ : am_M) (a : Nat) (x0 : Int32) (h : sh_Odd μ a) : am_runs (67, 0, [.ref a, .int x0], []) μ = if x0 = 0 then some (some (.long (μ.2.1 a 0)), μ) else some (some (.long (μ.2.1 a 1)), μ) := by
  refine Eq.trans (am_g rfl rfl) ?_
  refine Eq.trans (am_br rfl rfl) ?_
  refine am_itc (fun c1 => ?_) (fun c1 => ?_)
  · refine Eq.trans (am_g rfl rfl) ?_
    refine Eq.trans (am_ggl rfl (congrArg Prod.fst (sh_Odd_k h))) ?_
    exact am_gr rfl rfl rfl
  · refine Eq.trans (am_g rfl rfl) ?_
    refine Eq.trans (am_ggl rfl (congrArg Prod.fst (sh_Odd_k h))) ?_
    refine Eq.trans (am_g rfl rfl) ?_
    exact am_gr rfl rfl rfl
def dv_X7_part (μ : am_M) (a : Nat) (x0 : Int32) : Int64 := if x0 = 0 then μ.2.1 a 0 else μ.2.1 a 1
theorem k_X7_part (μ : am_M) (a : Nat) (x0 : Int32) (h : sh_Odd μ a) : am_runs (am_en 67 [.ref a, .int x0]) μ = some (some (.long (dv_X7_part μ a x0)), μ) := by
  refine (x_X7_part μ a x0 h).trans ?_
  unfold dv_X7_part
  all_goals
    by_cases e1 : x0 = 0
    · simp only [if_pos e1]
      all_goals rfl
    · simp only [if_neg e1]
      all_goals rfl
theorem x_X8_behind (μ : am_M) (x0 : Int32) (x1 : Int32) : am_runs (76, 0, [.int x0, .int x1], []) μ = if x0 = 0 then some (some (.int 6), μ) else if x1 = 0 then some (some (.int 5), μ) else some (some (.int 0), μ) := by
  refine Eq.trans (am_g rfl rfl) ?_
  refine Eq.trans (am_br rfl rfl) ?_
  refine am_itc (fun c1 => ?_) (fun c1 => ?_)
  · refine Eq.trans (am_gbp (x := 6) rfl (by decide)) ?_
    exact am_grb rfl rfl (Or.inl rfl) rfl
  · refine Eq.trans (am_g rfl rfl) ?_
    refine Eq.trans (am_br rfl rfl) ?_
    refine am_itc (fun c2 => ?_) (fun c2 => ?_)
    · refine Eq.trans (am_gic (x := 5) rfl (by decide)) ?_
      exact am_grb rfl rfl (Or.inl rfl) rfl
    · refine Eq.trans (am_gic (x := 0) rfl (by decide)) ?_
      refine Eq.trans (am_g rfl rfl) ?_
      exact am_grb rfl rfl (Or.inl rfl) rfl
def dv_X8_behind (μ : am_M) (x0 : Int32) (x1 : Int32) : Int32 := if x0 = 0 then 6 else if x1 = 0 then 5 else 0
theorem k_X8_behind (μ : am_M) (x0 : Int32) (x1 : Int32) : am_runs (am_en 76 [.int x0, .int x1]) μ = some (some (.int (dv_X8_behind μ x0 x1)), μ) := by
  refine (x_X8_behind μ x0 x1).trans ?_
  unfold dv_X8_behind
  all_goals
    by_cases e1 : x0 = 0
    · simp only [if_pos e1]
      all_goals rfl
    · simp only [if_neg e1]
      all_goals
        by_cases e2 : x1 = 0
        · simp only [if_pos e2]
          all_goals rfl
        · simp only [if_neg e2]
          all_goals rfl
theorem x_X11_refused (μ : am_M) (a : Nat) (x0 : Int32) (h : μ.2.2.2.1 a = (11, 0)) : am_runs (113, 0, [.ref a, .int x0], []) μ = if x0 = 0 then some (some (.int 0), am_si μ a 12 x0) else some (some (.int 1), am_si μ a 12 x0) := by
  refine Eq.trans (am_g rfl rfl) ?_
  refine Eq.trans (am_g rfl rfl) ?_
  refine Eq.trans (am_gpi rfl (congrArg Prod.fst h)) ?_
  refine Eq.trans (am_g rfl rfl) ?_
  refine Eq.trans (am_br rfl rfl) ?_
  refine am_itc (fun c1 => ?_) (fun c1 => ?_)
  · refine Eq.trans (am_gic (x := 0) rfl (by decide)) ?_
    exact am_grb rfl rfl (Or.inr (Or.inl rfl)) rfl
  · refine Eq.trans (am_gic (x := 1) rfl (by decide)) ?_
    refine Eq.trans (am_g rfl rfl) ?_
    exact am_grb rfl rfl (Or.inr (Or.inr rfl)) rfl
def dv_X11_refused (μ : am_M) (a : Nat) (x0 : Int32) : Int32 := if x0 = 0 then 0 else 1
def dm_X11_refused (μ : am_M) (a : Nat) (x0 : Int32) : am_M := ((if x0 = 0 then (am_si μ a 12 x0).1 else (am_si μ a 12 x0).1), (if x0 = 0 then (am_si μ a 12 x0).2.1 else (am_si μ a 12 x0).2.1), μ.2.2)
theorem k_X11_refused (μ : am_M) (a : Nat) (x0 : Int32) (h : μ.2.2.2.1 a = (11, 0)) : am_runs (am_en 113 [.ref a, .int x0]) μ = some (some (.int (dv_X11_refused μ a x0)), dm_X11_refused μ a x0) := by
  refine (x_X11_refused μ a x0 h).trans ?_
  unfold dv_X11_refused dm_X11_refused
  all_goals
    by_cases e1 : x0 = 0
    · simp only [if_pos e1]
      all_goals rfl
    · simp only [if_neg e1]
      all_goals rfl
theorem x_X11_fault (μ : am_M) (a : Nat) (h : μ.2.2.2.1 a = (11, 0)) : am_runs (115, 0, [.ref a], []) μ = some (some (.int (μ.1 a 10)), μ) := by
  refine Eq.trans (am_g rfl rfl) ?_
  refine Eq.trans (am_ggi rfl (congrArg Prod.fst h)) ?_
  exact am_grb rfl rfl (Or.inl rfl) rfl
def dv_X11_fault (μ : am_M) (a : Nat) : Int32 := μ.1 a 10
theorem k_X11_fault (μ : am_M) (a : Nat) (h : μ.2.2.2.1 a = (11, 0)) : am_runs (am_en 115 [.ref a]) μ = some (some (.int (dv_X11_fault μ a)), μ) := by
  refine (x_X11_fault μ a h).trans ?_
  rfl
theorem x_X11_where (μ : am_M) (a : Nat) (h : μ.2.2.2.1 a = (11, 0)) : am_runs (116, 0, [.ref a], []) μ = if (μ.1 a 12) = 4 then some (some (.int (μ.1 a 11)), μ) else some (some (.int (-1)), μ) := by
  refine Eq.trans (am_g rfl rfl) ?_
  refine Eq.trans (am_ggi rfl (congrArg Prod.fst h)) ?_
  refine Eq.trans (am_gic (x := 4) rfl (by decide)) ?_
  refine Eq.trans (am_br rfl rfl) ?_
  refine am_itc (fun c1 => ?_) (fun c1 => ?_)
  · refine Eq.trans (am_g rfl rfl) ?_
    refine Eq.trans (am_ggi rfl (congrArg Prod.fst h)) ?_
    refine Eq.trans (am_g rfl rfl) ?_
    exact am_grb rfl rfl (Or.inl rfl) rfl
  · refine Eq.trans (am_gic (x := -1) rfl (by decide)) ?_
    exact am_grb rfl rfl (Or.inl rfl) rfl
def dv_X11_where (μ : am_M) (a : Nat) : Int32 := if (μ.1 a 12) = 4 then μ.1 a 11 else -1
theorem k_X11_where (μ : am_M) (a : Nat) (h : μ.2.2.2.1 a = (11, 0)) : am_runs (am_en 116 [.ref a]) μ = some (some (.int (dv_X11_where μ a)), μ) := by
  refine (x_X11_where μ a h).trans ?_
  unfold dv_X11_where
  all_goals
    by_cases e1 : (μ.1 a 12) = 4
    · simp only [if_pos e1]
      all_goals rfl
    · simp only [if_neg e1]
      all_goals rfl
theorem x_X11_firstOf (μ : am_M) (x0 : Int32) (x1 : Int32) : am_runs (125, 0, [.int x0, .int x1], []) μ = if x0 = 0 then some (some (.int x1), μ) else some (some (.int x0), μ) := by
  refine Eq.trans (am_g rfl rfl) ?_
  refine Eq.trans (am_br rfl rfl) ?_
  refine am_itc (fun c1 => ?_) (fun c1 => ?_)
  · refine Eq.trans (am_g rfl rfl) ?_
    exact am_grb rfl rfl (Or.inl rfl) rfl
  · refine Eq.trans (am_g rfl rfl) ?_
    refine Eq.trans (am_g rfl rfl) ?_
    exact am_grb rfl rfl (Or.inl rfl) rfl
def dv_X11_firstOf (μ : am_M) (x0 : Int32) (x1 : Int32) : Int32 := if x0 = 0 then x1 else x0
theorem k_X11_firstOf (μ : am_M) (x0 : Int32) (x1 : Int32) : am_runs (am_en 125 [.int x0, .int x1]) μ = some (some (.int (dv_X11_firstOf μ x0 x1)), μ) := by
  refine (x_X11_firstOf μ x0 x1).trans ?_
  unfold dv_X11_firstOf
  all_goals
    by_cases e1 : x0 = 0
    · simp only [if_pos e1]
      all_goals rfl
    · simp only [if_neg e1]
      all_goals rfl
theorem x_X11_gain (μ : am_M) (x0 : Int32) (x1 : Int32) (x2 : Int32) : am_runs (163, 0, [.int x0, .int x1, .int x2], []) μ = if x1 = 0 then if x2 = 0 then some (some (.int 5), μ) else some (some (.int (-4)), μ) else some (some (.int (3 - x0)), μ) := by
  refine Eq.trans (am_g rfl rfl) ?_
  refine Eq.trans (am_br rfl rfl) ?_
  refine am_itc (fun c1 => ?_) (fun c1 => ?_)
  · refine Eq.trans (am_g rfl rfl) ?_
    refine Eq.trans (am_br rfl rfl) ?_
    refine am_itc (fun c2 => ?_) (fun c2 => ?_)
    · refine Eq.trans (am_gic (x := 5) rfl (by decide)) ?_
      exact am_grb rfl rfl (Or.inl rfl) rfl
    · refine Eq.trans (am_gbp (x := -4) rfl (by decide)) ?_
      refine Eq.trans (am_g rfl rfl) ?_
      exact am_grb rfl rfl (Or.inl rfl) rfl
  · refine Eq.trans (am_gic (x := 3) rfl (by decide)) ?_
    refine Eq.trans (am_g rfl rfl) ?_
    refine Eq.trans (am_g rfl rfl) ?_
    exact am_grb rfl rfl (Or.inl rfl) rfl
def dv_X11_gain (μ : am_M) (x0 : Int32) (x1 : Int32) (x2 : Int32) : Int32 := if x1 = 0 then if x2 = 0 then 5 else -4 else 3 - x0
theorem k_X11_gain (μ : am_M) (x0 : Int32) (x1 : Int32) (x2 : Int32) : am_runs (am_en 163 [.int x0, .int x1, .int x2]) μ = some (some (.int (dv_X11_gain μ x0 x1 x2)), μ) := by
  refine (x_X11_gain μ x0 x1 x2).trans ?_
  unfold dv_X11_gain
  all_goals
    by_cases e1 : x1 = 0
    · simp only [if_pos e1]
      all_goals
        by_cases e2 : x2 = 0
        · simp only [if_pos e2]
          all_goals rfl
        · simp only [if_neg e2]
          all_goals rfl
    · simp only [if_neg e1]
      all_goals rfl
theorem x_X11_isRest (μ : am_M) (x0 : Int32) (x1 : Int32) : am_runs (165, 0, [.int x0, .int x1, .retAddr 0, .retAddr 0], []) μ = if x1 < 2 then if (x1 &&& 1) = 0 then if (dv_X11_gain μ x0 0 0) < (dv_X11_gain μ x0 1 0) then some (some (.int 0), μ) else if (dv_X11_gain μ x0 0 0) < (dv_X11_gain μ x0 1 0) then some (some (.int 0), μ) else some (some (.int 1), μ) else if (dv_X11_gain μ x0 0 1) < (dv_X11_gain μ x0 1 1) then some (some (.int 0), μ) else if (dv_X11_gain μ x0 1 0) < (dv_X11_gain μ x0 0 0) then some (some (.int 0), μ) else some (some (.int 1), μ) else if (x1 &&& 1) = 0 then if (dv_X11_gain μ x0 1 0) < (dv_X11_gain μ x0 0 0) then some (some (.int 0), μ) else if (dv_X11_gain μ x0 0 1) < (dv_X11_gain μ x0 1 1) then some (some (.int 0), μ) else some (some (.int 1), μ) else if (dv_X11_gain μ x0 1 1) < (dv_X11_gain μ x0 0 1) then some (some (.int 0), μ) else if (dv_X11_gain μ x0 1 1) < (dv_X11_gain μ x0 0 1) then some (some (.int 0), μ) else some (some (.int 1), μ) := by
  refine Eq.trans (am_g rfl rfl) ?_
  refine Eq.trans (am_gic (x := 2) rfl (by decide)) ?_
  refine Eq.trans (am_br rfl rfl) ?_
  refine am_itc (fun c1 => ?_) (fun c1 => ?_)
  · refine Eq.trans (am_gic (x := 0) rfl (by decide)) ?_
    refine Eq.trans (am_g rfl rfl) ?_
    refine Eq.trans (am_g rfl rfl) ?_
    refine Eq.trans (am_gic (x := 1) rfl (by decide)) ?_
    refine Eq.trans (am_g rfl rfl) ?_
    refine Eq.trans (am_br rfl rfl) ?_
    refine am_itc (fun c2 => ?_) (fun c2 => ?_)
    · refine Eq.trans (am_gic (x := 0) rfl (by decide)) ?_
      refine Eq.trans (am_g rfl rfl) ?_
      refine Eq.trans (am_g rfl rfl) ?_
      refine Eq.trans (am_g rfl rfl) ?_
      refine Eq.trans (am_g rfl rfl) ?_
      refine Eq.trans (am_gcS rfl rfl rfl rfl rfl rfl (k_X11_gain μ x0 0 0)) ?_
      refine Eq.trans (am_g rfl rfl) ?_
      refine Eq.trans (am_g rfl rfl) ?_
      refine Eq.trans (am_g rfl rfl) ?_
      refine Eq.trans (am_gic (x := 1) rfl (by decide)) ?_
      refine Eq.trans (am_g rfl rfl) ?_
      refine Eq.trans (am_g rfl rfl) ?_
      refine Eq.trans (am_gcS rfl rfl rfl rfl rfl rfl (k_X11_gain μ x0 1 0)) ?_
      refine Eq.trans (am_br rfl rfl) ?_
      refine am_itc (fun c3 => ?_) (fun c3 => ?_)
      · refine Eq.trans (am_gic (x := 0) rfl (by decide)) ?_
        exact am_grb rfl rfl (Or.inr (Or.inl rfl)) rfl
      · refine Eq.trans (am_g rfl rfl) ?_
        refine Eq.trans (am_g rfl rfl) ?_
        refine Eq.trans (am_g rfl rfl) ?_
        refine Eq.trans (am_gcS rfl rfl rfl rfl rfl rfl (k_X11_gain μ x0 0 0)) ?_
        refine Eq.trans (am_g rfl rfl) ?_
        refine Eq.trans (am_g rfl rfl) ?_
        refine Eq.trans (am_g rfl rfl) ?_
        refine Eq.trans (am_gic (x := 1) rfl (by decide)) ?_
        refine Eq.trans (am_g rfl rfl) ?_
        refine Eq.trans (am_g rfl rfl) ?_
        refine Eq.trans (am_gcS rfl rfl rfl rfl rfl rfl (k_X11_gain μ x0 1 0)) ?_
        refine Eq.trans (am_br rfl rfl) ?_
        refine am_itc (fun c4 => ?_) (fun c4 => ?_)
        · refine Eq.trans (am_gic (x := 0) rfl (by decide)) ?_
          exact am_grb rfl rfl (Or.inr (Or.inl rfl)) rfl
        · refine Eq.trans (am_gic (x := 1) rfl (by decide)) ?_
          refine Eq.trans (am_g rfl rfl) ?_
          exact am_grb rfl rfl (Or.inr (Or.inr rfl)) rfl
    · refine Eq.trans (am_gic (x := 1) rfl (by decide)) ?_
      refine Eq.trans (am_g rfl rfl) ?_
      refine Eq.trans (am_g rfl rfl) ?_
      refine Eq.trans (am_g rfl rfl) ?_
      refine Eq.trans (am_g rfl rfl) ?_
      refine Eq.trans (am_g rfl rfl) ?_
      refine Eq.trans (am_gcS rfl rfl rfl rfl rfl rfl (k_X11_gain μ x0 0 1)) ?_
      refine Eq.trans (am_g rfl rfl) ?_
      refine Eq.trans (am_g rfl rfl) ?_
      refine Eq.trans (am_g rfl rfl) ?_
      refine Eq.trans (am_gic (x := 1) rfl (by decide)) ?_
      refine Eq.trans (am_g rfl rfl) ?_
      refine Eq.trans (am_g rfl rfl) ?_
      refine Eq.trans (am_gcS rfl rfl rfl rfl rfl rfl (k_X11_gain μ x0 1 1)) ?_
      refine Eq.trans (am_br rfl rfl) ?_
      refine am_itc (fun c3 => ?_) (fun c3 => ?_)
      · refine Eq.trans (am_gic (x := 0) rfl (by decide)) ?_
        exact am_grb rfl rfl (Or.inr (Or.inl rfl)) rfl
      · refine Eq.trans (am_g rfl rfl) ?_
        refine Eq.trans (am_g rfl rfl) ?_
        refine Eq.trans (am_g rfl rfl) ?_
        refine Eq.trans (am_gcS rfl rfl rfl rfl rfl rfl (k_X11_gain μ x0 1 0)) ?_
        refine Eq.trans (am_g rfl rfl) ?_
        refine Eq.trans (am_g rfl rfl) ?_
        refine Eq.trans (am_g rfl rfl) ?_
        refine Eq.trans (am_gic (x := 0) rfl (by decide)) ?_
        refine Eq.trans (am_g rfl rfl) ?_
        refine Eq.trans (am_gcS rfl rfl rfl rfl rfl rfl (k_X11_gain μ x0 0 0)) ?_
        refine Eq.trans (am_br rfl rfl) ?_
        refine am_itc (fun c4 => ?_) (fun c4 => ?_)
        · refine Eq.trans (am_gic (x := 0) rfl (by decide)) ?_
          exact am_grb rfl rfl (Or.inr (Or.inl rfl)) rfl
        · refine Eq.trans (am_gic (x := 1) rfl (by decide)) ?_
          refine Eq.trans (am_g rfl rfl) ?_
          exact am_grb rfl rfl (Or.inr (Or.inr rfl)) rfl
  · refine Eq.trans (am_gic (x := 1) rfl (by decide)) ?_
    refine Eq.trans (am_g rfl rfl) ?_
    refine Eq.trans (am_g rfl rfl) ?_
    refine Eq.trans (am_g rfl rfl) ?_
    refine Eq.trans (am_gic (x := 1) rfl (by decide)) ?_
    refine Eq.trans (am_g rfl rfl) ?_
    refine Eq.trans (am_br rfl rfl) ?_
    refine am_itc (fun c2 => ?_) (fun c2 => ?_)
    · refine Eq.trans (am_gic (x := 0) rfl (by decide)) ?_
      refine Eq.trans (am_g rfl rfl) ?_
      refine Eq.trans (am_g rfl rfl) ?_
      refine Eq.trans (am_g rfl rfl) ?_
      refine Eq.trans (am_g rfl rfl) ?_
      refine Eq.trans (am_gcS rfl rfl rfl rfl rfl rfl (k_X11_gain μ x0 1 0)) ?_
      refine Eq.trans (am_g rfl rfl) ?_
      refine Eq.trans (am_g rfl rfl) ?_
      refine Eq.trans (am_g rfl rfl) ?_
      refine Eq.trans (am_gic (x := 0) rfl (by decide)) ?_
      refine Eq.trans (am_g rfl rfl) ?_
      refine Eq.trans (am_gcS rfl rfl rfl rfl rfl rfl (k_X11_gain μ x0 0 0)) ?_
      refine Eq.trans (am_br rfl rfl) ?_
      refine am_itc (fun c3 => ?_) (fun c3 => ?_)
      · refine Eq.trans (am_gic (x := 0) rfl (by decide)) ?_
        exact am_grb rfl rfl (Or.inr (Or.inl rfl)) rfl
      · refine Eq.trans (am_g rfl rfl) ?_
        refine Eq.trans (am_g rfl rfl) ?_
        refine Eq.trans (am_g rfl rfl) ?_
        refine Eq.trans (am_gcS rfl rfl rfl rfl rfl rfl (k_X11_gain μ x0 0 1)) ?_
        refine Eq.trans (am_g rfl rfl) ?_
        refine Eq.trans (am_g rfl rfl) ?_
        refine Eq.trans (am_g rfl rfl) ?_
        refine Eq.trans (am_gic (x := 1) rfl (by decide)) ?_
        refine Eq.trans (am_g rfl rfl) ?_
        refine Eq.trans (am_g rfl rfl) ?_
        refine Eq.trans (am_gcS rfl rfl rfl rfl rfl rfl (k_X11_gain μ x0 1 1)) ?_
        refine Eq.trans (am_br rfl rfl) ?_
        refine am_itc (fun c4 => ?_) (fun c4 => ?_)
        · refine Eq.trans (am_gic (x := 0) rfl (by decide)) ?_
          exact am_grb rfl rfl (Or.inr (Or.inl rfl)) rfl
        · refine Eq.trans (am_gic (x := 1) rfl (by decide)) ?_
          refine Eq.trans (am_g rfl rfl) ?_
          exact am_grb rfl rfl (Or.inr (Or.inr rfl)) rfl
    · refine Eq.trans (am_gic (x := 1) rfl (by decide)) ?_
      refine Eq.trans (am_g rfl rfl) ?_
      refine Eq.trans (am_g rfl rfl) ?_
      refine Eq.trans (am_g rfl rfl) ?_
      refine Eq.trans (am_g rfl rfl) ?_
      refine Eq.trans (am_g rfl rfl) ?_
      refine Eq.trans (am_gcS rfl rfl rfl rfl rfl rfl (k_X11_gain μ x0 1 1)) ?_
      refine Eq.trans (am_g rfl rfl) ?_
      refine Eq.trans (am_g rfl rfl) ?_
      refine Eq.trans (am_g rfl rfl) ?_
      refine Eq.trans (am_gic (x := 0) rfl (by decide)) ?_
      refine Eq.trans (am_g rfl rfl) ?_
      refine Eq.trans (am_gcS rfl rfl rfl rfl rfl rfl (k_X11_gain μ x0 0 1)) ?_
      refine Eq.trans (am_br rfl rfl) ?_
      refine am_itc (fun c3 => ?_) (fun c3 => ?_)
      · refine Eq.trans (am_gic (x := 0) rfl (by decide)) ?_
        exact am_grb rfl rfl (Or.inr (Or.inl rfl)) rfl
      · refine Eq.trans (am_g rfl rfl) ?_
        refine Eq.trans (am_g rfl rfl) ?_
        refine Eq.trans (am_g rfl rfl) ?_
        refine Eq.trans (am_gcS rfl rfl rfl rfl rfl rfl (k_X11_gain μ x0 1 1)) ?_
        refine Eq.trans (am_g rfl rfl) ?_
        refine Eq.trans (am_g rfl rfl) ?_
        refine Eq.trans (am_g rfl rfl) ?_
        refine Eq.trans (am_gic (x := 0) rfl (by decide)) ?_
        refine Eq.trans (am_g rfl rfl) ?_
        refine Eq.trans (am_gcS rfl rfl rfl rfl rfl rfl (k_X11_gain μ x0 0 1)) ?_
        refine Eq.trans (am_br rfl rfl) ?_
        refine am_itc (fun c4 => ?_) (fun c4 => ?_)
        · refine Eq.trans (am_gic (x := 0) rfl (by decide)) ?_
          exact am_grb rfl rfl (Or.inr (Or.inl rfl)) rfl
        · refine Eq.trans (am_gic (x := 1) rfl (by decide)) ?_
          refine Eq.trans (am_g rfl rfl) ?_
          exact am_grb rfl rfl (Or.inr (Or.inr rfl)) rfl
def dv_X11_isRest (μ : am_M) (x0 : Int32) (x1 : Int32) : Int32 := if x1 < 2 then if (x1 &&& 1) = 0 then if (dv_X11_gain μ x0 0 0) < (dv_X11_gain μ x0 1 0) then 0 else if (dv_X11_gain μ x0 0 0) < (dv_X11_gain μ x0 1 0) then 0 else 1 else if (dv_X11_gain μ x0 0 1) < (dv_X11_gain μ x0 1 1) then 0 else if (dv_X11_gain μ x0 1 0) < (dv_X11_gain μ x0 0 0) then 0 else 1 else if (x1 &&& 1) = 0 then if (dv_X11_gain μ x0 1 0) < (dv_X11_gain μ x0 0 0) then 0 else if (dv_X11_gain μ x0 0 1) < (dv_X11_gain μ x0 1 1) then 0 else 1 else if (dv_X11_gain μ x0 1 1) < (dv_X11_gain μ x0 0 1) then 0 else if (dv_X11_gain μ x0 1 1) < (dv_X11_gain μ x0 0 1) then 0 else 1
theorem k_X11_isRest (μ : am_M) (x0 : Int32) (x1 : Int32) : am_runs (am_en 165 [.int x0, .int x1]) μ = some (some (.int (dv_X11_isRest μ x0 x1)), μ) := by
  refine (x_X11_isRest μ x0 x1).trans ?_
  unfold dv_X11_isRest
  all_goals
    by_cases e1 : x1 < 2
    · simp only [if_pos e1]
      all_goals
        by_cases e2 : (x1 &&& 1) = 0
        · simp only [if_pos e2]
          all_goals
            by_cases e3 : (dv_X11_gain μ x0 0 0) < (dv_X11_gain μ x0 1 0)
            · simp only [if_pos e3]
              all_goals rfl
            · simp only [if_neg e3]
              all_goals
                by_cases e4 : (dv_X11_gain μ x0 0 0) < (dv_X11_gain μ x0 1 0)
                · simp only [if_pos e4]
                  all_goals rfl
                · simp only [if_neg e4]
                  all_goals rfl
        · simp only [if_neg e2]
          all_goals
            by_cases e3 : (dv_X11_gain μ x0 0 1) < (dv_X11_gain μ x0 1 1)
            · simp only [if_pos e3]
              all_goals rfl
            · simp only [if_neg e3]
              all_goals
                by_cases e4 : (dv_X11_gain μ x0 1 0) < (dv_X11_gain μ x0 0 0)
                · simp only [if_pos e4]
                  all_goals rfl
                · simp only [if_neg e4]
                  all_goals rfl
    · simp only [if_neg e1]
      all_goals
        by_cases e2 : (x1 &&& 1) = 0
        · simp only [if_pos e2]
          all_goals
            by_cases e3 : (dv_X11_gain μ x0 1 0) < (dv_X11_gain μ x0 0 0)
            · simp only [if_pos e3]
              all_goals rfl
            · simp only [if_neg e3]
              all_goals
                by_cases e4 : (dv_X11_gain μ x0 0 1) < (dv_X11_gain μ x0 1 1)
                · simp only [if_pos e4]
                  all_goals rfl
                · simp only [if_neg e4]
                  all_goals rfl
        · simp only [if_neg e2]
          all_goals
            by_cases e3 : (dv_X11_gain μ x0 1 1) < (dv_X11_gain μ x0 0 1)
            · simp only [if_pos e3]
              all_goals rfl
            · simp only [if_neg e3]
              all_goals
                by_cases e4 : (dv_X11_gain μ x0 1 1) < (dv_X11_gain μ x0 0 1)
                · simp only [if_pos e4]
                  all_goals rfl
                · simp only [if_neg e4]
                  all_goals rfl
theorem x_X11_troubleOfSeed (μ : am_M) (x0 : Int32) : am_runs (168, 0, [.int x0], []) μ = if x0 < 0 then some (some (.int 2), μ) else if x0 < 65537 then some (some (.int 0), μ) else some (some (.int 2), μ) := by
  refine Eq.trans (am_g rfl rfl) ?_
  refine Eq.trans (am_br rfl rfl) ?_
  refine am_itc (fun c1 => ?_) (fun c1 => ?_)
  · refine Eq.trans (am_gic (x := 2) rfl (by decide)) ?_
    refine Eq.trans (am_g rfl rfl) ?_
    exact am_grb rfl rfl (Or.inl rfl) rfl
  · refine Eq.trans (am_g rfl rfl) ?_
    refine Eq.trans (am_gliw (x := 65537) rfl (by decide)) ?_
    refine Eq.trans (am_br rfl rfl) ?_
    refine am_itc (fun c2 => ?_) (fun c2 => ?_)
    · refine Eq.trans (am_gic (x := 0) rfl (by decide)) ?_
      exact am_grb rfl rfl (Or.inl rfl) rfl
    · refine Eq.trans (am_gic (x := 2) rfl (by decide)) ?_
      refine Eq.trans (am_g rfl rfl) ?_
      exact am_grb rfl rfl (Or.inl rfl) rfl
def dv_X11_troubleOfSeed (μ : am_M) (x0 : Int32) : Int32 := if x0 < 0 then 2 else if x0 < 65537 then 0 else 2
theorem k_X11_troubleOfSeed (μ : am_M) (x0 : Int32) : am_runs (am_en 168 [.int x0]) μ = some (some (.int (dv_X11_troubleOfSeed μ x0)), μ) := by
  refine (x_X11_troubleOfSeed μ x0).trans ?_
  unfold dv_X11_troubleOfSeed
  all_goals
    by_cases e1 : x0 < 0
    · simp only [if_pos e1]
      all_goals rfl
    · simp only [if_neg e1]
      all_goals
        by_cases e2 : x0 < 65537
        · simp only [if_pos e2]
          all_goals rfl
        · simp only [if_neg e2]
          all_goals rfl
theorem x_X11_troubleOfWars (μ : am_M) (x0 : Int32) (x1 : Int32) : am_runs (169, 0, [.int x0, .int x1], []) μ = if x1 < 0 then some (some (.int (dv_X11_firstOf μ (dv_X11_troubleOfSeed μ x0) 2)), μ) else if x1 ≤ 60 then some (some (.int (dv_X11_firstOf μ (dv_X11_troubleOfSeed μ x0) 0)), μ) else some (some (.int (dv_X11_firstOf μ (dv_X11_troubleOfSeed μ x0) 2)), μ) := by
  refine Eq.trans (am_g rfl rfl) ?_
  refine Eq.trans (am_gcS rfl rfl rfl rfl rfl rfl (k_X11_troubleOfSeed μ x0)) ?_
  refine Eq.trans (am_g rfl rfl) ?_
  refine Eq.trans (am_br rfl rfl) ?_
  refine am_itc (fun c1 => ?_) (fun c1 => ?_)
  · refine Eq.trans (am_gic (x := 2) rfl (by decide)) ?_
    refine Eq.trans (am_g rfl rfl) ?_
    refine Eq.trans (am_gcS rfl rfl rfl rfl rfl rfl (k_X11_firstOf μ (dv_X11_troubleOfSeed μ x0) 2)) ?_
    exact am_grb rfl rfl (Or.inl rfl) rfl
  · refine Eq.trans (am_g rfl rfl) ?_
    refine Eq.trans (am_gbp (x := 60) rfl (by decide)) ?_
    refine Eq.trans (am_br rfl rfl) ?_
    refine am_itc (fun c2 => ?_) (fun c2 => ?_)
    · refine Eq.trans (am_gic (x := 0) rfl (by decide)) ?_
      refine Eq.trans (am_gcS rfl rfl rfl rfl rfl rfl (k_X11_firstOf μ (dv_X11_troubleOfSeed μ x0) 0)) ?_
      exact am_grb rfl rfl (Or.inl rfl) rfl
    · refine Eq.trans (am_gic (x := 2) rfl (by decide)) ?_
      refine Eq.trans (am_g rfl rfl) ?_
      refine Eq.trans (am_gcS rfl rfl rfl rfl rfl rfl (k_X11_firstOf μ (dv_X11_troubleOfSeed μ x0) 2)) ?_
      exact am_grb rfl rfl (Or.inl rfl) rfl
def dv_X11_troubleOfWars (μ : am_M) (x0 : Int32) (x1 : Int32) : Int32 := if x1 < 0 then dv_X11_firstOf μ (dv_X11_troubleOfSeed μ x0) 2 else if x1 ≤ 60 then dv_X11_firstOf μ (dv_X11_troubleOfSeed μ x0) 0 else dv_X11_firstOf μ (dv_X11_troubleOfSeed μ x0) 2
theorem k_X11_troubleOfWars (μ : am_M) (x0 : Int32) (x1 : Int32) : am_runs (am_en 169 [.int x0, .int x1]) μ = some (some (.int (dv_X11_troubleOfWars μ x0 x1)), μ) := by
  refine (x_X11_troubleOfWars μ x0 x1).trans ?_
  unfold dv_X11_troubleOfWars
  all_goals
    by_cases e1 : x1 < 0
    · simp only [if_pos e1]
      all_goals rfl
    · simp only [if_neg e1]
      all_goals
        by_cases e2 : x1 ≤ 60
        · simp only [if_pos e2]
          all_goals rfl
        · simp only [if_neg e2]
          all_goals rfl
theorem x_X11_trouble (μ : am_M) (a : Nat) (h : μ.2.2.2.1 a = (11, 0)) : am_runs (181, 0, [.ref a], []) μ = some (some (.int (μ.1 a 12)), μ) := by
  refine Eq.trans (am_g rfl rfl) ?_
  refine Eq.trans (am_ggi rfl (congrArg Prod.fst h)) ?_
  exact am_grb rfl rfl (Or.inl rfl) rfl
def dv_X11_trouble (μ : am_M) (a : Nat) : Int32 := μ.1 a 12
theorem k_X11_trouble (μ : am_M) (a : Nat) (h : μ.2.2.2.1 a = (11, 0)) : am_runs (am_en 181 [.ref a]) μ = some (some (.int (dv_X11_trouble μ a)), μ) := by
  refine (x_X11_trouble μ a h).trans ?_
  rfl
theorem x_X12_thrown (μ : am_M) (a : Nat) (h : sh_Mod μ a) : am_runs (183, 0, [.ref a], []) μ = some (some (.int (μ.1 a 0)), μ) := by
  refine Eq.trans (am_g rfl rfl) ?_
  refine Eq.trans (am_ggi rfl (congrArg Prod.fst (sh_Mod_k h))) ?_
  exact am_grb rfl rfl (Or.inl rfl) rfl
def dv_X12_thrown (μ : am_M) (a : Nat) : Int32 := μ.1 a 0
theorem k_X12_thrown (μ : am_M) (a : Nat) (h : sh_Mod μ a) : am_runs (am_en 183 [.ref a]) μ = some (some (.int (dv_X12_thrown μ a)), μ) := by
  refine (x_X12_thrown μ a h).trans ?_
  rfl
theorem x_X12_good (μ : am_M) (a : Nat) (h : sh_Mod μ a) : am_runs (184, 0, [.ref a], []) μ = some (none, am_si (am_si μ a 0 0) a 11 0) := by
  refine Eq.trans (am_g rfl rfl) ?_
  refine Eq.trans (am_gic (x := 0) rfl (by decide)) ?_
  refine Eq.trans (am_gpi rfl (congrArg Prod.fst (sh_Mod_k h))) ?_
  refine Eq.trans (am_g rfl rfl) ?_
  refine Eq.trans (am_gic (x := 0) rfl (by decide)) ?_
  refine Eq.trans (am_gpi rfl (congrArg Prod.fst (sh_Mod_k h))) ?_
  exact am_gr rfl rfl rfl
def dm_X12_good (μ : am_M) (a : Nat) : am_M := (((am_si (am_si μ a 0 0) a 11 0).1), ((am_si (am_si μ a 0 0) a 11 0).2.1), μ.2.2)
theorem k_X12_good (μ : am_M) (a : Nat) (h : sh_Mod μ a) : am_runs (am_en 184 [.ref a]) μ = some (none, dm_X12_good μ a) := by
  refine (x_X12_good μ a h).trans ?_
  rfl
theorem x_X12_no (μ : am_M) (a : Nat) (x0 : Int32) (h : sh_Mod μ a) : am_runs (185, 0, [.ref a, .int x0], []) μ = some (some (.int (-1)), am_si μ a 11 x0) := by
  refine Eq.trans (am_g rfl rfl) ?_
  refine Eq.trans (am_g rfl rfl) ?_
  refine Eq.trans (am_gpi rfl (congrArg Prod.fst (sh_Mod_k h))) ?_
  refine Eq.trans (am_gic (x := -1) rfl (by decide)) ?_
  exact am_grb rfl rfl (Or.inl rfl) rfl
def dv_X12_no (μ : am_M) (a : Nat) (x0 : Int32) : Int32 := -1
def dm_X12_no (μ : am_M) (a : Nat) (x0 : Int32) : am_M := (((am_si μ a 11 x0).1), ((am_si μ a 11 x0).2.1), μ.2.2)
theorem k_X12_no (μ : am_M) (a : Nat) (x0 : Int32) (h : sh_Mod μ a) : am_runs (am_en 185 [.ref a, .int x0]) μ = some (some (.int (dv_X12_no μ a x0)), dm_X12_no μ a x0) := by
  refine (x_X12_no μ a x0 h).trans ?_
  rfl
theorem x_X12_isNot (μ : am_M) (a : Nat) (x0 : Int32) (h : sh_Mod μ a) : am_runs (186, 0, [.ref a, .int x0], []) μ = some (some (.int 0), am_si μ a 11 x0) := by
  refine Eq.trans (am_g rfl rfl) ?_
  refine Eq.trans (am_g rfl rfl) ?_
  refine Eq.trans (am_gpi rfl (congrArg Prod.fst (sh_Mod_k h))) ?_
  refine Eq.trans (am_gic (x := 0) rfl (by decide)) ?_
  exact am_grb rfl rfl (Or.inr (Or.inl rfl)) rfl
def dv_X12_isNot (μ : am_M) (a : Nat) (x0 : Int32) : Int32 := 0
def dm_X12_isNot (μ : am_M) (a : Nat) (x0 : Int32) : am_M := (((am_si μ a 11 x0).1), ((am_si μ a 11 x0).2.1), μ.2.2)
theorem k_X12_isNot (μ : am_M) (a : Nat) (x0 : Int32) (h : sh_Mod μ a) : am_runs (am_en 186 [.ref a, .int x0]) μ = some (some (.int (dv_X12_isNot μ a x0)), dm_X12_isNot μ a x0) := by
  refine (x_X12_isNot μ a x0 h).trans ?_
  rfl
theorem x_X12_in (μ : am_M) (x0 : Int32) (x1 : Int32) (x2 : Int32) : am_runs (187, 0, [.int x0, .int x1, .int x2], []) μ = if x0 < x1 then some (some (.int 0), μ) else if x2 < x0 then some (some (.int 0), μ) else some (some (.int 1), μ) := by
  refine Eq.trans (am_g rfl rfl) ?_
  refine Eq.trans (am_g rfl rfl) ?_
  refine Eq.trans (am_br rfl rfl) ?_
  refine am_itc (fun c1 => ?_) (fun c1 => ?_)
  · refine Eq.trans (am_gic (x := 0) rfl (by decide)) ?_
    exact am_grb rfl rfl (Or.inr (Or.inl rfl)) rfl
  · refine Eq.trans (am_g rfl rfl) ?_
    refine Eq.trans (am_g rfl rfl) ?_
    refine Eq.trans (am_br rfl rfl) ?_
    refine am_itc (fun c2 => ?_) (fun c2 => ?_)
    · refine Eq.trans (am_gic (x := 0) rfl (by decide)) ?_
      exact am_grb rfl rfl (Or.inr (Or.inl rfl)) rfl
    · refine Eq.trans (am_gic (x := 1) rfl (by decide)) ?_
      refine Eq.trans (am_g rfl rfl) ?_
      exact am_grb rfl rfl (Or.inr (Or.inr rfl)) rfl
def dv_X12_in (μ : am_M) (x0 : Int32) (x1 : Int32) (x2 : Int32) : Int32 := if x0 < x1 then 0 else if x2 < x0 then 0 else 1
theorem k_X12_in (μ : am_M) (x0 : Int32) (x1 : Int32) (x2 : Int32) : am_runs (am_en 187 [.int x0, .int x1, .int x2]) μ = some (some (.int (dv_X12_in μ x0 x1 x2)), μ) := by
  refine (x_X12_in μ x0 x1 x2).trans ?_
  unfold dv_X12_in
  all_goals
    by_cases e1 : x0 < x1
    · simp only [if_pos e1]
      all_goals rfl
    · simp only [if_neg e1]
      all_goals
        by_cases e2 : x2 < x0
        · simp only [if_pos e2]
          all_goals rfl
        · simp only [if_neg e2]
          all_goals rfl
theorem x_X12_hasBit (μ : am_M) (x0 : Int32) (x1 : Int32) : am_runs (188, 0, [.int x0, .int x1], []) μ = if ((x0 >>> (x1 &&& 31)) &&& 1) = 1 then some (some (.int 1), μ) else some (some (.int 0), μ) := by
  refine Eq.trans (am_g rfl rfl) ?_
  refine Eq.trans (am_g rfl rfl) ?_
  refine Eq.trans (am_g rfl rfl) ?_
  refine Eq.trans (am_gic (x := 1) rfl (by decide)) ?_
  refine Eq.trans (am_g rfl rfl) ?_
  refine Eq.trans (am_gic (x := 1) rfl (by decide)) ?_
  refine Eq.trans (am_br rfl rfl) ?_
  refine am_itc (fun c1 => ?_) (fun c1 => ?_)
  · refine Eq.trans (am_gic (x := 1) rfl (by decide)) ?_
    refine Eq.trans (am_g rfl rfl) ?_
    exact am_grb rfl rfl (Or.inr (Or.inr rfl)) rfl
  · refine Eq.trans (am_gic (x := 0) rfl (by decide)) ?_
    exact am_grb rfl rfl (Or.inr (Or.inl rfl)) rfl
def dv_X12_hasBit (μ : am_M) (x0 : Int32) (x1 : Int32) : Int32 := if ((x0 >>> (x1 &&& 31)) &&& 1) = 1 then 1 else 0
theorem k_X12_hasBit (μ : am_M) (x0 : Int32) (x1 : Int32) : am_runs (am_en 188 [.int x0, .int x1]) μ = some (some (.int (dv_X12_hasBit μ x0 x1)), μ) := by
  refine (x_X12_hasBit μ x0 x1).trans ?_
  unfold dv_X12_hasBit
  all_goals
    by_cases e1 : ((x0 >>> (x1 &&& 31)) &&& 1) = 1
    · simp only [if_pos e1]
      all_goals rfl
    · simp only [if_neg e1]
      all_goals rfl
theorem x_X12_look (μ : am_M) (a : Nat) (x0 : Int32) (h : sh_Mod μ a) (s1 : (¬ ((μ.1 a 3) ≤ x0)) → am_out x0 1000 = false) : am_runs (193, 0, [.ref a, .int x0], []) μ = if (μ.1 a 3) ≤ x0 then some (some (.int (-1)), μ) else some (some (.int (μ.1 (a + 1) x0.toNatClampNeg)), μ) := by
  refine Eq.trans (am_g rfl rfl) ?_
  refine Eq.trans (am_g rfl rfl) ?_
  refine Eq.trans (am_ggi rfl (congrArg Prod.fst (sh_Mod_k h))) ?_
  refine Eq.trans (am_br rfl rfl) ?_
  refine am_itc (fun c1 => ?_) (fun c1 => ?_)
  · refine Eq.trans (am_gic (x := -1) rfl (by decide)) ?_
    exact am_grb rfl rfl (Or.inl rfl) rfl
  · refine Eq.trans (am_g rfl rfl) ?_
    refine Eq.trans (am_ggr (r := (a + 1)) rfl (congrArg Prod.fst (sh_Mod_k h)) (sh_Mod_p1 h)) ?_
    refine Eq.trans (am_g rfl rfl) ?_
    refine Eq.trans (am_gaiN rfl (sh_Mod_a1 h) (s1 c1) rfl) ?_
    refine Eq.trans (am_g rfl rfl) ?_
    exact am_grb rfl rfl (Or.inl rfl) rfl
def ds_X12_look (μ : am_M) (a : Nat) (x0 : Int32) : Prop := ((¬ ((μ.1 a 3) ≤ x0)) → am_out x0 1000 = false)
def dv_X12_look (μ : am_M) (a : Nat) (x0 : Int32) : Int32 := if (μ.1 a 3) ≤ x0 then -1 else μ.1 (a + 1) x0.toNatClampNeg
theorem k_X12_look (μ : am_M) (a : Nat) (x0 : Int32) (h : sh_Mod μ a) (hs : ds_X12_look μ a x0) : am_runs (am_en 193 [.ref a, .int x0]) μ = some (some (.int (dv_X12_look μ a x0)), μ) := by
  refine (x_X12_look μ a x0 h hs).trans ?_
  unfold dv_X12_look
  all_goals
    by_cases e1 : (μ.1 a 3) ≤ x0
    · simp only [if_pos e1]
      all_goals rfl
    · simp only [if_neg e1]
      all_goals rfl
theorem x_X12_isSmall (μ : am_M) (x0 : Int32) : am_runs (194, 0, [.int x0], []) μ = if x0 < 97 then some (some (.int 0), μ) else if 122 < x0 then some (some (.int 0), μ) else some (some (.int 1), μ) := by
  refine Eq.trans (am_g rfl rfl) ?_
  refine Eq.trans (am_gbp (x := 97) rfl (by decide)) ?_
  refine Eq.trans (am_br rfl rfl) ?_
  refine am_itc (fun c1 => ?_) (fun c1 => ?_)
  · refine Eq.trans (am_gic (x := 0) rfl (by decide)) ?_
    exact am_grb rfl rfl (Or.inr (Or.inl rfl)) rfl
  · refine Eq.trans (am_g rfl rfl) ?_
    refine Eq.trans (am_gbp (x := 122) rfl (by decide)) ?_
    refine Eq.trans (am_br rfl rfl) ?_
    refine am_itc (fun c2 => ?_) (fun c2 => ?_)
    · refine Eq.trans (am_gic (x := 0) rfl (by decide)) ?_
      exact am_grb rfl rfl (Or.inr (Or.inl rfl)) rfl
    · refine Eq.trans (am_gic (x := 1) rfl (by decide)) ?_
      refine Eq.trans (am_g rfl rfl) ?_
      exact am_grb rfl rfl (Or.inr (Or.inr rfl)) rfl
def dv_X12_isSmall (μ : am_M) (x0 : Int32) : Int32 := if x0 < 97 then 0 else if 122 < x0 then 0 else 1
theorem k_X12_isSmall (μ : am_M) (x0 : Int32) : am_runs (am_en 194 [.int x0]) μ = some (some (.int (dv_X12_isSmall μ x0)), μ) := by
  refine (x_X12_isSmall μ x0).trans ?_
  unfold dv_X12_isSmall
  all_goals
    by_cases e1 : x0 < 97
    · simp only [if_pos e1]
      all_goals rfl
    · simp only [if_neg e1]
      all_goals
        by_cases e2 : 122 < x0
        · simp only [if_pos e2]
          all_goals rfl
        · simp only [if_neg e2]
          all_goals rfl
theorem x_X12_isDigit (μ : am_M) (x0 : Int32) : am_runs (195, 0, [.int x0], []) μ = if x0 < 48 then some (some (.int 0), μ) else if 57 < x0 then some (some (.int 0), μ) else some (some (.int 1), μ) := by
  refine Eq.trans (am_g rfl rfl) ?_
  refine Eq.trans (am_gbp (x := 48) rfl (by decide)) ?_
  refine Eq.trans (am_br rfl rfl) ?_
  refine am_itc (fun c1 => ?_) (fun c1 => ?_)
  · refine Eq.trans (am_gic (x := 0) rfl (by decide)) ?_
    exact am_grb rfl rfl (Or.inr (Or.inl rfl)) rfl
  · refine Eq.trans (am_g rfl rfl) ?_
    refine Eq.trans (am_gbp (x := 57) rfl (by decide)) ?_
    refine Eq.trans (am_br rfl rfl) ?_
    refine am_itc (fun c2 => ?_) (fun c2 => ?_)
    · refine Eq.trans (am_gic (x := 0) rfl (by decide)) ?_
      exact am_grb rfl rfl (Or.inr (Or.inl rfl)) rfl
    · refine Eq.trans (am_gic (x := 1) rfl (by decide)) ?_
      refine Eq.trans (am_g rfl rfl) ?_
      exact am_grb rfl rfl (Or.inr (Or.inr rfl)) rfl
def dv_X12_isDigit (μ : am_M) (x0 : Int32) : Int32 := if x0 < 48 then 0 else if 57 < x0 then 0 else 1
theorem k_X12_isDigit (μ : am_M) (x0 : Int32) : am_runs (am_en 195 [.int x0]) μ = some (some (.int (dv_X12_isDigit μ x0)), μ) := by
  refine (x_X12_isDigit μ x0).trans ?_
  unfold dv_X12_isDigit
  all_goals
    by_cases e1 : x0 < 48
    · simp only [if_pos e1]
      all_goals rfl
    · simp only [if_neg e1]
      all_goals
        by_cases e2 : 57 < x0
        · simp only [if_pos e2]
          all_goals rfl
        · simp only [if_neg e2]
          all_goals rfl
theorem x_X12_bad (μ : am_M) (a : Nat) (x0 : Int32) (x1 : Int32) (h : sh_Mod μ a) : am_runs (197, 0, [.ref a, .int x0, .int x1], []) μ = if (μ.1 a 13) = 0 then some (none, am_si (am_si (am_si μ a 13 1) a 9 x0) a 10 x1) else some (none, μ) := by
  refine Eq.trans (am_g rfl rfl) ?_
  refine Eq.trans (am_ggz rfl (congrArg Prod.fst (sh_Mod_k h))) ?_
  refine Eq.trans (am_br rfl rfl) ?_
  refine am_itc (fun c1 => ?_) (fun c1 => ?_)
  · refine Eq.trans (am_g rfl rfl) ?_
    refine Eq.trans (am_gic (x := 1) rfl (by decide)) ?_
    refine Eq.trans (am_gpz rfl (congrArg Prod.fst (sh_Mod_k h)) (Or.inr rfl)) ?_
    refine Eq.trans (am_g rfl rfl) ?_
    refine Eq.trans (am_g rfl rfl) ?_
    refine Eq.trans (am_gpi rfl (congrArg Prod.fst (sh_Mod_k h))) ?_
    refine Eq.trans (am_g rfl rfl) ?_
    refine Eq.trans (am_g rfl rfl) ?_
    refine Eq.trans (am_gpi rfl (congrArg Prod.fst (sh_Mod_k h))) ?_
    exact am_gr rfl rfl rfl
  · exact am_gr rfl rfl rfl
def dm_X12_bad (μ : am_M) (a : Nat) (x0 : Int32) (x1 : Int32) : am_M := ((if (μ.1 a 13) = 0 then (am_si (am_si (am_si μ a 13 1) a 9 x0) a 10 x1).1 else μ.1), (if (μ.1 a 13) = 0 then (am_si (am_si (am_si μ a 13 1) a 9 x0) a 10 x1).2.1 else μ.2.1), μ.2.2)
theorem k_X12_bad (μ : am_M) (a : Nat) (x0 : Int32) (x1 : Int32) (h : sh_Mod μ a) : am_runs (am_en 197 [.ref a, .int x0, .int x1]) μ = some (none, dm_X12_bad μ a x0 x1) := by
  refine (x_X12_bad μ a x0 x1 h).trans ?_
  unfold dm_X12_bad
  all_goals
    by_cases e1 : (μ.1 a 13) = 0
    · simp only [if_pos e1]
      all_goals rfl
    · simp only [if_neg e1]
      all_goals rfl
theorem x_X12_allMen (μ : am_M) (a : Nat) (h : sh_Mod μ a) : am_runs (220, 0, [.ref a], []) μ = some (some (.int ((1 <<< ((μ.1 (a + 3) 5) &&& 31)) - 1)), μ) := by
  refine Eq.trans (am_gic (x := 1) rfl (by decide)) ?_
  refine Eq.trans (am_g rfl rfl) ?_
  refine Eq.trans (am_ggr (r := (a + 3)) rfl (congrArg Prod.fst (sh_Mod_k h)) (sh_Mod_p15 h)) ?_
  refine Eq.trans (am_gic (x := 5) rfl (by decide)) ?_
  refine Eq.trans (am_gaiN (j := 5) rfl (sh_Mod_a15 h) (by decide) (by decide)) ?_
  refine Eq.trans (am_g rfl rfl) ?_
  refine Eq.trans (am_gic (x := 1) rfl (by decide)) ?_
  refine Eq.trans (am_g rfl rfl) ?_
  exact am_grb rfl rfl (Or.inl rfl) rfl
def dv_X12_allMen (μ : am_M) (a : Nat) : Int32 := (1 <<< ((μ.1 (a + 3) 5) &&& 31)) - 1
theorem k_X12_allMen (μ : am_M) (a : Nat) (h : sh_Mod μ a) : am_runs (am_en 220 [.ref a]) μ = some (some (.int (dv_X12_allMen μ a)), μ) := by
  refine (x_X12_allMen μ a h).trans ?_
  rfl
theorem x_X12_fault (μ : am_M) (a : Nat) (h : sh_Mod μ a) : am_runs (222, 0, [.ref a], []) μ = some (some (.int ((am_si μ a 0 0).1 a 9)), am_si μ a 0 0) := by
  refine Eq.trans (am_g rfl rfl) ?_
  refine Eq.trans (am_gic (x := 0) rfl (by decide)) ?_
  refine Eq.trans (am_gpi rfl (congrArg Prod.fst (sh_Mod_k h))) ?_
  refine Eq.trans (am_g rfl rfl) ?_
  refine Eq.trans (am_ggi rfl (congrArg Prod.fst (sh_Mod_k h))) ?_
  exact am_grb rfl rfl (Or.inl rfl) rfl
def dv_X12_fault (μ : am_M) (a : Nat) : Int32 := (am_si μ a 0 0).1 a 9
def dm_X12_fault (μ : am_M) (a : Nat) : am_M := (((am_si μ a 0 0).1), ((am_si μ a 0 0).2.1), μ.2.2)
theorem k_X12_fault (μ : am_M) (a : Nat) (h : sh_Mod μ a) : am_runs (am_en 222 [.ref a]) μ = some (some (.int (dv_X12_fault μ a)), dm_X12_fault μ a) := by
  refine (x_X12_fault μ a h).trans ?_
  rfl
theorem x_X12_where (μ : am_M) (a : Nat) (h : sh_Mod μ a) : am_runs (223, 0, [.ref a], []) μ = if ((am_si μ a 0 0).1 a 11) = 4 then some (some (.int ((am_si μ a 0 0).1 a 10)), am_si μ a 0 0) else some (some (.int (-1)), am_si μ a 0 0) := by
  refine Eq.trans (am_g rfl rfl) ?_
  refine Eq.trans (am_gic (x := 0) rfl (by decide)) ?_
  refine Eq.trans (am_gpi rfl (congrArg Prod.fst (sh_Mod_k h))) ?_
  refine Eq.trans (am_g rfl rfl) ?_
  refine Eq.trans (am_ggi rfl (congrArg Prod.fst (sh_Mod_k h))) ?_
  refine Eq.trans (am_gic (x := 4) rfl (by decide)) ?_
  refine Eq.trans (am_br rfl rfl) ?_
  refine am_itc (fun c1 => ?_) (fun c1 => ?_)
  · refine Eq.trans (am_g rfl rfl) ?_
    refine Eq.trans (am_ggi rfl (congrArg Prod.fst (sh_Mod_k h))) ?_
    refine Eq.trans (am_g rfl rfl) ?_
    exact am_grb rfl rfl (Or.inl rfl) rfl
  · refine Eq.trans (am_gic (x := -1) rfl (by decide)) ?_
    exact am_grb rfl rfl (Or.inl rfl) rfl
def dv_X12_where (μ : am_M) (a : Nat) : Int32 := if ((am_si μ a 0 0).1 a 11) = 4 then (am_si μ a 0 0).1 a 10 else -1
def dm_X12_where (μ : am_M) (a : Nat) : am_M := ((if ((am_si μ a 0 0).1 a 11) = 4 then (am_si μ a 0 0).1 else (am_si μ a 0 0).1), (if ((am_si μ a 0 0).1 a 11) = 4 then (am_si μ a 0 0).2.1 else (am_si μ a 0 0).2.1), μ.2.2)
theorem k_X12_where (μ : am_M) (a : Nat) (h : sh_Mod μ a) : am_runs (am_en 223 [.ref a]) μ = some (some (.int (dv_X12_where μ a)), dm_X12_where μ a) := by
  refine (x_X12_where μ a h).trans ?_
  unfold dv_X12_where dm_X12_where
  all_goals
    by_cases e1 : ((am_si μ a 0 0).1 a 11) = 4
    · simp only [if_pos e1]
      all_goals rfl
    · simp only [if_neg e1]
      all_goals rfl
theorem x_X12_isMan (μ : am_M) (a : Nat) (x0 : Int32) (h : sh_Mod μ a) : am_runs (224, 0, [.ref a, .int x0], []) μ = if (μ.1 a 14) = 0 then some (some (.int 0), μ) else if (dv_X12_in μ x0 0 ((μ.1 (a + 3) 5) - 1)) = 0 then some (some (.int 0), μ) else some (some (.int 1), μ) := by
  refine Eq.trans (am_g rfl rfl) ?_
  refine Eq.trans (am_ggz rfl (congrArg Prod.fst (sh_Mod_k h))) ?_
  refine Eq.trans (am_br rfl rfl) ?_
  refine am_itc (fun c1 => ?_) (fun c1 => ?_)
  · refine Eq.trans (am_gic (x := 0) rfl (by decide)) ?_
    exact am_grb rfl rfl (Or.inr (Or.inl rfl)) rfl
  · refine Eq.trans (am_g rfl rfl) ?_
    refine Eq.trans (am_gic (x := 0) rfl (by decide)) ?_
    refine Eq.trans (am_g rfl rfl) ?_
    refine Eq.trans (am_ggr (r := (a + 3)) rfl (congrArg Prod.fst (sh_Mod_k h)) (sh_Mod_p15 h)) ?_
    refine Eq.trans (am_gic (x := 5) rfl (by decide)) ?_
    refine Eq.trans (am_gaiN (j := 5) rfl (sh_Mod_a15 h) (by decide) (by decide)) ?_
    refine Eq.trans (am_gic (x := 1) rfl (by decide)) ?_
    refine Eq.trans (am_g rfl rfl) ?_
    refine Eq.trans (am_gcS rfl rfl rfl rfl rfl rfl (k_X12_in μ x0 0 ((μ.1 (a + 3) 5) - 1))) ?_
    refine Eq.trans (am_br rfl rfl) ?_
    refine am_itc (fun c2 => ?_) (fun c2 => ?_)
    · refine Eq.trans (am_gic (x := 0) rfl (by decide)) ?_
      exact am_grb rfl rfl (Or.inr (Or.inl rfl)) rfl
    · refine Eq.trans (am_gic (x := 1) rfl (by decide)) ?_
      refine Eq.trans (am_g rfl rfl) ?_
      exact am_grb rfl rfl (Or.inr (Or.inr rfl)) rfl
def dv_X12_isMan (μ : am_M) (a : Nat) (x0 : Int32) : Int32 := if (μ.1 a 14) = 0 then 0 else if (dv_X12_in μ x0 0 ((μ.1 (a + 3) 5) - 1)) = 0 then 0 else 1
theorem k_X12_isMan (μ : am_M) (a : Nat) (x0 : Int32) (h : sh_Mod μ a) : am_runs (am_en 224 [.ref a, .int x0]) μ = some (some (.int (dv_X12_isMan μ a x0)), μ) := by
  refine (x_X12_isMan μ a x0 h).trans ?_
  unfold dv_X12_isMan
  all_goals
    by_cases e1 : (μ.1 a 14) = 0
    · simp only [if_pos e1]
      all_goals rfl
    · simp only [if_neg e1]
      all_goals
        by_cases e2 : (dv_X12_in μ x0 0 ((μ.1 (a + 3) 5) - 1)) = 0
        · simp only [if_pos e2]
          all_goals rfl
        · simp only [if_neg e2]
          all_goals rfl
theorem x_X12_isTen (μ : am_M) (a : Nat) (x0 : Int32) (h : sh_Mod μ a) : am_runs (225, 0, [.ref a, .int x0], []) μ = if (μ.1 a 14) = 0 then some (some (.int 0), μ) else if (dv_X12_in μ x0 0 ((μ.1 (a + 3) 4) - 1)) = 0 then some (some (.int 0), μ) else some (some (.int 1), μ) := by
  refine Eq.trans (am_g rfl rfl) ?_
  refine Eq.trans (am_ggz rfl (congrArg Prod.fst (sh_Mod_k h))) ?_
  refine Eq.trans (am_br rfl rfl) ?_
  refine am_itc (fun c1 => ?_) (fun c1 => ?_)
  · refine Eq.trans (am_gic (x := 0) rfl (by decide)) ?_
    exact am_grb rfl rfl (Or.inr (Or.inl rfl)) rfl
  · refine Eq.trans (am_g rfl rfl) ?_
    refine Eq.trans (am_gic (x := 0) rfl (by decide)) ?_
    refine Eq.trans (am_g rfl rfl) ?_
    refine Eq.trans (am_ggr (r := (a + 3)) rfl (congrArg Prod.fst (sh_Mod_k h)) (sh_Mod_p15 h)) ?_
    refine Eq.trans (am_gic (x := 4) rfl (by decide)) ?_
    refine Eq.trans (am_gaiN (j := 4) rfl (sh_Mod_a15 h) (by decide) (by decide)) ?_
    refine Eq.trans (am_gic (x := 1) rfl (by decide)) ?_
    refine Eq.trans (am_g rfl rfl) ?_
    refine Eq.trans (am_gcS rfl rfl rfl rfl rfl rfl (k_X12_in μ x0 0 ((μ.1 (a + 3) 4) - 1))) ?_
    refine Eq.trans (am_br rfl rfl) ?_
    refine am_itc (fun c2 => ?_) (fun c2 => ?_)
    · refine Eq.trans (am_gic (x := 0) rfl (by decide)) ?_
      exact am_grb rfl rfl (Or.inr (Or.inl rfl)) rfl
    · refine Eq.trans (am_gic (x := 1) rfl (by decide)) ?_
      refine Eq.trans (am_g rfl rfl) ?_
      exact am_grb rfl rfl (Or.inr (Or.inr rfl)) rfl
def dv_X12_isTen (μ : am_M) (a : Nat) (x0 : Int32) : Int32 := if (μ.1 a 14) = 0 then 0 else if (dv_X12_in μ x0 0 ((μ.1 (a + 3) 4) - 1)) = 0 then 0 else 1
theorem k_X12_isTen (μ : am_M) (a : Nat) (x0 : Int32) (h : sh_Mod μ a) : am_runs (am_en 225 [.ref a, .int x0]) μ = some (some (.int (dv_X12_isTen μ a x0)), μ) := by
  refine (x_X12_isTen μ a x0 h).trans ?_
  unfold dv_X12_isTen
  all_goals
    by_cases e1 : (μ.1 a 14) = 0
    · simp only [if_pos e1]
      all_goals rfl
    · simp only [if_neg e1]
      all_goals
        by_cases e2 : (dv_X12_in μ x0 0 ((μ.1 (a + 3) 4) - 1)) = 0
        · simp only [if_pos e2]
          all_goals rfl
        · simp only [if_neg e2]
          all_goals rfl
theorem x_X12_kindOf (μ : am_M) (a : Nat) (x0 : Int32) (h : sh_Mod μ a) (s1 : am_out (9 + (3 * x0)) 172 = false) : am_runs (226, 0, [.ref a, .int x0], []) μ = some (some (.int (μ.1 (a + 3) (9 + (3 * x0)).toNatClampNeg)), μ) := by
  refine Eq.trans (am_g rfl rfl) ?_
  refine Eq.trans (am_ggr (r := (a + 3)) rfl (congrArg Prod.fst (sh_Mod_k h)) (sh_Mod_p15 h)) ?_
  refine Eq.trans (am_gbp (x := 9) rfl (by decide)) ?_
  refine Eq.trans (am_gic (x := 3) rfl (by decide)) ?_
  refine Eq.trans (am_g rfl rfl) ?_
  refine Eq.trans (am_g rfl rfl) ?_
  refine Eq.trans (am_g rfl rfl) ?_
  refine Eq.trans (am_gaiN rfl (sh_Mod_a15 h) s1 rfl) ?_
  exact am_grb rfl rfl (Or.inl rfl) rfl
def ds_X12_kindOf (μ : am_M) (a : Nat) (x0 : Int32) : Prop := (am_out (9 + (3 * x0)) 172 = false)
def dv_X12_kindOf (μ : am_M) (a : Nat) (x0 : Int32) : Int32 := μ.1 (a + 3) (9 + (3 * x0)).toNatClampNeg
theorem k_X12_kindOf (μ : am_M) (a : Nat) (x0 : Int32) (h : sh_Mod μ a) (hs : ds_X12_kindOf μ a x0) : am_runs (am_en 226 [.ref a, .int x0]) μ = some (some (.int (dv_X12_kindOf μ a x0)), μ) := by
  refine (x_X12_kindOf μ a x0 h hs).trans ?_
  rfl
theorem x_X12_asItIs (μ : am_M) (a : Nat) (h : sh_Mod μ a) : am_runs (227, 0, [.ref a], []) μ = some (none, am_si (am_si (am_si μ a 22 (μ.1 (a + 3) 2)) a 23 (-1)) a 24 0) := by
  refine Eq.trans (am_g rfl rfl) ?_
  refine Eq.trans (am_g rfl rfl) ?_
  refine Eq.trans (am_ggr (r := (a + 3)) rfl (congrArg Prod.fst (sh_Mod_k h)) (sh_Mod_p15 h)) ?_
  refine Eq.trans (am_gic (x := 2) rfl (by decide)) ?_
  refine Eq.trans (am_gaiN (j := 2) rfl (sh_Mod_a15 h) (by decide) (by decide)) ?_
  refine Eq.trans (am_gpi rfl (congrArg Prod.fst (sh_Mod_k h))) ?_
  refine Eq.trans (am_g rfl rfl) ?_
  refine Eq.trans (am_gic (x := -1) rfl (by decide)) ?_
  refine Eq.trans (am_gpi rfl (congrArg Prod.fst (sh_Mod_k h))) ?_
  refine Eq.trans (am_g rfl rfl) ?_
  refine Eq.trans (am_gic (x := 0) rfl (by decide)) ?_
  refine Eq.trans (am_gpi rfl (congrArg Prod.fst (sh_Mod_k h))) ?_
  exact am_gr rfl rfl rfl
def dm_X12_asItIs (μ : am_M) (a : Nat) : am_M := (((am_si (am_si (am_si μ a 22 (μ.1 (a + 3) 2)) a 23 (-1)) a 24 0).1), ((am_si (am_si (am_si μ a 22 (μ.1 (a + 3) 2)) a 23 (-1)) a 24 0).2.1), μ.2.2)
theorem k_X12_asItIs (μ : am_M) (a : Nat) (h : sh_Mod μ a) : am_runs (am_en 227 [.ref a]) μ = some (none, dm_X12_asItIs μ a) := by
  refine (x_X12_asItIs μ a h).trans ?_
  rfl
theorem x_X12_there (μ : am_M) (a : Nat) (h : sh_Mod μ a) : am_runs (239, 0, [.ref a], []) μ = if ((dm_X12_good μ a).1 a 14) = 0 then some (some (.int (dv_X12_no (dm_X12_good μ a) a 1)), dm_X12_no (dm_X12_good μ a) a 1) else some (some (.int ((dm_X12_good μ a).1 (a + 5) 27)), dm_X12_good μ a) := by
  refine Eq.trans (am_g rfl rfl) ?_
  refine Eq.trans (am_gcV rfl rfl rfl rfl rfl rfl (congrArg Prod.fst (sh_Mod_k h)) rfl (k_X12_good μ a h)) ?_
  refine Eq.trans (am_g rfl rfl) ?_
  refine Eq.trans (am_ggz rfl (congrArg Prod.fst (sh_Mod_k h))) ?_
  refine Eq.trans (am_br rfl rfl) ?_
  refine am_itc (fun c1 => ?_) (fun c1 => ?_)
  · refine Eq.trans (am_g rfl rfl) ?_
    refine Eq.trans (am_gic (x := 1) rfl (by decide)) ?_
    refine Eq.trans (am_gcV rfl rfl rfl rfl rfl rfl (congrArg Prod.fst (sh_Mod_k h)) rfl (k_X12_no (dm_X12_good μ a) a 1 h)) ?_
    exact am_grb rfl rfl (Or.inl rfl) rfl
  · refine Eq.trans (am_g rfl rfl) ?_
    refine Eq.trans (am_ggr (r := (a + 5)) rfl (congrArg Prod.fst (sh_Mod_k h)) (sh_Mod_p17 h)) ?_
    refine Eq.trans (am_gbp (x := 27) rfl (by decide)) ?_
    refine Eq.trans (am_gaiN (j := 27) rfl (sh_Mod_a17 h) (by decide) (by decide)) ?_
    refine Eq.trans (am_g rfl rfl) ?_
    exact am_grb rfl rfl (Or.inl rfl) rfl
def dv_X12_there (μ : am_M) (a : Nat) : Int32 := if ((dm_X12_good μ a).1 a 14) = 0 then dv_X12_no (dm_X12_good μ a) a 1 else (dm_X12_good μ a).1 (a + 5) 27
def dm_X12_there (μ : am_M) (a : Nat) : am_M := ((if ((dm_X12_good μ a).1 a 14) = 0 then (dm_X12_no (dm_X12_good μ a) a 1).1 else (dm_X12_good μ a).1), (if ((dm_X12_good μ a).1 a 14) = 0 then (dm_X12_no (dm_X12_good μ a) a 1).2.1 else (dm_X12_good μ a).2.1), μ.2.2)
theorem k_X12_there (μ : am_M) (a : Nat) (h : sh_Mod μ a) : am_runs (am_en 239 [.ref a]) μ = some (some (.int (dv_X12_there μ a)), dm_X12_there μ a) := by
  refine (x_X12_there μ a h).trans ?_
  unfold dv_X12_there dm_X12_there
  all_goals
    by_cases e1 : ((dm_X12_good μ a).1 a 14) = 0
    · simp only [if_pos e1]
      all_goals rfl
    · simp only [if_neg e1]
      all_goals rfl
theorem x_X12_startWhy (μ : am_M) (a : Nat) (x0 : Int32) (h : sh_Mod μ a) : am_runs (242, 0, [.ref a, .int x0], []) μ = if (μ.1 a 14) = 0 then some (some (.int 1), μ) else if x0 < 0 then some (some (.int 2), dm_X12_asItIs μ a) else if (x0 &&& (((dm_X12_asItIs μ a).1 (a + 5) 27) ^^^ (-1))) = 0 then some (some (.int 0), dm_X12_asItIs μ a) else some (some (.int 2), dm_X12_asItIs μ a) := by
  refine Eq.trans (am_g rfl rfl) ?_
  refine Eq.trans (am_ggz rfl (congrArg Prod.fst (sh_Mod_k h))) ?_
  refine Eq.trans (am_br rfl rfl) ?_
  refine am_itc (fun c1 => ?_) (fun c1 => ?_)
  · refine Eq.trans (am_gic (x := 1) rfl (by decide)) ?_
    exact am_grb rfl rfl (Or.inl rfl) rfl
  · refine Eq.trans (am_g rfl rfl) ?_
    refine Eq.trans (am_gcV rfl rfl rfl rfl rfl rfl (congrArg Prod.fst (sh_Mod_k h)) rfl (k_X12_asItIs μ a h)) ?_
    refine Eq.trans (am_g rfl rfl) ?_
    refine Eq.trans (am_br rfl rfl) ?_
    refine am_itc (fun c2 => ?_) (fun c2 => ?_)
    · refine Eq.trans (am_gic (x := 2) rfl (by decide)) ?_
      refine Eq.trans (am_g rfl rfl) ?_
      exact am_grb rfl rfl (Or.inl rfl) rfl
    · refine Eq.trans (am_g rfl rfl) ?_
      refine Eq.trans (am_g rfl rfl) ?_
      refine Eq.trans (am_ggr (r := (a + 5)) rfl (congrArg Prod.fst (sh_Mod_k h)) (sh_Mod_p17 h)) ?_
      refine Eq.trans (am_gbp (x := 27) rfl (by decide)) ?_
      refine Eq.trans (am_gaiN (j := 27) rfl (sh_Mod_a17 h) (by decide) (by decide)) ?_
      refine Eq.trans (am_gic (x := -1) rfl (by decide)) ?_
      refine Eq.trans (am_g rfl rfl) ?_
      refine Eq.trans (am_g rfl rfl) ?_
      refine Eq.trans (am_br rfl rfl) ?_
      refine am_itc (fun c3 => ?_) (fun c3 => ?_)
      · refine Eq.trans (am_gic (x := 0) rfl (by decide)) ?_
        exact am_grb rfl rfl (Or.inl rfl) rfl
      · refine Eq.trans (am_gic (x := 2) rfl (by decide)) ?_
        refine Eq.trans (am_g rfl rfl) ?_
        exact am_grb rfl rfl (Or.inl rfl) rfl
def dv_X12_startWhy (μ : am_M) (a : Nat) (x0 : Int32) : Int32 := if (μ.1 a 14) = 0 then 1 else if x0 < 0 then 2 else if (x0 &&& (((dm_X12_asItIs μ a).1 (a + 5) 27) ^^^ (-1))) = 0 then 0 else 2
def dm_X12_startWhy (μ : am_M) (a : Nat) (x0 : Int32) : am_M := ((if (μ.1 a 14) = 0 then μ.1 else if x0 < 0 then (dm_X12_asItIs μ a).1 else if (x0 &&& (((dm_X12_asItIs μ a).1 (a + 5) 27) ^^^ (-1))) = 0 then (dm_X12_asItIs μ a).1 else (dm_X12_asItIs μ a).1), (if (μ.1 a 14) = 0 then μ.2.1 else if x0 < 0 then (dm_X12_asItIs μ a).2.1 else if (x0 &&& (((dm_X12_asItIs μ a).1 (a + 5) 27) ^^^ (-1))) = 0 then (dm_X12_asItIs μ a).2.1 else (dm_X12_asItIs μ a).2.1), μ.2.2)
theorem k_X12_startWhy (μ : am_M) (a : Nat) (x0 : Int32) (h : sh_Mod μ a) : am_runs (am_en 242 [.ref a, .int x0]) μ = some (some (.int (dv_X12_startWhy μ a x0)), dm_X12_startWhy μ a x0) := by
  refine (x_X12_startWhy μ a x0 h).trans ?_
  unfold dv_X12_startWhy dm_X12_startWhy
  all_goals
    by_cases e1 : (μ.1 a 14) = 0
    · simp only [if_pos e1]
      all_goals rfl
    · simp only [if_neg e1]
      all_goals
        by_cases e2 : x0 < 0
        · simp only [if_pos e2]
          all_goals rfl
        · simp only [if_neg e2]
          all_goals
            by_cases e3 : (x0 &&& (((dm_X12_asItIs μ a).1 (a + 5) 27) ^^^ (-1))) = 0
            · simp only [if_pos e3]
              all_goals rfl
            · simp only [if_neg e3]
              all_goals rfl
theorem x_X12_shakenPart (μ : am_M) (a : Nat) (h : sh_Mod μ a) : am_runs (283, 0, [.ref a], []) μ = some (some (.long ((((μ.1 (a + 3) 43).toInt64) * (μ.2.1 a 42)) * (μ.2.1 a 41))), μ) := by
  refine Eq.trans (am_g rfl rfl) ?_
  refine Eq.trans (am_ggr (r := (a + 3)) rfl (congrArg Prod.fst (sh_Mod_k h)) (sh_Mod_p15 h)) ?_
  refine Eq.trans (am_gbp (x := 43) rfl (by decide)) ?_
  refine Eq.trans (am_gaiN (j := 43) rfl (sh_Mod_a15 h) (by decide) (by decide)) ?_
  refine Eq.trans (am_g rfl rfl) ?_
  refine Eq.trans (am_g rfl rfl) ?_
  refine Eq.trans (am_ggl rfl (congrArg Prod.fst (sh_Mod_k h))) ?_
  refine Eq.trans (am_g rfl rfl) ?_
  refine Eq.trans (am_g rfl rfl) ?_
  refine Eq.trans (am_ggl rfl (congrArg Prod.fst (sh_Mod_k h))) ?_
  refine Eq.trans (am_g rfl rfl) ?_
  exact am_gr rfl rfl rfl
def dv_X12_shakenPart (μ : am_M) (a : Nat) : Int64 := (((μ.1 (a + 3) 43).toInt64) * (μ.2.1 a 42)) * (μ.2.1 a 41)
theorem k_X12_shakenPart (μ : am_M) (a : Nat) (h : sh_Mod μ a) : am_runs (am_en 283 [.ref a]) μ = some (some (.long (dv_X12_shakenPart μ a)), μ) := by
  refine (x_X12_shakenPart μ a h).trans ?_
  rfl
theorem x_X12_honestPart (μ : am_M) (a : Nat) (h : sh_Mod μ a) : am_runs (284, 0, [.ref a], []) μ = some (some (.long ((((100 - (μ.1 (a + 3) 43)).toInt64) * (μ.2.1 a 40)) * (μ.2.1 a 43))), μ) := by
  refine Eq.trans (am_gbp (x := 100) rfl (by decide)) ?_
  refine Eq.trans (am_g rfl rfl) ?_
  refine Eq.trans (am_ggr (r := (a + 3)) rfl (congrArg Prod.fst (sh_Mod_k h)) (sh_Mod_p15 h)) ?_
  refine Eq.trans (am_gbp (x := 43) rfl (by decide)) ?_
  refine Eq.trans (am_gaiN (j := 43) rfl (sh_Mod_a15 h) (by decide) (by decide)) ?_
  refine Eq.trans (am_g rfl rfl) ?_
  refine Eq.trans (am_g rfl rfl) ?_
  refine Eq.trans (am_g rfl rfl) ?_
  refine Eq.trans (am_ggl rfl (congrArg Prod.fst (sh_Mod_k h))) ?_
  refine Eq.trans (am_g rfl rfl) ?_
  refine Eq.trans (am_g rfl rfl) ?_
  refine Eq.trans (am_ggl rfl (congrArg Prod.fst (sh_Mod_k h))) ?_
  refine Eq.trans (am_g rfl rfl) ?_
  exact am_gr rfl rfl rfl
def dv_X12_honestPart (μ : am_M) (a : Nat) : Int64 := (((100 - (μ.1 (a + 3) 43)).toInt64) * (μ.2.1 a 40)) * (μ.2.1 a 43)
theorem k_X12_honestPart (μ : am_M) (a : Nat) (h : sh_Mod μ a) : am_runs (am_en 284 [.ref a]) μ = some (some (.long (dv_X12_honestPart μ a)), μ) := by
  refine (x_X12_honestPart μ a h).trans ?_
  rfl
theorem x_X12_goneWhy (μ : am_M) (a : Nat) (h : sh_Mod μ a) : am_runs (293, 0, [.ref a], []) μ = if (μ.1 a 14) = 0 then some (some (.int 1), μ) else if (μ.1 (a + 3) 57) = 0 then some (some (.int 6), μ) else some (some (.int 0), μ) := by
  refine Eq.trans (am_g rfl rfl) ?_
  refine Eq.trans (am_ggz rfl (congrArg Prod.fst (sh_Mod_k h))) ?_
  refine Eq.trans (am_br rfl rfl) ?_
  refine am_itc (fun c1 => ?_) (fun c1 => ?_)
  · refine Eq.trans (am_gic (x := 1) rfl (by decide)) ?_
    refine Eq.trans (am_g rfl rfl) ?_
    exact am_grb rfl rfl (Or.inl rfl) rfl
  · refine Eq.trans (am_g rfl rfl) ?_
    refine Eq.trans (am_ggr (r := (a + 3)) rfl (congrArg Prod.fst (sh_Mod_k h)) (sh_Mod_p15 h)) ?_
    refine Eq.trans (am_gbp (x := 57) rfl (by decide)) ?_
    refine Eq.trans (am_gaiN (j := 57) rfl (sh_Mod_a15 h) (by decide) (by decide)) ?_
    refine Eq.trans (am_br rfl rfl) ?_
    refine am_itc (fun c2 => ?_) (fun c2 => ?_)
    · refine Eq.trans (am_gbp (x := 6) rfl (by decide)) ?_
      refine Eq.trans (am_g rfl rfl) ?_
      exact am_grb rfl rfl (Or.inl rfl) rfl
    · refine Eq.trans (am_gic (x := 0) rfl (by decide)) ?_
      exact am_grb rfl rfl (Or.inl rfl) rfl
def dv_X12_goneWhy (μ : am_M) (a : Nat) : Int32 := if (μ.1 a 14) = 0 then 1 else if (μ.1 (a + 3) 57) = 0 then 6 else 0
theorem k_X12_goneWhy (μ : am_M) (a : Nat) (h : sh_Mod μ a) : am_runs (am_en 293 [.ref a]) μ = some (some (.int (dv_X12_goneWhy μ a)), μ) := by
  refine (x_X12_goneWhy μ a h).trans ?_
  unfold dv_X12_goneWhy
  all_goals
    by_cases e1 : (μ.1 a 14) = 0
    · simp only [if_pos e1]
      all_goals rfl
    · simp only [if_neg e1]
      all_goals
        by_cases e2 : (μ.1 (a + 3) 57) = 0
        · simp only [if_pos e2]
          all_goals rfl
        · simp only [if_neg e2]
          all_goals rfl
theorem x_X12_lineOf (μ : am_M) (x0 : Int32) (x1 : Int32) (x2 : Int32) : am_runs (302, 0, [.int x0, .int x1, .int x2], []) μ = if x1 = 0 then if x2 = 0 then some (some (.int 5), μ) else some (some (.int (-4)), μ) else some (some (.int (3 - x0)), μ) := by
  refine Eq.trans (am_g rfl rfl) ?_
  refine Eq.trans (am_br rfl rfl) ?_
  refine am_itc (fun c1 => ?_) (fun c1 => ?_)
  · refine Eq.trans (am_g rfl rfl) ?_
    refine Eq.trans (am_br rfl rfl) ?_
    refine am_itc (fun c2 => ?_) (fun c2 => ?_)
    · refine Eq.trans (am_gic (x := 5) rfl (by decide)) ?_
      exact am_grb rfl rfl (Or.inl rfl) rfl
    · refine Eq.trans (am_gbp (x := -4) rfl (by decide)) ?_
      refine Eq.trans (am_g rfl rfl) ?_
      exact am_grb rfl rfl (Or.inl rfl) rfl
  · refine Eq.trans (am_gic (x := 3) rfl (by decide)) ?_
    refine Eq.trans (am_g rfl rfl) ?_
    refine Eq.trans (am_g rfl rfl) ?_
    refine Eq.trans (am_g rfl rfl) ?_
    exact am_grb rfl rfl (Or.inl rfl) rfl
def dv_X12_lineOf (μ : am_M) (x0 : Int32) (x1 : Int32) (x2 : Int32) : Int32 := if x1 = 0 then if x2 = 0 then 5 else -4 else 3 - x0
theorem k_X12_lineOf (μ : am_M) (x0 : Int32) (x1 : Int32) (x2 : Int32) : am_runs (am_en 302 [.int x0, .int x1, .int x2]) μ = some (some (.int (dv_X12_lineOf μ x0 x1 x2)), μ) := by
  refine (x_X12_lineOf μ x0 x1 x2).trans ?_
  unfold dv_X12_lineOf
  all_goals
    by_cases e1 : x1 = 0
    · simp only [if_pos e1]
      all_goals
        by_cases e2 : x2 = 0
        · simp only [if_pos e2]
          all_goals rfl
        · simp only [if_neg e2]
          all_goals rfl
    · simp only [if_neg e1]
      all_goals rfl
theorem x_X12_dreadWhy (μ : am_M) (a : Nat) (x0 : Int32) (h : sh_Mod μ a) : am_runs (303, 0, [.ref a, .int x0], []) μ = if (μ.1 a 14) = 0 then some (some (.int 1), μ) else if (dv_X12_in μ x0 0 9) = 0 then some (some (.int 2), μ) else some (some (.int 0), μ) := by
  refine Eq.trans (am_g rfl rfl) ?_
  refine Eq.trans (am_ggz rfl (congrArg Prod.fst (sh_Mod_k h))) ?_
  refine Eq.trans (am_br rfl rfl) ?_
  refine am_itc (fun c1 => ?_) (fun c1 => ?_)
  · refine Eq.trans (am_gic (x := 1) rfl (by decide)) ?_
    refine Eq.trans (am_g rfl rfl) ?_
    exact am_grb rfl rfl (Or.inl rfl) rfl
  · refine Eq.trans (am_g rfl rfl) ?_
    refine Eq.trans (am_gic (x := 0) rfl (by decide)) ?_
    refine Eq.trans (am_gbp (x := 9) rfl (by decide)) ?_
    refine Eq.trans (am_gcS rfl rfl rfl rfl rfl rfl (k_X12_in μ x0 0 9)) ?_
    refine Eq.trans (am_br rfl rfl) ?_
    refine am_itc (fun c2 => ?_) (fun c2 => ?_)
    · refine Eq.trans (am_gic (x := 2) rfl (by decide)) ?_
      exact am_grb rfl rfl (Or.inl rfl) rfl
    · refine Eq.trans (am_gic (x := 0) rfl (by decide)) ?_
      refine Eq.trans (am_g rfl rfl) ?_
      exact am_grb rfl rfl (Or.inl rfl) rfl
def dv_X12_dreadWhy (μ : am_M) (a : Nat) (x0 : Int32) : Int32 := if (μ.1 a 14) = 0 then 1 else if (dv_X12_in μ x0 0 9) = 0 then 2 else 0
theorem k_X12_dreadWhy (μ : am_M) (a : Nat) (x0 : Int32) (h : sh_Mod μ a) : am_runs (am_en 303 [.ref a, .int x0]) μ = some (some (.int (dv_X12_dreadWhy μ a x0)), μ) := by
  refine (x_X12_dreadWhy μ a x0 h).trans ?_
  unfold dv_X12_dreadWhy
  all_goals
    by_cases e1 : (μ.1 a 14) = 0
    · simp only [if_pos e1]
      all_goals rfl
    · simp only [if_neg e1]
      all_goals
        by_cases e2 : (dv_X12_in μ x0 0 9) = 0
        · simp only [if_pos e2]
          all_goals rfl
        · simp only [if_neg e2]
          all_goals rfl
theorem x_X12_line (μ : am_M) (a : Nat) (x0 : Int32) (x1 : Int32) (x2 : Int32) (x3 : Int32) (h : sh_Mod μ a) : am_runs (304, 0, [.ref a, .int x0, .int x1, .int x2, .int x3], []) μ = if (dv_X12_dreadWhy (dm_X12_good μ a) a x0) = 0 then if x3 = 0 then some (some (.int (dv_X12_lineOf (dm_X12_good μ a) x0 x1 x2)), dm_X12_good μ a) else some (some (.int (dv_X12_lineOf (dm_X12_good μ a) x0 x2 x1)), dm_X12_good μ a) else some (some (.int (-100)), am_si (dm_X12_good μ a) a 11 (dv_X12_dreadWhy (dm_X12_good μ a) a x0)) := by
  refine Eq.trans (am_g rfl rfl) ?_
  refine Eq.trans (am_gcV rfl rfl rfl rfl rfl rfl (congrArg Prod.fst (sh_Mod_k h)) rfl (k_X12_good μ a h)) ?_
  refine Eq.trans (am_g rfl rfl) ?_
  refine Eq.trans (am_g rfl rfl) ?_
  refine Eq.trans (am_gcV rfl rfl rfl rfl rfl rfl (congrArg Prod.fst (sh_Mod_k h)) rfl (k_X12_dreadWhy (dm_X12_good μ a) a x0 h)) ?_
  refine Eq.trans (am_br rfl rfl) ?_
  refine am_itc (fun c1 => ?_) (fun c1 => ?_)
  · refine Eq.trans (am_g rfl rfl) ?_
    refine Eq.trans (am_br rfl rfl) ?_
    refine am_itc (fun c2 => ?_) (fun c2 => ?_)
    · refine Eq.trans (am_g rfl rfl) ?_
      refine Eq.trans (am_g rfl rfl) ?_
      refine Eq.trans (am_g rfl rfl) ?_
      refine Eq.trans (am_gcS rfl rfl rfl rfl rfl rfl (k_X12_lineOf (dm_X12_good μ a) x0 x1 x2)) ?_
      exact am_grb rfl rfl (Or.inl rfl) rfl
    · refine Eq.trans (am_g rfl rfl) ?_
      refine Eq.trans (am_g rfl rfl) ?_
      refine Eq.trans (am_g rfl rfl) ?_
      refine Eq.trans (am_gcS rfl rfl rfl rfl rfl rfl (k_X12_lineOf (dm_X12_good μ a) x0 x2 x1)) ?_
      refine Eq.trans (am_g rfl rfl) ?_
      exact am_grb rfl rfl (Or.inl rfl) rfl
  · refine Eq.trans (am_g rfl rfl) ?_
    refine Eq.trans (am_g rfl rfl) ?_
    refine Eq.trans (am_g rfl rfl) ?_
    refine Eq.trans (am_gcV rfl rfl rfl rfl rfl rfl (congrArg Prod.fst (sh_Mod_k h)) rfl (k_X12_dreadWhy (dm_X12_good μ a) a x0 h)) ?_
    refine Eq.trans (am_gpi rfl (congrArg Prod.fst (sh_Mod_k h))) ?_
    refine Eq.trans (am_gbp (x := -100) rfl (by decide)) ?_
    exact am_grb rfl rfl (Or.inl rfl) rfl
def dv_X12_line (μ : am_M) (a : Nat) (x0 : Int32) (x1 : Int32) (x2 : Int32) (x3 : Int32) : Int32 := if (dv_X12_dreadWhy (dm_X12_good μ a) a x0) = 0 then if x3 = 0 then dv_X12_lineOf (dm_X12_good μ a) x0 x1 x2 else dv_X12_lineOf (dm_X12_good μ a) x0 x2 x1 else -100
def dm_X12_line (μ : am_M) (a : Nat) (x0 : Int32) (x1 : Int32) (x2 : Int32) (x3 : Int32) : am_M := ((if (dv_X12_dreadWhy (dm_X12_good μ a) a x0) = 0 then if x3 = 0 then (dm_X12_good μ a).1 else (dm_X12_good μ a).1 else (am_si (dm_X12_good μ a) a 11 (dv_X12_dreadWhy (dm_X12_good μ a) a x0)).1), (if (dv_X12_dreadWhy (dm_X12_good μ a) a x0) = 0 then if x3 = 0 then (dm_X12_good μ a).2.1 else (dm_X12_good μ a).2.1 else (am_si (dm_X12_good μ a) a 11 (dv_X12_dreadWhy (dm_X12_good μ a) a x0)).2.1), μ.2.2)
theorem k_X12_line (μ : am_M) (a : Nat) (x0 : Int32) (x1 : Int32) (x2 : Int32) (x3 : Int32) (h : sh_Mod μ a) : am_runs (am_en 304 [.ref a, .int x0, .int x1, .int x2, .int x3]) μ = some (some (.int (dv_X12_line μ a x0 x1 x2 x3)), dm_X12_line μ a x0 x1 x2 x3) := by
  refine (x_X12_line μ a x0 x1 x2 x3 h).trans ?_
  unfold dv_X12_line dm_X12_line
  all_goals
    by_cases e1 : (dv_X12_dreadWhy (dm_X12_good μ a) a x0) = 0
    · simp only [if_pos e1]
      all_goals
        by_cases e2 : x3 = 0
        · simp only [if_pos e2]
          all_goals rfl
        · simp only [if_neg e2]
          all_goals rfl
    · simp only [if_neg e1]
      all_goals rfl
theorem x_X12_isRest (μ : am_M) (x0 : Int32) (x1 : Int32) (x2 : Int32) : am_runs (305, 0, [.int x0, .int x1, .int x2], []) μ = if x1 = 0 then if (dv_X12_lineOf μ x0 x1 x2) < (dv_X12_lineOf μ x0 1 x2) then some (some (.int 0), μ) else if x2 = 0 then if (dv_X12_lineOf μ x0 x2 x1) < (dv_X12_lineOf μ x0 1 x1) then some (some (.int 0), μ) else some (some (.int 1), μ) else if (dv_X12_lineOf μ x0 x2 x1) < (dv_X12_lineOf μ x0 0 x1) then some (some (.int 0), μ) else some (some (.int 1), μ) else if (dv_X12_lineOf μ x0 x1 x2) < (dv_X12_lineOf μ x0 0 x2) then some (some (.int 0), μ) else if x2 = 0 then if (dv_X12_lineOf μ x0 x2 x1) < (dv_X12_lineOf μ x0 1 x1) then some (some (.int 0), μ) else some (some (.int 1), μ) else if (dv_X12_lineOf μ x0 x2 x1) < (dv_X12_lineOf μ x0 0 x1) then some (some (.int 0), μ) else some (some (.int 1), μ) := by
  refine Eq.trans (am_g rfl rfl) ?_
  refine Eq.trans (am_g rfl rfl) ?_
  refine Eq.trans (am_br rfl rfl) ?_
  refine am_itc (fun c1 => ?_) (fun c1 => ?_)
  · refine Eq.trans (am_gic (x := 1) rfl (by decide)) ?_
    refine Eq.trans (am_g rfl rfl) ?_
    refine Eq.trans (am_g rfl rfl) ?_
    refine Eq.trans (am_gcS rfl rfl rfl rfl rfl rfl (k_X12_lineOf μ x0 1 x2)) ?_
    refine Eq.trans (am_g rfl rfl) ?_
    refine Eq.trans (am_g rfl rfl) ?_
    refine Eq.trans (am_g rfl rfl) ?_
    refine Eq.trans (am_gcS rfl rfl rfl rfl rfl rfl (k_X12_lineOf μ x0 x1 x2)) ?_
    refine Eq.trans (am_br rfl rfl) ?_
    refine am_itc (fun c2 => ?_) (fun c2 => ?_)
    · refine Eq.trans (am_gic (x := 0) rfl (by decide)) ?_
      exact am_grb rfl rfl (Or.inr (Or.inl rfl)) rfl
    · refine Eq.trans (am_g rfl rfl) ?_
      refine Eq.trans (am_g rfl rfl) ?_
      refine Eq.trans (am_br rfl rfl) ?_
      refine am_itc (fun c3 => ?_) (fun c3 => ?_)
      · refine Eq.trans (am_gic (x := 1) rfl (by decide)) ?_
        refine Eq.trans (am_g rfl rfl) ?_
        refine Eq.trans (am_g rfl rfl) ?_
        refine Eq.trans (am_gcS rfl rfl rfl rfl rfl rfl (k_X12_lineOf μ x0 1 x1)) ?_
        refine Eq.trans (am_g rfl rfl) ?_
        refine Eq.trans (am_g rfl rfl) ?_
        refine Eq.trans (am_g rfl rfl) ?_
        refine Eq.trans (am_gcS rfl rfl rfl rfl rfl rfl (k_X12_lineOf μ x0 x2 x1)) ?_
        refine Eq.trans (am_br rfl rfl) ?_
        refine am_itc (fun c4 => ?_) (fun c4 => ?_)
        · refine Eq.trans (am_gic (x := 0) rfl (by decide)) ?_
          exact am_grb rfl rfl (Or.inr (Or.inl rfl)) rfl
        · refine Eq.trans (am_gic (x := 1) rfl (by decide)) ?_
          refine Eq.trans (am_g rfl rfl) ?_
          exact am_grb rfl rfl (Or.inr (Or.inr rfl)) rfl
      · refine Eq.trans (am_gic (x := 0) rfl (by decide)) ?_
        refine Eq.trans (am_g rfl rfl) ?_
        refine Eq.trans (am_gcS rfl rfl rfl rfl rfl rfl (k_X12_lineOf μ x0 0 x1)) ?_
        refine Eq.trans (am_g rfl rfl) ?_
        refine Eq.trans (am_g rfl rfl) ?_
        refine Eq.trans (am_g rfl rfl) ?_
        refine Eq.trans (am_gcS rfl rfl rfl rfl rfl rfl (k_X12_lineOf μ x0 x2 x1)) ?_
        refine Eq.trans (am_br rfl rfl) ?_
        refine am_itc (fun c4 => ?_) (fun c4 => ?_)
        · refine Eq.trans (am_gic (x := 0) rfl (by decide)) ?_
          exact am_grb rfl rfl (Or.inr (Or.inl rfl)) rfl
        · refine Eq.trans (am_gic (x := 1) rfl (by decide)) ?_
          refine Eq.trans (am_g rfl rfl) ?_
          exact am_grb rfl rfl (Or.inr (Or.inr rfl)) rfl
  · refine Eq.trans (am_gic (x := 0) rfl (by decide)) ?_
    refine Eq.trans (am_g rfl rfl) ?_
    refine Eq.trans (am_gcS rfl rfl rfl rfl rfl rfl (k_X12_lineOf μ x0 0 x2)) ?_
    refine Eq.trans (am_g rfl rfl) ?_
    refine Eq.trans (am_g rfl rfl) ?_
    refine Eq.trans (am_g rfl rfl) ?_
    refine Eq.trans (am_gcS rfl rfl rfl rfl rfl rfl (k_X12_lineOf μ x0 x1 x2)) ?_
    refine Eq.trans (am_br rfl rfl) ?_
    refine am_itc (fun c2 => ?_) (fun c2 => ?_)
    · refine Eq.trans (am_gic (x := 0) rfl (by decide)) ?_
      exact am_grb rfl rfl (Or.inr (Or.inl rfl)) rfl
    · refine Eq.trans (am_g rfl rfl) ?_
      refine Eq.trans (am_g rfl rfl) ?_
      refine Eq.trans (am_br rfl rfl) ?_
      refine am_itc (fun c3 => ?_) (fun c3 => ?_)
      · refine Eq.trans (am_gic (x := 1) rfl (by decide)) ?_
        refine Eq.trans (am_g rfl rfl) ?_
        refine Eq.trans (am_g rfl rfl) ?_
        refine Eq.trans (am_gcS rfl rfl rfl rfl rfl rfl (k_X12_lineOf μ x0 1 x1)) ?_
        refine Eq.trans (am_g rfl rfl) ?_
        refine Eq.trans (am_g rfl rfl) ?_
        refine Eq.trans (am_g rfl rfl) ?_
        refine Eq.trans (am_gcS rfl rfl rfl rfl rfl rfl (k_X12_lineOf μ x0 x2 x1)) ?_
        refine Eq.trans (am_br rfl rfl) ?_
        refine am_itc (fun c4 => ?_) (fun c4 => ?_)
        · refine Eq.trans (am_gic (x := 0) rfl (by decide)) ?_
          exact am_grb rfl rfl (Or.inr (Or.inl rfl)) rfl
        · refine Eq.trans (am_gic (x := 1) rfl (by decide)) ?_
          refine Eq.trans (am_g rfl rfl) ?_
          exact am_grb rfl rfl (Or.inr (Or.inr rfl)) rfl
      · refine Eq.trans (am_gic (x := 0) rfl (by decide)) ?_
        refine Eq.trans (am_g rfl rfl) ?_
        refine Eq.trans (am_gcS rfl rfl rfl rfl rfl rfl (k_X12_lineOf μ x0 0 x1)) ?_
        refine Eq.trans (am_g rfl rfl) ?_
        refine Eq.trans (am_g rfl rfl) ?_
        refine Eq.trans (am_g rfl rfl) ?_
        refine Eq.trans (am_gcS rfl rfl rfl rfl rfl rfl (k_X12_lineOf μ x0 x2 x1)) ?_
        refine Eq.trans (am_br rfl rfl) ?_
        refine am_itc (fun c4 => ?_) (fun c4 => ?_)
        · refine Eq.trans (am_gic (x := 0) rfl (by decide)) ?_
          exact am_grb rfl rfl (Or.inr (Or.inl rfl)) rfl
        · refine Eq.trans (am_gic (x := 1) rfl (by decide)) ?_
          refine Eq.trans (am_g rfl rfl) ?_
          exact am_grb rfl rfl (Or.inr (Or.inr rfl)) rfl
def dv_X12_isRest (μ : am_M) (x0 : Int32) (x1 : Int32) (x2 : Int32) : Int32 := if x1 = 0 then if (dv_X12_lineOf μ x0 x1 x2) < (dv_X12_lineOf μ x0 1 x2) then 0 else if x2 = 0 then if (dv_X12_lineOf μ x0 x2 x1) < (dv_X12_lineOf μ x0 1 x1) then 0 else 1 else if (dv_X12_lineOf μ x0 x2 x1) < (dv_X12_lineOf μ x0 0 x1) then 0 else 1 else if (dv_X12_lineOf μ x0 x1 x2) < (dv_X12_lineOf μ x0 0 x2) then 0 else if x2 = 0 then if (dv_X12_lineOf μ x0 x2 x1) < (dv_X12_lineOf μ x0 1 x1) then 0 else 1 else if (dv_X12_lineOf μ x0 x2 x1) < (dv_X12_lineOf μ x0 0 x1) then 0 else 1
theorem k_X12_isRest (μ : am_M) (x0 : Int32) (x1 : Int32) (x2 : Int32) : am_runs (am_en 305 [.int x0, .int x1, .int x2]) μ = some (some (.int (dv_X12_isRest μ x0 x1 x2)), μ) := by
  refine (x_X12_isRest μ x0 x1 x2).trans ?_
  unfold dv_X12_isRest
  all_goals
    by_cases e1 : x1 = 0
    · simp only [if_pos e1]
      all_goals
        by_cases e2 : (dv_X12_lineOf μ x0 x1 x2) < (dv_X12_lineOf μ x0 1 x2)
        · simp only [if_pos e2]
          all_goals rfl
        · simp only [if_neg e2]
          all_goals
            by_cases e3 : x2 = 0
            · simp only [if_pos e3]
              all_goals
                by_cases e4 : (dv_X12_lineOf μ x0 x2 x1) < (dv_X12_lineOf μ x0 1 x1)
                · simp only [if_pos e4]
                  all_goals rfl
                · simp only [if_neg e4]
                  all_goals rfl
            · simp only [if_neg e3]
              all_goals
                by_cases e4 : (dv_X12_lineOf μ x0 x2 x1) < (dv_X12_lineOf μ x0 0 x1)
                · simp only [if_pos e4]
                  all_goals rfl
                · simp only [if_neg e4]
                  all_goals rfl
    · simp only [if_neg e1]
      all_goals
        by_cases e2 : (dv_X12_lineOf μ x0 x1 x2) < (dv_X12_lineOf μ x0 0 x2)
        · simp only [if_pos e2]
          all_goals rfl
        · simp only [if_neg e2]
          all_goals
            by_cases e3 : x2 = 0
            · simp only [if_pos e3]
              all_goals
                by_cases e4 : (dv_X12_lineOf μ x0 x2 x1) < (dv_X12_lineOf μ x0 1 x1)
                · simp only [if_pos e4]
                  all_goals rfl
                · simp only [if_neg e4]
                  all_goals rfl
            · simp only [if_neg e3]
              all_goals
                by_cases e4 : (dv_X12_lineOf μ x0 x2 x1) < (dv_X12_lineOf μ x0 0 x1)
                · simp only [if_pos e4]
                  all_goals rfl
                · simp only [if_neg e4]
                  all_goals rfl
theorem x_X12_nextDraw (μ : am_M) (a : Nat) (x0 : Int32) (h : sh_Mod μ a) (s1 : ¬ x0 = 0) : am_runs (309, 0, [.ref a, .int x0], []) μ = some (some (.int (((am_si μ a 50 (((75 * (μ.1 a 50)) + 74) - ((75 * (μ.1 a 50)) + 74) / 65537 * 65537)).1 a 50) - ((am_si μ a 50 (((75 * (μ.1 a 50)) + 74) - ((75 * (μ.1 a 50)) + 74) / 65537 * 65537)).1 a 50) / x0 * x0)), am_si μ a 50 (((75 * (μ.1 a 50)) + 74) - ((75 * (μ.1 a 50)) + 74) / 65537 * 65537)) := by
  refine Eq.trans (am_g rfl rfl) ?_
  refine Eq.trans (am_gbp (x := 75) rfl (by decide)) ?_
  refine Eq.trans (am_g rfl rfl) ?_
  refine Eq.trans (am_ggi rfl (congrArg Prod.fst (sh_Mod_k h))) ?_
  refine Eq.trans (am_g rfl rfl) ?_
  refine Eq.trans (am_gbp (x := 74) rfl (by decide)) ?_
  refine Eq.trans (am_g rfl rfl) ?_
  refine Eq.trans (am_gliw (x := 65537) rfl (by decide)) ?_
  refine Eq.trans (am_gn rfl (by decide) rfl) ?_
  refine Eq.trans (am_gpi rfl (congrArg Prod.fst (sh_Mod_k h))) ?_
  refine Eq.trans (am_g rfl rfl) ?_
  refine Eq.trans (am_ggi rfl (congrArg Prod.fst (sh_Mod_k h))) ?_
  refine Eq.trans (am_g rfl rfl) ?_
  refine Eq.trans (am_gn rfl s1 rfl) ?_
  exact am_grb rfl rfl (Or.inl rfl) rfl
def ds_X12_nextDraw (μ : am_M) (a : Nat) (x0 : Int32) : Prop := (¬ x0 = 0)
def dv_X12_nextDraw (μ : am_M) (a : Nat) (x0 : Int32) : Int32 := ((am_si μ a 50 (((75 * (μ.1 a 50)) + 74) - ((75 * (μ.1 a 50)) + 74) / 65537 * 65537)).1 a 50) - ((am_si μ a 50 (((75 * (μ.1 a 50)) + 74) - ((75 * (μ.1 a 50)) + 74) / 65537 * 65537)).1 a 50) / x0 * x0
def dm_X12_nextDraw (μ : am_M) (a : Nat) (x0 : Int32) : am_M := (((am_si μ a 50 (((75 * (μ.1 a 50)) + 74) - ((75 * (μ.1 a 50)) + 74) / 65537 * 65537)).1), ((am_si μ a 50 (((75 * (μ.1 a 50)) + 74) - ((75 * (μ.1 a 50)) + 74) / 65537 * 65537)).2.1), μ.2.2)
theorem k_X12_nextDraw (μ : am_M) (a : Nat) (x0 : Int32) (h : sh_Mod μ a) (hs : ds_X12_nextDraw μ a x0) : am_runs (am_en 309 [.ref a, .int x0]) μ = some (some (.int (dv_X12_nextDraw μ a x0)), dm_X12_nextDraw μ a x0) := by
  refine (x_X12_nextDraw μ a x0 h hs).trans ?_
  rfl
theorem x_X12_seed (μ : am_M) (a : Nat) (x0 : Int32) (h : sh_Mod μ a) (s1 : (((dm_X12_good μ a).1 a 14) = 0) → (dv_X12_isNot (dm_X12_good μ a) a 1) = 0 ∨ (dv_X12_isNot (dm_X12_good μ a) a 1) = 1) (s2 : (¬ (((dm_X12_good μ a).1 a 14) = 0)) → ((dv_X12_in (dm_X12_good μ a) x0 0 65536) = 0) → (dv_X12_isNot (dm_X12_good μ a) a 2) = 0 ∨ (dv_X12_isNot (dm_X12_good μ a) a 2) = 1) : am_runs (320, 0, [.ref a, .int x0], []) μ = if ((dm_X12_good μ a).1 a 14) = 0 then some (some (.int (dv_X12_isNot (dm_X12_good μ a) a 1)), dm_X12_isNot (dm_X12_good μ a) a 1) else if (dv_X12_in (dm_X12_good μ a) x0 0 65536) = 0 then some (some (.int (dv_X12_isNot (dm_X12_good μ a) a 2)), dm_X12_isNot (dm_X12_good μ a) a 2) else some (some (.int 1), am_si (dm_X12_good μ a) (a + 5) 29 x0) := by
  refine Eq.trans (am_g rfl rfl) ?_
  refine Eq.trans (am_gcV rfl rfl rfl rfl rfl rfl (congrArg Prod.fst (sh_Mod_k h)) rfl (k_X12_good μ a h)) ?_
  refine Eq.trans (am_g rfl rfl) ?_
  refine Eq.trans (am_ggz rfl (congrArg Prod.fst (sh_Mod_k h))) ?_
  refine Eq.trans (am_br rfl rfl) ?_
  refine am_itc (fun c1 => ?_) (fun c1 => ?_)
  · refine Eq.trans (am_g rfl rfl) ?_
    refine Eq.trans (am_gic (x := 1) rfl (by decide)) ?_
    refine Eq.trans (am_gcV rfl rfl rfl rfl rfl rfl (congrArg Prod.fst (sh_Mod_k h)) rfl (k_X12_isNot (dm_X12_good μ a) a 1 h)) ?_
    exact am_grb rfl rfl (Or.inr (s1 c1)) rfl
  · refine Eq.trans (am_g rfl rfl) ?_
    refine Eq.trans (am_gic (x := 0) rfl (by decide)) ?_
    refine Eq.trans (am_gliw (x := 65536) rfl (by decide)) ?_
    refine Eq.trans (am_gcS rfl rfl rfl rfl rfl rfl (k_X12_in (dm_X12_good μ a) x0 0 65536)) ?_
    refine Eq.trans (am_br rfl rfl) ?_
    refine am_itc (fun c2 => ?_) (fun c2 => ?_)
    · refine Eq.trans (am_g rfl rfl) ?_
      refine Eq.trans (am_gic (x := 2) rfl (by decide)) ?_
      refine Eq.trans (am_gcV rfl rfl rfl rfl rfl rfl (congrArg Prod.fst (sh_Mod_k h)) rfl (k_X12_isNot (dm_X12_good μ a) a 2 h)) ?_
      exact am_grb rfl rfl (Or.inr (s2 c1 c2)) rfl
    · refine Eq.trans (am_g rfl rfl) ?_
      refine Eq.trans (am_ggr (r := (a + 5)) rfl (congrArg Prod.fst (sh_Mod_k h)) (sh_Mod_p17 h)) ?_
      refine Eq.trans (am_gbp (x := 29) rfl (by decide)) ?_
      refine Eq.trans (am_g rfl rfl) ?_
      refine Eq.trans (am_gsiN (j := 29) rfl (sh_Mod_a17 h) (by decide) (by decide)) ?_
      refine Eq.trans (am_gic (x := 1) rfl (by decide)) ?_
      exact am_grb rfl rfl (Or.inr (Or.inr rfl)) rfl
def ds_X12_seed (μ : am_M) (a : Nat) (x0 : Int32) : Prop := ((((dm_X12_good μ a).1 a 14) = 0) → (dv_X12_isNot (dm_X12_good μ a) a 1) = 0 ∨ (dv_X12_isNot (dm_X12_good μ a) a 1) = 1) ∧ ((¬ (((dm_X12_good μ a).1 a 14) = 0)) → ((dv_X12_in (dm_X12_good μ a) x0 0 65536) = 0) → (dv_X12_isNot (dm_X12_good μ a) a 2) = 0 ∨ (dv_X12_isNot (dm_X12_good μ a) a 2) = 1)
def dv_X12_seed (μ : am_M) (a : Nat) (x0 : Int32) : Int32 := if ((dm_X12_good μ a).1 a 14) = 0 then dv_X12_isNot (dm_X12_good μ a) a 1 else if (dv_X12_in (dm_X12_good μ a) x0 0 65536) = 0 then dv_X12_isNot (dm_X12_good μ a) a 2 else 1
def dm_X12_seed (μ : am_M) (a : Nat) (x0 : Int32) : am_M := ((if ((dm_X12_good μ a).1 a 14) = 0 then (dm_X12_isNot (dm_X12_good μ a) a 1).1 else if (dv_X12_in (dm_X12_good μ a) x0 0 65536) = 0 then (dm_X12_isNot (dm_X12_good μ a) a 2).1 else (am_si (dm_X12_good μ a) (a + 5) 29 x0).1), (if ((dm_X12_good μ a).1 a 14) = 0 then (dm_X12_isNot (dm_X12_good μ a) a 1).2.1 else if (dv_X12_in (dm_X12_good μ a) x0 0 65536) = 0 then (dm_X12_isNot (dm_X12_good μ a) a 2).2.1 else (am_si (dm_X12_good μ a) (a + 5) 29 x0).2.1), μ.2.2)
theorem k_X12_seed (μ : am_M) (a : Nat) (x0 : Int32) (h : sh_Mod μ a) (hs : ds_X12_seed μ a x0) : am_runs (am_en 320 [.ref a, .int x0]) μ = some (some (.int (dv_X12_seed μ a x0)), dm_X12_seed μ a x0) := by
  refine (x_X12_seed μ a x0 h hs.1 hs.2).trans ?_
  unfold dv_X12_seed dm_X12_seed
  all_goals
    by_cases e1 : ((dm_X12_good μ a).1 a 14) = 0
    · simp only [if_pos e1]
      all_goals rfl
    · simp only [if_neg e1]
      all_goals
        by_cases e2 : (dv_X12_in (dm_X12_good μ a) x0 0 65536) = 0
        · simp only [if_pos e2]
          all_goals rfl
        · simp only [if_neg e2]
          all_goals rfl
theorem x_X12_size (μ : am_M) (a : Nat) (x0 : Int32) (h : sh_Mod μ a) (s1 : (¬ (x0 = 12)) → (¬ (((am_si μ a 0 0).1 a 14) = 0)) → (¬ ((dv_X12_in (am_si μ a 0 0) x0 0 8) = 0)) → am_out x0 172 = false) : am_runs (325, 0, [.ref a, .int x0], []) μ = if x0 = 12 then some (some (.int ((am_si μ a 0 0).1 a 2)), am_si μ a 0 0) else if ((am_si μ a 0 0).1 a 14) = 0 then if (dv_X12_in (am_si μ a 0 0) x0 0 11) = 0 then some (some (.int (-1)), am_si μ a 0 0) else some (some (.int 0), am_si μ a 0 0) else if (dv_X12_in (am_si μ a 0 0) x0 0 8) = 0 then if x0 = 9 then some (some (.int ((am_si μ a 0 0).1 (a + 5) 29)), am_si μ a 0 0) else if x0 = 10 then some (some (.int ((am_si μ a 0 0).1 a 20)), am_si μ a 0 0) else if x0 = 11 then some (some (.int ((am_si μ a 0 0).1 a 21)), am_si μ a 0 0) else some (some (.int (-1)), am_si μ a 0 0) else some (some (.int ((am_si μ a 0 0).1 (a + 3) x0.toNatClampNeg)), am_si μ a 0 0) := by
  refine Eq.trans (am_g rfl rfl) ?_
  refine Eq.trans (am_gic (x := 0) rfl (by decide)) ?_
  refine Eq.trans (am_gpi rfl (congrArg Prod.fst (sh_Mod_k h))) ?_
  refine Eq.trans (am_g rfl rfl) ?_
  refine Eq.trans (am_gbp (x := 12) rfl (by decide)) ?_
  refine Eq.trans (am_br rfl rfl) ?_
  refine am_itc (fun c1 => ?_) (fun c1 => ?_)
  · refine Eq.trans (am_g rfl rfl) ?_
    refine Eq.trans (am_ggi rfl (congrArg Prod.fst (sh_Mod_k h))) ?_
    exact am_grb rfl rfl (Or.inl rfl) rfl
  · refine Eq.trans (am_g rfl rfl) ?_
    refine Eq.trans (am_ggz rfl (congrArg Prod.fst (sh_Mod_k h))) ?_
    refine Eq.trans (am_br rfl rfl) ?_
    refine am_itc (fun c2 => ?_) (fun c2 => ?_)
    · refine Eq.trans (am_g rfl rfl) ?_
      refine Eq.trans (am_gic (x := 0) rfl (by decide)) ?_
      refine Eq.trans (am_gbp (x := 11) rfl (by decide)) ?_
      refine Eq.trans (am_gcS rfl rfl rfl rfl rfl rfl (k_X12_in (am_si μ a 0 0) x0 0 11)) ?_
      refine Eq.trans (am_br rfl rfl) ?_
      refine am_itc (fun c3 => ?_) (fun c3 => ?_)
      · refine Eq.trans (am_gic (x := -1) rfl (by decide)) ?_
        exact am_grb rfl rfl (Or.inl rfl) rfl
      · refine Eq.trans (am_gic (x := 0) rfl (by decide)) ?_
        refine Eq.trans (am_g rfl rfl) ?_
        exact am_grb rfl rfl (Or.inl rfl) rfl
    · refine Eq.trans (am_g rfl rfl) ?_
      refine Eq.trans (am_gic (x := 0) rfl (by decide)) ?_
      refine Eq.trans (am_gbp (x := 8) rfl (by decide)) ?_
      refine Eq.trans (am_gcS rfl rfl rfl rfl rfl rfl (k_X12_in (am_si μ a 0 0) x0 0 8)) ?_
      refine Eq.trans (am_br rfl rfl) ?_
      refine am_itc (fun c3 => ?_) (fun c3 => ?_)
      · refine Eq.trans (am_g rfl rfl) ?_
        refine Eq.trans (am_gbp (x := 9) rfl (by decide)) ?_
        refine Eq.trans (am_br rfl rfl) ?_
        refine am_itc (fun c4 => ?_) (fun c4 => ?_)
        · refine Eq.trans (am_g rfl rfl) ?_
          refine Eq.trans (am_ggr (r := (a + 5)) rfl (congrArg Prod.fst (sh_Mod_k h)) (sh_Mod_p17 h)) ?_
          refine Eq.trans (am_gbp (x := 29) rfl (by decide)) ?_
          refine Eq.trans (am_gaiN (j := 29) rfl (sh_Mod_a17 h) (by decide) (by decide)) ?_
          refine Eq.trans (am_g rfl rfl) ?_
          exact am_grb rfl rfl (Or.inl rfl) rfl
        · refine Eq.trans (am_g rfl rfl) ?_
          refine Eq.trans (am_gbp (x := 10) rfl (by decide)) ?_
          refine Eq.trans (am_br rfl rfl) ?_
          refine am_itc (fun c5 => ?_) (fun c5 => ?_)
          · refine Eq.trans (am_g rfl rfl) ?_
            refine Eq.trans (am_ggi rfl (congrArg Prod.fst (sh_Mod_k h))) ?_
            refine Eq.trans (am_g rfl rfl) ?_
            exact am_grb rfl rfl (Or.inl rfl) rfl
          · refine Eq.trans (am_g rfl rfl) ?_
            refine Eq.trans (am_gbp (x := 11) rfl (by decide)) ?_
            refine Eq.trans (am_br rfl rfl) ?_
            refine am_itc (fun c6 => ?_) (fun c6 => ?_)
            · refine Eq.trans (am_g rfl rfl) ?_
              refine Eq.trans (am_ggi rfl (congrArg Prod.fst (sh_Mod_k h))) ?_
              refine Eq.trans (am_g rfl rfl) ?_
              exact am_grb rfl rfl (Or.inl rfl) rfl
            · refine Eq.trans (am_gic (x := -1) rfl (by decide)) ?_
              exact am_grb rfl rfl (Or.inl rfl) rfl
      · refine Eq.trans (am_g rfl rfl) ?_
        refine Eq.trans (am_ggr (r := (a + 3)) rfl (congrArg Prod.fst (sh_Mod_k h)) (sh_Mod_p15 h)) ?_
        refine Eq.trans (am_g rfl rfl) ?_
        refine Eq.trans (am_gaiN rfl (sh_Mod_a15 h) (s1 c1 c2 c3) rfl) ?_
        exact am_grb rfl rfl (Or.inl rfl) rfl
def ds_X12_size (μ : am_M) (a : Nat) (x0 : Int32) : Prop := ((¬ (x0 = 12)) → (¬ (((am_si μ a 0 0).1 a 14) = 0)) → (¬ ((dv_X12_in (am_si μ a 0 0) x0 0 8) = 0)) → am_out x0 172 = false)
def dv_X12_size (μ : am_M) (a : Nat) (x0 : Int32) : Int32 := if x0 = 12 then (am_si μ a 0 0).1 a 2 else if ((am_si μ a 0 0).1 a 14) = 0 then if (dv_X12_in (am_si μ a 0 0) x0 0 11) = 0 then -1 else 0 else if (dv_X12_in (am_si μ a 0 0) x0 0 8) = 0 then if x0 = 9 then (am_si μ a 0 0).1 (a + 5) 29 else if x0 = 10 then (am_si μ a 0 0).1 a 20 else if x0 = 11 then (am_si μ a 0 0).1 a 21 else -1 else (am_si μ a 0 0).1 (a + 3) x0.toNatClampNeg
def dm_X12_size (μ : am_M) (a : Nat) (x0 : Int32) : am_M := ((if x0 = 12 then (am_si μ a 0 0).1 else if ((am_si μ a 0 0).1 a 14) = 0 then if (dv_X12_in (am_si μ a 0 0) x0 0 11) = 0 then (am_si μ a 0 0).1 else (am_si μ a 0 0).1 else if (dv_X12_in (am_si μ a 0 0) x0 0 8) = 0 then if x0 = 9 then (am_si μ a 0 0).1 else if x0 = 10 then (am_si μ a 0 0).1 else if x0 = 11 then (am_si μ a 0 0).1 else (am_si μ a 0 0).1 else (am_si μ a 0 0).1), (if x0 = 12 then (am_si μ a 0 0).2.1 else if ((am_si μ a 0 0).1 a 14) = 0 then if (dv_X12_in (am_si μ a 0 0) x0 0 11) = 0 then (am_si μ a 0 0).2.1 else (am_si μ a 0 0).2.1 else if (dv_X12_in (am_si μ a 0 0) x0 0 8) = 0 then if x0 = 9 then (am_si μ a 0 0).2.1 else if x0 = 10 then (am_si μ a 0 0).2.1 else if x0 = 11 then (am_si μ a 0 0).2.1 else (am_si μ a 0 0).2.1 else (am_si μ a 0 0).2.1), μ.2.2)
theorem k_X12_size (μ : am_M) (a : Nat) (x0 : Int32) (h : sh_Mod μ a) (hs : ds_X12_size μ a x0) : am_runs (am_en 325 [.ref a, .int x0]) μ = some (some (.int (dv_X12_size μ a x0)), dm_X12_size μ a x0) := by
  refine (x_X12_size μ a x0 h hs).trans ?_
  unfold dv_X12_size dm_X12_size
  all_goals
    by_cases e1 : x0 = 12
    · simp only [if_pos e1]
      all_goals rfl
    · simp only [if_neg e1]
      all_goals
        by_cases e2 : ((am_si μ a 0 0).1 a 14) = 0
        · simp only [if_pos e2]
          all_goals
            by_cases e3 : (dv_X12_in (am_si μ a 0 0) x0 0 11) = 0
            · simp only [if_pos e3]
              all_goals rfl
            · simp only [if_neg e3]
              all_goals rfl
        · simp only [if_neg e2]
          all_goals
            by_cases e3 : (dv_X12_in (am_si μ a 0 0) x0 0 8) = 0
            · simp only [if_pos e3]
              all_goals
                by_cases e4 : x0 = 9
                · simp only [if_pos e4]
                  all_goals rfl
                · simp only [if_neg e4]
                  all_goals
                    by_cases e5 : x0 = 10
                    · simp only [if_pos e5]
                      all_goals rfl
                    · simp only [if_neg e5]
                      all_goals
                        by_cases e6 : x0 = 11
                        · simp only [if_pos e6]
                          all_goals rfl
                        · simp only [if_neg e6]
                          all_goals rfl
            · simp only [if_neg e3]
              all_goals rfl
theorem x_X12_trouble (μ : am_M) (a : Nat) (h : sh_Mod μ a) : am_runs (326, 0, [.ref a], []) μ = some (some (.int ((am_si μ a 0 0).1 a 11)), am_si μ a 0 0) := by
  refine Eq.trans (am_g rfl rfl) ?_
  refine Eq.trans (am_gic (x := 0) rfl (by decide)) ?_
  refine Eq.trans (am_gpi rfl (congrArg Prod.fst (sh_Mod_k h))) ?_
  refine Eq.trans (am_g rfl rfl) ?_
  refine Eq.trans (am_ggi rfl (congrArg Prod.fst (sh_Mod_k h))) ?_
  exact am_grb rfl rfl (Or.inl rfl) rfl
def dv_X12_trouble (μ : am_M) (a : Nat) : Int32 := (am_si μ a 0 0).1 a 11
def dm_X12_trouble (μ : am_M) (a : Nat) : am_M := (((am_si μ a 0 0).1), ((am_si μ a 0 0).2.1), μ.2.2)
theorem k_X12_trouble (μ : am_M) (a : Nat) (h : sh_Mod μ a) : am_runs (am_en 326 [.ref a]) μ = some (some (.int (dv_X12_trouble μ a)), dm_X12_trouble μ a) := by
  refine (x_X12_trouble μ a h).trans ?_
  rfl
