/-! RUNS, by program (wip/gen/m1.py): the first leaves -/
def am_has (a b : Int32) : Int32 := if (a >>> (b &&& 31)) &&& 1 = 0 then 0 else 1
def sh_Now (μ : am_M) (a : Nat) : Prop := μ.2.2.2.1 a = (6, 0) ∧ μ.2.2.1 a 4 = some (a + 1) ∧ μ.2.2.2.1 (a + 1) = (14, 8) ∧ μ.2.2.1 a 5 = some (a + 2) ∧ μ.2.2.2.1 (a + 2) = (14, 8) ∧ μ.2.2.1 a 6 = some (a + 3) ∧ μ.2.2.2.1 (a + 3) = (14, 8) ∧ μ.2.2.1 a 7 = some (a + 4) ∧ μ.2.2.2.1 (a + 4) = (14, 3)
theorem x_has (μ : am_M) (a b : Int32) : am_runs (3, 0, [.int a, .int b], []) μ = if ((a >>> (b &&& 31)) &&& 1) = 0 then some (some (.int 0), μ) else some (some (.int 1), μ) := by
  refine (am_g rfl rfl).trans ?_
  refine (am_g rfl rfl).trans ?_
  refine (am_g rfl rfl).trans ?_
  refine (am_gic (x := 1) rfl (by decide)).trans ?_
  refine (am_g rfl rfl).trans ?_
  refine (am_br rfl rfl).trans ?_
  refine am_itc (fun c1 => ?_) (fun c1 => ?_)
  · refine (am_gic (x := 0) rfl (by decide)).trans ?_
    exact am_grb rfl rfl (Or.inr (Or.inl rfl)) rfl
  · refine (am_gic (x := 1) rfl (by decide)).trans ?_
    refine (am_g rfl rfl).trans ?_
    exact am_grb rfl rfl (Or.inr (Or.inr rfl)) rfl
theorem am_has_ok (a b : Int32) (μ : am_M) : am_runs (am_en 3 [.int a, .int b]) μ = some (some (.int (am_has a b)), μ) := by
  refine (x_has μ a b).trans ?_
  unfold am_has
  split <;> rfl
theorem x_menOf_4 (μ : am_M) (a : Nat) (t men k : Int32) (h : sh_Now μ a) (s1 : (¬ (8 ≤ k)) → (¬ ((am_has (μ.1 a 1) k) = 0)) → am_out k 8 = false) : am_runs (6, 4, [.ref a, .int t, .int men, .int k], []) μ = if 8 ≤ k then some (some (.int men), μ) else if (am_has (μ.1 a 1) k) = 0 then am_runs (6, 4, [.ref a, .int t, .int men, .int (k + 1)], []) μ else if (μ.1 (a + 1) k.toNatClampNeg) = t then am_runs (6, 4, [.ref a, .int t, .int (men ||| (1 <<< (k &&& 31))), .int (k + 1)], []) μ else am_runs (6, 4, [.ref a, .int t, .int men, .int (k + 1)], []) μ := by
  refine (am_g rfl rfl).trans ?_
  refine (am_gbp (x := 8) rfl (by decide)).trans ?_
  refine (am_br rfl rfl).trans ?_
  refine am_itc (fun c1 => ?_) (fun c1 => ?_)
  · refine (am_g rfl rfl).trans ?_
    exact am_grb rfl rfl (Or.inl rfl) rfl
  · refine (am_g rfl rfl).trans ?_
    refine (am_ggi rfl (congrArg Prod.fst h.1)).trans ?_
    refine (am_g rfl rfl).trans ?_
    refine (am_gcS rfl rfl rfl rfl rfl rfl (am_has_ok (μ.1 a 1) k _)).trans ?_
    refine (am_br rfl rfl).trans ?_
    refine am_itc (fun c2 => ?_) (fun c2 => ?_)
    · refine (am_gin (y := 1) rfl rfl (by decide)).trans ?_
      refine (am_g rfl rfl).trans ?_
      rfl
    · refine (am_g rfl rfl).trans ?_
      refine (am_ggr (r := (a + 1)) rfl (congrArg Prod.fst h.1) h.2.1).trans ?_
      refine (am_g rfl rfl).trans ?_
      refine (am_gai rfl h.2.2.1 (s1 c1 c2)).trans ?_
      refine (am_g rfl rfl).trans ?_
      refine (am_br rfl rfl).trans ?_
      refine am_itc (fun c3 => ?_) (fun c3 => ?_)
      · refine (am_g rfl rfl).trans ?_
        refine (am_gic (x := 1) rfl (by decide)).trans ?_
        refine (am_g rfl rfl).trans ?_
        refine (am_g rfl rfl).trans ?_
        refine (am_g rfl rfl).trans ?_
        refine (am_g rfl rfl).trans ?_
        refine (am_gin (y := 1) rfl rfl (by decide)).trans ?_
        refine (am_g rfl rfl).trans ?_
        rfl
      · refine (am_gin (y := 1) rfl rfl (by decide)).trans ?_
        refine (am_g rfl rfl).trans ?_
        rfl
theorem x_menOf_0 (μ : am_M) (a : Nat) (t : Int32) (h : sh_Now μ a) : am_runs (6, 0, [.ref a, .int t, .retAddr 0, .retAddr 0], []) μ = am_runs (6, 4, [.ref a, .int t, .int 0, .int 0], []) μ := by
  refine (am_gic (x := 0) rfl (by decide)).trans ?_
  refine (am_g rfl rfl).trans ?_
  refine (am_gic (x := 0) rfl (by decide)).trans ?_
  refine (am_g rfl rfl).trans ?_
  rfl
theorem x_bitCount (μ : am_M) (a : Int32) : am_runs (7, 0, [.int a], []) μ = some (some (.int ((((((((a - ((((a : Int32).toUInt32 >>> ((1 : Int32).toUInt32 &&& Int32.toUInt32 31)).toInt32) &&& 1431655765)) &&& 858993459) + (((((a - ((((a : Int32).toUInt32 >>> ((1 : Int32).toUInt32 &&& Int32.toUInt32 31)).toInt32) &&& 1431655765)) : Int32).toUInt32 >>> ((2 : Int32).toUInt32 &&& Int32.toUInt32 31)).toInt32) &&& 858993459)) + ((((((a - ((((a : Int32).toUInt32 >>> ((1 : Int32).toUInt32 &&& Int32.toUInt32 31)).toInt32) &&& 1431655765)) &&& 858993459) + (((((a - ((((a : Int32).toUInt32 >>> ((1 : Int32).toUInt32 &&& Int32.toUInt32 31)).toInt32) &&& 1431655765)) : Int32).toUInt32 >>> ((2 : Int32).toUInt32 &&& Int32.toUInt32 31)).toInt32) &&& 858993459)) : Int32).toUInt32 >>> ((4 : Int32).toUInt32 &&& Int32.toUInt32 31)).toInt32)) &&& 252645135) + ((((((((a - ((((a : Int32).toUInt32 >>> ((1 : Int32).toUInt32 &&& Int32.toUInt32 31)).toInt32) &&& 1431655765)) &&& 858993459) + (((((a - ((((a : Int32).toUInt32 >>> ((1 : Int32).toUInt32 &&& Int32.toUInt32 31)).toInt32) &&& 1431655765)) : Int32).toUInt32 >>> ((2 : Int32).toUInt32 &&& Int32.toUInt32 31)).toInt32) &&& 858993459)) + ((((((a - ((((a : Int32).toUInt32 >>> ((1 : Int32).toUInt32 &&& Int32.toUInt32 31)).toInt32) &&& 1431655765)) &&& 858993459) + (((((a - ((((a : Int32).toUInt32 >>> ((1 : Int32).toUInt32 &&& Int32.toUInt32 31)).toInt32) &&& 1431655765)) : Int32).toUInt32 >>> ((2 : Int32).toUInt32 &&& Int32.toUInt32 31)).toInt32) &&& 858993459)) : Int32).toUInt32 >>> ((4 : Int32).toUInt32 &&& Int32.toUInt32 31)).toInt32)) &&& 252645135) : Int32).toUInt32 >>> ((8 : Int32).toUInt32 &&& Int32.toUInt32 31)).toInt32)) + (((((((((a - ((((a : Int32).toUInt32 >>> ((1 : Int32).toUInt32 &&& Int32.toUInt32 31)).toInt32) &&& 1431655765)) &&& 858993459) + (((((a - ((((a : Int32).toUInt32 >>> ((1 : Int32).toUInt32 &&& Int32.toUInt32 31)).toInt32) &&& 1431655765)) : Int32).toUInt32 >>> ((2 : Int32).toUInt32 &&& Int32.toUInt32 31)).toInt32) &&& 858993459)) + ((((((a - ((((a : Int32).toUInt32 >>> ((1 : Int32).toUInt32 &&& Int32.toUInt32 31)).toInt32) &&& 1431655765)) &&& 858993459) + (((((a - ((((a : Int32).toUInt32 >>> ((1 : Int32).toUInt32 &&& Int32.toUInt32 31)).toInt32) &&& 1431655765)) : Int32).toUInt32 >>> ((2 : Int32).toUInt32 &&& Int32.toUInt32 31)).toInt32) &&& 858993459)) : Int32).toUInt32 >>> ((4 : Int32).toUInt32 &&& Int32.toUInt32 31)).toInt32)) &&& 252645135) + ((((((((a - ((((a : Int32).toUInt32 >>> ((1 : Int32).toUInt32 &&& Int32.toUInt32 31)).toInt32) &&& 1431655765)) &&& 858993459) + (((((a - ((((a : Int32).toUInt32 >>> ((1 : Int32).toUInt32 &&& Int32.toUInt32 31)).toInt32) &&& 1431655765)) : Int32).toUInt32 >>> ((2 : Int32).toUInt32 &&& Int32.toUInt32 31)).toInt32) &&& 858993459)) + ((((((a - ((((a : Int32).toUInt32 >>> ((1 : Int32).toUInt32 &&& Int32.toUInt32 31)).toInt32) &&& 1431655765)) &&& 858993459) + (((((a - ((((a : Int32).toUInt32 >>> ((1 : Int32).toUInt32 &&& Int32.toUInt32 31)).toInt32) &&& 1431655765)) : Int32).toUInt32 >>> ((2 : Int32).toUInt32 &&& Int32.toUInt32 31)).toInt32) &&& 858993459)) : Int32).toUInt32 >>> ((4 : Int32).toUInt32 &&& Int32.toUInt32 31)).toInt32)) &&& 252645135) : Int32).toUInt32 >>> ((8 : Int32).toUInt32 &&& Int32.toUInt32 31)).toInt32)) : Int32).toUInt32 >>> ((16 : Int32).toUInt32 &&& Int32.toUInt32 31)).toInt32)) &&& 63)), μ) := by
  refine (am_g rfl rfl).trans ?_
  refine (am_g rfl rfl).trans ?_
  refine (am_gic (x := 1) rfl (by decide)).trans ?_
  refine (am_g rfl rfl).trans ?_
  refine (am_gliw (x := 1431655765) rfl (by decide)).trans ?_
  refine (am_g rfl rfl).trans ?_
  refine (am_g rfl rfl).trans ?_
  refine (am_g rfl rfl).trans ?_
  refine (am_g rfl rfl).trans ?_
  refine (am_gliw (x := 858993459) rfl (by decide)).trans ?_
  refine (am_g rfl rfl).trans ?_
  refine (am_g rfl rfl).trans ?_
  refine (am_gic (x := 2) rfl (by decide)).trans ?_
  refine (am_g rfl rfl).trans ?_
  refine (am_gliw (x := 858993459) rfl (by decide)).trans ?_
  refine (am_g rfl rfl).trans ?_
  refine (am_g rfl rfl).trans ?_
  refine (am_g rfl rfl).trans ?_
  refine (am_g rfl rfl).trans ?_
  refine (am_g rfl rfl).trans ?_
  refine (am_gic (x := 4) rfl (by decide)).trans ?_
  refine (am_g rfl rfl).trans ?_
  refine (am_g rfl rfl).trans ?_
  refine (am_gliw (x := 252645135) rfl (by decide)).trans ?_
  refine (am_g rfl rfl).trans ?_
  refine (am_g rfl rfl).trans ?_
  refine (am_g rfl rfl).trans ?_
  refine (am_g rfl rfl).trans ?_
  refine (am_gbp (x := 8) rfl (by decide)).trans ?_
  refine (am_g rfl rfl).trans ?_
  refine (am_g rfl rfl).trans ?_
  refine (am_g rfl rfl).trans ?_
  refine (am_g rfl rfl).trans ?_
  refine (am_g rfl rfl).trans ?_
  refine (am_gbp (x := 16) rfl (by decide)).trans ?_
  refine (am_g rfl rfl).trans ?_
  refine (am_g rfl rfl).trans ?_
  refine (am_g rfl rfl).trans ?_
  refine (am_g rfl rfl).trans ?_
  refine (am_gbp (x := 63) rfl (by decide)).trans ?_
  refine (am_g rfl rfl).trans ?_
  exact am_grb rfl rfl (Or.inl rfl) rfl
