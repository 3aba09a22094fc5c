/-! RULES: how a run of the small machine goes on, an instruction each -/
theorem am_leb_rfl (μ : am_M) : am_leb μ μ = true := am_leb_iff.mpr ⟨Nat.le_refl _, Nat.le_refl _⟩
section AMG
variable {q pc n : Nat} {i : Instr} {inf : am_I} {L S : List Value} {μ μ' : am_M} {f f' : am_F} {P : Prop}
theorem am_stepE (h : am_fetch q pc = some (i, n, inf)) : am_runs (q, pc, L, S) μ = am_fin (am_chk i μ (am_sem i n inf q pc L S μ)) := by
  rw [am_unf]
  unfold am_step
  simp only [h]
theorem am_gl (h : am_fetch q pc = some (i, n, inf)) (hl : am_leb μ μ' = true) (hs : am_sem i n inf q pc L S μ = am_nx f' μ') : am_runs (q, pc, L, S) μ = am_runs f' μ' := by
  rw [am_stepE h, hs]
  show am_fin (bif am_leb μ μ' then some (.inl (f', μ')) else none) = _
  rw [hl]
  rfl
theorem am_g (h : am_fetch q pc = some (i, n, inf)) (hs : am_sem i n inf q pc L S μ = am_nx f' μ) : am_runs (q, pc, L, S) μ = am_runs f' μ := am_gl h (am_leb_rfl μ) hs
theorem am_b_pos [Decidable P] {x y : am_R} (h : P) : am_b P x y = x := if_pos h
theorem am_b_neg [Decidable P] {x y : am_R} (h : ¬ P) : am_b P x y = y := if_neg h
theorem am_gb [Decidable P] (h : am_fetch q pc = some (i, n, inf)) (hP : P) (hs : am_sem i n inf q pc L S μ = am_b P (am_nx f' μ) none) : am_runs (q, pc, L, S) μ = am_runs f' μ := am_g h (hs.trans (am_b_pos hP))
theorem am_gbl [Decidable P] (h : am_fetch q pc = some (i, n, inf)) (hP : P) (hl : am_leb μ μ' = true) (hs : am_sem i n inf q pc L S μ = am_b P (am_nx f' μ') none) : am_runs (q, pc, L, S) μ = am_runs f' μ' := am_gl h hl (hs.trans (am_b_pos hP))
theorem am_gn [Decidable P] (h : am_fetch q pc = some (i, n, inf)) (hP : ¬ P) (hs : am_sem i n inf q pc L S μ = am_b P none (am_nx f' μ)) : am_runs (q, pc, L, S) μ = am_runs f' μ := am_g h (hs.trans (am_b_neg hP))
/-- a branch -/
theorem am_br [Decidable P] {f1 f2 : am_F} (h : am_fetch q pc = some (i, n, inf)) (hs : am_sem i n inf q pc L S μ = am_b P (am_nx f1 μ) (am_nx f2 μ)) : am_runs (q, pc, L, S) μ = if P then am_runs f1 μ else am_runs f2 μ := by
  by_cases hP : P
  · rw [if_pos hP]
    exact am_g h (hs.trans (am_b_pos hP))
  · rw [if_neg hP]
    exact am_g h (hs.trans (am_b_neg hP))
/-- a call -/
theorem am_gc [Decidable P] {c : Nat} {as rest : List Value} (h : am_fetch q pc = some (i, n, inf)) (hi : am_isinv i = true) (hP : P) (hl : Nat.ble (am_lc as).length (am_ms c).2.2.1 = true) (hs : am_sem i n inf q pc L S μ = am_b P (am_ca c as (q, pc + 3, L, rest) μ) none) : am_runs (q, pc, L, S) μ = (am_runs (am_en c as) μ).bind fun y => am_runs (q, pc + 3, L, y.1.toList ++ rest) y.2 := by
  rw [am_stepE h, hs, am_b_pos hP]
  show am_fin (bif am_leb μ μ && (am_isinv i && Nat.ble (am_lc as).length (am_ms c).2.2.1) then _ else none) = _
  rw [am_leb_rfl, hi, hl]
  rfl
theorem am_gr {v : Option Value} (h : am_fetch q pc = some (i, n, inf)) (hi : am_isret i = true) (hs : am_sem i n inf q pc L S μ = am_rt v μ) : am_runs (q, pc, L, S) μ = some (v, μ) := by
  rw [am_stepE h, hs]
  show am_fin (bif am_leb μ μ && am_isret i then _ else none) = _
  rw [am_leb_rfl, hi]
  rfl
theorem am_grb [Decidable P] {v : Option Value} (h : am_fetch q pc = some (i, n, inf)) (hi : am_isret i = true) (hP : P) (hs : am_sem i n inf q pc L S μ = am_b P (am_rt v μ) none) : am_runs (q, pc, L, S) μ = some (v, μ) := am_gr h hi (hs.trans (am_b_pos hP))
end AMG
theorem am_cs {c q n : Nat} {S : List Value} (h1 : Nat.blt c q = true) (h2 : Nat.ble n S.length = true) (h3 : Nat.ble (am_cat (S.drop n)) 8 = true) : c < q ∧ n ≤ S.length ∧ am_cat (S.drop n) ≤ 8 := ⟨Nat.le_of_ble_eq_true h1, Nat.le_of_ble_eq_true h2, Nat.le_of_ble_eq_true h3⟩
theorem am_cvv {c q n ci b : Nat} {S rest : List Value} {μ : am_M} (h1 : Nat.blt c q = true) (h2 : Nat.ble n S.length = true) (h3 : Nat.ble (am_cat rest) 8 = true) (h4 : (μ.2.2.2.1 b).1 = ci) : c < q ∧ n ≤ S.length ∧ am_cat rest ≤ 8 ∧ (ci = 13 ∨ (μ.2.2.2.1 b).1 = ci) := ⟨Nat.le_of_ble_eq_true h1, Nat.le_of_ble_eq_true h2, Nat.le_of_ble_eq_true h3, Or.inr h4⟩
theorem am_cvi {c q n b : Nat} {S rest : List Value} {μ : am_M} (h1 : Nat.blt c q = true) (h2 : Nat.ble n S.length = true) (h3 : Nat.ble (am_cat rest) 8 = true) : c < q ∧ n ≤ S.length ∧ am_cat rest ≤ 8 ∧ ((13 : Nat) = 13 ∨ (μ.2.2.2.1 b).1 = 13) := ⟨Nat.le_of_ble_eq_true h1, Nat.le_of_ble_eq_true h2, Nat.le_of_ble_eq_true h3, Or.inl rfl⟩
theorem am_itc {α : Type} {P : Prop} [Decidable P] {a b a' b' : α} (h1 : P → a = a') (h2 : ¬ P → b = b') : (if P then a else b) = if P then a' else b' := by
  by_cases h : P
  · rw [if_pos h, if_pos h]; exact h1 h
  · rw [if_neg h, if_neg h]; exact h2 h
section AMG2
variable {q pc idx : Nat} {L S : List Value} {μ : am_M} {a k ci : Nat}
theorem am_ggi (h : am_fetch q pc = some (.getfield idx, 3, (ci, k, 0))) (hk : (μ.2.2.2.1 a).1 = ci) : am_runs (q, pc, L, .ref a :: S) μ = am_runs (q, pc + 3, L, .int (μ.1 a k) :: S) μ := am_gb h hk rfl
theorem am_ggz (h : am_fetch q pc = some (.getfield idx, 3, (ci, k, 3))) (hk : (μ.2.2.2.1 a).1 = ci) : am_runs (q, pc, L, .ref a :: S) μ = am_runs (q, pc + 3, L, .int (μ.1 a k) :: S) μ := am_gb h hk rfl
theorem am_ggl (h : am_fetch q pc = some (.getfield idx, 3, (ci, k, 1))) (hk : (μ.2.2.2.1 a).1 = ci) : am_runs (q, pc, L, .ref a :: S) μ = am_runs (q, pc + 3, L, .long (μ.2.1 a k) :: S) μ := am_gb h hk rfl
theorem am_ggr {r : Nat} (h : am_fetch q pc = some (.getfield idx, 3, (ci, k, 2))) (hk : (μ.2.2.2.1 a).1 = ci) (hr : μ.2.2.1 a k = some r) : am_runs (q, pc, L, .ref a :: S) μ = am_runs (q, pc + 3, L, .ref r :: S) μ := by
  refine am_g h ?_
  show am_b ((μ.2.2.2.1 a).1 = ci) (match μ.2.2.1 a k with | some r => am_nx (q, pc + 3, L, .ref r :: S) μ | none => none) none = _
  rw [am_b_pos hk, hr]
theorem am_leb_si (a k : Nat) (x : Int32) : am_leb μ (am_si μ a k x) = true := am_leb_rfl μ
theorem am_leb_sl (a k : Nat) (x : Int64) : am_leb μ (am_sl μ a k x) = true := am_leb_rfl μ
theorem am_leb_sr (a k : Nat) (x : Option Nat) : am_leb μ (am_sr μ a k x) = true := am_leb_rfl μ
theorem am_gpi {x : Int32} (h : am_fetch q pc = some (.putfield idx, 3, (ci, k, 0))) (hk : (μ.2.2.2.1 a).1 = ci) : am_runs (q, pc, L, .int x :: .ref a :: S) μ = am_runs (q, pc + 3, L, S) (am_si μ a k x) := am_gbl h ⟨hk, Or.inl rfl⟩ (am_leb_si a k x) rfl
theorem am_gpz {x : Int32} (h : am_fetch q pc = some (.putfield idx, 3, (ci, k, 3))) (hk : (μ.2.2.2.1 a).1 = ci) (hx : x = 0 ∨ x = 1) : am_runs (q, pc, L, .int x :: .ref a :: S) μ = am_runs (q, pc + 3, L, S) (am_si μ a k x) := am_gbl h ⟨hk, Or.inr ⟨rfl, hx⟩⟩ (am_leb_si a k x) rfl
theorem am_gpl {x : Int64} (h : am_fetch q pc = some (.putfield idx, 3, (ci, k, 1))) (hk : (μ.2.2.2.1 a).1 = ci) : am_runs (q, pc, L, .long x :: .ref a :: S) μ = am_runs (q, pc + 3, L, S) (am_sl μ a k x) := am_gbl h ⟨hk, rfl⟩ (am_leb_sl a k x) rfl
theorem am_gpr {x : Nat} (h : am_fetch q pc = some (.putfield idx, 3, (ci, k, 2))) (hk : (μ.2.2.2.1 a).1 = ci) : am_runs (q, pc, L, .ref x :: .ref a :: S) μ = am_runs (q, pc + 3, L, S) (am_sr μ a k (some x)) := am_gbl h ⟨hk, rfl⟩ (am_leb_sr a k (some x)) rfl
variable {i : Int32} {n : Nat} {inf : am_I}
theorem am_gai (h : am_fetch q pc = some (.iaload, 1, inf)) (hk : μ.2.2.2.1 a = (14, n)) (hb : am_out i n = false) : am_runs (q, pc, L, .int i :: .ref a :: S) μ = am_runs (q, pc + 1, L, .int (μ.1 a i.toNatClampNeg) :: S) μ := am_gb h ⟨by rw [hk], by rw [hk]; exact hb⟩ rfl
theorem am_gas (h : am_fetch q pc = some (.iaload, 1, inf)) (hb : am_out i (μ.2.2.2.1 am_SC).2 = false) : am_runs (q, pc, L, .int i :: .retAddr 1 :: S) μ = am_runs (q, pc + 1, L, .int (μ.1 am_SC i.toNatClampNeg) :: S) μ := am_gb h hb rfl
theorem am_gal (h : am_fetch q pc = some (.laload, 1, inf)) (hk : μ.2.2.2.1 a = (15, n)) (hb : am_out i n = false) : am_runs (q, pc, L, .int i :: .ref a :: S) μ = am_runs (q, pc + 1, L, .long (μ.2.1 a i.toNatClampNeg) :: S) μ := am_gb h ⟨by rw [hk], by rw [hk]; exact hb⟩ rfl
theorem am_gab (h : am_fetch q pc = some (.baload, 1, inf)) (hk : μ.2.2.2.1 a = (13, n)) (hb : am_out i n = false) : am_runs (q, pc, L, .int i :: .ref a :: S) μ = am_runs (q, pc + 1, L, .int (μ.1 a i.toNatClampNeg) :: S) μ := am_gb h ⟨Or.inl (by rw [hk]), by rw [hk]; exact hb⟩ rfl
theorem am_gaz (h : am_fetch q pc = some (.baload, 1, inf)) (hk : μ.2.2.2.1 a = (16, n)) (hb : am_out i n = false) : am_runs (q, pc, L, .int i :: .ref a :: S) μ = am_runs (q, pc + 1, L, .int (μ.1 a i.toNatClampNeg) :: S) μ := am_gb h ⟨Or.inr (by rw [hk]), by rw [hk]; exact hb⟩ rfl
theorem am_gaa {r : Nat} (h : am_fetch q pc = some (.aaload, 1, inf)) (hk : μ.2.2.2.1 a = (17, n)) (hb : am_out i n = false) (hr : μ.2.2.1 a i.toNatClampNeg = some r) : am_runs (q, pc, L, .int i :: .ref a :: S) μ = am_runs (q, pc + 1, L, .ref r :: S) μ := by
  refine am_g h ?_
  show am_b ((μ.2.2.2.1 a).1 = 17 ∧ am_out i (μ.2.2.2.1 a).2 = false) (match μ.2.2.1 a i.toNatClampNeg with | some r => am_nx (q, pc + 1, L, .ref r :: S) μ | none => none) none = _
  rw [am_b_pos ⟨by rw [hk], by rw [hk]; exact hb⟩, hr]
theorem am_gsi {x : Int32} (h : am_fetch q pc = some (.iastore, 1, inf)) (hk : μ.2.2.2.1 a = (14, n)) (hb : am_out i n = false) : am_runs (q, pc, L, .int x :: .int i :: .ref a :: S) μ = am_runs (q, pc + 1, L, S) (am_si μ a i.toNatClampNeg x) := am_gbl h ⟨by rw [hk], by rw [hk]; exact hb⟩ (am_leb_si _ _ _) rfl
theorem am_gsl {x : Int64} (h : am_fetch q pc = some (.lastore, 1, inf)) (hk : μ.2.2.2.1 a = (15, n)) (hb : am_out i n = false) : am_runs (q, pc, L, .long x :: .int i :: .ref a :: S) μ = am_runs (q, pc + 1, L, S) (am_sl μ a i.toNatClampNeg x) := am_gbl h ⟨by rw [hk], by rw [hk]; exact hb⟩ (am_leb_sl _ _ _) rfl
theorem am_gsb {x : Int32} (h : am_fetch q pc = some (.bastore, 1, inf)) (hk : μ.2.2.2.1 a = (13, n)) (hb : am_out i n = false) : am_runs (q, pc, L, .int x :: .int i :: .ref a :: S) μ = am_runs (q, pc + 1, L, S) (am_si μ a i.toNatClampNeg (vp_nar .byte x)) := by
  refine am_gl h (am_leb_si _ _ _) ?_
  exact am_b_pos ⟨by rw [hk], by rw [hk]; exact hb⟩
theorem am_gsz {x : Int32} (h : am_fetch q pc = some (.bastore, 1, inf)) (hk : μ.2.2.2.1 a = (16, n)) (hb : am_out i n = false) : am_runs (q, pc, L, .int x :: .int i :: .ref a :: S) μ = am_runs (q, pc + 1, L, S) (am_si μ a i.toNatClampNeg (vp_nar .boolean x)) := by
  refine am_gl h (am_leb_si _ _ _) ?_
  refine (am_b_neg ?_).trans (am_b_pos ⟨by rw [hk], by rw [hk]; exact hb⟩)
  rw [hk]
  exact fun g => absurd g.1 (by show ¬ (16 : Nat) = 13; decide)
end AMG2
section AMG3
variable {q pc n idx : Nat} {i : Instr} {inf : am_I} {L S : List Value} {μ μ' : am_M} {P : Prop}
theorem am_gic {v : Int} {x : Int32} (h : am_fetch q pc = some (.iconst v, 1, inf)) (hv : Int32.ofInt v = x) : am_runs (q, pc, L, S) μ = am_runs (q, pc + 1, L, .int x :: S) μ := by rw [← hv]; exact am_g h rfl
theorem am_gbp {v : Int} {x : Int32} (h : am_fetch q pc = some (.bipush v, 2, inf)) (hv : (Int8.ofInt v).toInt32 = x) : am_runs (q, pc, L, S) μ = am_runs (q, pc + 2, L, .int x :: S) μ := by rw [← hv]; exact am_g h rfl
theorem am_gsp {v : Int} {x : Int32} (h : am_fetch q pc = some (.sipush v, 3, inf)) (hv : (Int16.ofInt v).toInt32 = x) : am_runs (q, pc, L, S) μ = am_runs (q, pc + 3, L, .int x :: S) μ := by rw [← hv]; exact am_g h rfl
theorem am_glc {v : Fin 2} {x : Int64} (h : am_fetch q pc = some (.lconst v, 1, inf)) (hv : Int64.ofNat v.val = x) : am_runs (q, pc, L, S) μ = am_runs (q, pc + 1, L, .long x :: S) μ := by rw [← hv]; exact am_g h rfl
theorem am_gin {k : Nat} {v : Int} {x y : Int32} (h : am_fetch q pc = some (.iinc k v, 3, inf)) (hk : L[k]? = some (.int x)) (hv : Int32.ofInt v = y) : am_runs (q, pc, L, S) μ = am_runs (q, pc + 3, am_st L k (.int (x + y)), S) μ := by
  rw [← hv]
  refine am_g h ?_
  show (match L[k]? with | some (.int x) => am_nx (q, pc + 3, am_st L k (.int (x + Int32.ofInt v)), S) μ | _ => none) = _
  rw [hk]
theorem am_gli {v : Nat} {x : Int32} (h : am_fetch q pc = some (.ldc idx, 2, (v, 0, 0))) (hv : nI v = x) : am_runs (q, pc, L, S) μ = am_runs (q, pc + 2, L, .int x :: S) μ := by rw [← hv]; exact am_g h rfl
theorem am_gliw {v : Nat} {x : Int32} (h : am_fetch q pc = some (.ldc_w idx, 3, (v, 0, 0))) (hv : nI v = x) : am_runs (q, pc, L, S) μ = am_runs (q, pc + 3, L, .int x :: S) μ := by rw [← hv]; exact am_g h rfl
theorem am_glj {v g : Nat} {x : Int64} (h : am_fetch q pc = some (.ldc2_w idx, 3, (v, g, 0))) (hv : (if g = 1 then -(lN v) else lN v) = x) : am_runs (q, pc, L, S) μ = am_runs (q, pc + 3, L, .long x :: S) μ := by rw [← hv]; exact am_g h rfl
theorem am_gls {v : Nat} (h : am_fetch q pc = some (.ldc idx, 2, (v, 0, 7))) : am_runs (q, pc, L, S) μ = am_runs (q, pc + 2, L, .float (UInt32.ofNat v) :: S) μ := am_g h rfl
theorem am_gcs [Decidable P] {c : Nat} {as rest : List Value} {v : Option Value} (h : am_fetch q pc = some (i, n, inf)) (hi : am_isinv i = true) (hP : P) (hl : Nat.ble (am_lc as).length (am_ms c).2.2.1 = true) (hs : am_sem i n inf q pc L S μ = am_b P (am_ca c as (q, pc + 3, L, rest) μ) none) (hc : am_runs (am_en c as) μ = some (v, μ')) : am_runs (q, pc, L, S) μ = am_runs (q, pc + 3, L, v.toList ++ rest) μ' := by
  rw [am_gc h hi hP hl hs, hc]
  rfl
theorem am_gmax {x y : Int32} (h : am_fetch q pc = some (.invokestatic idx, 3, (9005, 2, 0))) (hc : Nat.ble (am_cat S) 8 = true) : am_runs (q, pc, L, .int y :: .int x :: S) μ = am_runs (q, pc + 3, L, .int (if x < y then y else x) :: S) μ := am_gb h (Nat.le_of_ble_eq_true hc) rfl
theorem am_gmin {x y : Int32} (h : am_fetch q pc = some (.invokestatic idx, 3, (9006, 2, 0))) (hc : Nat.ble (am_cat S) 8 = true) : am_runs (q, pc, L, .int y :: .int x :: S) μ = am_runs (q, pc + 3, L, .int (if y < x then y else x) :: S) μ := am_gb h (Nat.le_of_ble_eq_true hc) rfl
theorem am_goi {a : Nat} (h : am_fetch q pc = some (.invokespecial idx, 3, (9000, 0, 0))) (hc : Nat.ble (am_cat S) 8 = true) : am_runs (q, pc, L, .ref a :: S) μ = am_runs (q, pc + 3, L, S) μ := am_gb h (Nat.le_of_ble_eq_true hc) rfl
end AMG3
section AMG4
variable {q pc idx c nn b : Nat} {L S rest : List Value} {μ μ' : am_M} {v : Option Value}
theorem am_gcS (h : am_fetch q pc = some (.invokestatic idx, 3, (c, nn, 13))) (h9 : Nat.blt c 9000 = true) (h1 : Nat.blt c q = true) (h2 : Nat.ble nn S.length = true) (h3 : Nat.ble (am_cat (S.drop nn)) 8 = true) (hl : Nat.ble (am_lc (S.take nn).reverse).length (am_ms c).2.2.1 = true) (hc : am_runs (am_en c (S.take nn).reverse) μ = some (v, μ')) : am_runs (q, pc, L, S) μ = am_runs (q, pc + 3, L, v.toList ++ S.drop nn) μ' := by
  refine am_gcs h rfl (am_cs h1 h2 h3) hl ?_ hc
  exact if_pos (Nat.le_of_ble_eq_true h9)
theorem am_gcV {ci : Nat} (h : am_fetch q pc = some (.invokevirtual idx, 3, (c, nn, ci))) (h9 : Nat.blt c 9000 = true) (h1 : Nat.blt c q = true) (h2 : Nat.ble nn S.length = true) (hS : S.drop nn = .ref b :: rest) (h3 : Nat.ble (am_cat rest) 8 = true) (hk : (μ.2.2.2.1 b).1 = ci) (hl : Nat.ble (am_lc (.ref b :: (S.take nn).reverse)).length (am_ms c).2.2.1 = true) (hc : am_runs (am_en c (.ref b :: (S.take nn).reverse)) μ = some (v, μ')) : am_runs (q, pc, L, S) μ = am_runs (q, pc + 3, L, v.toList ++ rest) μ' := by
  refine am_gcs h rfl (am_cvv (S := S) h1 h2 h3 hk) hl ?_ hc
  refine (if_pos (Nat.le_of_ble_eq_true h9)).trans ?_
  unfold am_callv
  rw [hS]
theorem am_gcI (h : am_fetch q pc = some (.invokespecial idx, 3, (c, nn, 13))) (h9 : Nat.blt c 9000 = true) (h1 : Nat.blt c q = true) (h2 : Nat.ble nn S.length = true) (hS : S.drop nn = .ref b :: rest) (h3 : Nat.ble (am_cat rest) 8 = true) (hl : Nat.ble (am_lc (.ref b :: (S.take nn).reverse)).length (am_ms c).2.2.1 = true) (hc : am_runs (am_en c (.ref b :: (S.take nn).reverse)) μ = some (v, μ')) : am_runs (q, pc, L, S) μ = am_runs (q, pc + 3, L, v.toList ++ rest) μ' := by
  refine am_gcs h rfl (am_cvi (S := S) (μ := μ) (b := b) h1 h2 h3) hl ?_ hc
  refine (if_pos (Nat.le_of_ble_eq_true h9)).trans ?_
  unfold am_callv
  rw [hS]
end AMG4
section AMG5
variable {q pc : Nat} {L S : List Value} {μ : am_M} {a j n : Nat} {i : Int32} {inf : am_I}
theorem am_gaiN (h : am_fetch q pc = some (.iaload, 1, inf)) (hk : μ.2.2.2.1 a = (14, n)) (hb : am_out i n = false) (hj : i.toNatClampNeg = j) : am_runs (q, pc, L, .int i :: .ref a :: S) μ = am_runs (q, pc + 1, L, .int (μ.1 a j) :: S) μ := by rw [← hj]; exact am_gai h hk hb
theorem am_galN (h : am_fetch q pc = some (.laload, 1, inf)) (hk : μ.2.2.2.1 a = (15, n)) (hb : am_out i n = false) (hj : i.toNatClampNeg = j) : am_runs (q, pc, L, .int i :: .ref a :: S) μ = am_runs (q, pc + 1, L, .long (μ.2.1 a j) :: S) μ := by rw [← hj]; exact am_gal h hk hb
theorem am_gabN (h : am_fetch q pc = some (.baload, 1, inf)) (hk : μ.2.2.2.1 a = (13, n)) (hb : am_out i n = false) (hj : i.toNatClampNeg = j) : am_runs (q, pc, L, .int i :: .ref a :: S) μ = am_runs (q, pc + 1, L, .int (μ.1 a j) :: S) μ := by rw [← hj]; exact am_gab h hk hb
theorem am_gazN (h : am_fetch q pc = some (.baload, 1, inf)) (hk : μ.2.2.2.1 a = (16, n)) (hb : am_out i n = false) (hj : i.toNatClampNeg = j) : am_runs (q, pc, L, .int i :: .ref a :: S) μ = am_runs (q, pc + 1, L, .int (μ.1 a j) :: S) μ := by rw [← hj]; exact am_gaz h hk hb
theorem am_gsiN {x : Int32} (h : am_fetch q pc = some (.iastore, 1, inf)) (hk : μ.2.2.2.1 a = (14, n)) (hb : am_out i n = false) (hj : i.toNatClampNeg = j) : am_runs (q, pc, L, .int x :: .int i :: .ref a :: S) μ = am_runs (q, pc + 1, L, S) (am_si μ a j x) := by rw [← hj]; exact am_gsi h hk hb
theorem am_gslN {x : Int64} (h : am_fetch q pc = some (.lastore, 1, inf)) (hk : μ.2.2.2.1 a = (15, n)) (hb : am_out i n = false) (hj : i.toNatClampNeg = j) : am_runs (q, pc, L, .long x :: .int i :: .ref a :: S) μ = am_runs (q, pc + 1, L, S) (am_sl μ a j x) := by rw [← hj]; exact am_gsl h hk hb
theorem am_gsbN {x : Int32} (h : am_fetch q pc = some (.bastore, 1, inf)) (hk : μ.2.2.2.1 a = (13, n)) (hb : am_out i n = false) (hj : i.toNatClampNeg = j) : am_runs (q, pc, L, .int x :: .int i :: .ref a :: S) μ = am_runs (q, pc + 1, L, S) (am_si μ a j (vp_nar .byte x)) := by rw [← hj]; exact am_gsb h hk hb
theorem am_gszN {x : Int32} (h : am_fetch q pc = some (.bastore, 1, inf)) (hk : μ.2.2.2.1 a = (16, n)) (hb : am_out i n = false) (hj : i.toNatClampNeg = j) : am_runs (q, pc, L, .int x :: .int i :: .ref a :: S) μ = am_runs (q, pc + 1, L, S) (am_si μ a j (vp_nar .boolean x)) := by rw [← hj]; exact am_gsz h hk hb
end AMG5
