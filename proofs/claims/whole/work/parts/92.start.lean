/-! THE STATE behind the constructors -/
def ptck : Bool := (List.range 192).all fun a => ((am_ptl.getD (a / 16) []).getD (a % 16) []).all fun z => pp_407 a z.1 == some z.2
theorem ptck_ok : ptck = true := by decide +kernel
theorem am_find_mem {α : Type} : ∀ (l : List (Nat × α)) (k : Nat) (x : α), am_find l k = some x → (k, x) ∈ l
  | [], k, x, h => by cases h
  | (j, a) :: t, k, x, h => by
    unfold am_find at h
    cases hb : j.beq k with
    | true =>
      rw [hb] at h
      have e1 : j = k := Nat.eq_of_beq_eq_true hb
      have e2 : a = x := Option.some.inj h
      rw [e1, e2]; exact List.mem_cons_self
    | false =>
      rw [hb] at h
      exact List.mem_cons_of_mem _ (am_find_mem t k x h)
theorem start_T0 (Ln : Nat) : am_T0 pp_407 (dd 192 Ln) := by
  refine ⟨fun a x e => dd_k (am_kd_lt e) e, fun a k x e => ?_⟩
  unfold am_pt at e
  have ha : a < 192 := by
    refine Decidable.byContradiction fun g => ?_
    have hl : am_ptl.length = 12 := rfl
    have h1 : am_ptl.length ≤ a / 16 := by omega
    rw [show am_ptl.getD (a / 16) [] = [] by rw [List.getD_eq_getElem?_getD, List.getElem?_eq_none h1]; rfl] at e
    cases e
  have h := List.all_eq_true.mp (List.all_eq_true.mp ptck_ok a (List.mem_range.mpr ha)) _ (am_find_mem _ _ _ e)
  exact eq_of_beq h
def slck : Bool := (List.range 16).all (fun i => pp_407 (5 * i + 48) 0 == some 23) && (List.range 3).all (fun i => pp_407 (5 * i + 128) 0 == some 23) && (pp_407 0 3 == some 23 && (pp_407 40 0 == some 23 && pp_407 2 3 == some 5))
theorem slck_ok : slck = true := by decide +kernel
set_option maxRecDepth 20000 in
theorem fc_23_0 (xs : Nat → Int32) : ff_203 xs 23 0 = 0 := rfl
set_option maxRecDepth 20000 in
theorem fc_23_1 (xs : Nat → Int32) : ff_203 xs 23 1 = 0 := rfl
set_option maxRecDepth 20000 in
theorem fc_23_2 (xs : Nat → Int32) : ff_203 xs 23 2 = 0 := rfl
set_option maxRecDepth 20000 in
theorem fc_23_3 (xs : Nat → Int32) : ff_203 xs 23 3 = 0 := rfl
set_option maxRecDepth 20000 in
theorem fc_23_4 (xs : Nat → Int32) : ff_203 xs 23 4 = 0 := rfl
set_option maxRecDepth 20000 in
theorem fc_23_5 (xs : Nat → Int32) : ff_203 xs 23 5 = 0 := rfl
set_option maxRecDepth 20000 in
theorem fc_23_6 (xs : Nat → Int32) : ff_203 xs 23 6 = 0 := rfl
set_option maxRecDepth 20000 in
theorem fc_40_1 (xs : Nat → Int32) : ff_203 xs 40 1 = 0 := rfl
set_option maxRecDepth 20000 in
theorem fc_40_2 (xs : Nat → Int32) : ff_203 xs 40 2 = 0 := rfl
set_option maxRecDepth 20000 in
theorem fc_40_3 (xs : Nat → Int32) : ff_203 xs 40 3 = 0 := rfl
set_option maxRecDepth 20000 in
theorem fc_45_2 (xs : Nat → Int32) : ff_203 xs 45 2 = 0 := rfl
set_option maxRecDepth 20000 in
theorem fc_45_3 (xs : Nat → Int32) : ff_203 xs 45 3 = 0 := rfl
set_option maxRecDepth 20000 in
theorem fc_45_4 (xs : Nat → Int32) : ff_203 xs 45 4 = 0 := rfl
set_option maxRecDepth 20000 in
theorem fc_30_0 (xs : Nat → Int32) : ff_203 xs 30 0 = 0 := rfl
set_option maxRecDepth 20000 in
theorem fc_30_4 (xs : Nat → Int32) : ff_203 xs 30 4 = 0 := rfl
set_option maxRecDepth 20000 in
theorem fc_36_0 (xs : Nat → Int32) : ff_203 xs 36 0 = (-1) := rfl
set_option maxRecDepth 20000 in
theorem fc_36_1 (xs : Nat → Int32) : ff_203 xs 36 1 = 0 := rfl
set_option maxRecDepth 20000 in
theorem fc_177_2 (xs : Nat → Int32) : ff_203 xs 177 2 = 0 := rfl
set_option maxRecDepth 20000 in
theorem fc_177_9 (xs : Nat → Int32) : ff_203 xs 177 9 = 0 := rfl
set_option maxRecDepth 20000 in
theorem fc_177_11 (xs : Nat → Int32) : ff_203 xs 177 11 = 0 := rfl
set_option maxRecDepth 20000 in
theorem fc_177_14 (xs : Nat → Int32) : ff_203 xs 177 14 = 0 := rfl
set_option maxRecDepth 20000 in
theorem fc_177_20 (xs : Nat → Int32) : ff_203 xs 177 20 = 0 := rfl
set_option maxRecDepth 20000 in
theorem fc_177_21 (xs : Nat → Int32) : ff_203 xs 177 21 = 0 := rfl
set_option maxRecDepth 20000 in
theorem fc_177_10 (xs : Nat → Int32) : ff_203 xs 177 10 = (-1) := rfl
set_option maxRecDepth 20000 in
theorem fc_0_11 (xs : Nat → Int32) : ff_203 xs 0 11 = (-1) := rfl
set_option maxRecDepth 20000 in
theorem fc_0_1 (xs : Nat → Int32) : ff_203 xs 0 1 = 0 := rfl
set_option maxRecDepth 20000 in
theorem fc_0_10 (xs : Nat → Int32) : ff_203 xs 0 10 = 0 := rfl
set_option maxRecDepth 20000 in
theorem fc_0_12 (xs : Nat → Int32) : ff_203 xs 0 12 = 0 := rfl
set_option maxRecDepth 20000 in
theorem fr_180 (xs : Nat → Int32) : ff_203 xs 180 = fun _ => 0 := rfl
set_option maxRecDepth 20000 in
theorem fr_182 (xs : Nat → Int32) : ff_203 xs 182 = fun _ => 0 := rfl
set_option maxRecDepth 20000 in
theorem fr_44 (xs : Nat → Int32) : ff_203 xs 44 = fun _ => 0 := rfl
set_option maxRecDepth 20000 in
theorem fr_1 (xs : Nat → Int32) : ff_203 xs 1 = fun _ => 0 := rfl
set_option maxRecDepth 20000 in
theorem fr_178 (xs : Nat → Int32) : ff_203 xs 178 = fun _ => 0 := rfl
theorem no_men : ∀ k, k < 32 → bt 0 k = true → k < 0 := by decide
theorem Inv_start (xs : Nat → Int32) : Inv (ff_203 xs) pp_407 := by
  have hs := slck_ok
  unfold slck at hs
  simp only [Bool.and_eq_true, beq_iff_eq] at hs
  obtain ⟨⟨h1, h2⟩, h3, h4, h5⟩ := hs
  have nz : ∀ {P : Prop} (i : Nat), i < 0 → P := fun i h => absurd h (Nat.not_lt_zero i)
  refine ⟨23, 5, 0, 0, 0, 0, 0, Or.inr ⟨rfl, rfl⟩, h3, h4, h5, fun i hi => ⟨23, Or.inr rfl, ?_⟩, fun i hi => ⟨23, Or.inr rfl, ?_⟩, ?_, fc_23_5 xs, ?_, ?_, ?_, ?_, ?_, ?_, ?_, ?_, fun i j h => nz i h, ⟨0, by decide, fc_40_3 xs⟩, ⟨by decide, by decide, fun i h => nz i h⟩, fc_45_2 xs, fc_45_3 xs, fc_177_20 xs, fun i h => nz i h, ⟨by decide, fun i h => nz i h⟩, fc_45_4 xs, fc_177_21 xs, fun i h => nz i h, by decide, fc_0_1 xs, fc_177_2 xs, ?_, (fc_0_10 xs).trans (fc_177_9 xs).symm, (fc_0_12 xs).trans (fc_177_11 xs).symm, fun _ => (fc_0_11 xs).trans (fc_177_10 xs).symm⟩
  · exact eq_of_beq (List.all_eq_true.mp h1 i (List.mem_range.mpr hi))
  · exact eq_of_beq (List.all_eq_true.mp h2 i (List.mem_range.mpr hi))
  · rw [fc_23_0, fc_23_1, fc_23_2, fc_23_3, fc_23_4, fr_180]
    exact ⟨by decide, rfl, rfl, rfl, rfl, rfl, rfl, fun m h => nz m h, fun m h => nz m h, fun m h => nz m h, fun m h => nz m h, fun m h => nz m h, fun m h => nz m h, ⟨0, by decide, rfl⟩, Or.inl rfl⟩
  · rw [fc_23_6, fr_180]
  · rw [fc_40_1, fc_40_2, fc_40_3, fr_44, fr_182]
    exact ⟨rfl, rfl, rfl, fun m h => nz m h, fun m h => nz m h, fun m h => nz m h, fun t _ => rfl⟩
  · rw [fc_40_1]; exact no_men
  · rw [fc_177_14, fc_23_4]
  · rw [fr_180, fr_182]; exact fun _ => ⟨rfl, fun i _ => rfl, rfl, rfl, rfl⟩
  · rw [show (23 + 7 : Nat) = 30 from rfl, fc_30_0, fc_30_4, fr_180]; exact Or.inl ⟨rfl, rfl, rfl, rfl⟩
  · rw [show (23 + 13 : Nat) = 36 from rfl, fc_36_0, fc_36_1, fr_180]; exact ⟨Or.inl ⟨rfl, rfl⟩, 0, by decide, rfl, rfl, fun i h => nz i h⟩
  · exact Nat.zero_le 8
  · rw [fr_1, fr_178]; exact fun i _ => ⟨0, by decide, rfl, rfl⟩
