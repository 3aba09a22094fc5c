/-! INVERSION: from what a step gave, what it found -/
theorem am_b_inv {b : Prop} [Decidable b] {x : am_R} {y : (am_F × am_M) ⊕ (am_X ⊕ (Nat × List Value × am_F × am_M))} (h : am_b b x none = some y) : b ∧ x = some y := by
  unfold am_b at h
  split at h
  · next hb => exact ⟨hb, h⟩
  · cases h
theorem am_lim_inv {k : Nat} {L : List Value} {r : am_R} {y : (am_F × am_M) ⊕ (am_X ⊕ (Nat × List Value × am_F × am_M))} (h : am_lim k L r = some y) : k < L.length ∧ r = some y := by
  unfold am_lim at h
  cases hb : Nat.blt k L.length with
  | true => rw [hb] at h; exact ⟨Nat.le_of_ble_eq_true hb, h⟩
  | false => rw [hb] at h; cases h
theorem am_ldi_inv {q pc n k : Nat} {L S : List Value} {μ μ' : am_M} {f' : am_F} (h : am_ldi q pc n k L S μ = some (.inl (f', μ'))) : ∃ x, L[k]? = some (.int x) ∧ f' = (q, pc + n, L, .int x :: S) ∧ μ' = μ := by
  unfold am_ldi at h
  split at h
  · next x hx => cases h; exact ⟨x, hx, rfl, rfl⟩
  · cases h
theorem am_ldl_inv {q pc n k : Nat} {L S : List Value} {μ μ' : am_M} {f' : am_F} (h : am_ldl q pc n k L S μ = some (.inl (f', μ'))) : ∃ x, L[k]? = some (.long x) ∧ f' = (q, pc + n, L, .long x :: S) ∧ μ' = μ := by
  unfold am_ldl at h
  split at h
  · next x hx => cases h; exact ⟨x, hx, rfl, rfl⟩
  · cases h
theorem am_lda_inv {q pc n k : Nat} {L S : List Value} {μ μ' : am_M} {f' : am_F} (h : am_lda q pc n k L S μ = some (.inl (f', μ'))) : μ' = μ ∧ ((∃ x, L[k]? = some (.ref x) ∧ f' = (q, pc + n, L, .ref x :: S)) ∨ (∃ x, L[k]? = some (.float x) ∧ f' = (q, pc + n, L, .float x :: S)) ∨ (L[k]? = some (.retAddr 1) ∧ f' = (q, pc + n, L, .retAddr 1 :: S))) := by
  unfold am_lda at h
  split at h
  · next x hx => cases h; exact ⟨rfl, Or.inl ⟨x, hx, rfl⟩⟩
  · next x hx => cases h; exact ⟨rfl, Or.inr (Or.inl ⟨x, hx, rfl⟩)⟩
  · next hx => cases h; exact ⟨rfl, Or.inr (Or.inr ⟨hx, rfl⟩)⟩
  · cases h
theorem am_sti_inv {q pc n k : Nat} {L S : List Value} {μ μ' : am_M} {f' : am_F} (h : am_sti q pc n k L S μ = some (.inl (f', μ'))) : ∃ x S', S = .int x :: S' ∧ f' = (q, pc + n, am_st L k (.int x), S') ∧ μ' = μ := by
  unfold am_sti at h
  split at h
  · cases h; exact ⟨_, _, rfl, rfl, rfl⟩
  · cases h
theorem am_stl_inv {q pc n k : Nat} {L S : List Value} {μ μ' : am_M} {f' : am_F} (h : am_stl q pc n k L S μ = some (.inl (f', μ'))) : ∃ x S', S = .long x :: S' ∧ f' = (q, pc + n, am_st2 L k (.long x), S') ∧ μ' = μ := by
  unfold am_stl at h
  split at h
  · cases h; exact ⟨_, _, rfl, rfl, rfl⟩
  · cases h
theorem am_sta_inv {q pc n k : Nat} {L S : List Value} {μ μ' : am_M} {f' : am_F} (h : am_sta q pc n k L S μ = some (.inl (f', μ'))) : ∃ x S', S = .ref x :: S' ∧ f' = (q, pc + n, am_st L k (.ref x), S') ∧ μ' = μ := by
  unfold am_sta at h
  split at h
  · cases h; exact ⟨_, _, rfl, rfl, rfl⟩
  · cases h
theorem am_i2_inv {q pc : Nat} {L S : List Value} {μ μ' : am_M} {f' : am_F} {op : Int32 → Int32 → Int32} (h : am_i2 q pc L S μ op = some (.inl (f', μ'))) : ∃ x y S', S = .int y :: .int x :: S' ∧ f' = (q, pc + 1, L, .int (op x y) :: S') ∧ μ' = μ := by
  unfold am_i2 at h
  split at h
  · cases h; exact ⟨_, _, _, rfl, rfl, rfl⟩
  · cases h
theorem am_l2_inv {q pc : Nat} {L S : List Value} {μ μ' : am_M} {f' : am_F} {op : Int64 → Int64 → Int64} (h : am_l2 q pc L S μ op = some (.inl (f', μ'))) : ∃ x y S', S = .long y :: .long x :: S' ∧ f' = (q, pc + 1, L, .long (op x y) :: S') ∧ μ' = μ := by
  unfold am_l2 at h
  split at h
  · cases h; exact ⟨_, _, _, rfl, rfl, rfl⟩
  · cases h
theorem am_i1_inv {q pc : Nat} {L S : List Value} {μ μ' : am_M} {f' : am_F} {op : Int32 → Value} (h : am_i1 q pc L S μ op = some (.inl (f', μ'))) : ∃ x S', S = .int x :: S' ∧ f' = (q, pc + 1, L, op x :: S') ∧ μ' = μ := by
  unfold am_i1 at h
  split at h
  · cases h; exact ⟨_, _, rfl, rfl, rfl⟩
  · cases h
theorem am_sw_inv {q : Nat} {L S : List Value} {μ μ' : am_M} {f' : am_F} {t : Option Nat} (h : am_sw q L S μ t = some (.inl (f', μ'))) : ∃ t', t = some t' ∧ f' = (q, t', L, S) ∧ μ' = μ := by
  unfold am_sw at h
  split at h
  · cases h; exact ⟨_, rfl, rfl, rfl⟩
  · cases h
theorem am_chk1 {i : Instr} {μ μ' : am_M} {r : am_R} {f : am_F} (h : am_chk i μ r = some (.inl (f, μ'))) : r = some (.inl (f, μ')) ∧ am_leb μ μ' = true := by
  unfold am_chk at h
  split at h
  · next f1 μ1 =>
    cases hb : am_leb μ μ1 with
    | true => rw [hb] at h; cases h; exact ⟨rfl, hb⟩
    | false => rw [hb] at h; cases h
  · next v μ1 =>
    cases hb : (am_leb μ μ1 && am_isret i) with
    | true => rw [hb] at h; cases h
    | false => rw [hb] at h; cases h
  · next c as f1 μ1 =>
    cases hb : (am_leb μ μ1 && (am_isinv i && Nat.ble (am_lc as).length (am_ms c).2.2.1)) with
    | true => rw [hb] at h; cases h
    | false => rw [hb] at h; cases h
  · cases h
theorem am_chk2 {i : Instr} {μ μ' : am_M} {r : am_R} {v : Option Value} (h : am_chk i μ r = some (.inr (.inl (v, μ')))) : r = some (.inr (.inl (v, μ'))) ∧ am_leb μ μ' = true ∧ am_isret i = true := by
  unfold am_chk at h
  split at h
  · next f1 μ1 =>
    cases hb : am_leb μ μ1 with
    | true => rw [hb] at h; cases h
    | false => rw [hb] at h; cases h
  · next v μ1 =>
    cases hb : (am_leb μ μ1 && am_isret i) with
    | true => rw [hb] at h; cases h; rw [Bool.and_eq_true] at hb; exact ⟨rfl, hb⟩
    | false => rw [hb] at h; cases h
  · next c as f1 μ1 =>
    cases hb : (am_leb μ μ1 && (am_isinv i && Nat.ble (am_lc as).length (am_ms c).2.2.1)) with
    | true => rw [hb] at h; cases h
    | false => rw [hb] at h; cases h
  · cases h
theorem am_chk3 {i : Instr} {μ μ' : am_M} {r : am_R} {c : Nat} {as : List Value} {f : am_F} (h : am_chk i μ r = some (.inr (.inr (c, as, f, μ')))) : r = some (.inr (.inr (c, as, f, μ'))) ∧ am_leb μ μ' = true ∧ am_isinv i = true ∧ (am_lc as).length ≤ (am_ms c).2.2.1 := by
  unfold am_chk at h
  split at h
  · next f1 μ1 =>
    cases hb : am_leb μ μ1 with
    | true => rw [hb] at h; cases h
    | false => rw [hb] at h; cases h
  · next v μ1 =>
    cases hb : (am_leb μ μ1 && am_isret i) with
    | true => rw [hb] at h; cases h
    | false => rw [hb] at h; cases h
  · next c1 as1 f1 μ1 =>
    cases hb : (am_leb μ μ1 && (am_isinv i && Nat.ble (am_lc as1).length (am_ms c1).2.2.1)) with
    | true =>
      rw [hb] at h
      cases h
      rw [Bool.and_eq_true, Bool.and_eq_true] at hb
      exact ⟨rfl, hb.1, hb.2.1, Nat.le_of_ble_eq_true hb.2.2⟩
    | false => rw [hb] at h; cases h
  · cases h
theorem am_run_n : ∀ (n : Nat) (f : am_F) (μ : am_M) (r : am_X), am_run n f μ = some r → μ.2.2.2.2.1 ≤ r.2.2.2.2.2.1 ∧ μ.2.2.2.2.2 ≤ r.2.2.2.2.2.2 := by
  intro n
  induction n with
  | zero => intro f μ r h; simp [am_run] at h
  | succ n ih =>
    intro f μ r h
    rw [am_run] at h
    cases hs : am_step f μ with
    | none => rw [hs] at h; cases h
    | some x =>
      rw [hs] at h
      unfold am_step at hs
      split at hs
      · cases hs
      · next i k inf hf =>
        rcases x with ⟨f', μ'⟩ | ⟨v, μ'⟩ | ⟨c, as, f', μ'⟩
        · have h1 := am_leb_iff.mp (am_chk1 hs).2
          have h2 := ih _ _ _ h
          dsimp only at h2
          exact ⟨Nat.le_trans h1.1 h2.1, Nat.le_trans h1.2 h2.2⟩
        · have h1 := am_leb_iff.mp (am_chk2 hs).2.1
          have e : (v, μ') = r := Option.some.inj h
          rw [← e]
          exact h1
        · have h1 := am_leb_iff.mp (am_chk3 hs).2.1
          dsimp only at h
          cases hc : am_run n (am_en c as) μ' with
          | none => rw [hc] at h; cases h
          | some y =>
            rw [hc] at h
            have h2 := ih _ _ _ hc
            have h3 := ih _ _ _ h
            exact ⟨Nat.le_trans h1.1 (Nat.le_trans h2.1 h3.1), Nat.le_trans h1.2 (Nat.le_trans h2.2 h3.2)⟩
