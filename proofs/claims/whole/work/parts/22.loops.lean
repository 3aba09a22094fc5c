/-! LOOPS -/
/-- what a counted loop gathers -/
def am_fo {σ : Type} (step : Nat → σ → σ) : Nat → σ → σ
  | 0, s => s
  | n + 1, s => step n (am_fo step n s)
theorem am_for {σ ρ : Type} (n : Nat) (F : Nat → σ → ρ) (X : σ → ρ) (step : Nat → σ → σ) (hx : ∀ s, F n s = X s) (hs : ∀ k s, k < n → F k s = F (k + 1) (step k s)) (s : σ) : F 0 s = X (am_fo step n s) := by
  have h : ∀ k, k ≤ n → F 0 s = F k (am_fo step k s) := by
    intro k
    induction k with
    | zero => intro _; rfl
    | succ k ih => intro hk; rw [ih (by omega), hs k _ (by omega)]; rfl
  rw [h n (Nat.le_refl n), hx]
theorem am_fo_congr {σ : Type} {f g : Nat → σ → σ} {n : Nat} (h : ∀ k s, k < n → f k s = g k s) (s : σ) : am_fo f n s = am_fo g n s := by
  induction n with
  | zero => rfl
  | succ n ih =>
    show f n (am_fo f n s) = g n (am_fo g n s)
    rw [ih (fun k s hk => h k s (by omega)), h n _ (by omega)]
theorem am_out_nI {k n : Nat} (h : k < n) (hn : n < 2 ^ 31) : am_out (nI k) n = false := by
  unfold am_out
  rw [Bool.or_eq_false_iff, decide_eq_false_iff_not, decide_eq_false_iff_not, nI_clamp (by omega)]
  exact ⟨nI_pos (by omega), by omega⟩
