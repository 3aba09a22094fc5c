theorem am_leb_iff {μ μ' : am_M} : am_leb μ μ' = true ↔ μ.2.2.2.2.1 ≤ μ'.2.2.2.2.1 ∧ μ.2.2.2.2.2 ≤ μ'.2.2.2.2.2 := by
  unfold am_leb
  rw [Bool.and_eq_true, decide_eq_true_eq, decide_eq_true_eq]
