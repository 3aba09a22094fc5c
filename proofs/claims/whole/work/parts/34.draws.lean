/-! A LOT of a ten: what it does to a Now and to a row -/
def NowR (M o : Nat) (present braced seed : Int32) (tenOf feared angerOf lotsOf row : Nat → Int32) : Prop :=
  present = row (o + 27) ∧ braced = row (o + 28) ∧ seed = row (o + 29) ∧ (∀ m, m < M → tenOf m = row (o + m)) ∧ (∀ m, m < M → feared m = row (o + 8 + m)) ∧ (∀ m, m < M → angerOf m = row (o + 16 + m)) ∧ (∀ t, t < 3 → lotsOf t = row (o + 24 + t))
def dr_R (M o t : Nat) (black : Int32) (row : Nat → Int32) (s : (Nat → Int32) × (Nat → Int32)) (q : Nat → Int32) : Prop := (∀ m, m < M → s.1 m = q (o + 8 + m)) ∧ (∀ m, m < M → s.2 m = q (o + 16 + m)) ∧ (∀ i, (i < o + 8 ∨ o + 24 ≤ i) → q i = D_X12_draws_a1 o t black row i)
section DRAWS
variable {M o t : Nat} {present braced seed black : Int32} {tenOf feared angerOf lotsOf friendsOf row rr : Nat → Int32}
theorem draws_rel (hM : M ≤ 8) (hr : rr 5 = nI M) (hs : sub_men present M) (hf : ∀ m, m < M → friendsOf m = rr (33 + m)) (hfs : ∀ m, m < M → sm (friendsOf m)) (ht : t < 3) (hN : NowR M o present braced seed tenOf feared angerOf lotsOf row) {Y : Int32 × (Nat → Int32) × (Nat → Int32) × (Nat → Int32)} (hY : D_X6_takeAway t black present lotsOf feared tenOf angerOf friendsOf = Y) : NowR M o Y.1 braced seed tenOf Y.2.2.1 Y.2.2.2 Y.2.1 (D_X12_draws o t black row rr) ∧ (∀ i, (i < o ∨ o + 30 ≤ i) → D_X12_draws o t black row rr i = row i) ∧ Y.1 = present &&& (black ^^^ (-1)) := by
  obtain ⟨n1, n2, n3, n4, n5, n6, n7⟩ := hN
  subst hY
  have hlt : ¬ nI t < 0 := nI_pos (by omega)
  have hl3 : nI t < 3 := nI_lt (b := 3) (by omega) (by decide)
  unfold D_X6_takeAway
  rw [if_neg hlt, if_pos hl3]
  dsimp only
  have hsub : sub_men (present &&& (black ^^^ (-1))) M := fun k hk h => by
    rw [b_and, Bool.and_eq_true] at h
    exact hs k hk h.1
  -- the row ahead of the loop
  have a1 : ∀ i, i ≠ o + 27 → i ≠ o + 24 + t → D_X12_draws_a1 o t black row i = row i := fun i h1 h2 => by
    unfold D_X12_draws_a1
    rw [va_up_ne _ _ h2, va_up_ne _ _ h1]
  have a2 : D_X12_draws_a1 o t black row (o + 27) = present &&& (black ^^^ (-1)) := by
    unfold D_X12_draws_a1
    rw [va_up_ne _ _ (by omega), va_up_self, n1]
  have a3 : D_X12_draws_a1 o t black row (o + 24 + t) = lotsOf t + 1 := by
    unfold D_X12_draws_a1
    rw [va_up_self, va_up_ne _ _ (by omega), n7 t ht]
  have key : dr_R M o t black row (D_X6_takeAway_l1 t black present feared tenOf angerOf friendsOf) (D_X12_draws o t black row rr) := by
    unfold D_X6_takeAway_l1 D_X12_draws D_X12_draws_l1
    rw [hr, be_nI (by omega)]
    rw [am_fo_cut (g := st_X6_takeAway_34 t black present tenOf friendsOf) hM (fun k s _ => rfl) (fun k s h1 h2 => ?_)]
    · refine am_fo_rel (R := dr_R M o t black row) ⟨fun m hm => ?_, fun m hm => ?_, fun i _ => rfl⟩ fun k s q hk hR => ?_
      · rw [a1 _ (by omega) (by omega)]; exact n5 m hm
      · rw [a1 _ (by omega) (by omega)]; exact n6 m hm
      · obtain ⟨r1, r2, r3⟩ := hR
        have e27 : q (o + 27) = present &&& (black ^^^ (-1)) := by rw [r3 _ (Or.inr (by omega)), a2]
        have em : q (o + k) = tenOf k := by rw [r3 _ (Or.inl (by omega)), a1 _ (by omega) (by omega), n4 k hk]
        show (∀ m, m < M → (D_X6_takeAway_j1 t black present tenOf friendsOf k s).1 m = st_X12_draws_28 o t black rr k q (o + 8 + m)) ∧ (∀ m, m < M → (D_X6_takeAway_j1 t black present tenOf friendsOf k s).2 m = st_X12_draws_28 o t black rr k q (o + 16 + m)) ∧ (∀ i, (i < o + 8 ∨ o + 24 ≤ i) → st_X12_draws_28 o t black rr k q i = D_X12_draws_a1 o t black row i)
        unfold D_X6_takeAway_j1 st_X12_draws_28
        rw [e27, has_eq _ (by omega)]
        by_cases c : D_X12_hasBit (present &&& (black ^^^ (-1))) (nI k) = 0
        · rw [if_pos c, if_pos c]
          exact ⟨r1, r2, r3⟩
        · rw [if_neg c, if_neg c]
          unfold D_X12_draws_a2
          rw [em, ← hf k hk, ← bc_on (sm_and _ (hfs k hk))]
          dsimp only
          refine ⟨fun m hm => ?_, fun m hm => ?_, fun i hi => ?_⟩
          · rw [va_up_ne _ _ (show o + 8 + m ≠ o + 16 + k by omega)]
            by_cases e : m = k
            · subst e; rw [va_up_self, va_up_self, r1 m hm]
            · rw [va_up_ne _ _ e, va_up_ne _ _ (by omega)]; exact r1 m hm
          · by_cases e : m = k
            · subst e; rw [va_up_self, va_up_self, va_up_ne _ _ (by omega), r2 m hm]
            · rw [va_up_ne _ _ e, va_up_ne _ _ (by omega), va_up_ne _ _ (by omega)]; exact r2 m hm
          · rw [va_up_ne _ _ (by omega), va_up_ne _ _ (by omega)]; exact r3 i hi
    · show ((D_X6_takeAway_j1 t black present tenOf friendsOf k s).1, (D_X6_takeAway_j1 t black present tenOf friendsOf k s).2) = s
      unfold D_X6_takeAway_j1
      rw [if_pos]
      rw [has0 (by omega)]
      cases e : bt (present &&& (black ^^^ (-1))) k with
      | false => rfl
      | true => have := hsub k (by omega) e; omega
  obtain ⟨k1, k2, k3⟩ := key
  refine ⟨⟨?_, ?_, ?_, ?_, k1, k2, ?_⟩, ?_, rfl⟩
  · rw [k3 _ (Or.inr (by omega)), a2]
  · rw [k3 _ (Or.inr (by omega)), a1 _ (by omega) (by omega)]; exact n2
  · rw [k3 _ (Or.inr (by omega)), a1 _ (by omega) (by omega)]; exact n3
  · intro m hm
    rw [k3 _ (Or.inl (by omega)), a1 _ (by omega) (by omega)]; exact n4 m hm
  · intro u hu
    rw [k3 _ (Or.inr (by omega))]
    by_cases e : u = t
    · subst e; rw [va_up_self, a3]
    · rw [va_up_ne _ _ e, a1 _ (by omega) (by omega)]; exact n7 u hu
  · intro i hi
    rw [k3 i (by omega), a1 _ (by omega) (by omega)]
theorem G_draws (hM : M ≤ 8) (hr : rr 5 = nI M) (ht : t < 3) {n : Nat} (ho : o + 30 ≤ n) : G_X12_draws o t black row rr n := by
  refine ⟨by omega, by omega, fun k s hk _ => ?_⟩
  rw [hr, be_nI (by omega)] at hk
  exact ⟨by omega, fun _ => by omega, fun _ => by omega, fun _ => by omega, fun _ => by omega⟩
theorem G_take (ht : t < 3) : G_X6_takeAway t := fun _ _ => ht
end DRAWS
/-! COPIES of rows -/
theorem copy_ne_v {n1 n3 n4 : Nat} (h4 : n4 < 2 ^ 31) (a b : Nat → Int32) (i : Nat) : D_X12_copy_ne n1 n3 n4 a b i = if n3 ≤ i ∧ i < n3 + n4 then a (n1 + (i - n3)) else b i := by
  unfold D_X12_copy_ne D_X12_copy_ne_l1
  rw [be_nI h4]
  have : ∀ n, am_fo (st_X12_copy_ne_3 n1 n3 a) n b i = if n3 ≤ i ∧ i < n3 + n then a (n1 + (i - n3)) else b i := by
    intro n
    induction n with
    | zero => rw [if_neg (by omega)]; rfl
    | succ n ih =>
      show va_up (am_fo (st_X12_copy_ne_3 n1 n3 a) n b) (n3 + n) (a (n1 + n)) i = _
      by_cases e : i = n3 + n
      · subst e
        rw [va_up_self, if_pos (by omega)]
        congr 2
        omega
      · rw [va_up_ne _ _ e, ih]
        by_cases h : n3 ≤ i ∧ i < n3 + n
        · rw [if_pos h, if_pos (by omega)]
        · rw [if_neg h, if_neg (by omega)]
  exact this n4
