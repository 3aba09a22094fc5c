/-! THE READER: tokens, class beside reference -/
section SCAN
variable {σ ρ : Type} {f : Nat → σ → σ ⊕ ρ} {S : Nat → σ} {j : Nat} {r : ρ}
theorem fe_run (h1 : ∀ i, i < j → f i (S i) = .inl (S (i + 1))) : ∀ i, i ≤ j → am_fe f i (S 0) = .inl (S i) := by
  intro i
  induction i with
  | zero => intro _; rfl
  | succ i ih => intro hi; rw [am_fe_s, am_sel_l (ih (by omega)), h1 i (by omega)]
theorem fe_stop (h1 : ∀ i, i < j → f i (S i) = .inl (S (i + 1))) (h2 : f j (S j) = .inr r) : ∀ n, j < n → am_fe f n (S 0) = .inr r := by
  intro n
  induction n with
  | zero => intro h; omega
  | succ n ih =>
    intro h
    rw [am_fe_s]
    by_cases c : j < n
    · rw [am_sel_r (ih c)]
    · have : n = j := by omega
      rw [this, am_sel_l (fe_run h1 j (Nat.le_refl j)), h2]
theorem fe_at (h1 : ∀ i, i < j → f i (S i) = .inl (S (i + 1))) (h2 : f j (S j) = .inr r) {k : Nat} {s : σ} (h : am_fe f k (S 0) = .inl s) : k ≤ j ∧ s = S k := by
  by_cases c : j < k
  · rw [fe_stop h1 h2 k c] at h; cases h
  · have e := fe_run h1 k (by omega)
    rw [e] at h
    exact ⟨by omega, by cases h; rfl⟩
end SCAN
theorem scan_ex {P : Nat → Prop} (d : Nat) (h : ¬ P d) : ∃ j, j ≤ d ∧ (∀ i, i < j → P i) ∧ ¬ P j := by
  induction d generalizing P with
  | zero => exact ⟨0, Nat.le_refl 0, fun i hi => by omega, h⟩
  | succ d ih =>
    by_cases c : P 0
    · obtain ⟨j, j1, j2, j3⟩ := ih (P := fun i => P (i + 1)) h
      refine ⟨j + 1, by omega, fun i hi => ?_, j3⟩
      cases i with
      | zero => exact c
      | succ i => exact j2 i (by omega)
    · exact ⟨0, by omega, fun i hi => by omega, c⟩
theorem br_all2 : ∀ u, u < 256 → (((if u < 128 then nI u else nI u - 256 : Int32) = 32 ↔ nI u = 32) ∧ ((if u < 128 then nI u else nI u - 256 : Int32) = 59 ↔ nI u = 59) ∧ ¬ nI u = -1 ∧ (D_X12_isSmall (nI u) = 0 ↔ ((if u < 128 then nI u else nI u - 256 : Int32) < 97 ∨ 122 < (if u < 128 then nI u else nI u - 256 : Int32))) ∧ (D_X12_isDigit (nI u) = 0 ↔ ((if u < 128 then nI u else nI u - 256 : Int32) < 48 ∨ 57 < (if u < 128 then nI u else nI u - 256 : Int32)))) := by decide +kernel
theorem br_all3 : ∀ u, u < 256 → (¬ D_X12_isSmall (nI u) = 0 → (if u < 128 then nI u else nI u - 256 : Int32) = nI u ∧ 97 ≤ u ∧ u ≤ 122) ∧ (¬ D_X12_isDigit (nI u) = 0 → (if u < 128 then nI u else nI u - 256 : Int32) = nI u ∧ 48 ≤ u ∧ u ≤ 57) ∧ (¬ D_X12_isSmall (nI u) = 0 → ¬ nI u = 59) ∧ (¬ D_X12_isDigit (nI u) = 0 → ¬ nI u = 59) := by decide +kernel
section BRC
variable {b t : Int32}
theorem br_sp (h : BR b t) : b = 32 ↔ t = 32 := by
  obtain ⟨u, hu, e1, e2⟩ := h; rw [e1, e2]; exact (br_all2 u hu).1
theorem br_se (h : BR b t) : b = 59 ↔ t = 59 := by
  obtain ⟨u, hu, e1, e2⟩ := h; rw [e1, e2]; exact (br_all2 u hu).2.1
theorem br_no (h : BR b t) : ¬ t = -1 := by
  obtain ⟨u, hu, e1, e2⟩ := h; rw [e1]; exact (br_all2 u hu).2.2.1
theorem br_small (h : BR b t) : D_X12_isSmall t = 0 ↔ (b < 97 ∨ 122 < b) := by
  obtain ⟨u, hu, e1, e2⟩ := h; rw [e1, e2]; exact (br_all2 u hu).2.2.2.1
theorem br_digit (h : BR b t) : D_X12_isDigit t = 0 ↔ (b < 48 ∨ 57 < b) := by
  obtain ⟨u, hu, e1, e2⟩ := h; rw [e1, e2]; exact (br_all2 u hu).2.2.2.2
theorem br_smallv (h : BR b t) (c : ¬ D_X12_isSmall t = 0) : b = t ∧ ∃ u, 97 ≤ u ∧ u ≤ 122 ∧ t = nI u := by
  obtain ⟨u, hu, e1, e2⟩ := h
  rw [e1] at c
  obtain ⟨a, b1, c1⟩ := (br_all3 u hu).1 c
  exact ⟨by rw [e1, e2]; exact a, u, b1, c1, e1⟩
theorem br_digitv (h : BR b t) (c : ¬ D_X12_isDigit t = 0) : b = t ∧ ∃ u, u ≤ 9 ∧ t = nI (u + 48) := by
  obtain ⟨u, hu, e1, e2⟩ := h
  rw [e1] at c
  obtain ⟨a, b1, c1⟩ := (br_all3 u hu).2.1 c
  exact ⟨by rw [e1, e2]; exact a, u - 48, by omega, by rw [e1, show u - 48 + 48 = u by omega]⟩
theorem br_sm59 (h : BR b t) (c : ¬ D_X12_isSmall t = 0) : ¬ t = 59 := by
  obtain ⟨u, hu, e1, e2⟩ := h
  rw [e1] at c ⊢; exact (br_all3 u hu).2.2.1 c
theorem br_di59 (h : BR b t) (c : ¬ D_X12_isDigit t = 0) : ¬ t = 59 := by
  obtain ⟨u, hu, e1, e2⟩ := h
  rw [e1] at c ⊢; exact (br_all3 u hu).2.2.2 c
end BRC
theorem look_v {N p : Nat} {tape : Nat → Int32} (hN : N ≤ 1000) (hp : p < 2 ^ 31) : D_X12_look p (nI N) tape = if p < N then tape p else -1 := by
  unfold D_X12_look
  by_cases c : p < N
  · rw [if_pos c, if_neg (nI_ge c (by omega))]
  · rw [if_neg c, if_pos (nI_le (by omega) hp)]
def isLet (x : Int32) : Prop := ∃ u, 97 ≤ u ∧ u ≤ 122 ∧ x = nI u
def TokR (N : Nat) (bytes : Nat → Int32) (p q : Nat) (so ns wh tk en : Int32) (le : Nat → Int32) : Prop :=
  p + q ≤ N ∧ ((so = 4 ∧ tk = 1) ∨ (so = 0 ∧ tk = 0 ∧ q = 0 ∧ en = nI (p + q)) ∨ (so = 3 ∧ tk = 59 ∧ 1 ≤ q ∧ en = nI (p + q)) ∨ (so = 1 ∧ tk = 2 ∧ 1 ≤ q ∧ en = nI (p + q) ∧ q ≤ 8 ∧ ns = nI q ∧ ∀ i, i < q → bytes (p + i) = le i ∧ isLet (le i)) ∨ (so = 2 ∧ tk = 3 ∧ 1 ≤ q ∧ en = nI (p + q) ∧ q ≤ 3 ∧ (∃ w, w < 1000 ∧ wh = nI w) ∧ D_X10_value (nI q) (nI p) (nI N) bytes = wh ∧ G_X10_value (nI q) (nI p) (nI N) bytes))
section TOK
variable {N : Nat} {bytes tape : Nat → Int32}
theorem sc_step {p0 : Nat} {pl ln : Int32} (hN : N ≤ 1000) (hT : TapR bytes tape) (hp : p0 ≤ N) (hpl : pl + ln = nI p0) : ∃ p, p0 ≤ p ∧ p ≤ N ∧ (p < N → ¬ bytes p = 32) ∧ D_X10_step_m1 pl ln (nI N) bytes = nI p ∧ D_X12_goOn_m1 (nI p0) (nI N) tape = nI p ∧ (∀ (k1 : Nat) (s1 : Int32), k1 < 1001 → am_fe (st_X10_step_13 (nI N) bytes) k1 (pl + ln) = .inl s1 → G_st_X10_step_13 (nI N) k1 s1) ∧ am_ir (D_X10_step_l1 pl ln (nI N) bytes) = true ∧ (∀ (k1 : Nat) (s1 : Int32), k1 < 1001 → am_fe (st_X12_goOn_5 (nI N) tape) k1 (nI p0) = .inl s1 → G_st_X12_goOn_5 (nI N) k1 s1) ∧ am_ir (D_X12_goOn_l1 (nI p0) (nI N) tape) = true := by
  obtain ⟨j, j1, j2, j3⟩ := scan_ex (P := fun i => p0 + i < N ∧ bytes (p0 + i) = 32) (N - p0) (fun h => by omega)
  have c1 : ∀ i, i < j → st_X10_step_13 (nI N) bytes i (nI (p0 + i)) = .inl (nI (p0 + (i + 1))) := fun i hi => by
    obtain ⟨a, b⟩ := j2 i hi
    unfold st_X10_step_13
    rw [if_neg (nI_ge a (by omega)), nI_clamp (by omega), if_pos b, nI_1]; rfl
  have c2 : st_X10_step_13 (nI N) bytes j (nI (p0 + j)) = .inr (nI (p0 + j)) := by
    unfold st_X10_step_13
    by_cases c : p0 + j < N
    · rw [if_neg (nI_ge c (by omega)), nI_clamp (by omega), if_neg (fun e => j3 ⟨c, e⟩)]
    · rw [if_pos (nI_le (by omega) (by omega))]
  have d1 : ∀ i, i < j → st_X12_goOn_5 (nI N) tape i (nI (p0 + i)) = .inl (nI (p0 + (i + 1))) := fun i hi => by
    obtain ⟨a, b⟩ := j2 i hi
    unfold st_X12_goOn_5
    rw [nI_clamp (by omega), look_v hN (by omega), if_pos a, if_pos ((br_sp (hT _ (by omega))).mp b), nI_1]; rfl
  have d2 : st_X12_goOn_5 (nI N) tape j (nI (p0 + j)) = .inr (nI (p0 + j)) := by
    unfold st_X12_goOn_5
    rw [nI_clamp (by omega), look_v hN (by omega)]
    by_cases c : p0 + j < N
    · rw [if_pos c, if_neg (fun e => j3 ⟨c, (br_sp (hT _ (by omega))).mpr e⟩)]
    · rw [if_neg c, if_neg (by decide)]
  have e1 := fe_stop (S := fun i => nI (p0 + i)) c1 c2 1001 (by omega)
  have e2 := fe_stop (S := fun i => nI (p0 + i)) d1 d2 1001 (by omega)
  dsimp only [Nat.add_zero] at e1 e2
  refine ⟨p0 + j, by omega, by omega, fun h e => j3 ⟨h, e⟩, ?_, ?_, fun k s hk h => ?_, ?_, fun k s hk h => ?_, ?_⟩
  · unfold D_X10_step_m1 D_X10_step_l1; rw [hpl, e1]; rfl
  · unfold D_X12_goOn_m1 D_X12_goOn_l1; rw [e2]; rfl
  · rw [hpl] at h
    obtain ⟨a, b⟩ := fe_at (S := fun i => nI (p0 + i)) c1 c2 h
    rw [b]
    exact ⟨fun _ => nI_pos (by omega), fun c => by
      rw [nI_clamp (by omega)]
      apply Classical.byContradiction; intro c2; exact c (nI_le (by omega) (by omega))⟩
  · unfold D_X10_step_l1; rw [hpl, e1]; rfl
  · obtain ⟨a, b⟩ := fe_at (S := fun i => nI (p0 + i)) d1 d2 h
    rw [b]
    exact ⟨nI_pos (by omega), fun c => by
      rw [nI_clamp (by omega)] at c ⊢
      apply Classical.byContradiction; intro c2; exact c (nI_le (by omega) (by omega))⟩
  · unfold D_X12_goOn_l1; rw [e2]; rfl
theorem tog_v {x0 x1 : Int32} {p j : Nat} (hN : N ≤ 1000) (hj : p + j ≤ N) (h1 : ∀ i, i < j → ¬ bytes (p + i) < x0 ∧ ¬ x1 < bytes (p + i)) (h2 : p + j < N → bytes (p + j) < x0 ∨ x1 < bytes (p + j)) : D_X10_standTogether x0 x1 (nI p) (nI N) bytes = nI j ∧ G_X10_standTogether x0 x1 (nI p) (nI N) bytes := by
  have c1 : ∀ i, i < j → st_X10_standTogether_2 x0 x1 (nI p) (nI N) bytes i (nI i) = .inl (nI (i + 1)) := fun i hi => by
    unfold st_X10_standTogether_2
    rw [nI_add, if_neg (nI_ge (by omega) (by omega)), nI_clamp (by omega), nI_clamp (by omega), if_neg (h1 i hi).1, if_neg (h1 i hi).2, nI_1]
  have c2 : st_X10_standTogether_2 x0 x1 (nI p) (nI N) bytes j (nI j) = .inr (nI j) := by
    unfold st_X10_standTogether_2
    rw [nI_add]
    by_cases c : p + j < N
    · rw [if_neg (nI_ge c (by omega)), nI_clamp (by omega), nI_clamp (by omega)]
      rcases h2 c with h | h
      · rw [if_pos h]
      · by_cases d : bytes (p + j) < x0
        · rw [if_pos d]
        · rw [if_neg d, if_pos h]
    · rw [if_pos (nI_le (by omega) (by omega))]
  have e1 : am_fe (st_X10_standTogether_2 x0 x1 (nI p) (nI N) bytes) 1001 0 = .inr (nI j) := fe_stop (S := fun i => nI i) c1 c2 1001 (by omega)
  refine ⟨?_, fun k s hk h => ?_, ?_⟩
  · unfold D_X10_standTogether D_X10_standTogether_m1 D_X10_standTogether_l1; rw [e1]; rfl
  · obtain ⟨a, b⟩ := fe_at (S := fun i => nI i) c1 c2 h
    rw [b]
    have g1 : ¬ nI p < 0 := nI_pos (by omega)
    have g2 : ¬ nI k < 0 := nI_pos (by omega)
    have g3 : ¬ (nI N ≤ nI p + nI k) → (nI p).toNatClampNeg + (nI k).toNatClampNeg < 1000 := fun c => by
      rw [nI_clamp (by omega), nI_clamp (by omega)]
      rw [nI_add] at c
      apply Classical.byContradiction; intro c2; exact c (nI_le (by omega) (by omega))
    exact ⟨fun _ => g1, fun _ => g2, g3, fun _ _ => g1, fun _ _ => g2, fun c _ => g3 c⟩
  · unfold D_X10_standTogether_l1; rw [e1]; rfl
def ltR (p : Nat) (tape le : Nat → Int32) (i : Nat) : Nat → Int32 := am_fo (fun k s => if 8 ≤ k then s else va_up s k (tape (p + k))) i le
theorem ltR_v {p i k : Nat} {le : Nat → Int32} (hk : k < i) (h8 : k < 8) : ltR p tape le i k = tape (p + k) := by
  unfold ltR
  induction i with
  | zero => omega
  | succ i ih =>
    show (if 8 ≤ i then _ else va_up _ i _ : Nat → Int32) k = _
    by_cases c : 8 ≤ i
    · rw [if_pos c]; exact ih (by omega)
    · rw [if_neg c]
      by_cases e : k = i
      · rw [e, va_up_self]
      · rw [va_up_ne _ _ e]; exact ih (by omega)
theorem letters_v {p0 p j : Nat} {le : Nat → Int32} (hN : N ≤ 1000) (hm : D_X12_goOn_m1 (nI p0) (nI N) tape = nI p) (hj : p + j ≤ N) (h1 : ∀ i, i < j → ¬ D_X12_isSmall (tape (p + i)) = 0) (h2 : p + j < N → D_X12_isSmall (tape (p + j)) = 0) : D_X12_goOn_m3 (nI p0) (nI N) tape le = (nI (p + j), nI j, ltR p tape le j) ∧ (∀ (k2 : Nat) (s2 : Int32 × Int32 × (Nat → Int32)), k2 < 1001 → am_fe (st_X12_goOn_67 (nI N) tape) k2 (D_X12_goOn_m1 (nI p0) (nI N) tape, 0, le) = .inl s2 → G_st_X12_goOn_67 (nI N) tape k2 s2) ∧ am_ir (D_X12_goOn_l3 (nI p0) (nI N) tape le) = true := by
  have c1 : ∀ i, i < j → st_X12_goOn_67 (nI N) tape i (nI (p + i), nI i, ltR p tape le i) = .inl (nI (p + (i + 1)), nI (i + 1), ltR p tape le (i + 1)) := fun i hi => by
    unfold st_X12_goOn_67
    dsimp only
    rw [nI_clamp (by omega), look_v hN (by omega), if_pos (show p + i < N by omega), if_neg (h1 i hi), nI_1, nI_1]
    show Sum.inl (_, _, _) = Sum.inl (_, _, (if 8 ≤ i then ltR p tape le i else va_up (ltR p tape le i) i (tape (p + i))))
    by_cases c : 8 ≤ i
    · rw [if_pos (show (8 : Int32) ≤ nI i from nI_le (a := 8) c (by omega)), if_pos c]; rfl
    · rw [if_neg (show ¬ (8 : Int32) ≤ nI i from nI_ge (b := 8) (by omega) (by omega)), if_neg c, nI_clamp (by omega)]; rfl
  have c2 : st_X12_goOn_67 (nI N) tape j (nI (p + j), nI j, ltR p tape le j) = .inr (nI (p + j), nI j, ltR p tape le j) := by
    unfold st_X12_goOn_67
    dsimp only
    rw [nI_clamp (by omega), look_v hN (by omega)]
    by_cases c : p + j < N
    · rw [if_pos c, if_pos (h2 c)]
    · rw [if_neg c, if_pos (by decide)]
  have e1 : am_fe (st_X12_goOn_67 (nI N) tape) 1001 (nI p, 0, le) = .inr (nI (p + j), nI j, ltR p tape le j) := fe_stop (S := fun i => (nI (p + i), nI i, ltR p tape le i)) c1 c2 1001 (by omega)
  rw [hm]
  refine ⟨?_, fun k s hk h => ?_, ?_⟩
  · unfold D_X12_goOn_m3 D_X12_goOn_l3; rw [hm, e1]; rfl
  · obtain ⟨a, b⟩ := fe_at (S := fun i => (nI (p + i), nI i, ltR p tape le i)) c1 c2 h
    rw [b]
    have g1 : ¬ nI (p + k) < 0 := nI_pos (by omega)
    have g2 : ¬ nI k < 0 := nI_pos (by omega)
    have g3 : G_X12_look (nI (p + k)).toNatClampNeg (nI N) := fun c => by
      rw [nI_clamp (by omega)] at c ⊢
      apply Classical.byContradiction; intro c2; exact c (nI_le (by omega) (by omega))
    exact ⟨g1, g3, fun _ _ => g1, fun _ _ => g3, fun _ _ => g2, fun _ c => by
      show (nI k).toNatClampNeg < 8
      rw [nI_clamp (by omega)]
      apply Classical.byContradiction; intro c2; exact c (nI_le (a := 8) (by omega) (by omega))⟩
  · unfold D_X12_goOn_l3; rw [hm, e1]; rfl
def whR (p : Nat) (tape : Nat → Int32) (i : Nat) : Int32 := am_fo (fun k s => if 3 ≤ k then s else 10 * s + tape (p + k) - 48) i 0
theorem digits_v {p0 p j : Nat} (hN : N ≤ 1000) (hm : D_X12_goOn_m1 (nI p0) (nI N) tape = nI p) (hj : p + j ≤ N) (h1 : ∀ i, i < j → ¬ D_X12_isDigit (tape (p + i)) = 0) (h2 : p + j < N → D_X12_isDigit (tape (p + j)) = 0) : D_X12_goOn_m2 (nI p0) (nI N) tape = (nI (p + j), nI j, whR p tape j) ∧ (∀ (k2 : Nat) (s2 : Int32 × Int32 × Int32), k2 < 1001 → am_fe (st_X12_goOn_152 (nI N) tape) k2 (D_X12_goOn_m1 (nI p0) (nI N) tape, 0, 0) = .inl s2 → G_st_X12_goOn_152 (nI N) tape k2 s2) ∧ am_ir (D_X12_goOn_l2 (nI p0) (nI N) tape) = true := by
  have c1 : ∀ i, i < j → st_X12_goOn_152 (nI N) tape i (nI (p + i), nI i, whR p tape i) = .inl (nI (p + (i + 1)), nI (i + 1), whR p tape (i + 1)) := fun i hi => by
    unfold st_X12_goOn_152
    dsimp only
    rw [nI_clamp (by omega), look_v hN (by omega), if_pos (show p + i < N by omega), if_neg (h1 i hi), nI_1, nI_1]
    show Sum.inl (_, _, _) = Sum.inl (_, _, (if 3 ≤ i then whR p tape i else 10 * whR p tape i + tape (p + i) - 48))
    by_cases c : 3 ≤ i
    · rw [if_pos (show (3 : Int32) ≤ nI i from nI_le (a := 3) c (by omega)), if_pos c]; rfl
    · rw [if_neg (show ¬ (3 : Int32) ≤ nI i from nI_ge (b := 3) (by omega) (by omega)), if_neg c]; rfl
  have c2 : st_X12_goOn_152 (nI N) tape j (nI (p + j), nI j, whR p tape j) = .inr (nI (p + j), nI j, whR p tape j) := by
    unfold st_X12_goOn_152
    dsimp only
    rw [nI_clamp (by omega), look_v hN (by omega)]
    by_cases c : p + j < N
    · rw [if_pos c, if_pos (h2 c)]
    · rw [if_neg c, if_pos (by decide)]
  have e1 : am_fe (st_X12_goOn_152 (nI N) tape) 1001 (nI p, 0, 0) = .inr (nI (p + j), nI j, whR p tape j) := fe_stop (S := fun i => (nI (p + i), nI i, whR p tape i)) c1 c2 1001 (by omega)
  rw [hm]
  refine ⟨?_, fun k s hk h => ?_, ?_⟩
  · unfold D_X12_goOn_m2 D_X12_goOn_l2; rw [hm, e1]; rfl
  · obtain ⟨a, b⟩ := fe_at (S := fun i => (nI (p + i), nI i, whR p tape i)) c1 c2 h
    rw [b]
    have g1 : ¬ nI (p + k) < 0 := nI_pos (by omega)
    have g3 : G_X12_look (nI (p + k)).toNatClampNeg (nI N) := fun c => by
      rw [nI_clamp (by omega)] at c ⊢
      apply Classical.byContradiction; intro c2; exact c (nI_le (by omega) (by omega))
    exact ⟨g1, g3, fun _ _ => g1, fun _ _ => g3⟩
  · unfold D_X12_goOn_l2; rw [hm, e1]; rfl
theorem sub48 (a : Nat) : nI (a + 48) - 48 = nI a := by rw [← nI_add]; exact Int32.add_sub_cancel _ _
theorem value_v {p q : Nat} (hN : N ≤ 1000) (hT : TapR bytes tape) (hq : p + q ≤ N) (h3 : q ≤ 3) (h1 : ∀ i, i < q → ¬ D_X12_isDigit (tape (p + i)) = 0) : (∃ w, w < 1000 ∧ whR p tape q = nI w) ∧ D_X10_value (nI q) (nI p) (nI N) bytes = whR p tape q ∧ G_X10_value (nI q) (nI p) (nI N) bytes := by
  have hw : ∀ i, i ≤ q → ∃ w, w < 10 ^ i ∧ whR p tape i = nI w := by
    intro i
    induction i with
    | zero => intro _; exact ⟨0, by decide, rfl⟩
    | succ i ih =>
      intro hi
      obtain ⟨w, w1, w2⟩ := ih (by omega)
      obtain ⟨_, u, u1, u2⟩ := br_digitv (hT (p + i) (by omega)) (h1 i (by omega))
      refine ⟨10 * w + u, by rw [Nat.pow_succ]; omega, ?_⟩
      show (if 3 ≤ i then whR p tape i else 10 * whR p tape i + tape (p + i) - 48) = _
      rw [if_neg (by omega), w2, u2, show (10 : Int32) = nI 10 from rfl, nI_mul, nI_add, ← Nat.add_assoc, sub48]
  have c1 : ∀ i, i < q → st_X10_value_4 (nI p) (nI N) bytes i (whR p tape i) = .inl (whR p tape (i + 1)) := fun i hi => by
    obtain ⟨w, w1, w2⟩ := hw i (by omega)
    obtain ⟨b, u, u1, u2⟩ := br_digitv (hT (p + i) (by omega)) (h1 i (by omega))
    unfold st_X10_value_4
    rw [nI_add, if_neg (nI_ge (by omega) (by omega)), nI_clamp (by omega), b]
    show Sum.inl _ = Sum.inl (if 3 ≤ i then whR p tape i else 10 * whR p tape i + tape (p + i) - 48)
    rw [if_neg (by omega), u2, sub48, w2, show (10 : Int32) = nI 10 from rfl, nI_mul, nI_mul, nI_add, nI_add, ← Nat.add_assoc, sub48, Nat.mul_comm]
  have e : ∀ i, i ≤ q → am_fe (st_X10_value_4 (nI p) (nI N) bytes) i 0 = .inl (whR p tape i) := fe_run (S := fun i => whR p tape i) c1
  refine ⟨?_, ?_, fun k s hk h => ?_⟩
  · obtain ⟨w, w1, w2⟩ := hw q (Nat.le_refl q)
    refine ⟨w, Nat.lt_of_lt_of_le w1 ?_, w2⟩
    exact Nat.le_trans (Nat.pow_le_pow_right (by decide) h3) (by decide)
  · unfold D_X10_value D_X10_value_m1 D_X10_value_l1
    rw [be_nI (by omega), am_sel_l (e q (Nat.le_refl q))]
  · rw [be_nI (by omega)] at hk
    exact ⟨fun _ => nI_pos (by omega), fun _ => by rw [nI_clamp (by omega)]; omega⟩
theorem step_go {p0 : Nat} {pl ln : Int32} {le : Nat → Int32} (hN : N ≤ 1000) (hT : TapR bytes tape) (hp : p0 ≤ N) (hpl : pl + ln = nI p0) : ∃ p q so ns wh tk en le', p0 ≤ p ∧ D_X10_step pl ln (nI N) bytes = (nI p, nI q, so) ∧ D_X12_goOn (nI p0) (nI N) tape le = (nI p, ns, wh, tk, en, le') ∧ TokR N bytes p q so ns wh tk en le' ∧ G_X10_step pl ln (nI N) bytes ∧ G_X12_goOn (nI p0) (nI N) tape le := by
  obtain ⟨p, p1, p2, p3, m1, m2, g1, g2, g3, g4⟩ := sc_step hN hT hp hpl
  have hc : (nI p).toNatClampNeg = p := nI_clamp (by omega)
  have G0 : ¬ nI p < 0 := nI_pos (by omega)
  have GL : G_X12_look p (nI N) := fun c => by
    apply Classical.byContradiction; intro c2; exact c (nI_le (by omega) (by omega))
  unfold D_X10_step D_X12_goOn D_X10_step_j2 D_X10_step_j1 D_X12_goOn_j2 D_X12_goOn_j1 G_X10_step G_X12_goOn
  rw [m1, m2, hc, look_v hN (show p < 2 ^ 31 by omega)]
  by_cases e : p < N
  · have eI : nI p < nI N := nI_lt e (by omega)
    have hb := hT p (by omega)
    rw [if_pos eI, if_pos e, if_neg (br_no hb)]
    by_cases s : bytes p = 59
    · have s' := (br_se hb).mp s
      have n1 : D_X12_isSmall (tape p) = 0 := Classical.byContradiction fun c => br_sm59 hb c s'
      have n2 : D_X12_isDigit (tape p) = 0 := Classical.byContradiction fun c => br_di59 hb c s'
      rw [if_pos s, if_pos n1, if_pos n2, if_pos s', nI_1, s']
      refine ⟨p, 1, 3, 0, 0, 59, nI (p + 1), le, p1, rfl, rfl, ⟨by omega, Or.inr (Or.inr (Or.inl ⟨rfl, rfl, Nat.le_refl 1, rfl⟩))⟩, ⟨g1, g2, fun _ => G0, fun _ => by omega, fun _ c => absurd s c, fun _ c => absurd s c⟩, g3, g4, G0, GL, fun _ _ c => absurd n2 (by rw [s']; exact c), fun _ _ c => absurd n2 (by rw [s']; exact c), fun _ c => absurd n1 (by rw [s']; exact c), fun _ c => absurd n1 (by rw [s']; exact c)⟩
    · have s' : ¬ tape p = 59 := fun c => s ((br_se hb).mpr c)
      rw [if_neg s]
      obtain ⟨j, j1, j2, j3⟩ := scan_ex (P := fun i => p + i < N ∧ ¬ D_X12_isSmall (tape (p + i)) = 0) (N - p) (fun h => by omega)
      have T1 := tog_v (x0 := 97) (x1 := 122) (bytes := bytes) (p := p) (j := j) hN (by omega) (fun i hi => by
        have := (j2 i hi).2
        rw [br_small (hT _ (by omega))] at this
        exact ⟨fun c => this (Or.inl c), fun c => this (Or.inr c)⟩) (fun c => by
        have := fun d => j3 ⟨c, d⟩
        exact (br_small (hT _ (by omega))).mp (Classical.byContradiction this))
      obtain ⟨L1, L2, L3⟩ := letters_v (le := le) hN m2 (show p + j ≤ N by omega) (fun i hi => (j2 i hi).2) (fun c => Classical.byContradiction fun d => j3 ⟨c, d⟩)
      rw [m2] at L2
      rw [T1.1]
      by_cases j0 : j = 0
      · subst j0
        have n1 : D_X12_isSmall (tape p) = 0 := Classical.byContradiction fun c => j3 ⟨e, c⟩
        rw [if_pos (show nI 0 ≤ 0 by decide), if_pos n1]
        obtain ⟨i, i1, i2, i3⟩ := scan_ex (P := fun i => p + i < N ∧ ¬ D_X12_isDigit (tape (p + i)) = 0) (N - p) (fun h => by omega)
        have T2 := tog_v (x0 := 48) (x1 := 57) (bytes := bytes) (p := p) (j := i) hN (by omega) (fun k hk => by
          have := (i2 k hk).2
          rw [br_digit (hT _ (by omega))] at this
          exact ⟨fun c => this (Or.inl c), fun c => this (Or.inr c)⟩) (fun c => by
          have := fun d => i3 ⟨c, d⟩
          exact (br_digit (hT _ (by omega))).mp (Classical.byContradiction this))
        obtain ⟨K1, K2, K3⟩ := digits_v hN m2 (show p + i ≤ N by omega) (fun k hk => (i2 k hk).2) (fun c => Classical.byContradiction fun d => i3 ⟨c, d⟩)
        rw [m2] at K2
        rw [T2.1]
        by_cases i0 : i = 0
        · subst i0
          have n2 : D_X12_isDigit (tape p) = 0 := Classical.byContradiction fun c => i3 ⟨e, c⟩
          rw [if_pos (show nI 0 ≤ 0 by decide), if_pos n2, if_neg s', nI_1]
          exact ⟨p, 0, 4, 0, 0, 1, nI (p + 1), le, p1, rfl, rfl, ⟨by omega, Or.inl ⟨rfl, rfl⟩⟩, ⟨g1, g2, fun _ => G0, fun _ => by omega, fun _ _ => T1.2, fun _ _ _ => T2.2⟩, g3, g4, G0, GL, fun _ _ c => absurd n2 c, fun _ _ c => absurd n2 c, fun _ c => absurd n1 c, fun _ c => absurd n1 c⟩
        · have n2 : ¬ D_X12_isDigit (tape p) = 0 := (i2 0 (by omega)).2
          rw [if_neg (nI_nle (by omega) (by omega)), if_neg n2, K1]
          dsimp only
          by_cases c3 : 3 < i
          · rw [if_pos (show (3 : Int32) < nI i from nI_lt (a := 3) c3 (by omega)), if_neg (show ¬ nI i ≤ (3 : Int32) from nI_ge (a := 3) c3 (by omega))]
            exact ⟨p, i, 4, 0, whR p tape i, 1, nI (p + i), le, p1, rfl, rfl, ⟨by omega, Or.inl ⟨rfl, rfl⟩⟩, ⟨g1, g2, fun _ => G0, fun _ => by omega, fun _ _ => T1.2, fun _ _ _ => T2.2⟩, g3, g4, G0, GL, fun _ _ _ => K2, fun _ _ _ => K3, fun _ c => absurd n1 c, fun _ c => absurd n1 c⟩
          · rw [if_neg (fun h => by
              have := Int32.lt_iff_toInt_lt.mp h
              rw [nI_toInt (by omega)] at this
              have e3 : (3 : Int32).toInt = 3 := rfl
              omega), if_pos (show nI i ≤ (3 : Int32) from nI_le (b := 3) (by omega) (by omega))]
            obtain ⟨v1, v2, v3⟩ := value_v (bytes := bytes) (tape := tape) (p := p) (q := i) hN hT (by omega) (by omega) (fun k hk => (i2 k hk).2)
            exact ⟨p, i, 2, 0, whR p tape i, 3, nI (p + i), le, p1, rfl, rfl, ⟨by omega, Or.inr (Or.inr (Or.inr (Or.inr ⟨rfl, rfl, by omega, rfl, by omega, v1, v2, v3⟩)))⟩, ⟨g1, g2, fun _ => G0, fun _ => by omega, fun _ _ => T1.2, fun _ _ _ => T2.2⟩, g3, g4, G0, GL, fun _ _ _ => K2, fun _ _ _ => K3, fun _ c => absurd n1 c, fun _ c => absurd n1 c⟩
      · have n1 : ¬ D_X12_isSmall (tape p) = 0 := (j2 0 (by omega)).2
        have hj0 : ¬ nI j ≤ 0 := nI_nle (by omega) (by omega)
        rw [if_neg hj0, if_neg n1, L1]
        dsimp only
        by_cases c8 : 8 < j
        · rw [if_pos (show (8 : Int32) < nI j from nI_lt (a := 8) c8 (by omega)), if_neg (show ¬ nI j ≤ (8 : Int32) from nI_ge (a := 8) c8 (by omega))]
          exact ⟨p, j, 4, nI j, 0, 1, nI (p + j), _, p1, rfl, rfl, ⟨by omega, Or.inl ⟨rfl, rfl⟩⟩, ⟨g1, g2, fun _ => G0, fun _ => by omega, fun _ _ => T1.2, fun _ _ c => absurd c hj0⟩, g3, g4, G0, GL, fun _ c => absurd c n1, fun _ c => absurd c n1, fun _ _ => L2, fun _ _ => L3⟩
        · rw [if_neg (fun h => by
            have := Int32.lt_iff_toInt_lt.mp h
            rw [nI_toInt (by omega)] at this
            have e3 : (8 : Int32).toInt = 8 := rfl
            omega), if_pos (show nI j ≤ (8 : Int32) from nI_le (b := 8) (by omega) (by omega))]
          exact ⟨p, j, 1, nI j, 0, 2, nI (p + j), _, p1, rfl, rfl, ⟨by omega, Or.inr (Or.inr (Or.inr (Or.inl ⟨rfl, rfl, by omega, rfl, by omega, rfl, fun i hi => by
            obtain ⟨b1, b2⟩ := br_smallv (hT (p + i) (by omega)) (j2 i hi).2
            rw [ltR_v hi (by omega), b1]
            exact ⟨rfl, b2⟩⟩)))⟩, ⟨g1, g2, fun _ => G0, fun _ => by omega, fun _ _ => T1.2, fun _ _ c => absurd c hj0⟩, g3, g4, G0, GL, fun _ c => absurd c n1, fun _ c => absurd c n1, fun _ _ => L2, fun _ _ => L3⟩
  · have eI : ¬ nI p < nI N := fun h => by
      have := Int32.lt_iff_toInt_lt.mp h
      rw [nI_toInt (by omega), nI_toInt (by omega)] at this
      omega
    rw [if_neg eI, if_neg e, if_pos rfl]
    exact ⟨p, 0, 0, 0, 0, 0, nI p, le, p1, rfl, rfl, ⟨by omega, Or.inr (Or.inl ⟨rfl, rfl, rfl, rfl⟩)⟩, ⟨g1, g2, fun c => absurd c eI, fun c => absurd c eI, fun c => absurd c eI, fun c => absurd c eI⟩, g3, g4, G0, GL, fun c => absurd rfl c, fun c => absurd rfl c, fun c => absurd rfl c, fun c => absurd rfl c⟩
end TOK
