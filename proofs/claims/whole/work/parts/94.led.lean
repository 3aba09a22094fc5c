/-! LED: the class throws where the reference says so -/
theorem fe_stay {σ ρ : Type} {step : Nat → σ → σ ⊕ ρ} {s : σ} {r : ρ} {n : Nat} (h : am_fe step n s = .inr r) : ∀ m, n ≤ m → am_fe step m s = .inr r := by
  intro m hm
  induction hm with
  | refl => exact h
  | step _ ih =>
    rw [am_fe, ih]
section LED
variable {μ : am_M} {l M : Nat} {v hl pres : Int32} {rr st : Nat → Int32}
theorem led_u (h3 : μ.2.2.1 0 3 = some l) (h4 : μ.2.2.1 0 4 = some 40) (h5 : μ.1 l 5 = nI M) (h6 : μ.1 40 1 = pres) (k F : Nat) (n : Int32) : am_led μ 0 v k n (F + 1) = if nI k < nI M then (if pres >>> (nI k &&& 31) &&& 1 = 0 then (if n = v then some k else am_led μ 0 v (k + 1) (n + 1) F) else am_led μ 0 v (k + 1) n F) else none := by
  rw [am_led, h3]
  dsimp only
  rw [h4]
  dsimp only
  rw [h5, h6]
theorem bit_has {k : Nat} (hk : k < 32) : (pres >>> (nI k &&& 31) &&& 1 = 0) ↔ D_X12_hasBit pres (nI k) = 0 := by
  rw [← has_eq pres hk]
  unfold D_X11_has
  by_cases c : pres >>> (nI k &&& 31) &&& 1 = 0
  · rw [if_pos c]; exact ⟨fun _ => rfl, fun _ => c⟩
  · rw [if_neg c]; exact ⟨fun h => absurd h c, fun h => absurd h (by decide)⟩
theorem led_rel (hM : M ≤ 8) (h3 : μ.2.2.1 0 3 = some l) (h4 : μ.2.2.1 0 4 = some 40) (h5 : μ.1 l 5 = nI M) (h6 : μ.1 40 1 = st 27) (hr : rr 5 = nI M) (hz : hl = 0 → M = 0) : (∃ k, am_led μ 0 v 0 0 9 = some k ∧ D_X12_led v hl rr st = (nI k, 0)) ∨ (am_led μ 0 v 0 0 9 = none ∧ D_X12_led v hl rr st = (0, 1)) := by
  have fin : ∀ j, j ≤ 10 → am_fe (st_X12_led_4 v hl rr st) j (0, 0) = .inr (.inr ()) → D_X12_led v hl rr st = (0, 1) := fun j hj h => by
    unfold D_X12_led D_X12_led_l1
    rw [fe_stay h 10 hj]; rfl
  have fin2 : ∀ j k, j ≤ 10 → am_fe (st_X12_led_4 v hl rr st) j (0, 0) = .inr (.inl (nI k)) → D_X12_led v hl rr st = (nI k, 0) := fun j k hj h => by
    unfold D_X12_led D_X12_led_l1
    rw [fe_stay h 10 hj]; rfl
  by_cases c0 : hl = 0
  · have hM0 := hz c0
    subst hM0
    refine Or.inr ⟨?_, fin 1 (by decide) ?_⟩
    · rw [led_u h3 h4 h5 h6, if_neg (by decide)]
    · show st_X12_led_4 v hl rr st 0 (0, 0) = _
      unfold st_X12_led_4
      rw [if_pos c0]
  have C : ∀ j, j ≤ M → (∃ c, am_led μ 0 v 0 0 9 = am_led μ 0 v j c (9 - j) ∧ am_fe (st_X12_led_4 v hl rr st) j (0, 0) = .inl (c, nI j)) ∨ (∃ k, am_led μ 0 v 0 0 9 = some k ∧ am_fe (st_X12_led_4 v hl rr st) j (0, 0) = .inr (.inl (nI k))) := by
    intro j
    induction j with
    | zero => intro _; exact Or.inl ⟨0, rfl, rfl⟩
    | succ j ih =>
      intro hj
      rcases ih (by omega) with ⟨c, e1, e2⟩ | ⟨k, e1, e2⟩
      · rw [show 9 - j = (8 - j) + 1 by omega, led_u h3 h4 h5 h6 j (8 - j) c, if_pos (nI_lt (by omega) (by omega))] at e1
        have es : am_fe (st_X12_led_4 v hl rr st) (j + 1) (0, 0) = st_X12_led_4 v hl rr st j (c, nI j) := by rw [am_fe, e2]
        have hle : ¬ rr 5 ≤ nI j := by rw [hr]; exact nI_ge (by omega) (by omega)
        unfold st_X12_led_4 at es
        dsimp only at es
        rw [if_neg c0, if_neg hle] at es
        by_cases cb : D_X12_hasBit (st 27) (nI j) = 0
        · rw [if_pos ((bit_has (by omega)).mpr cb)] at e1
          rw [if_pos cb] at es
          by_cases cv : c = v
          · rw [if_pos cv] at e1 es
            exact Or.inr ⟨j, e1, es⟩
          · rw [if_neg cv] at e1 es
            rw [sx1] at es
            exact Or.inl ⟨c + 1, by rw [e1, show 9 - (j + 1) = 8 - j by omega], es⟩
        · rw [if_neg (fun h => cb ((bit_has (by omega)).mp h))] at e1
          rw [if_neg cb, sx1] at es
          exact Or.inl ⟨c, by rw [e1, show 9 - (j + 1) = 8 - j by omega], es⟩
      · exact Or.inr ⟨k, e1, fe_stay e2 _ (by omega)⟩
  rcases C M (Nat.le_refl M) with ⟨c, e1, e2⟩ | ⟨k, e1, e2⟩
  · refine Or.inr ⟨?_, fin (M + 1) (by omega) ?_⟩
    · rw [e1, show 9 - M = (8 - M) + 1 by omega, led_u h3 h4 h5 h6, if_neg (nI_nlt (by omega) (by omega))]
    · rw [am_fe, e2]
      show st_X12_led_4 v hl rr st M (c, nI M) = _
      unfold st_X12_led_4
      rw [if_neg c0, if_pos (show rr 5 ≤ (c, nI M).2 by rw [hr]; exact Int32.le_refl _)]
  · exact Or.inl ⟨k, e1, fin2 M k (by omega) e2⟩
end LED
section LEDR
variable {q pc idx nn z : Nat} {L S : List Value} {f : Nat → Nat → Int32} {g : Nat → Nat → Int64} {p : Nat → Nat → Option Nat} {d : Nat → Nat × Nat} {n s : Nat} {v : Int32}
theorem ar_led1 {k : Nat} (h : am_fetch q pc = some (.invokestatic idx, 3, (9004, nn, z))) (hP : am_cat S ≤ 8 ∧ (d 0).1 = 11 ∧ (d 191) = (15, 1) ∧ n < 600000 ∧ am_ledok (f, g, p, d, n, s) 0 = true) (hk : am_led (f, g, p, d, n, s) 0 v 0 0 9 = some k) : am_runs (q, pc, L, .ref 191 :: .int v :: .ref 0 :: S) (f, g, p, d, n, s) = am_runs (q, pc + 3, L, .int 0 :: S) (f, am_u g 191 0 (nI k).toInt64, p, d, n, s) := by
  refine am_gbl (μ := (f, g, p, d, n, s)) (f' := (q, pc + 3, L, .int 0 :: S)) h hP (am_leb_sl 191 0 (nI k).toInt64) ?_
  show am_b _ (match am_led (f, g, p, d, n, s) 0 v 0 0 9 with
          | some k => am_nx (q, pc + 3, L, .int 0 :: S) (am_sl (f, g, p, d, n, s) 191 0 (nI k).toInt64)
          | none => am_nx (q, pc + 3, L, .int 1 :: S) (am_jk (f, g, p, d, n, s) 6)) none = _
  rw [hk]; rfl
theorem am_leb_jk {μ : am_M} {sl : Nat} : am_leb μ (am_jk μ sl) = true := am_leb_iff.mpr ⟨Nat.le_add_right _ _, Nat.le_add_right _ _⟩
theorem ar_led0 (h : am_fetch q pc = some (.invokestatic idx, 3, (9004, nn, z))) (hP : am_cat S ≤ 8 ∧ (d 0).1 = 11 ∧ (d 191) = (15, 1) ∧ n < 600000 ∧ am_ledok (f, g, p, d, n, s) 0 = true) (hk : am_led (f, g, p, d, n, s) 0 v 0 0 9 = none) : am_runs (q, pc, L, .ref 191 :: .int v :: .ref 0 :: S) (f, g, p, d, n, s) = am_runs (q, pc + 3, L, .int 1 :: S) (f, g, p, va_up d n (99, 0), n + 1, s + 6) := by
  refine am_gbl (μ := (f, g, p, d, n, s)) (f' := (q, pc + 3, L, .int 1 :: S)) h hP (am_leb_jk (sl := 6)) ?_
  show am_b _ (match am_led (f, g, p, d, n, s) 0 v 0 0 9 with
          | some k => am_nx (q, pc + 3, L, .int 0 :: S) (am_sl (f, g, p, d, n, s) 191 0 (nI k).toInt64)
          | none => am_nx (q, pc + 3, L, .int 1 :: S) (am_jk (f, g, p, d, n, s) 6)) none = _
  rw [hk]; rfl
end LEDR
