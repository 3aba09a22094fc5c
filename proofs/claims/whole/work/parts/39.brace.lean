/-! BRACE, TOHEARTEN, FEARFOR -/
theorem am_fo_relI {σ τ : Type} {f : Nat → σ → σ} {g : Nat → τ → τ} {R : Nat → σ → τ → Prop} {n : Nat} {s : σ} {t : τ} (h0 : R 0 s t) (hs : ∀ k s t, k < n → R k s t → R (k + 1) (f k s) (g k t)) : R n (am_fo f n s) (am_fo g n t) := by
  have h : ∀ k, k ≤ n → R k (am_fo f k s) (am_fo g k t) := by
    intro k
    induction k with
    | zero => intro _; exact h0
    | succ k ih => intro hk; exact hs k _ _ (by omega) (ih (by omega))
  exact h n (Nat.le_refl n)
def sumR {σ τ ρ υ : Type} (R : σ → τ → Prop) (Q : ρ → υ → Prop) (x : σ ⊕ ρ) (y : τ ⊕ υ) : Prop := (∃ s t, x = .inl s ∧ y = .inl t ∧ R s t) ∨ (∃ s t, x = .inr s ∧ y = .inr t ∧ Q s t)
theorem am_fe_relI {σ τ ρ υ : Type} {f : Nat → σ → σ ⊕ ρ} {g : Nat → τ → τ ⊕ υ} {R : Nat → σ → τ → Prop} {Q : ρ → υ → Prop} {n : Nat} {s : σ} {t : τ} (h0 : R 0 s t) (hs : ∀ k s t, k < n → R k s t → sumR (R (k + 1)) Q (f k s) (g k t)) : sumR (R n) Q (am_fe f n s) (am_fe g n t) := by
  have h : ∀ k, k ≤ n → sumR (R k) Q (am_fe f k s) (am_fe g k t) := by
    intro k
    induction k with
    | zero => intro _; exact Or.inl ⟨s, t, rfl, rfl, h0⟩
    | succ k ih =>
      intro hk
      rw [am_fe_s, am_fe_s]
      rcases ih (by omega) with ⟨u, v, e1, e2, hR⟩ | ⟨u, v, e1, e2, hR⟩
      · rw [am_sel_l e1, am_sel_l e2]; exact hs k u v (by omega) hR
      · rw [am_sel_r e1, am_sel_r e2]; exact Or.inr ⟨u, v, rfl, rfl, hR⟩
  exact h n (Nat.le_refl n)
section BRACE
variable {M : Nat} {holds oneIn fear mutiny tens present braced seed x0 hl a b c : Int32} {kind nerve friendsOf fearTimes weight rr tenOf feared angerOf lotsOf st : Nat → Int32}
theorem run_held {h1 h2 start heartened f2 : Int32} (hM : M ≤ 8) (hs : sub_men present M) (hst : sm start) (hsp : inc start present) (hw : ∀ k, k < M → weight k = nI (rn_w rr k)) (hd : ∀ k, k < 8 → bt start k = false → bt h1 k = bt h2 k) : D_X6_runWith start h1 heartened f2 weight present nerve fearTimes feared = D_X6_runWith start h2 heartened f2 weight present nerve fearTimes feared := by
  obtain ⟨a1, a2, a3, a4⟩ := rn_class (held := h1) (heartened := heartened) (fear := f2) (nerve := nerve) (fearTimes := fearTimes) (feared := feared) hM hs hst hsp hw
  obtain ⟨b1, b2, b3, b4⟩ := rn_class (held := h2) (heartened := heartened) (fear := f2) (nerve := nerve) (fearTimes := fearTimes) (feared := feared) hM hs hst hsp hw
  have hc : ∀ C, inc start C → clo (rn_e present h1) (rn_v f2 heartened nerve fearTimes feared) (rn_w rr) C → clo (rn_e present h2) (rn_v f2 heartened nerve fearTimes feared) (rn_w rr) C := fun C hi hc k hk he hn => by
    cases hb : bt start k with
    | true => exact hi k hk hb
    | false =>
      refine hc k hk ?_ hn
      unfold rn_e at he ⊢
      rw [hd k hk hb]; exact he
  have hc' : ∀ C, inc start C → clo (rn_e present h2) (rn_v f2 heartened nerve fearTimes feared) (rn_w rr) C → clo (rn_e present h1) (rn_v f2 heartened nerve fearTimes feared) (rn_w rr) C := fun C hi hc k hk he hn => by
    cases hb : bt start k with
    | true => exact hi k hk hb
    | false =>
      refine hc k hk ?_ hn
      unfold rn_e at he ⊢
      rw [← hd k hk hb]; exact he
  exact good_uniq _ _ _ _ a1 b1 a2 b2 (hc _ a2 a3) b3 (fun C h1 h2 => a4 C h1 (hc' C h1 h2)) b4
def bc_R (U : Int32) (HD : Nat → Int32) (k : Nat) (c r : Int32 × Int32) : Prop := c.1 = r.1 ∧ ((r.1 = -2 ∧ c.2 = 9) ∨ (sm r.1 ∧ c.2 = nI (ct r.1))) ∧ ∀ j, j < k → nI j &&& (U ^^^ (-1)) = 0 → ¬ HD j = 0 → sm r.1 ∧ ct r.1 ≤ ct (nI j)
theorem brace_l (hL : LegR M holds oneIn fear mutiny tens kind nerve friendsOf fearTimes weight rr) (hN : NowR M 0 present braced seed tenOf feared angerOf lotsOf st) (hs : sub_men present M) (hx : x0 &&& (present ^^^ (-1)) = 0) (hw : (D_X12_startWhy x0 hl rr a b c st).2 = (rr 2, (-1), 0)) : (D_X11_brace_l1 x0 present braced fear weight nerve fearTimes feared holds).1 = (D_X12_brace_l1 x0 hl rr a b c st).1 := by
  have hM := hL.M8
  have hpw := pow_256 hM
  have hpp := pow_pos' M
  have hsU : sub_men (present &&& (x0 ^^^ (-1)) &&& (braced ^^^ (-1))) M := fun k hk h => by
    rw [b_and, b_and, Bool.and_eq_true, Bool.and_eq_true] at h
    exact hs k hk h.1.1
  obtain ⟨u, hu1, hu2, hu⟩ := sub_nat hM hsU
  have hsx : sm x0 := sub_sm hM (sub_of hx hs)
  have hrel : ∀ k, D_X11_brace_a2 x0 present braced fear weight nerve fearTimes feared holds k = D_X12_doesHold 0 x0 st rr (nI k) (rr 2) (-1) := fun k => by
    unfold D_X11_brace_a2
    rw [hL.h2]
    exact hold_rel hL hN hs hx
  have key : bc_R (present &&& (x0 ^^^ (-1)) &&& (braced ^^^ (-1))) (fun j => D_X12_doesHold 0 x0 st rr (nI j) (rr 2) (-1)) (2 ^ M - 1 + 1) (D_X11_brace_l1 x0 present braced fear weight nerve fearTimes feared holds) (D_X12_brace_l1 x0 hl rr a b c st) := by
    unfold D_X11_brace_l1 D_X12_brace_l1
    rw [allMen_eq hM hL.r5, to_nI (by omega), show am_to (present &&& (x0 ^^^ (-1)) &&& (braced ^^^ (-1))) 0 = u + 1 by rw [hu]; exact to_nI (by omega)]
    rw [← am_fo_cut (f := st_X11_brace_46 x0 present braced fear weight nerve fearTimes feared holds) (g := st_X11_brace_46 x0 present braced fear weight nerve fearTimes feared holds) (M := u + 1) (N := 2 ^ M - 1 + 1) (by omega) (fun _ _ _ => rfl) (fun k s h1 h2 => ?_)]
    · refine am_fo_relI (R := bc_R _ _) ⟨rfl, Or.inl ⟨rfl, rfl⟩, fun j hj => absurd hj (by omega)⟩ fun k s t hk hR => ?_
      show bc_R _ _ (k + 1) (D_X11_brace_j1 x0 present braced fear weight nerve fearTimes feared holds k s) (D_X12_brace_j1 x0 hl rr a b c st k t)
      unfold D_X11_brace_j1 D_X12_brace_j1 D_X12_brace_a3 D_X12_brace_a4 D_X12_brace_a2
      rw [hw, ← show present = st 27 from hN.1, ← show braced = st 28 from hN.2.1, hrel k]
      dsimp only
      have hsk : sm (nI k) := nat_sm (by omega)
      have hc := ct_le hsk
      obtain ⟨R1, R2, R3⟩ := hR
      by_cases hU : nI k &&& (present &&& (x0 ^^^ (-1)) &&& (braced ^^^ (-1)) ^^^ (-1)) = 0
      · have hp : nI k &&& (present ^^^ (-1)) = 0 := of_inc fun j hj h => by
          have := inc_of hU hj h
          rw [b_and, b_and, Bool.and_eq_true, Bool.and_eq_true] at this
          exact this.1.1
        have hb : nI k &&& braced = 0 := b_ext fun j hj => by
          rw [b_and, b_0]
          cases h : bt (nI k) j with
          | false => rfl
          | true =>
            have := inc_of hU hj h
            rw [b_and, b_and, b_not braced hj, Bool.and_eq_true, Bool.and_eq_true] at this
            rw [Bool.true_and]
            cases hb : bt braced j with
            | false => rfl
            | true => rw [hb] at this; exact absurd this.2 (by decide)
        rw [if_neg (fun g => isPart0.mp g hU), if_pos hp, if_pos hb, bc_ct hsk]
        rcases R2 with ⟨h1, h2⟩ | ⟨h1, h2⟩
        · have e1 : ¬ s.2 ≤ nI (ct (nI k)) := by rw [h2]; exact nI_ge (b := 9) (by omega) (by omega)
          have e2 : t.1 < 0 := by rw [h1]; decide
          have e3 : ∀ j, j < k → nI j &&& (present &&& (x0 ^^^ (-1)) &&& (braced ^^^ (-1)) ^^^ (-1)) = 0 → D_X12_doesHold 0 x0 st rr (nI j) (rr 2) (-1) = 0 := fun j hj hp => Decidable.byContradiction fun hd => absurd e2 (sm_pos (R3 j hj hp hd).1)
          rw [if_neg e1, if_pos e2]
          by_cases hd : D_X12_doesHold 0 x0 st rr (nI k) (rr 2) (-1) = 0
          · rw [if_pos hd, if_pos hd]
            refine ⟨R1, Or.inl ⟨h1, h2⟩, fun j hj hp hq => ?_⟩
            rcases Nat.lt_or_ge j k with h | h
            · exact absurd (e3 j h hp) hq
            · rw [show j = k by omega] at hq; exact absurd hd hq
          · rw [if_neg hd, if_neg hd]
            refine ⟨rfl, Or.inr ⟨hsk, rfl⟩, fun j hj hp hq => ?_⟩
            rcases Nat.lt_or_ge j k with h | h
            · exact absurd (e3 j h hp) hq
            · rw [show j = k by omega]; exact ⟨hsk, Nat.le_refl _⟩
        · rw [if_neg (sm_pos h1), on_ct h1, on_ct hsk, h2]
          have hc2 := ct_le h1
          by_cases hd : nI (ct t.1) ≤ nI (ct (nI k))
          · rw [if_pos hd, if_neg (Int32.not_lt.mpr hd)]
            refine ⟨R1, Or.inr ⟨h1, rfl⟩, fun j hj hp hq => ?_⟩
            rcases Nat.lt_or_ge j k with h | h
            · exact R3 j h hp hq
            · rw [show j = k by omega]; exact ⟨h1, (nI_leI (a := ct t.1) (b := ct (nI k)) (by omega) (by omega)).mp hd⟩
          · rw [if_neg hd, if_pos (Int32.not_le.mp hd)]
            by_cases hq0 : D_X12_doesHold 0 x0 st rr (nI k) (rr 2) (-1) = 0
            · rw [if_pos hq0, if_pos hq0]
              refine ⟨R1, Or.inr ⟨h1, rfl⟩, fun j hj hp hq => ?_⟩
              rcases Nat.lt_or_ge j k with h | h
              · exact R3 j h hp hq
              · rw [show j = k by omega] at hq; exact absurd hq0 hq
            · rw [if_neg hq0, if_neg hq0]
              refine ⟨rfl, Or.inr ⟨hsk, rfl⟩, fun j hj hp hq => ?_⟩
              rcases Nat.lt_or_ge j k with h | h
              · have := (nI_ltI (a := ct (nI k)) (b := ct t.1) (by omega) (by omega)).mp (Int32.not_le.mp hd)
                exact ⟨hsk, Nat.le_trans (Nat.le_of_lt this) (R3 j h hp hq).2⟩
              · rw [show j = k by omega]; exact ⟨hsk, Nat.le_refl _⟩
      · rw [if_pos (isPart0.mpr hU)]
        have R3' : ∀ j, j < k + 1 → nI j &&& (present &&& (x0 ^^^ (-1)) &&& (braced ^^^ (-1)) ^^^ (-1)) = 0 → ¬ D_X12_doesHold 0 x0 st rr (nI j) (rr 2) (-1) = 0 → sm t.1 ∧ ct t.1 ≤ ct (nI j) := fun j hj hp hq => by
          rcases Nat.lt_or_ge j k with h | h
          · exact R3 j h hp hq
          · rw [show j = k by omega] at hp; exact absurd hp hU
        by_cases hp : nI k &&& (present ^^^ (-1)) = 0
        · rw [if_pos hp]
          by_cases hb : nI k &&& braced = 0
          · rw [if_pos hb]
            -- he meets the start
            have hm : ∃ i, i < 32 ∧ bt (nI k) i = true ∧ bt x0 i = true := Classical.byContradiction fun hno => hU (of_inc fun j hj h => by
              rw [b_and, b_and, b_not x0 hj, b_not braced hj, inc_of hp hj h]
              cases e1 : bt x0 j with
              | true => exact absurd ⟨j, hj, h, e1⟩ hno
              | false =>
                cases e2 : bt braced j with
                | false => rfl
                | true =>
                  have : bt (nI k &&& braced) j = true := by rw [b_and, h, e2]; rfl
                  rw [hb, b_0] at this
                  cases this)
            obtain ⟨i, hi, hi1, hi2⟩ := hm
            obtain ⟨j, hj, ej⟩ := sm_nat (sm_and (x0 ^^^ (-1)) hsk)
            have hjk : nI j &&& (nI k ^^^ (-1)) = 0 := of_inc fun q hq h => by
              rw [← ej, b_and, Bool.and_eq_true] at h
              exact h.1
            have hi8 : i < 8 := by
              rcases Nat.lt_or_ge i 8 with h | h
              · exact h
              · rw [hsk i h hi] at hi1; cases hi1
            have hbi : bt (nI j) i = false := by rw [← ej, b_and, b_not x0 hi, hi2]; exact Bool.and_false _
            have hlt : ct (nI j) < ct (nI k) := ct_grow (fun q hq h => inc_of hjk (by omega) h) hi8 hbi hi1
            have hjl : j < k := by
              have := part_le hj (by omega) hjk
              rcases Nat.lt_or_ge j k with h | h
              · exact h
              · rw [show j = k by omega] at hlt; exact absurd hlt (Nat.lt_irrefl _)
            have hjU : nI j &&& (present &&& (x0 ^^^ (-1)) &&& (braced ^^^ (-1)) ^^^ (-1)) = 0 := of_inc fun q hq h => by
              have hk' := inc_of hjk hq h
              rw [← ej, b_and, Bool.and_eq_true] at h
              rw [b_and, b_and, inc_of hp hq hk', h.2, b_not braced hq]
              cases e2 : bt braced q with
              | false => rfl
              | true =>
                have : bt (nI k &&& braced) q = true := by rw [b_and, hk', e2]; rfl
                rw [hb, b_0] at this
                cases this
            have heq : D_X12_doesHold 0 x0 st rr (nI j) (rr 2) (-1) = D_X12_doesHold 0 x0 st rr (nI k) (rr 2) (-1) := by
              rw [← hrel, ← hrel]
              unfold D_X11_brace_a2
              rw [run_held (h1 := braced ||| nI j) (h2 := braced ||| nI k) hM hs hsx (fun q hq h => inc_of hx (by omega) h) (fun q hq => hL.wg hq)]
              intro q hq hn
              rw [b_or, b_or, ← ej, b_and, b_not x0 (by omega), hn]
              cases bt braced q <;> cases bt (nI k) q <;> rfl
            by_cases hd : D_X12_doesHold 0 x0 st rr (nI k) (rr 2) (-1) = 0
            · rw [if_pos hd]
              by_cases h1 : t.1 < 0
              · rw [if_pos h1]; exact ⟨R1, R2, R3'⟩
              · rw [if_neg h1]
                by_cases h2 : D_X12_ones (nI k) < D_X12_ones t.1
                · rw [if_pos h2]; exact ⟨R1, R2, R3'⟩
                · rw [if_neg h2]; exact ⟨R1, R2, R3'⟩
            · obtain ⟨g1, g2⟩ := R3 j hjl hjU (show ¬ D_X12_doesHold 0 x0 st rr (nI j) (rr 2) (-1) = 0 by rw [heq]; exact hd)
              have hc2 := ct_le g1
              rw [if_neg (sm_pos g1), on_ct g1, on_ct hsk, if_neg (nI_nlt (by omega) (by omega))]
              exact ⟨R1, R2, R3'⟩
          · rw [if_neg hb]; exact ⟨R1, R2, R3'⟩
        · rw [if_neg hp]; exact ⟨R1, R2, R3'⟩
    · show D_X11_brace_j1 x0 present braced fear weight nerve fearTimes feared holds k s = s
      unfold D_X11_brace_j1
      rw [if_pos]
      refine isPart0.mpr fun h => ?_
      rw [hu] at h
      have := part_le (by omega) hu2 h
      omega
  exact key.1
theorem pub_brace (hL : LegR M holds oneIn fear mutiny tens kind nerve friendsOf fearTimes weight rr) (hN : NowR M 0 present braced seed tenOf feared angerOf lotsOf st) (hs : sub_men present M) (hh : hl = 0 ↔ tens = 0) : D_X11_brace x0 tens present braced fear weight nerve fearTimes feared holds = ((D_X12_brace x0 hl rr a b c st).1, (D_X12_brace x0 hl rr a b c st).2.2.1) := by
  obtain ⟨w1, w2⟩ := start_why (x0 := x0) (rr := rr) (a := a) (b := b) (c := c) hL.M8 hh hN.1 hs
  unfold D_X11_brace D_X12_brace D_X11_brace_a1 D_X12_brace_a5 D_X12_brace_a2
  rw [w1]
  by_cases h0 : D_X11_troubleOfStart x0 tens present = 0
  · rw [if_pos ((refused1 _).mpr h0), if_pos h0, brace_l hL hN hs (w2 h0).2.1 (w2 h0).1, refused2, h0]
    rfl
  · rw [if_neg (fun g => h0 ((refused1 _).mp g)), if_neg h0, refused2]
    rfl
def th_R (c : Int32 × Int32) (r : Int32 × Int32 × Int32) : Prop := c.1 = r.2.1 ∧ c.2 = r.1
theorem toHearten_l (hL : LegR M holds oneIn fear mutiny tens kind nerve friendsOf fearTimes weight rr) (hN : NowR M 0 present braced seed tenOf feared angerOf lotsOf st) (hs : sub_men present M) (hx : x0 &&& (present ^^^ (-1)) = 0) (hw : (D_X12_startWhy x0 hl rr a b c st).2 = (rr 2, (-1), 0)) : (D_X11_toHearten_l1 x0 present braced fear weight nerve fearTimes feared).1 = (D_X12_toHearten_l1 x0 hl rr a b c st).2.1 := by
  have hM := hL.M8
  have hr : ∀ h, D_J6_bitCount_0f7a4 (D_X6_runWith x0 braced h fear weight present nerve fearTimes feared) = D_X12_ones (D_X12_runOf 0 x0 rr st 0 (rr 2) h) := fun h => by
    have := run_rel (more := 0) (heartened := h) (f2 := rr 2) hL hN hs hx
    rw [Int32.or_zero, ← hL.h2] at this
    rw [this, hL.h2]
    exact bc_on (run_relS hL hN hs hx)
  have key : th_R (D_X11_toHearten_l1 x0 present braced fear weight nerve fearTimes feared) (D_X12_toHearten_l1 x0 hl rr a b c st) := by
    unfold D_X11_toHearten_l1 D_X12_toHearten_l1
    rw [hL.r5, be_nI (by omega)]
    rw [am_fo_cut (g := st_X11_toHearten_32 x0 present braced fear weight nerve fearTimes feared) hM (fun _ _ _ => rfl) (fun k s h1 h2 => ?_)]
    · refine am_fo_rel (R := th_R) ⟨rfl, ?_⟩ fun k s t hk hR => ?_
      · unfold D_X12_toHearten_a3 D_X12_toHearten_a2
        rw [hw]
        exact hr (-1)
      · show th_R (D_X11_toHearten_j1 x0 present braced fear weight nerve fearTimes feared k s) (D_X12_toHearten_j1 x0 hl rr a b c st k t)
        unfold D_X11_toHearten_j1 D_X12_toHearten_j1 D_X12_toHearten_a4 D_X12_toHearten_a2
        rw [hw, ← show present = st 27 from hN.1, has_eq present (by omega), hr (nI k), hR.2]
        dsimp only
        by_cases h0 : D_X12_hasBit present (nI k) = 0
        · rw [if_pos h0, if_pos h0]; exact ⟨hR.1, rfl⟩
        · rw [if_neg h0, if_neg h0]
          by_cases h : t.1 ≤ D_X12_ones (D_X12_runOf 0 x0 rr st 0 (rr 2) (nI k))
          · rw [if_pos h, if_neg (Int32.not_lt.mpr h)]; exact ⟨hR.1, rfl⟩
          · rw [if_neg h, if_pos (Int32.not_le.mp h)]; exact ⟨rfl, rfl⟩
    · show D_X11_toHearten_j1 x0 present braced fear weight nerve fearTimes feared k s = s
      unfold D_X11_toHearten_j1
      rw [if_pos]
      rw [has0 (by omega)]
      cases hb : bt present k with
      | false => rfl
      | true => have := hs k (by omega) hb; omega
  exact key.1
theorem pub_toHearten (hL : LegR M holds oneIn fear mutiny tens kind nerve friendsOf fearTimes weight rr) (hN : NowR M 0 present braced seed tenOf feared angerOf lotsOf st) (hs : sub_men present M) (hh : hl = 0 ↔ tens = 0) : D_X11_toHearten x0 tens present braced fear weight nerve fearTimes feared = ((D_X12_toHearten x0 hl rr a b c st).1, (D_X12_toHearten x0 hl rr a b c st).2.2.1) := by
  obtain ⟨w1, w2⟩ := start_why (x0 := x0) (rr := rr) (a := a) (b := b) (c := c) hL.M8 hh hN.1 hs
  unfold D_X11_toHearten D_X12_toHearten D_X11_toHearten_a1 D_X12_toHearten_a5 D_X12_toHearten_a2
  rw [w1]
  by_cases h0 : D_X11_troubleOfStart x0 tens present = 0
  · rw [if_pos ((refused1 _).mpr h0), if_pos h0, toHearten_l hL hN hs (w2 h0).2.1 (w2 h0).1, refused2, h0]
    rfl
  · rw [if_neg (fun g => h0 ((refused1 _).mp g)), if_neg h0, refused2]
    rfl
theorem fearFor_l (hL : LegR M holds oneIn fear mutiny tens kind nerve friendsOf fearTimes weight rr) (hN : NowR M 0 present braced seed tenOf feared angerOf lotsOf st) (hs : sub_men present M) (hx : x0 &&& (present ^^^ (-1)) = 0) (hw : (D_X12_startWhy x0 hl rr a b c st).2 = (rr 2, (-1), 0)) : sumR (fun _ _ => True) (fun x (y : Int32 × Int32) => x = y.1) (D_X11_fearFor_l1 x0 present braced weight nerve fearTimes feared holds) (D_X12_fearFor_l1 x0 hl rr a b c st) := by
  unfold D_X11_fearFor_l1 D_X12_fearFor_l1
  refine am_fe_relI (R := fun _ _ _ => True) trivial fun k s t hk _ => ?_
  unfold st_X11_fearFor_16 st_X12_fearFor_22 D_X12_fearFor_a3 D_X12_fearFor_a2 D_X11_fearFor_a2
  have := hold_rel (more := 0) (heartened := (-1)) (f2 := nI k) hL hN hs hx
  rw [Int32.or_zero] at this
  rw [hw, this]
  dsimp only
  by_cases h : D_X12_doesHold 0 x0 st rr 0 (nI k) (-1) = 0
  · rw [if_pos h, if_pos h]; exact Or.inl ⟨_, _, rfl, rfl, trivial⟩
  · rw [if_neg h, if_neg h]; exact Or.inr ⟨_, _, rfl, rfl, rfl⟩
theorem pub_fearFor (hL : LegR M holds oneIn fear mutiny tens kind nerve friendsOf fearTimes weight rr) (hN : NowR M 0 present braced seed tenOf feared angerOf lotsOf st) (hs : sub_men present M) (hh : hl = 0 ↔ tens = 0) : D_X11_fearFor x0 tens present braced weight nerve fearTimes feared holds = ((D_X12_fearFor x0 hl rr a b c st).1, (D_X12_fearFor x0 hl rr a b c st).2.2.1) := by
  obtain ⟨w1, w2⟩ := start_why (x0 := x0) (rr := rr) (a := a) (b := b) (c := c) hL.M8 hh hN.1 hs
  unfold D_X11_fearFor D_X12_fearFor D_X11_fearFor_a1 D_X12_fearFor_a4 D_X12_fearFor_a2
  rw [w1]
  by_cases h0 : D_X11_troubleOfStart x0 tens present = 0
  · rw [if_pos ((refused1 _).mpr h0), if_pos h0, refused2, h0]
    rcases fearFor_l hL hN hs (w2 h0).2.1 (w2 h0).1 with ⟨s, t, e1, e2, -⟩ | ⟨s, t, e1, e2, e3⟩
    · rw [am_sel_l e1, am_sel_l e2]; rfl
    · rw [am_sel_r e1, am_sel_r e2, e3]; rfl
  · rw [if_neg (fun g => h0 ((refused1 _).mp g)), if_neg h0, refused2]
    rfl
end BRACE
