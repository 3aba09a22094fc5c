/-! WORST and BREAKS -/
section WORST
variable {M : Nat} {holds oneIn fear mutiny tens present braced seed hl a b c : Int32} {kind nerve friendsOf fearTimes weight rr tenOf feared angerOf lotsOf st : Nat → Int32}
theorem one_part {k : Nat} (hk : k < 8) (hb : bt present k = true) : ((1 : Int32) <<< (nI k &&& 31)) &&& (present ^^^ (-1)) = 0 := of_inc fun j hj h => by
  rw [b_one (by omega) hj, decide_eq_true_eq] at h
  rw [h]; exact hb
theorem run_one (hL : LegR M holds oneIn fear mutiny tens kind nerve friendsOf fearTimes weight rr) (hN : NowR M 0 present braced seed tenOf feared angerOf lotsOf st) (hs : sub_men present M) {k : Nat} (hk : k < 8) (hb : bt present k = true) : ∃ n, 1 ≤ n ∧ n ≤ 8 ∧ D_X12_ones (D_X12_runOf 0 ((1 : Int32) <<< (nI k &&& 31)) rr st 0 (rr 2) (-1)) = nI n ∧ D_J6_bitCount_0f7a4 (D_X6_runFrom ((1 : Int32) <<< (nI k &&& 31)) braced fear weight present nerve fearTimes feared) = nI n := by
  have hp := one_part hk hb
  have hr := runFrom_rel hL hN hs hp
  have hsm := run_relS (more := 0) (f2 := rr 2) (heartened := (-1)) hL hN hs hp
  have hinc : inc ((1 : Int32) <<< (nI k &&& 31)) (D_X12_runOf 0 ((1 : Int32) <<< (nI k &&& 31)) rr st 0 (rr 2) (-1)) := by
    refine (run_sub (held := braced ||| 0) (fear := rr 2) (heartened := (-1)) (nerve := nerve) (fearTimes := fearTimes) (feared := feared) hL.M8 hL.r5 hN.1 (by rw [hN.2.1]) hs (sub_sm hL.M8 (sub_of hp hs)) (fun k hk h => inc_of hp (by omega) h) (fun k hk => ?_)).2
    exact nerve_eq (hL.nv hk) (hL.ft hk) (hN.2.2.2.2.1 k hk)
  refine ⟨ct (D_X12_runOf 0 ((1 : Int32) <<< (nI k &&& 31)) rr st 0 (rr 2) (-1)), ?_, ct_le hsm, on_ct hsm, by rw [hr]; exact bc_ct hsm⟩
  have h1 := ct_grow (x := 0) (y := D_X12_runOf 0 ((1 : Int32) <<< (nI k &&& 31)) rr st 0 (rr 2) (-1)) (fun j _ h => by rw [b_0] at h; cases h) hk (b_0 k) (hinc k hk (by rw [b_one (by omega) (by omega), decide_eq_true rfl]))
  omega
def wo_R (c r : Int32 × Int32) : Prop := c.1 = r.1 ∧ ((c.2 = 0 ∧ r.2 = -1) ∨ (c.2 = r.2 ∧ ∃ n, 1 ≤ n ∧ n ≤ 8 ∧ c.2 = nI n))
theorem worst_l (hL : LegR M holds oneIn fear mutiny tens kind nerve friendsOf fearTimes weight rr) (hN : NowR M 0 present braced seed tenOf feared angerOf lotsOf st) (hs : sub_men present M) (hw : (D_X12_startWhy 0 hl rr a b c st).2 = (rr 2, (-1), 0)) : (D_X11_worst_l1 present braced fear weight nerve fearTimes feared).1 = (D_X12_worst_l1 hl rr a b c st).1 := by
  have hM := hL.M8
  have key : wo_R (D_X11_worst_l1 present braced fear weight nerve fearTimes feared) (D_X12_worst_l1 hl rr a b c st) := by
    unfold D_X11_worst_l1 D_X12_worst_l1
    rw [hL.r5, be_nI (by omega)]
    rw [am_fo_cut (g := st_X11_worst_20 present braced fear weight nerve fearTimes feared) hM (fun _ _ _ => rfl) (fun k s h1 h2 => ?_)]
    · refine am_fo_rel (R := wo_R) ⟨rfl, Or.inl ⟨rfl, rfl⟩⟩ fun k s t hk hR => ?_
      show wo_R (D_X11_worst_j1 present braced fear weight nerve fearTimes feared k s) (D_X12_worst_j2 hl rr a b c st k t)
      unfold D_X11_worst_j1 D_X12_worst_j2 D_X12_worst_j1 D_X12_worst_a3 D_X12_worst_a2 D_X11_worst_a2
      rw [hw, ← show present = st 27 from hN.1, has_eq present (by omega)]
      cases hb : bt present k with
      | false =>
        have h0 : D_X12_hasBit present (nI k) = 0 := (hasBit0 (by omega)).mpr hb
        rw [if_pos h0, if_pos h0]
        have hn : ¬ t.2 < -1 := by
          rcases hR.2 with ⟨_, h⟩ | ⟨h1, n, g1, g2, g3⟩
          · rw [h]; decide
          · rw [← h1, g3]
            intro h
            rw [Int32.lt_iff_toInt_lt, nI_toInt (by omega), show (-1 : Int32).toInt = -1 by decide] at h
            omega
        rw [if_neg hn]
        exact hR
      | true =>
        have h0 : ¬ D_X12_hasBit present (nI k) = 0 := by rw [hasBit0 (by omega), hb]; decide
        obtain ⟨n, g1, g2, g3, g4⟩ := run_one hL hN hs (k := k) (by omega) hb
        rw [if_neg h0, if_neg h0, g4]
        show wo_R _ (if t.2 < D_X12_ones (D_X12_runOf 0 ((1 : Int32) <<< (nI k &&& 31)) rr st 0 (rr 2) (-1)) then _ else _)
        rw [g3]
        rcases hR.2 with ⟨h1, h2⟩ | ⟨h1, -⟩
        · rw [if_neg (by rw [h1]; exact nI_nle g1 (by omega)), if_pos]
          · exact ⟨rfl, Or.inr ⟨rfl, n, g1, g2, rfl⟩⟩
          · rw [h2, Int32.lt_iff_toInt_lt, nI_toInt (by omega), show (-1 : Int32).toInt = -1 by decide]
            omega
        · by_cases h : nI n ≤ s.2
          · rw [if_pos h, if_neg (by rw [← h1]; exact Int32.not_lt.mpr h)]
            exact hR
          · rw [if_neg h, if_pos (by rw [← h1]; exact Int32.not_le.mp h)]
            exact ⟨rfl, Or.inr ⟨rfl, n, g1, g2, rfl⟩⟩
    · show D_X11_worst_j1 present braced fear weight nerve fearTimes feared k s = s
      unfold D_X11_worst_j1
      rw [if_pos]
      rw [has0 (by omega)]
      cases hb : bt present k with
      | false => rfl
      | true => have := hs k (by omega) hb; omega
  exact key.1
theorem pub_worst (hL : LegR M holds oneIn fear mutiny tens kind nerve friendsOf fearTimes weight rr) (hN : NowR M 0 present braced seed tenOf feared angerOf lotsOf st) (hs : sub_men present M) (hh : hl = 0 ↔ tens = 0) : D_X11_worst tens present braced fear weight nerve fearTimes feared = ((D_X12_worst hl rr a b c st).1, (D_X12_worst hl rr a b c st).2.2.1) := by
  obtain ⟨w1, w2⟩ := start_why (x0 := 0) (rr := rr) (a := a) (b := b) (c := c) hL.M8 hh hN.1 hs
  have e0 : D_X11_troubleOfStart 0 tens present = D_X11_troubleOfLegion tens := by
    unfold D_X11_troubleOfStart D_X11_isPart
    rw [Int32.zero_and, if_pos rfl, if_neg (by decide)]
    unfold D_X11_firstOf
    by_cases h : D_X11_troubleOfLegion tens = 0
    · rw [if_pos h, h]
    · rw [if_neg h]
  rw [e0] at w1 w2
  unfold D_X11_worst D_X12_worst D_X11_worst_a1 D_X12_worst_a2
  rw [w1]
  by_cases h0 : D_X11_troubleOfLegion tens = 0
  · rw [if_pos ((refused1 _).mpr h0), if_pos h0, worst_l hL hN hs (w2 h0).1, refused2, h0]
    rfl
  · rw [if_neg (fun g => h0 ((refused1 _).mp g)), if_neg h0, refused2]
    have h1 : D_X11_troubleOfLegion tens = 1 := by
      unfold D_X11_troubleOfLegion at h0 ⊢
      by_cases ht : tens = 0
      · rw [if_pos ht]
      · rw [if_neg ht] at h0; exact absurd rfl h0
    rw [h1]
    rfl
end WORST
