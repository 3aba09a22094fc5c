/-! BREAKS: sets of men in the order of their numbers -/
theorem to_nI {n : Nat} (h : n + 1 < 2 ^ 31) : am_to (nI n) 0 = n + 1 := by
  unfold am_to
  rw [nI_toInt (by omega)]
  omega
theorem allMen_all : ∀ M, M < 9 → ((1 : Int32) <<< (nI M &&& 31)) - 1 = nI (2 ^ M - 1) := by decide +kernel
theorem allMen_eq {M : Nat} {rr : Nat → Int32} (hM : M ≤ 8) (hr : rr 5 = nI M) : D_X12_allMen rr = nI (2 ^ M - 1) := by
  unfold D_X12_allMen
  rw [hr]
  exact allMen_all M (by omega)
theorem sub_nat {M : Nat} {x : Int32} (hM : M ≤ 8) (hs : sub_men x M) : ∃ n, n < 2 ^ M ∧ n < 256 ∧ x = nI n := by
  obtain ⟨n, hn, e⟩ := sm_nat (sub_sm hM hs)
  refine ⟨n, ?_, hn, e⟩
  refine Nat.lt_pow_two_of_testBit n fun i hi => ?_
  rcases Nat.lt_or_ge i 32 with h | h
  · rw [← bt_nat h]
    cases hb : bt (nI n) i with
    | false => rfl
    | true => have := hs i h (by rw [e]; exact hb); omega
  · exact Nat.testBit_lt_two_pow (Nat.lt_of_lt_of_le hn (by rw [show (256 : Nat) = 2 ^ 8 by rfl]; exact Nat.pow_le_pow_right (by decide) (by omega)))
theorem part_le {k p : Nat} (hk : k < 256) (hp : p < 256) (h : nI k &&& (nI p ^^^ (-1)) = 0) : k ≤ p := by
  have e : k &&& p = k := by
    refine Nat.eq_of_testBit_eq fun i => ?_
    rw [Nat.testBit_and]
    rcases Nat.lt_or_ge i 32 with hi | hi
    · cases hb : k.testBit i with
      | false => rfl
      | true => rw [← bt_nat hi, inc_of h hi (by rw [bt_nat hi]; exact hb)]; rfl
    · rw [Nat.testBit_lt_two_pow (x := k) (Nat.lt_of_lt_of_le hk (by rw [show (256 : Nat) = 2 ^ 8 by rfl]; exact Nat.pow_le_pow_right (by decide) (by omega)))]
      rfl
  rw [← e]
  exact Nat.and_le_right
theorem isPart0 {x y : Int32} : D_X11_isPart x y = 0 ↔ ¬ x &&& (y ^^^ (-1)) = 0 := by
  unfold D_X11_isPart
  by_cases h : x &&& (y ^^^ (-1)) = 0
  · rw [if_pos h]; exact ⟨fun g => absurd g (by decide), fun g => absurd h g⟩
  · rw [if_neg h]; exact ⟨fun _ => h, fun _ => rfl⟩
theorem pow_256 {M : Nat} (hM : M ≤ 8) : 2 ^ M ≤ 256 := by rw [show (256 : Nat) = 2 ^ 8 by rfl]; exact Nat.pow_le_pow_right (by decide) hM
theorem pow_pos' (M : Nat) : 0 < 2 ^ M := Nat.pow_pos (by decide)
section BREAKS
variable {M : Nat} {holds oneIn fear mutiny tens present braced seed x0 hl a b c : Int32} {kind nerve friendsOf fearTimes weight rr tenOf feared angerOf lotsOf st : Nat → Int32}
def br_R (c : Int32 × Int32) (r : Int32) : Prop := c.1 = r ∧ ((r = -2 ∧ c.2 = 9) ∨ (sm r ∧ c.2 = nI (ct r)))
theorem breaks_l (hL : LegR M holds oneIn fear mutiny tens kind nerve friendsOf fearTimes weight rr) (hN : NowR M 0 present braced seed tenOf feared angerOf lotsOf st) (hs : sub_men present M) (hw : (D_X12_startWhy 0 hl rr a b c st).2 = (rr 2, (-1), 0)) : (D_X11_breaks_l1 present braced fear weight nerve fearTimes feared holds).1 = D_X12_breaks_l1 hl rr a b c st := by
  have hM := hL.M8
  obtain ⟨p, hp1, hp2, hp⟩ := sub_nat hM hs
  have hpw := pow_256 hM
  have hpp := pow_pos' M
  have key : br_R (D_X11_breaks_l1 present braced fear weight nerve fearTimes feared holds) (D_X12_breaks_l1 hl rr a b c st) := by
    unfold D_X11_breaks_l1 D_X12_breaks_l1
    rw [allMen_eq hM hL.r5, to_nI (by omega), show am_to present 0 = p + 1 by rw [hp]; exact to_nI (by omega)]
    rw [am_fo_cut (f := st_X12_breaks_23 hl rr a b c st) (g := st_X12_breaks_23 hl rr a b c st) (M := p + 1) (N := 2 ^ M - 1 + 1) (by omega) (fun _ _ _ => rfl) (fun k s h1 h2 => ?_)]
    · refine am_fo_rel (R := br_R) ⟨rfl, Or.inl ⟨rfl, rfl⟩⟩ fun k s t hk hR => ?_
      show br_R (D_X11_breaks_j1 present braced fear weight nerve fearTimes feared holds k s) (D_X12_breaks_j1 hl rr a b c st k t)
      unfold D_X11_breaks_j1 D_X12_breaks_j1 D_X12_breaks_a3 D_X12_breaks_a4 D_X12_breaks_a2 D_X11_breaks_a2
      rw [hw, ← show present = st 27 from hN.1]
      have hsk : sm (nI k) := nat_sm (by omega)
      by_cases hx : nI k &&& (present ^^^ (-1)) = 0
      · rw [if_neg (fun g => isPart0.mp g hx), if_pos hx, holdFrom_rel hL hN hs hx, bc_ct hsk]
        dsimp only
        have hc := ct_le hsk
        rcases hR.2 with ⟨h1, h2⟩ | ⟨h1, h2⟩
        · have e1 : ¬ s.2 ≤ nI (ct (nI k)) := by rw [h2]; exact nI_ge (b := 9) (by omega) (by omega)
          have e2 : t < 0 := by rw [h1]; decide
          rw [if_neg e1, if_pos e2]
          by_cases hd : D_X12_doesHold 0 (nI k) st rr 0 (rr 2) (-1) = 0
          · rw [if_pos hd, if_pos hd]; exact ⟨rfl, Or.inr ⟨hsk, rfl⟩⟩
          · rw [if_neg hd, if_neg hd]; exact hR
        · rw [if_neg (sm_pos h1), on_ct h1, on_ct hsk, h2]
          by_cases hd : nI (ct t) ≤ nI (ct (nI k))
          · rw [if_pos hd, if_pos hd, ← h2]; exact hR
          · rw [if_neg hd, if_neg hd]
            by_cases hd : D_X12_doesHold 0 (nI k) st rr 0 (rr 2) (-1) = 0
            · rw [if_pos hd, if_pos hd]; exact ⟨rfl, Or.inr ⟨hsk, rfl⟩⟩
            · rw [if_neg hd, if_neg hd, ← h2]; exact hR
      · rw [if_pos (isPart0.mpr hx), if_neg hx]; exact hR
    · show D_X12_breaks_j1 hl rr a b c st k s = s
      unfold D_X12_breaks_j1
      rw [← show present = st 27 from hN.1, if_neg]
      intro h
      rw [hp] at h
      have := part_le (by omega) hp2 h
      omega
  exact key.1
theorem start_0 : D_X11_troubleOfStart 0 tens present = D_X11_troubleOfLegion tens := by
  unfold D_X11_troubleOfStart D_X11_isPart
  rw [Int32.zero_and, if_pos rfl, if_neg (by decide)]
  unfold D_X11_firstOf
  by_cases h : D_X11_troubleOfLegion tens = 0
  · rw [if_pos h, h]
  · rw [if_neg h]
theorem tl_1 (h0 : ¬ D_X11_troubleOfLegion tens = 0) : D_X11_troubleOfLegion tens = 1 := by
  unfold D_X11_troubleOfLegion at h0 ⊢
  by_cases ht : tens = 0
  · rw [if_pos ht]
  · rw [if_neg ht] at h0; exact absurd rfl h0
theorem pub_breaks (hL : LegR M holds oneIn fear mutiny tens kind nerve friendsOf fearTimes weight rr) (hN : NowR M 0 present braced seed tenOf feared angerOf lotsOf st) (hs : sub_men present M) (hh : hl = 0 ↔ tens = 0) : D_X11_breaks tens present braced fear weight nerve fearTimes feared holds = ((D_X12_breaks hl rr a b c st).1, (D_X12_breaks hl rr a b c st).2.2.1) := by
  obtain ⟨w1, w2⟩ := start_why (x0 := 0) (rr := rr) (a := a) (b := b) (c := c) hL.M8 hh hN.1 hs
  rw [start_0] at w1 w2
  unfold D_X11_breaks D_X12_breaks D_X11_breaks_a1 D_X12_breaks_a2
  rw [w1]
  by_cases h0 : D_X11_troubleOfLegion tens = 0
  · rw [if_pos ((refused1 _).mpr h0), if_pos h0, breaks_l hL hN hs (w2 h0).1, refused2, h0]
    rfl
  · rw [if_neg (fun g => h0 ((refused1 _).mp g)), if_neg h0, refused2, tl_1 h0]
    rfl
end BREAKS
