/-! MAN and TEN: numbers of men and tens -/
theorem nI_prd (n : Nat) : nI (n + 1) - 1 = nI n := by rw [nI_succ, Int32.add_sub_cancel]
theorem in_spec {x : Int32} {T : Nat} (hT : T < 2 ^ 30) : (D_X12_in x 0 (nI T - 1) = 0 ∧ (if x < 0 then 1 else if x < nI T then 0 else 1 : Int32) = 1) ∨ (D_X12_in x 0 (nI T - 1) = 1 ∧ (if x < 0 then 1 else if x < nI T then 0 else 1 : Int32) = 0 ∧ ∃ m, m < T ∧ x = nI m) := by
  unfold D_X12_in
  by_cases h0 : x < 0
  · rw [if_pos h0, if_pos h0]; exact Or.inl ⟨rfl, rfl⟩
  · obtain ⟨j, hj, e⟩ := nI_of h0
    rw [if_neg h0, if_neg h0, e]
    cases T with
    | zero =>
      have h1 : nI 0 - 1 < nI j := by
        rw [Int32.lt_iff_toInt_lt, nI_toInt hj, show (nI 0 - 1).toInt = -1 by decide]
        omega
      rw [if_pos h1, if_neg (nI_nlt (Nat.zero_le _) hj)]
      exact Or.inl ⟨rfl, rfl⟩
    | succ T =>
      rw [nI_prd]
      rcases Nat.lt_or_ge T j with h | h
      · rw [if_pos (nI_lt h hj), if_neg (nI_nlt (by omega) hj)]
        exact Or.inl ⟨rfl, rfl⟩
      · rw [if_neg (nI_nlt h (by omega)), if_pos (nI_lt (by omega) (by omega))]
        exact Or.inr ⟨rfl, rfl, j, by omega, rfl⟩
section MAN
variable {M : Nat} {holds oneIn fear mutiny tens present braced seed x0 hl a b c : Int32} {kind nerve friendsOf fearTimes weight rr tenOf feared angerOf lotsOf st : Nat → Int32}
variable {x1 men : Int32} {T : Nat}
theorem isMan_spec (hM : M ≤ 8) (hr : rr 5 = nI M) (hz : hl = 0 → M = 0) : (D_X12_isMan x0 hl rr = 0 ∧ D_X11_troubleOfMan x0 (nI M) = 1) ∨ (D_X12_isMan x0 hl rr = 1 ∧ D_X11_troubleOfMan x0 (nI M) = 0 ∧ ¬ hl = 0 ∧ ∃ m, m < M ∧ x0 = nI m) := by
  unfold D_X12_isMan D_X11_troubleOfMan
  rw [hr]
  rcases in_spec (x := x0) (T := M) (by omega) with ⟨h1, h2⟩ | ⟨h1, h2, m, h3, h4⟩
  · rw [h1, h2, if_pos rfl]
    refine Or.inl ⟨?_, rfl⟩
    by_cases h : hl = 0
    · rw [if_pos h]
    · rw [if_neg h]
  · rw [h1, h2, if_neg (show ¬ (1 : Int32) = 0 by decide)]
    have : ¬ hl = 0 := fun h => by have := hz h; omega
    rw [if_neg this]
    exact Or.inr ⟨rfl, rfl, this, m, h3, h4⟩
theorem isTen_spec (hT : T ≤ 3) (hr : rr 4 = nI T) (hz : hl = 0 → T = 0) : (D_X12_isTen x0 hl rr = 0 ∧ D_X11_troubleOfTen x0 (nI T) = 1) ∨ (D_X12_isTen x0 hl rr = 1 ∧ D_X11_troubleOfTen x0 (nI T) = 0 ∧ ¬ hl = 0 ∧ ∃ m, m < T ∧ x0 = nI m) := by
  unfold D_X12_isTen D_X11_troubleOfTen
  rw [hr]
  rcases in_spec (x := x0) (T := T) (by omega) with ⟨h1, h2⟩ | ⟨h1, h2, m, h3, h4⟩
  · rw [h1, h2, if_pos rfl]
    refine Or.inl ⟨?_, rfl⟩
    by_cases h : hl = 0
    · rw [if_pos h]
    · rw [if_neg h]
  · rw [h1, h2, if_neg (show ¬ (1 : Int32) = 0 by decide)]
    have : ¬ hl = 0 := fun h => by have := hz h; omega
    rw [if_neg this]
    exact Or.inr ⟨rfl, rfl, this, m, h3, h4⟩
theorem in_two {n : Int32} : (D_X12_in x1 0 n = 0 ∧ ∀ y : Int32, (if x1 < 0 then 1 else if x1 ≤ n then y else 1 : Int32) = 1) ∨ (D_X12_in x1 0 n = 1 ∧ ∀ y : Int32, (if x1 < 0 then 1 else if x1 ≤ n then y else 1 : Int32) = y) := by
  unfold D_X12_in
  by_cases h0 : x1 < 0
  · rw [if_pos h0]; refine Or.inl ⟨rfl, fun y => ?_⟩; rw [if_pos h0]
  · rw [if_neg h0]
    by_cases h1 : n < x1
    · rw [if_pos h1]; refine Or.inl ⟨rfl, fun y => ?_⟩; rw [if_neg h0, if_neg (Int32.not_le.mpr h1)]
    · rw [if_neg h1]; refine Or.inr ⟨rfl, fun y => ?_⟩; rw [if_neg h0, if_pos (Int32.not_lt.mp h1)]
theorem has_01 (x : Int32) {k : Nat} (hk : k < 32) : (if D_X11_has x (nI k) = 0 then 0 else 1 : Int32) = (x >>> (nI k &&& 31)) &&& 1 := by
  rw [b_sh1 x hk, has_bt x hk]
  cases bt x k <;> rfl
theorem rn_v_none {f2 : Int32} {k : Nat} (hk : k < 32) : rn_v f2 (-1) nerve fearTimes feared k = D_X6_nerveOf k f2 nerve fearTimes feared := by
  unfold rn_v
  rw [if_neg (fun h => by have := congrArg Int32.toInt h; rw [nI_toInt (by omega), show (-1 : Int32).toInt = -1 by decide] at this; omega), Int32.add_zero]
theorem pub_man (hL : LegR M holds oneIn fear mutiny tens kind nerve friendsOf fearTimes weight rr) (hN : NowR M 0 present braced seed tenOf feared angerOf lotsOf st) (hm : men = nI M) (hz : hl = 0 → M = 0) : D_X11_man x0 x1 men kind tenOf nerve fear fearTimes feared friendsOf angerOf present braced = ((D_X12_man x0 x1 hl rr a b c st).1, (D_X12_man x0 x1 hl rr a b c st).2.2.1) := by
  have hM := hL.M8
  unfold D_X11_man D_X12_man D_X11_man_a1
  rw [hm]
  rcases isMan_spec (x0 := x0) hM hL.r5 hz with ⟨h1, h2⟩ | ⟨h1, h2, h3, m, h4, h5⟩
  · rw [h1, h2, if_pos rfl]
    rcases in_two (x1 := x1) (n := 7) with ⟨g1, g2⟩ | ⟨g1, g2⟩
    · rw [g2, if_neg (fun g => absurd ((refused1 _).mp g) (by decide))]; rfl
    · rw [g2, if_neg (fun g => absurd ((refused1 _).mp g) (by decide))]; rfl
  · rw [h1, h2, if_neg (show ¬ (1 : Int32) = 0 by decide)]
    rcases in_two (x1 := x1) (n := 7) with ⟨g1, g2⟩ | ⟨g1, g2⟩
    · rw [g1, g2, if_pos rfl, if_neg (fun g => absurd ((refused1 _).mp g) (by decide))]; rfl
    · rw [g1, g2, if_neg (show ¬ (1 : Int32) = 0 by decide), if_pos ((refused1 _).mpr rfl), refused2, h5, nI_clamp (by omega)]
      rw [has_01 present (k := m) (by omega), has_01 braced (k := m) (by omega), hL.kd h4, hN.2.2.2.1 m h4, hL.nv h4, hL.fr h4, hN.2.2.2.2.2.1 m h4, hN.1, hN.2.1]
      rw [← rn_v_none (f2 := fear) (by omega), ← nerve_eq (heartened := (-1)) (hL.nv h4) (hL.ft h4) (hN.2.2.2.2.1 m h4), hL.h2]
      by_cases c0 : x1 = 0
      · rw [if_pos c0, if_pos c0]; rfl
      rw [if_neg c0, if_neg c0]
      by_cases c1 : x1 = 1
      · rw [if_pos c1, if_pos c1]; dsimp only; rw [Nat.zero_add]; rfl
      rw [if_neg c1, if_neg c1]
      by_cases c2 : x1 = 2
      · rw [if_pos c2, if_pos c2]; rfl
      rw [if_neg c2, if_neg c2]
      by_cases c3 : x1 = 3
      · rw [if_pos c3, if_pos c3]; rfl
      rw [if_neg c3, if_neg c3]
      by_cases c4 : x1 = 4
      · rw [if_pos c4, if_pos c4]; rfl
      rw [if_neg c4, if_neg c4]
      by_cases c5 : x1 = 5
      · rw [if_pos c5, if_pos c5]; dsimp only; rw [Nat.zero_add]; rfl
      rw [if_neg c5, if_neg c5]
      by_cases c6 : x1 = 6
      · rw [if_pos c6, if_pos c6]; rfl
      · rw [if_neg c6, if_neg c6]; rfl
theorem LegR.T3 (h : LegR M holds oneIn fear mutiny tens kind nerve friendsOf fearTimes weight rr) : ∃ t, t ≤ 3 ∧ rr 4 = nI t := h.2.2.2.2.2.2.2.2.2.2.2.2.2.1
theorem LegR.one (h : LegR M holds oneIn fear mutiny tens kind nerve friendsOf fearTimes weight rr) : rr 4 = 0 ∨ ∃ n, 2 ≤ n ∧ n < 7 ∧ rr 1 = nI n := h.2.2.2.2.2.2.2.2.2.2.2.2.2.2
theorem beans_rel {o : Nat} {row : Nat → Int32} (hL : LegR M holds oneIn fear mutiny tens kind nerve friendsOf fearTimes weight rr) (hN : NowR M o present braced seed tenOf feared angerOf lotsOf row) (hs : sub_men present M) (h4 : ¬ rr 4 = 0) {t : Int32} : D_X6_beansOf t present tenOf oneIn = D_X12_beansOf o t rr row := by
  obtain ⟨n, n1, n2, n3⟩ := hL.one.resolve_left h4
  rw [hL.h1, n3]
  exact beans_eq hL.M8 hL.r5 hN.1 hs hN.2.2.2.1 ⟨n1, n2⟩ n3
theorem men_rel {o : Nat} {row : Nat → Int32} (hL : LegR M holds oneIn fear mutiny tens kind nerve friendsOf fearTimes weight rr) (hN : NowR M o present braced seed tenOf feared angerOf lotsOf row) (hs : sub_men present M) {t : Int32} : D_X6_menOf t present tenOf = D_X12_inTen o t rr row := menOf_inTen hL.M8 hL.r5 hN.1 hs hN.2.2.2.1
theorem pub_ten (hL : LegR M holds oneIn fear mutiny tens kind nerve friendsOf fearTimes weight rr) (hN : NowR M 0 present braced seed tenOf feared angerOf lotsOf st) (hs : sub_men present M) (hh : hl = 0 ↔ tens = 0) : D_X11_ten x0 x1 tens present tenOf oneIn lotsOf = ((D_X12_ten x0 x1 hl rr st).1, (D_X12_ten x0 x1 hl rr st).2.2) := by
  obtain ⟨T, hT, hT4⟩ := hL.T3
  have hz : hl = 0 → T = 0 := fun h => by
    have := hh.mp h
    rw [hL.h4, hT4] at this
    exact (nI_eq (b := 0) (by omega) (by omega)).mp this
  unfold D_X11_ten D_X12_ten D_X11_ten_a1
  rw [hL.h4, hT4]
  rcases isTen_spec (x0 := x0) hT hT4 hz with ⟨h1, h2⟩ | ⟨h1, h2, h3, m, h4, h5⟩
  · rw [h1, h2, if_pos rfl]
    rcases in_two (x1 := x1) (n := 2) with ⟨g1, g2⟩ | ⟨g1, g2⟩
    · rw [g2, if_neg (fun g => absurd ((refused1 _).mp g) (by decide))]; rfl
    · rw [g2, if_neg (fun g => absurd ((refused1 _).mp g) (by decide))]; rfl
  · rw [h1, h2, if_neg (show ¬ (1 : Int32) = 0 by decide)]
    rcases in_two (x1 := x1) (n := 2) with ⟨g1, g2⟩ | ⟨g1, g2⟩
    · rw [g1, g2, if_pos rfl, if_neg (fun g => absurd ((refused1 _).mp g) (by decide))]; rfl
    · rw [g1, g2, if_neg (show ¬ (1 : Int32) = 0 by decide), if_pos ((refused1 _).mpr rfl), refused2]
      have h40 : ¬ rr 4 = 0 := fun h => h3 (hh.mpr (by rw [hL.h4]; exact h))
      rw [beans_rel hL hN hs h40, men_rel hL hN hs, h5, nI_clamp (by omega), hN.2.2.2.2.2.2 m (by omega), Nat.zero_add]
      dsimp only
      by_cases c0 : x1 = 0
      · rw [if_pos c0, if_pos c0]; rfl
      rw [if_neg c0, if_neg c0]
      by_cases c1 : x1 = 1
      · rw [if_pos c1, if_pos c1]; rfl
      · rw [if_neg c1, if_neg c1]; rfl
end MAN
