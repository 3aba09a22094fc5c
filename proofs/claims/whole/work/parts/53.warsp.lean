section WARSP
variable {M : Nat} {holds oneIn fear mutiny tens present braced seed x0 hl a b c : Int32} {kind nerve friendsOf fearTimes weight rr tenOf feared angerOf lotsOf st : Nat → Int32}
variable {T : Nat} {t2 f2 an2 l2 war drawnIn drawnR : Nat → Int32} {x1 x2 y men p2 b2 s2 held hW dr : Int32} {ptr : Option Nat} {l : Nat}
theorem seed_why {x : Int32} : (D_X12_in x 0 65536 = 0 ∧ D_X11_troubleOfSeed x = 2) ∨ (D_X12_in x 0 65536 = 1 ∧ D_X11_troubleOfSeed x = 0 ∧ ∃ q, q < 65537 ∧ x = nI q) := by
  have h := in_spec (x := x) (T := 65537) (by decide)
  rw [show nI 65537 - 1 = 65536 by decide] at h
  unfold D_X11_troubleOfSeed
  by_cases h0 : x < 0
  · rw [if_pos h0] at h ⊢
    rcases h with ⟨h1, -⟩ | ⟨-, h2, -⟩
    · exact Or.inl ⟨h1, rfl⟩
    · exact absurd h2 (by decide)
  · rw [if_neg h0] at h ⊢
    by_cases h1 : x < 65537
    · rw [if_pos (show x < nI 65537 from h1)] at h
      rw [if_pos h1]
      rcases h with ⟨-, h2⟩ | ⟨h2, -, h3⟩
      · exact absurd h2 (by decide)
      · exact Or.inr ⟨h2, rfl, h3⟩
    · rw [if_neg (show ¬ x < nI 65537 from h1)] at h
      rw [if_neg h1]
      rcases h with ⟨h2, -⟩ | ⟨-, h2, -⟩
      · exact Or.inl ⟨h2, rfl⟩
      · exact absurd h2 (by decide)
theorem wars_why : (D_X12_warsWhy y x1 x2 rr a b c st war drawnR hW dr).1 = (if y = 0 then 1 else D_X11_troubleOfWars x1 x2 : Int32) ∧ (¬ y = 0 → D_X11_troubleOfWars x1 x2 = 0 → (∃ q n, q < 65537 ∧ n ≤ 60 ∧ x1 = nI q ∧ x2 = nI n) ∧ D_X12_warsWhy y x1 x2 rr a b c st war drawnR hW dr = (0, rr 2, (-1), 0, (D_X12_warsWhy_l3 x1 x2 rr st war drawnR).1, (D_X12_warsWhy_l3 x1 x2 rr st war drawnR).2.1, (D_X12_warsWhy_l3 x1 x2 rr st war drawnR).2.2.1, (D_X12_warsWhy_l3 x1 x2 rr st war drawnR).2.2.2)) := by
  unfold D_X12_warsWhy D_X11_troubleOfWars
  by_cases hy : y = 0
  · rw [if_pos hy, if_pos hy]; exact ⟨rfl, fun h => absurd hy h⟩
  · rw [if_neg hy, if_neg hy]
    rcases seed_why (x := x1) with ⟨h1, h2⟩ | ⟨h1, h2, q, q1, q2⟩
    · rw [h1, h2, if_pos rfl, firstOfN (by decide)]; exact ⟨rfl, fun _ h => absurd h (by decide)⟩
    · rw [h1, h2, if_neg (show ¬ (1 : Int32) = 0 by decide), firstOf0]
      rcases in_two2 (x1 := x2) (n := 60) with ⟨g1, g2⟩ | ⟨g1, g2, g3, g4⟩
      · rw [g1, g2, if_pos rfl]; exact ⟨rfl, fun _ h => absurd h (by decide)⟩
      · rw [g1, g2, if_neg (show ¬ (1 : Int32) = 0 by decide)]
        refine ⟨rfl, fun _ _ => ⟨?_, rfl⟩⟩
        obtain ⟨j, j1, j2⟩ := nI_of2 (n := 60) (by decide) g3 g4
        exact ⟨q, j, q1, j1, q2, j2⟩
theorem T_pos (hL : LegR M holds oneIn fear mutiny tens kind nerve friendsOf fearTimes weight rr) (hh : hl = 0 ↔ tens = 0) (h0 : ¬ hl = 0) : ∃ T, T < 3 ∧ rr 4 = nI (T + 1) ∧ tens = nI (T + 1) := by
  obtain ⟨T, hT, hT4⟩ := hL.T3
  rcases Nat.eq_zero_or_pos T with h | h
  · rw [h] at hT4; exact absurd (hh.mpr (by rw [hL.h4, hT4]; rfl)) h0
  · obtain ⟨T, rfl⟩ : ∃ q, T = q + 1 := ⟨T - 1, by omega⟩
    exact ⟨T, by omega, hT4, by rw [hL.h4]; exact hT4⟩
theorem pub_wars (hL : LegR M holds oneIn fear mutiny tens kind nerve friendsOf fearTimes weight rr) (hN : NowR M 0 present braced seed tenOf feared angerOf lotsOf st) (hs : sub_men present M) (hh : hl = 0 ↔ tens = 0) : (D_X11_wars x1 x2 tens ptr present p2 braced b2 seed s2 tenOf t2 feared f2 angerOf an2 lotsOf l2 held drawnIn mutiny oneIn friendsOf fear weight nerve fearTimes holds l).1 = (D_X12_wars x1 x2 hl rr a b c st war drawnR hW dr).1 ∧ (D_X11_wars x1 x2 tens ptr present p2 braced b2 seed s2 tenOf t2 feared f2 angerOf an2 lotsOf l2 held drawnIn mutiny oneIn friendsOf fear weight nerve fearTimes holds l).2.1 = (D_X12_wars x1 x2 hl rr a b c st war drawnR hW dr).2.2.1 := by
  obtain ⟨w1, w2⟩ := wars_why (y := hl) (x1 := x1) (x2 := x2) (rr := rr) (a := a) (b := b) (c := c) (st := st) (war := war) (drawnR := drawnR) (hW := hW) (dr := dr)
  unfold D_X11_wars D_X12_wars D_X11_wars_a1 D_X11_wars_a2 D_X12_wars_j1 D_X12_wars_a3 D_X12_wars_a2
  have ht : D_X11_firstOf (D_X11_troubleOfLegion tens) (D_X11_troubleOfWars x1 x2) = (if hl = 0 then 1 else D_X11_troubleOfWars x1 x2 : Int32) := by
    unfold D_X11_troubleOfLegion
    by_cases h0 : hl = 0
    · rw [if_pos h0, if_pos (hh.mp h0), firstOfN (by decide)]
    · rw [if_neg h0, if_neg (fun g => h0 (hh.mpr g)), firstOf0]
  rw [ht, ← w1, refused2]
  by_cases h0 : (D_X12_warsWhy hl x1 x2 rr a b c st war drawnR hW dr).1 = 0
  · rw [if_pos ((refused1 _).mpr h0), if_pos h0, h0]
    have hl0 : ¬ hl = 0 := fun h => by rw [w1, if_pos h] at h0; exact absurd h0 (by decide)
    rw [w1, if_neg hl0] at h0
    obtain ⟨⟨q, n, q1, n1, q2, n2⟩, e⟩ := w2 hl0 h0
    obtain ⟨T, hT, hT4, hT5⟩ := T_pos hL hh hl0
    rw [e, q2, n2, hT5]
    obtain ⟨⟨sd, r1⟩, r2, r3, r4, r5⟩ := wars_l (t2 := t2) (f2 := f2) (an2 := an2) (l2 := l2) (war := war) (drawnIn := drawnIn) (drawnR := drawnR) hL hN hs hT4 hT q1 n1
    refine ⟨?_, rfl⟩
    exact r4
  · rw [if_neg (fun g => h0 ((refused1 _).mp g)), if_neg h0]; exact ⟨rfl, rfl⟩
theorem pub_warsLeft (hL : LegR M holds oneIn fear mutiny tens kind nerve friendsOf fearTimes weight rr) (hN : NowR M 0 present braced seed tenOf feared angerOf lotsOf st) (hs : sub_men present M) (hh : hl = 0 ↔ tens = 0) : (D_X11_warsLeft x1 x2 tens ptr present p2 braced b2 seed s2 tenOf t2 feared f2 angerOf an2 lotsOf l2 held drawnIn mutiny oneIn friendsOf fear weight nerve fearTimes holds l).1 = (D_X12_warsLeft x1 x2 hl rr a b c st war drawnR hW dr).1 ∧ (D_X11_warsLeft x1 x2 tens ptr present p2 braced b2 seed s2 tenOf t2 feared f2 angerOf an2 lotsOf l2 held drawnIn mutiny oneIn friendsOf fear weight nerve fearTimes holds l).2.1 = (D_X12_warsLeft x1 x2 hl rr a b c st war drawnR hW dr).2.2.1 := by
  obtain ⟨w1, w2⟩ := wars_why (y := hl) (x1 := x1) (x2 := x2) (rr := rr) (a := a) (b := b) (c := c) (st := st) (war := war) (drawnR := drawnR) (hW := hW) (dr := dr)
  unfold D_X11_warsLeft D_X12_warsLeft D_X11_warsLeft_a1 D_X11_warsLeft_a2 D_X12_warsLeft_j1 D_X12_warsLeft_a3 D_X12_warsLeft_a2
  have ht : D_X11_firstOf (D_X11_troubleOfLegion tens) (D_X11_troubleOfWars x1 x2) = (if hl = 0 then 1 else D_X11_troubleOfWars x1 x2 : Int32) := by
    unfold D_X11_troubleOfLegion
    by_cases h0 : hl = 0
    · rw [if_pos h0, if_pos (hh.mp h0), firstOfN (by decide)]
    · rw [if_neg h0, if_neg (fun g => h0 (hh.mpr g)), firstOf0]
  rw [ht, ← w1, refused2]
  by_cases h0 : (D_X12_warsWhy hl x1 x2 rr a b c st war drawnR hW dr).1 = 0
  · rw [if_pos ((refused1 _).mpr h0), if_pos h0, h0]
    have hl0 : ¬ hl = 0 := fun h => by rw [w1, if_pos h] at h0; exact absurd h0 (by decide)
    rw [w1, if_neg hl0] at h0
    obtain ⟨⟨q, n, q1, n1, q2, n2⟩, e⟩ := w2 hl0 h0
    obtain ⟨T, hT, hT4, hT5⟩ := T_pos hL hh hl0
    rw [e, q2, n2, hT5]
    obtain ⟨⟨sd, r1⟩, r2, r3, r4, r5⟩ := wars_l (t2 := t2) (f2 := f2) (an2 := an2) (l2 := l2) (war := war) (drawnIn := drawnIn) (drawnR := drawnR) hL hN hs hT4 hT q1 n1
    refine ⟨?_, rfl⟩
    exact r1.1
  · rw [if_neg (fun g => h0 ((refused1 _).mp g)), if_neg h0]; exact ⟨rfl, rfl⟩
theorem pub_warsOf (hL : LegR M holds oneIn fear mutiny tens kind nerve friendsOf fearTimes weight rr) (hN : NowR M 0 present braced seed tenOf feared angerOf lotsOf st) (hs : sub_men present M) (hh : hl = 0 ↔ tens = 0) (hm : men = nI M) (hz : hl = 0 → M = 0) : (D_X11_warsOf x0 x1 x2 men ptr present p2 braced b2 seed s2 tenOf t2 feared f2 angerOf an2 lotsOf l2 held drawnIn tens mutiny oneIn friendsOf fear weight nerve fearTimes holds l).1 = (D_X12_warsOf x0 x1 x2 hl rr a b c st war drawnR hW dr).1 ∧ (D_X11_warsOf x0 x1 x2 men ptr present p2 braced b2 seed s2 tenOf t2 feared f2 angerOf an2 lotsOf l2 held drawnIn tens mutiny oneIn friendsOf fear weight nerve fearTimes holds l).2.1 = (D_X12_warsOf x0 x1 x2 hl rr a b c st war drawnR hW dr).2.2.1 := by
  have hM := hL.M8
  obtain ⟨w1, w2⟩ := wars_why (y := D_X12_isMan x0 hl rr) (x1 := x1) (x2 := x2) (rr := rr) (a := a) (b := b) (c := c) (st := st) (war := war) (drawnR := drawnR) (hW := hW) (dr := dr)
  unfold D_X11_warsOf D_X12_warsOf D_X11_warsOf_a1 D_X11_warsOf_a2 D_X12_warsOf_j1 D_X12_warsOf_a3 D_X12_warsOf_a2
  have ht : D_X11_firstOf (D_X11_troubleOfMan x0 men) (D_X11_troubleOfWars x1 x2) = (if D_X12_isMan x0 hl rr = 0 then 1 else D_X11_troubleOfWars x1 x2 : Int32) := by
    rw [hm]
    rcases isMan_spec (x0 := x0) hM hL.r5 hz with ⟨h1, h2⟩ | ⟨h1, h2, h3, m, h4, h5⟩
    · rw [h1, h2, if_pos rfl, firstOfN (by decide)]
    · rw [h1, h2, if_neg (show ¬ (1 : Int32) = 0 by decide), firstOf0]
  rw [ht, ← w1, refused2]
  by_cases h0 : (D_X12_warsWhy (D_X12_isMan x0 hl rr) x1 x2 rr a b c st war drawnR hW dr).1 = 0
  · rw [if_pos ((refused1 _).mpr h0), if_pos h0, h0]
    have hy0 : ¬ D_X12_isMan x0 hl rr = 0 := fun h => by rw [w1, if_pos h] at h0; exact absurd h0 (by decide)
    rw [w1, if_neg hy0] at h0
    obtain ⟨⟨q, n, q1, n1, q2, n2⟩, e⟩ := w2 hy0 h0
    rcases isMan_spec (x0 := x0) hM hL.r5 hz with ⟨h1, -⟩ | ⟨h1, h2, h3, m, h4, h5⟩
    · exact absurd h1 hy0
    · obtain ⟨T, hT, hT4, hT5⟩ := T_pos hL hh h3
      rw [e, q2, n2, hT5, h5, nI_clamp (by omega)]
      obtain ⟨⟨sd, r1⟩, r2, r3, r4, r5⟩ := wars_l (t2 := t2) (f2 := f2) (an2 := an2) (l2 := l2) (war := war) (drawnIn := drawnIn) (drawnR := drawnR) hL hN hs hT4 hT q1 n1
      refine ⟨?_, rfl⟩
      exact r5 m (by omega)
  · rw [if_neg (fun g => h0 ((refused1 _).mp g)), if_neg h0]; exact ⟨rfl, rfl⟩
end WARSP
