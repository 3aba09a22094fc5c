/-! GUARDS of the reference's methods, second half -/
section GR2
variable {M : Nat} {holds oneIn fear mutiny tens present braced seed x0 hl a b c : Int32} {kind nerve friendsOf fearTimes weight rr tenOf feared angerOf lotsOf st : Nat → Int32}
variable {T q : Nat} {t2 f2 an2 l2 war drawnIn drawnR room put bestPut levels undone kept row : Nat → Int32} {x1 x2 men hW dr undos images beans black shaken fav draws goneTold amongs : Int32} {drawer wb pair ofPair : Nat → Int32}
theorem wars_mid (hL : LegR M holds oneIn fear mutiny tens kind nerve friendsOf fearTimes weight rr) (hN : NowR M 0 present braced seed tenOf feared angerOf lotsOf st) (hs : sub_men present M) (h4 : rr 4 = nI (T + 1)) (hT : T < 3) {k : Nat} (hk : k < 60) {c : Int32 × Int32 × (Nat → Int32) × (Nat → Int32) × (Nat → Int32) × Int32 × (Nat → Int32)} {r : (Nat → Int32) × (Nat → Int32) × Int32 × Int32} (hR : wa_R M braced (va_cpy tenOf t2 0 0 8) st c r) : ∃ Y : Int32 × Int32 × (Nat → Int32) × (Nat → Int32) × (Nat → Int32) × (Nat → Int32), D_X0_fight_j1 present braced seed tenOf t2 feared f2 angerOf an2 lotsOf l2 (nI (T + 1)) mutiny oneIn friendsOf k c = Y ∧ ∃ Z : (Nat → Int32) × (Nat → Int32) × Int32, D_X12_warsWhy_j1 rr k r = Z ∧ (∃ sd, NowR M 0 Y.1 braced sd (va_cpy tenOf t2 0 0 8) Y.2.2.1 Y.2.2.2.1 Y.2.2.2.2.1 Z.1) ∧ sub_men Y.1 M ∧ (∃ q, q < 65537 ∧ Y.2.1 = nI q ∧ Z.2.2 = nI q) ∧ ∀ j, j < 8 → Y.2.2.2.2.2 j = Z.2.1 j := by
  have hM := hL.M8
  obtain ⟨⟨sd, n1⟩, s1, ⟨q, q1, q2, q3⟩, h5, h6⟩ := hR
  have hpos : ¬ nI (T + 1) ≤ 0 := nI_nle (by omega) (by omega)
  have hjr : jrm (nI k) (nI (T + 1)) = nI (k % (T + 1)) := i_rem (by omega) (by omega)
  have htl : k % (T + 1) < 3 := Nat.lt_of_lt_of_le (Nat.mod_lt k (by omega)) (by omega)
  have h40 : ¬ rr 4 = 0 := by rw [h4]; exact nI_ne0 (by omega) (by omega)
  have hmut := mutiny_eq hM hL.r5 n1.1 s1 n1.2.2.2.2.2.1 hL.h3
  refine ⟨_, rfl, _, rfl, ?_⟩
  unfold D_X0_fight_j1 D_X12_warsWhy_j1
  rw [hmut, h4, hjr]
  by_cases cm : D_X12_isMutiny 0 rr r.1 = 0
  · rw [if_pos cm]
    unfold D_X0_fight_a3 D_X0_fight_a2 D_X0_fight_a1 D_X6_copyFrom D_X0_drawWar D_X0_drawWar_j1 D_X0_drawWar_a1 D_X12_warsWhy_l2 st_X12_warsWhy_156 D_X12_warsWhy_a2
    dsimp only
    rw [h4, hjr, nI_clamp (by omega), men_rel hL n1 s1]
    by_cases c0 : D_X12_inTen 0 (nI (k % (T + 1))) rr r.1 = 0
    · rw [if_pos c0, if_pos c0]
      dsimp only
      exact ⟨⟨sd, n1⟩, s1, ⟨q, q1, q2, q3⟩, fun j hj => by rw [note_0 hj]; exact h6 j hj⟩
    · have hmen : ¬ D_X6_menOf (nI (k % (T + 1))) c.1 (va_cpy tenOf t2 0 0 8) = 0 := by rw [men_rel hL n1 s1]; exact c0
      obtain ⟨m, b', m1, m2, c1, c2, c3, e1, e2, e3, e4⟩ := lot_facts_o hL n1 s1 h40 hmen
      obtain ⟨black, q', d1, d2, d3, d4, d5, d6, -⟩ := lot_draw m1 c2 c3 q1 e1 e2 e3 e4
      rw [if_neg c0, if_neg c0, if_pos cm]
      unfold D_X6_drawLot D_X6_drawLot_a2
      dsimp only
      rw [q2, q3, d1, d2]
      dsimp only
      obtain ⟨Y, hY⟩ : ∃ Y, D_X6_takeAway (k % (T + 1)) black c.1 c.2.2.2.2.1 c.2.2.1 (va_cpy tenOf t2 0 0 8) c.2.2.2.1 friendsOf = Y := ⟨_, rfl⟩
      rw [hY]
      obtain ⟨y1, y2, y3⟩ := draws_rel hM hL.r5 s1 (fun m hm => hL.fr hm) hL.fsm htl n1 hY
      refine ⟨⟨sd, y1⟩, fun i hi h => ?_, ⟨q', d6, rfl, rfl⟩, fun j hj => note_eq h6 hj⟩
      rw [y3, b_and, Bool.and_eq_true] at h
      exact s1 i hi h.1
  · rw [if_neg cm]
    dsimp only
    by_cases c0 : D_X12_inTen 0 (nI (k % (T + 1))) rr r.1 = 0
    · rw [if_pos c0]; exact ⟨⟨sd, n1⟩, s1, ⟨q, q1, q2, q3⟩, h6⟩
    · rw [if_neg c0, if_neg cm]; exact ⟨⟨sd, n1⟩, s1, ⟨q, q1, q2, q3⟩, h6⟩
theorem gt_0 (hL : LegR M holds oneIn fear mutiny tens kind nerve friendsOf fearTimes weight rr) (hM8 : 8 ≤ M) {x few : Int32} : G_X12_tryTens_0 x few rr put bestPut st room := by
  have e : (8 : Int32) = rr 5 := by rw [hL.r5, show M = 8 by have := hL.M8; omega]; rfl
  exact ⟨fun _ _ => G_copyne (by omega) (by omega) (by omega), fun _ g => absurd e g, fun _ g => absurd e g⟩
theorem gt_1 (hL : LegR M holds oneIn fear mutiny tens kind nerve friendsOf fearTimes weight rr) (h4 : rr 4 = nI T) (hT : T ≤ 3) (hm : 7 ≤ M) {x few : Int32} {put bestPut room : Nat → Int32} : G_X12_tryTens_1 x few rr put bestPut st room := by
  have hM := hL.M8
  by_cases c : M = 7
  · have e : (7 : Int32) = rr 5 := by rw [hL.r5, c]; rfl
    exact ⟨fun _ _ => G_copyne (by omega) (by omega) (by omega), fun _ g => absurd e g, fun _ g => absurd e g⟩
  · refine ⟨fun _ _ => G_copyne (by omega) (by omega) (by omega), fun _ _ _ => gt_0 hL (by omega), fun _ _ _ k s hk _ => ?_⟩
    rw [h4, be_nI (by omega)] at hk
    exact ⟨by omega, fun _ => by omega, fun _ => gt_0 hL (by omega)⟩
theorem gt_2 (hL : LegR M holds oneIn fear mutiny tens kind nerve friendsOf fearTimes weight rr) (h4 : rr 4 = nI T) (hT : T ≤ 3) (hm : 6 ≤ M) {x few : Int32} {put bestPut room : Nat → Int32} : G_X12_tryTens_2 x few rr put bestPut st room := by
  have hM := hL.M8
  by_cases c : M = 6
  · have e : (6 : Int32) = rr 5 := by rw [hL.r5, c]; rfl
    exact ⟨fun _ _ => G_copyne (by omega) (by omega) (by omega), fun _ g => absurd e g, fun _ g => absurd e g⟩
  · refine ⟨fun _ _ => G_copyne (by omega) (by omega) (by omega), fun _ _ _ => gt_1 hL h4 hT (by omega), fun _ _ _ k s hk _ => ?_⟩
    rw [h4, be_nI (by omega)] at hk
    exact ⟨by omega, fun _ => by omega, fun _ => gt_1 hL h4 hT (by omega)⟩
theorem gt_3 (hL : LegR M holds oneIn fear mutiny tens kind nerve friendsOf fearTimes weight rr) (h4 : rr 4 = nI T) (hT : T ≤ 3) (hm : 5 ≤ M) {x few : Int32} {put bestPut room : Nat → Int32} : G_X12_tryTens_3 x few rr put bestPut st room := by
  have hM := hL.M8
  by_cases c : M = 5
  · have e : (5 : Int32) = rr 5 := by rw [hL.r5, c]; rfl
    exact ⟨fun _ _ => G_copyne (by omega) (by omega) (by omega), fun _ g => absurd e g, fun _ g => absurd e g⟩
  · refine ⟨fun _ _ => G_copyne (by omega) (by omega) (by omega), fun _ _ _ => gt_2 hL h4 hT (by omega), fun _ _ _ k s hk _ => ?_⟩
    rw [h4, be_nI (by omega)] at hk
    exact ⟨by omega, fun _ => by omega, fun _ => gt_2 hL h4 hT (by omega)⟩
theorem gt_4 (hL : LegR M holds oneIn fear mutiny tens kind nerve friendsOf fearTimes weight rr) (h4 : rr 4 = nI T) (hT : T ≤ 3) (hm : 4 ≤ M) {x few : Int32} {put bestPut room : Nat → Int32} : G_X12_tryTens_4 x few rr put bestPut st room := by
  have hM := hL.M8
  by_cases c : M = 4
  · have e : (4 : Int32) = rr 5 := by rw [hL.r5, c]; rfl
    exact ⟨fun _ _ => G_copyne (by omega) (by omega) (by omega), fun _ g => absurd e g, fun _ g => absurd e g⟩
  · refine ⟨fun _ _ => G_copyne (by omega) (by omega) (by omega), fun _ _ _ => gt_3 hL h4 hT (by omega), fun _ _ _ k s hk _ => ?_⟩
    rw [h4, be_nI (by omega)] at hk
    exact ⟨by omega, fun _ => by omega, fun _ => gt_3 hL h4 hT (by omega)⟩
theorem gt_5 (hL : LegR M holds oneIn fear mutiny tens kind nerve friendsOf fearTimes weight rr) (h4 : rr 4 = nI T) (hT : T ≤ 3) (hm : 3 ≤ M) {x few : Int32} {put bestPut room : Nat → Int32} : G_X12_tryTens_5 x few rr put bestPut st room := by
  have hM := hL.M8
  by_cases c : M = 3
  · have e : (3 : Int32) = rr 5 := by rw [hL.r5, c]; rfl
    exact ⟨fun _ _ => G_copyne (by omega) (by omega) (by omega), fun _ g => absurd e g, fun _ g => absurd e g⟩
  · refine ⟨fun _ _ => G_copyne (by omega) (by omega) (by omega), fun _ _ _ => gt_4 hL h4 hT (by omega), fun _ _ _ k s hk _ => ?_⟩
    rw [h4, be_nI (by omega)] at hk
    exact ⟨by omega, fun _ => by omega, fun _ => gt_4 hL h4 hT (by omega)⟩
theorem gt_6 (hL : LegR M holds oneIn fear mutiny tens kind nerve friendsOf fearTimes weight rr) (h4 : rr 4 = nI T) (hT : T ≤ 3) (hm : 2 ≤ M) {x few : Int32} {put bestPut room : Nat → Int32} : G_X12_tryTens_6 x few rr put bestPut st room := by
  have hM := hL.M8
  by_cases c : M = 2
  · have e : (2 : Int32) = rr 5 := by rw [hL.r5, c]; rfl
    exact ⟨fun _ _ => G_copyne (by omega) (by omega) (by omega), fun _ g => absurd e g, fun _ g => absurd e g⟩
  · refine ⟨fun _ _ => G_copyne (by omega) (by omega) (by omega), fun _ _ _ => gt_5 hL h4 hT (by omega), fun _ _ _ k s hk _ => ?_⟩
    rw [h4, be_nI (by omega)] at hk
    exact ⟨by omega, fun _ => by omega, fun _ => gt_5 hL h4 hT (by omega)⟩
theorem gt_7 (hL : LegR M holds oneIn fear mutiny tens kind nerve friendsOf fearTimes weight rr) (h4 : rr 4 = nI T) (hT : T ≤ 3) (hm : 1 ≤ M) {x few : Int32} {put bestPut room : Nat → Int32} : G_X12_tryTens_7 x few rr put bestPut st room := by
  have hM := hL.M8
  by_cases c : M = 1
  · have e : (1 : Int32) = rr 5 := by rw [hL.r5, c]; rfl
    exact ⟨fun _ _ => G_copyne (by omega) (by omega) (by omega), fun _ g => absurd e g, fun _ g => absurd e g⟩
  · refine ⟨fun _ _ => G_copyne (by omega) (by omega) (by omega), fun _ _ _ => gt_6 hL h4 hT (by omega), fun _ _ _ k s hk _ => ?_⟩
    rw [h4, be_nI (by omega)] at hk
    exact ⟨by omega, fun _ => by omega, fun _ => gt_6 hL h4 hT (by omega)⟩
theorem gt_8 (hL : LegR M holds oneIn fear mutiny tens kind nerve friendsOf fearTimes weight rr) (h4 : rr 4 = nI T) (hT : T ≤ 3) (hm : 0 ≤ M) {x few : Int32} {put bestPut room : Nat → Int32} : G_X12_tryTens_8 x few rr put bestPut st room := by
  have hM := hL.M8
  by_cases c : M = 0
  · have e : (0 : Int32) = rr 5 := by rw [hL.r5, c]; rfl
    exact ⟨fun _ _ => G_copyne (by omega) (by omega) (by omega), fun _ g => absurd e g, fun _ g => absurd e g⟩
  · refine ⟨fun _ _ => G_copyne (by omega) (by omega) (by omega), fun _ _ _ => gt_7 hL h4 hT (by omega), fun _ _ _ k s hk _ => ?_⟩
    rw [h4, be_nI (by omega)] at hk
    exact ⟨by omega, fun _ => by omega, fun _ => gt_7 hL h4 hT (by omega)⟩
theorem gr_seek (hL : LegR M holds oneIn fear mutiny tens kind nerve friendsOf fearTimes weight rr) (h4 : ¬ rr 4 = 0) : G_X12_seekTens st rr room put bestPut := by
  obtain ⟨T, hT, hT4⟩ := hL.T3
  exact ⟨fun _ _ _ _ => h4, gt_8 hL hT4 hT (Nat.zero_le M)⟩
theorem gr_friends (hL : LegR M holds oneIn fear mutiny tens kind nerve friendsOf fearTimes weight rr) (hh : hl = 0 ↔ tens = 0) : G_X12_friends hl st rr room put bestPut := fun h => gr_seek hL (fun g => h (hh.mpr (by rw [hL.h4]; exact g)))
theorem gr_newTen (hL : LegR M holds oneIn fear mutiny tens kind nerve friendsOf fearTimes weight rr) (hh : hl = 0 ↔ tens = 0) (hz : hl = 0 → M = 0) : G_X12_newTen x0 hl rr st room put bestPut := by
  have hM := hL.M8
  have key : ¬ D_X12_isMan x0 hl rr = 0 → ∃ m, m < M ∧ x0 = nI m ∧ ¬ hl = 0 := fun h => by
    rcases isMan_spec (x0 := x0) hM hL.r5 hz with ⟨h1, -⟩ | ⟨-, -, h3, m, h4, h5⟩
    · exact absurd h1 h
    · exact ⟨m, h4, h5, h3⟩
  refine ⟨fun h _ => ?_, fun h _ => ?_, fun h _ => ?_⟩
  · obtain ⟨m, m1, m2, m3⟩ := key h; exact gr_seek hL (fun g => m3 (hh.mpr (by rw [hL.h4]; exact g)))
  · obtain ⟨m, m1, m2, -⟩ := key h; exact (clamp_lt (n := 8) (by omega) (by omega) m2).1
  · obtain ⟨m, m1, m2, -⟩ := key h; exact (clamp_lt (n := 8) (by omega) (by omega) m2).2
theorem gr_friendsNow (hM : M ≤ 8) (hr : rr 5 = nI M) : G_X12_friendsNow hl rr st := fun _ k s hk _ k2 s2 hk2 _ => by
  rw [hr, be_nI (by omega)] at hk
  rw [be_nI (by omega)] at hk2
  exact ⟨fun _ _ => by omega, fun _ _ => by omega, fun _ _ _ => by omega⟩
theorem hel_D (hE : HelR rr beans black shaken fav draws drawer wb) : ∃ D, D ≤ 6 ∧ rr 7 = nI D := by
  rcases hE with ⟨-, -, e3, -⟩ | ⟨B, K, S, D, -, -, -, -, d6, -, -, -, -, -, -, -, e7, -⟩
  · exact ⟨0, by omega, e3⟩
  · exact ⟨D, d6, e7⟩
theorem gr_lay (hE : HelR rr beans black shaken fav draws drawer wb) : G_X12_layHelmet rr := fun k _ hk _ => by
  obtain ⟨D, d6, e⟩ := hel_D hE
  rw [e, be_nI (by omega)] at hk
  exact ⟨by omega, by omega⟩
theorem gr_hwhy (hE : HelR rr beans black shaken fav draws drawer wb) {x y : Int32} : G_X12_helmetWhy x y hl rr := fun _ _ _ _ => by
  obtain ⟨D, d6, e⟩ := hel_D hE
  refine ⟨fun k _ hk _ => ?_, fun _ _ => by omega⟩
  rw [e, be_nI (by omega)] at hk
  exact ⟨by omega, by omega⟩
theorem gr_low01 : G_X12_lowest 0 1 := G_lowest_n (u := 0) (d := 1) (by decide) (by decide) (by decide)
theorem gr_doubtOf {S hU hD sU sD : Nat} (hS : S ≤ 100) (h43 : rr 43 = nI S) (b1 : hU ≤ 35831808) (b2 : hD ≤ 35831808) (b3 : sU ≤ 35831808) (b4 : sD ≤ 35831808) : G_X12_doubtOf rr (lN sU) (lN hD) (lN hU) (lN sD) := by
  have B3 : S * sU * hD ≤ 100 * 35831808 * 35831808 := Nat.mul_le_mul (Nat.mul_le_mul hS b3) b2
  have B4 : (100 - S) * hU * sD ≤ 100 * 35831808 * 35831808 := Nat.mul_le_mul (Nat.mul_le_mul (by omega) b1) b4
  unfold G_X12_doubtOf D_X12_shakenPart D_X12_honestPart
  rw [h43, show (100 : Int32) = nI 100 from rfl, nI_sub hS, nI_l (by omega), nI_l (by omega)]
  simp only [lN_mul, lN_add]
  refine ⟨fun _ => gr_low01, fun h => G_lowest_n (by omega) (by omega) ?_⟩
  rcases Nat.eq_zero_or_pos (S * sU * hD + (100 - S) * hU * sD) with g | g
  · exact absurd ((l_c0 (by omega)).mpr g) h
  · exact g
theorem gr_honest (hh : hl = 0 ↔ tens = 0) (hE : HelR rr beans black shaken fav draws drawer wb) : G_X12_honest hl rr := by
  refine ⟨gr_hwhy hE, fun _ => gr_lay hE, fun h => ?_⟩
  obtain ⟨w1, w2⟩ := helmet_why hh hE
  rw [w1] at h
  obtain ⟨B, K, S, k, w, as, hU, hD, sU, sD, c, r, s1, e1, e2, e3, hm, g1, g2, g3⟩ := hel_lay hE (w2 h)
  have b1 := hm.hb.hUl
  have b2 := hm.hb.hDl
  unfold D_X12_honest_a2
  rw [g3, hm.r1, hm.r2]
  exact G_lowest_n (by omega) (by omega) hm.hb.hDp
theorem gr_doubt (hh : hl = 0 ↔ tens = 0) (hE : HelR rr beans black shaken fav draws drawer wb) : G_X12_doubt hl rr := by
  refine ⟨gr_hwhy hE, fun _ => gr_lay hE, fun h => ?_⟩
  obtain ⟨w1, w2⟩ := helmet_why hh hE
  rw [w1] at h
  obtain ⟨B, K, S, k, w, as, hU, hD, sU, sD, c, r, s1, e1, e2, e3, hm, g1, g2, g3⟩ := hel_lay hE (w2 h)
  have b1 := hm.hb.hUl
  have b2 := hm.hb.hDl
  have b3 := hm.hb.sUl
  have b4 := hm.hb.sDl
  unfold D_X12_doubt_a2
  rw [g3, hm.r1, hm.r2, hm.r3, hm.r4]
  exact gr_doubtOf s1 e1 (by omega) (by omega) (by omega) (by omega)
theorem fit01 (x : Int32) : D_X12_doesFit_l1 x rr = 0 ∨ D_X12_doesFit_l1 x rr = 1 := by
  unfold D_X12_doesFit_l1
  refine am_fo_inv (P := fun s => s = 0 ∨ s = 1) ?_ fun k s _ hP => ?_
  · by_cases c : D_X12_ones x = rr 57 - 1
    · rw [if_pos c]; exact Or.inr rfl
    · rw [if_neg c]; exact Or.inl rfl
  · unfold st_X12_doesFit_24 D_X12_doesFit_j1
    by_cases c : s = 0
    · rw [if_pos c]; exact Or.inl rfl
    · rw [if_neg c]
      by_cases c2 : ((x >>> (rr (58 + 3 * k) &&& 31)) &&& 1) + ((x >>> (rr (58 + 3 * k + 1) &&& 31)) &&& 1) = rr (58 + 3 * k + 2)
      · rw [if_pos c2]; exact Or.inr rfl
      · rw [if_neg c2]; exact Or.inl rfl
theorem gr_doesFit (hE : EarR rr goneTold amongs pair ofPair) {x : Int32} : G_X12_doesFit x rr := by
  obtain ⟨-, A, hA, e1, -⟩ := hE
  refine ⟨fun k _ hk _ => ?_, fit01 x⟩
  rw [e1, be_nI (by omega)] at hk
  exact ⟨fun _ => by omega, fun _ => by omega, fun _ => by omega⟩
theorem gr_fitting (hM : M ≤ 8) (hr : rr 5 = nI M) (hE : EarR rr goneTold amongs pair ofPair) {x : Int32} : G_X12_fitting x rr := ⟨to_all hM hr, fun _ _ _ _ => gr_doesFit hE⟩
theorem gr_leaves (hM : M ≤ 8) (hr : rr 5 = nI M) (hE : EarR rr goneTold amongs pair ofPair) {x : Int32} : G_X12_leavesOf x rr := ⟨gr_fitting hM hr hE, gr_fitting hM hr hE⟩
theorem gr_gone (hM : M ≤ 8) (hr : rr 5 = nI M) (hE : EarR rr goneTold amongs pair ofPair) : G_X12_gone hl rr := fun _ => gr_fitting hM hr hE
theorem gr_goneAt (hM : M ≤ 8) (hr : rr 5 = nI M) (hE : EarR rr goneTold amongs pair ofPair) : G_X12_goneAt x0 hl rr := ⟨fun _ => to_all hM hr, fun _ _ _ _ _ => gr_doesFit hE⟩
theorem gr_goneOf (hM : M ≤ 8) (hr : rr 5 = nI M) (hE : EarR rr goneTold amongs pair ofPair) : G_X12_goneOf x0 hl rr := fun _ _ => gr_fitting hM hr hE
theorem gr_surelyGone (hM : M ≤ 8) (hr : rr 5 = nI M) (hE : EarR rr goneTold amongs pair ofPair) : G_X12_surelyGone hl rr := fun _ _ _ _ _ => ⟨gr_fitting hM hr hE, fun _ => gr_fitting hM hr hE, fun _ => gr_fitting hM hr hE⟩
theorem gr_askOf (hM : M ≤ 8) (hr : rr 5 = nI M) (hE : EarR rr goneTold amongs pair ofPair) : G_X12_askOf rr := fun _ _ _ _ => ⟨gr_fitting hM hr hE, fun _ _ => gr_leaves hM hr hE, fun _ _ => gr_leaves hM hr hE⟩
theorem gr_ask (hM : M ≤ 8) (hr : rr 5 = nI M) (hE : EarR rr goneTold amongs pair ofPair) : G_X12_ask hl rr := fun _ => gr_askOf hM hr hE
theorem gr_askLeaves (hM : M ≤ 8) (hr : rr 5 = nI M) (hE : EarR rr goneTold amongs pair ofPair) : G_X12_askLeaves hl rr := ⟨fun _ => gr_askOf hM hr hE, fun _ _ => gr_leaves hM hr hE⟩
theorem gr_note {A : Nat} (hA : A ≤ 16) : G_X12_note (nI A) undone st := by
  unfold G_X12_note D_X12_note_j1
  by_cases c : A = 16
  · rw [if_pos (show nI A = 16 by rw [c]; rfl), c]
    exact ⟨show ¬ nI 16 - 1 < 0 by decide, G_copyne (by omega) (by omega) (by show 30 * 15 + 30 ≤ 480; omega)⟩
  · rw [if_neg (show ¬ nI A = 16 from fun h => c ((nI_eq (b := 16) (by omega) (by omega)).mp h))]
    dsimp only
    rw [nI_clamp (by omega)]
    exact ⟨nI_pos (by omega), G_copyne (by omega) (by omega) (by omega)⟩
theorem gr_lotOf {n m b : Nat} (hM : M ≤ 8) (hr : rr 5 = nI M) (hm : m < 256) (hb : b < 5) (hbc : b ≤ ct (nI m)) (hq : q < 65537) (e1 : D_X6_menOf (nI n) present tenOf = nI m) (e2 : D_X6_beansOf (nI n) present tenOf oneIn = nI b) (e3 : D_X12_inTen 0 (nI n) rr row = nI m) (e4 : D_X12_beansOf 0 (nI n) rr row = nI b) (hB : G_X12_beansOf 0 (nI n) rr row 30) : G_X12_lotOf (nI n) rr row (nI q) 30 := by
  obtain ⟨black, q', d1, d2, d3, d4, d5, d6, d7, d8⟩ := lot_draw hm hb hbc hq e1 e2 e3 e4
  refine ⟨G_inTen hM hr (by omega), hB, fun k s hk hsx => ?_, d7⟩
  rw [e4] at hsx
  have h8 := d8 k s hsx
  refine ⟨fun h => ?_, fun h => ?_⟩
  · obtain ⟨f1, f2, -⟩ := h8 h
    rw [e3, on_ct f1]
    exact nI_ne0 f2 (by have := ct_le f1; omega)
  · obtain ⟨f1, f2, q2, f3, f4⟩ := h8 h
    obtain ⟨i, i1, i2, i3, i4, i5, i6⟩ := draw_one f1 f2 f3
    unfold D_X12_lotOf_a1
    rw [e3, f4, i4]
    exact i6
theorem gr_lot (hL : LegR M holds oneIn fear mutiny tens kind nerve friendsOf fearTimes weight rr) (hN : NowR M 0 present braced seed tenOf feared angerOf lotsOf st) (hs : sub_men present M) (hh : hl = 0 ↔ tens = 0) {A : Nat} (hA : A ≤ 16) (hsd : seed = nI q) (hq : q < 65537) : G_X12_lot x0 hl rr st (nI A) undone := by
  have hM := hL.M8
  refine ⟨fun _ => G_anger hM hL.r5 (by omega), fun _ _ => G_inTen hM hL.r5 (by omega), fun _ _ _ => gr_note hA, fun h _ hm => ?_, fun h _ _ => ?_, fun h _ _ => ?_⟩
  · obtain ⟨n, n1, n2, -, h4⟩ := isTen_n hL hh h
    have h29 : st 29 = nI q := by rw [← hsd]; exact hN.2.2.1.symm
    rw [n2] at hm ⊢
    rw [h29]
    have hmen : ¬ D_X6_menOf (nI n) present tenOf = 0 := by rw [men_rel hL hN hs]; exact hm
    obtain ⟨m, b', m1, m2, c1, c2, c3, e1, e2, e3, e4⟩ := lot_facts_o hL hN hs h4 hmen
    exact gr_lotOf hM hL.r5 m1 c2 c3 hq e1 e2 e3 e4 (G_beans hL h4 (by omega))
  · obtain ⟨n, n1, n2, -⟩ := isTen_n hL hh h; exact (clamp_lt n1 (by omega) n2).1
  · obtain ⟨n, n1, n2, -⟩ := isTen_n hL hh h; exact G_draws hM hL.r5 (clamp_lt n1 (by omega) n2).2 (by omega)
theorem gr_braces {A : Nat} (hA : A ≤ 16) : G_X12_braces x0 x1 hl rr st (nI A) undone := fun _ _ _ => gr_note hA
theorem gr_move {A : Nat} (hA : A ≤ 16) (hM : M ≤ 8) (hr : rr 5 = nI M) (hz : hl = 0 → M = 0) : G_X12_move x0 x1 hl rr st (nI A) undone := by
  have key : ¬ D_X12_isMan x0 hl rr = 0 → ¬ x0 < 0 ∧ x0.toNatClampNeg < 8 := fun h => by
    rcases isMan_spec (x0 := x0) hM hr hz with ⟨h1, -⟩ | ⟨-, -, h3, m, h4, h5⟩
    · exact absurd h1 h
    · exact clamp_lt (n := 8) (by omega) (by omega) h5
  refine ⟨fun h _ _ => (key h).1, fun h _ _ => by have := (key h).2; omega, fun _ _ _ _ => gr_note hA, fun h _ _ _ => (key h).1, fun h _ _ _ => by have := (key h).2; omega, fun h _ _ _ => by have := (key h).2; omega⟩
theorem gr_undo {A : Nat} (hA : A ≤ 16) : G_X12_undo (nI A) undone st := by
  cases A with
  | zero => exact ⟨fun h => absurd rfl h, fun h => absurd rfl h⟩
  | succ B =>
    unfold G_X12_undo
    rw [nI_prd, nI_clamp (by omega)]
    exact ⟨fun _ => nI_pos (by omega), fun _ => G_copyne (by omega) (by omega) (by omega)⟩
theorem gr_image {I : Nat} (hI : I ≤ 3) : G_X12_image hl (nI I) st kept := by
  refine ⟨fun _ _ => nI_pos (by omega), fun _ h => ?_⟩
  rw [nI_clamp (by omega)]
  have : I ≠ 3 := fun e => h (by rw [e]; rfl)
  exact G_copyne (by omega) (by omega) (by omega)
theorem gr_back {I : Nat} (hI : I ≤ 3) : G_X12_back x0 (nI I) kept st := by
  have key : ¬ D_X12_in x0 0 (nI I - 1) = 0 → ∃ m, m < I ∧ x0 = nI m := fun h => by
    rcases in_spec (x := x0) (T := I) (by omega) with ⟨h1, -⟩ | ⟨-, -, g⟩
    · exact absurd h1 h
    · exact g
  refine ⟨fun h => ?_, fun h => ?_⟩
  · obtain ⟨m, m1, m2⟩ := key h; exact (clamp_lt m1 (by omega) m2).1
  · obtain ⟨m, m1, m2⟩ := key h
    have := (clamp_lt m1 (by omega) m2).2
    exact G_copyne (by omega) (by omega) (by omega)
theorem gr_size : G_X12_size x0 hl := by
  have key : ¬ D_X12_in x0 0 8 = 0 → ∃ j, j ≤ 8 ∧ x0 = nI j := fun h => by
    rcases in_two2 (x1 := x0) (n := 8) with ⟨g1, -⟩ | ⟨-, -, g3, g4⟩
    · exact absurd g1 h
    · exact nI_of2 (n := 8) (by decide) g3 g4
  refine ⟨fun _ _ h => ?_, fun _ _ h => ?_⟩
  · obtain ⟨j, j1, j2⟩ := key h; rw [j2]; exact nI_pos (by omega)
  · obtain ⟨j, j1, j2⟩ := key h; rw [j2, nI_clamp (by omega)]; omega
theorem gr_feed {n : Nat} {y0 y1 y2 y3 y4 : Int32} {tape : Nat → Int32} (hn : n ≤ 1000) : G_X12_feed y0 y1 y2 y3 y4 (nI n) tape := fun h k s hk hsx => by
  have h980 : n ≤ 980 := by
    rw [show (20 : Int32) = nI 20 from rfl, nI_add] at h
    have := (nI_leI (b := 1000) (by omega) (by omega)).mp h
    omega
  obtain ⟨t', e1, -⟩ := feed_ref (x0 := y0) (x1 := y1) (x2 := y2) (x3 := y3) (x4 := y4) (tape := tape) h980 k (by omega)
  rw [e1] at hsx
  subst hsx
  exact ⟨nI_pos (by omega), by rw [nI_clamp (by omega)]; omega⟩
theorem gr_led (hM : M ≤ 8) (hr : rr 5 = nI M) : G_X12_led x0 hl rr st := by
  have hinv : ∀ k, k ≤ M → (∃ r, am_fe (st_X12_led_4 x0 hl rr st) k (0, 0) = .inr r) ∨ ∃ n, am_fe (st_X12_led_4 x0 hl rr st) k (0, 0) = .inl (n, nI k) := by
    intro k
    induction k with
    | zero => intro _; exact Or.inr ⟨0, rfl⟩
    | succ k ih =>
      intro hk
      rw [am_fe_s]
      rcases ih (by omega) with ⟨r, e⟩ | ⟨n, e⟩
      · rw [am_sel_r e]; exact Or.inl ⟨r, rfl⟩
      · rw [am_sel_l e]
        unfold st_X12_led_4
        dsimp only
        rw [hr]
        by_cases c0 : hl = 0
        · rw [if_pos c0]; exact Or.inl ⟨_, rfl⟩
        · rw [if_neg c0, if_neg (nI_ge (by omega) (by omega))]
          by_cases c1 : D_X12_hasBit (st 27) (nI k) = 0
          · rw [if_pos c1]
            by_cases c2 : n = x0
            · rw [if_pos c2]; exact Or.inl ⟨_, rfl⟩
            · rw [if_neg c2, nI_1]; exact Or.inr ⟨_, rfl⟩
          · rw [if_neg c1, nI_1]; exact Or.inr ⟨_, rfl⟩
  have hend : ∃ r, am_fe (st_X12_led_4 x0 hl rr st) (M + 1) (0, 0) = .inr r := by
    rw [am_fe_s]
    rcases hinv M (Nat.le_refl M) with ⟨r, e⟩ | ⟨n, e⟩
    · rw [am_sel_r e]; exact ⟨r, rfl⟩
    · rw [am_sel_l e]
      unfold st_X12_led_4
      dsimp only
      rw [hr]
      by_cases c0 : hl = 0
      · rw [if_pos c0]; exact ⟨_, rfl⟩
      · rw [if_neg c0, if_pos (Int32.le_refl _)]; exact ⟨_, rfl⟩
  obtain ⟨r, e⟩ := hend
  show am_ir (D_X12_led_l1 x0 hl rr st) = true
  unfold D_X12_led_l1
  rw [am_fe_stay e (show M + 1 ≤ 10 by omega)]
  rfl
theorem gr_warsWhy (hL : LegR M holds oneIn fear mutiny tens kind nerve friendsOf fearTimes weight rr) (hN : NowR M 0 present braced seed tenOf feared angerOf lotsOf st) (hs : sub_men present M) (hh : hl = 0 ↔ tens = 0) {y : Int32} (hy : ¬ y = 0 → ¬ hl = 0) : G_X12_warsWhy y x1 x2 rr st war drawnR := by
  have hM := hL.M8
  refine ⟨fun _ _ _ => G_copyne (by omega) (by omega) (by omega), fun h0 h1 h2 k s hk hsx => ?_⟩
  obtain ⟨T, hT, hT4, hT5⟩ := T_pos hL hh (hy h0)
  have h40 : ¬ rr 4 = 0 := by rw [hT4]; exact nI_ne0 (by omega) (by omega)
  obtain ⟨qs, hq, eq⟩ : ∃ qs, qs < 65537 ∧ x1 = nI qs := by
    rcases seed_why (x := x1) with ⟨g, -⟩ | ⟨-, -, g⟩
    · exact absurd g h1
    · exact g
  obtain ⟨nn, hn, en⟩ : ∃ n, n ≤ 60 ∧ x2 = nI n := by
    rcases in_two2 (x1 := x2) (n := 60) with ⟨g1, -⟩ | ⟨-, -, g3, g4⟩
    · exact absurd g1 h2
    · exact nI_of2 (n := 60) (by decide) g3 g4
  rw [en, be_nI (by omega)] at hk
  have hR := wars_l (t2 := st) (f2 := st) (an2 := st) (l2 := st) (war := war) (drawnIn := st) (drawnR := drawnR) hL hN hs hT4 hT hq (n := k) (by omega)
  unfold D_X12_warsWhy_l3 at hR
  rw [be_nI (by omega), ← eq, ← hsx] at hR
  generalize D_X0_fight_m1 x1 (nI k) present braced seed tenOf st feared st angerOf st lotsOf st st (nI (T + 1)) mutiny oneIn friendsOf fear weight nerve fearTimes holds = cc at hR
  have hjr : jrm (nI k) (rr 4) = nI (k % (T + 1)) := by rw [hT4]; exact i_rem (by omega) (by omega)
  have htl : k % (T + 1) < 3 := Nat.lt_of_lt_of_le (Nat.mod_lt k (by omega)) (by omega)
  obtain ⟨Y, hY, Z, hZ, ⟨sd', y1⟩, y2, ⟨q', p1, p2, p3⟩, y4⟩ := wars_mid (T := T) (f2 := st) (an2 := st) (l2 := st) hL hN hs hT4 hT (k := k) (by omega) hR
  obtain ⟨⟨sd, n1⟩, s1, ⟨q, q1, q2, q3⟩, h5, h6⟩ := hR
  have hsY := sub_sm hM y2
  have h27 : Z.1 27 = Y.1 := y1.1.symm
  refine ⟨h40, G_inTen hM hL.r5 (by omega), fun _ => G_anger hM hL.r5 (by omega), fun hm _ => ?_, fun _ _ => by rw [hjr]; exact nI_pos (by omega), fun _ _ => by rw [hjr, nI_clamp (by omega)]; exact G_draws hM hL.r5 htl (by omega), ?_, ?_, ?_⟩
  · rw [hjr] at hm ⊢
    have hmen : ¬ D_X6_menOf (nI (k % (T + 1))) cc.1 (va_cpy tenOf st 0 0 8) = 0 := by rw [men_rel hL n1 s1]; exact hm
    obtain ⟨m, b', m1, m2, c1, c2, c3, e1, e2, e3, e4⟩ := lot_facts_o hL n1 s1 h40 hmen
    rw [q3]
    exact gr_lotOf hM hL.r5 m1 c2 c3 q1 e1 e2 e3 e4 (G_beans hL h40 (by omega))
  · rw [hZ, h27]
    intro g
    rw [on_ct hsY]
    refine nI_ne0 ?_ (by have := ct_le hsY; omega)
    rcases Nat.eq_zero_or_pos (ct Y.1) with e | e
    · exact absurd (ct_0 hsY e) g
    · exact e
  · unfold D_X12_warsWhy_a3
    rw [hZ, h27]
    intro g
    have hct : 0 < ct Y.1 := by
      rcases Nat.eq_zero_or_pos (ct Y.1) with e | e
      · exact absurd (ct_0 hsY e) g
      · exact e
    obtain ⟨i, i1, i2, i3, i4, i5, i6⟩ := draw_one hsY hct p1
    rw [p3, i4]
    exact i6
  · unfold D_X12_warsWhy_j2 D_X12_warsWhy_a3
    rw [hZ, h27]
    refine RO_holds hL ⟨_, _, _, _, _, _, _, y1, y2⟩ ?_ (by omega)
    rw [← y1.1]
    by_cases g : Y.1 = 0
    · rw [if_pos g]; exact Int32.zero_and
    · have hct : 0 < ct Y.1 := by
        rcases Nat.eq_zero_or_pos (ct Y.1) with e | e
        · exact absurd (ct_0 hsY e) g
        · exact e
      obtain ⟨i, i1, i2, i3, i4, i5, i6⟩ := draw_one hsY hct p1
      rw [if_neg g, p3, i4]
      dsimp only
      rw [i5]
      exact one_part i1 i2
theorem gr_wars (hL : LegR M holds oneIn fear mutiny tens kind nerve friendsOf fearTimes weight rr) (hN : NowR M 0 present braced seed tenOf feared angerOf lotsOf st) (hs : sub_men present M) (hh : hl = 0 ↔ tens = 0) : G_X12_wars x1 x2 hl rr st war drawnR := gr_warsWhy hL hN hs hh (fun h => h)
theorem gr_warsLeft (hL : LegR M holds oneIn fear mutiny tens kind nerve friendsOf fearTimes weight rr) (hN : NowR M 0 present braced seed tenOf feared angerOf lotsOf st) (hs : sub_men present M) (hh : hl = 0 ↔ tens = 0) : G_X12_warsLeft x1 x2 hl rr st war drawnR := gr_warsWhy hL hN hs hh (fun h => h)
theorem gr_warsOf (hL : LegR M holds oneIn fear mutiny tens kind nerve friendsOf fearTimes weight rr) (hN : NowR M 0 present braced seed tenOf feared angerOf lotsOf st) (hs : sub_men present M) (hh : hl = 0 ↔ tens = 0) (hz : hl = 0 → M = 0) : G_X12_warsOf x0 x1 x2 hl rr a b c st war drawnR hW dr := by
  have hM := hL.M8
  have key : ¬ D_X12_isMan x0 hl rr = 0 → ∃ m, m < M ∧ x0 = nI m ∧ ¬ hl = 0 := fun h => by
    rcases isMan_spec (x0 := x0) hM hL.r5 hz with ⟨h1, -⟩ | ⟨-, -, h3, m, h4, h5⟩
    · exact absurd h1 h
    · exact ⟨m, h4, h5, h3⟩
  have k2 : (D_X12_warsOf_a2 x0 x1 x2 hl rr a b c st war drawnR hW dr).1 = 0 → ¬ D_X12_isMan x0 hl rr = 0 := fun h g => by
    unfold D_X12_warsOf_a2 at h
    rw [(wars_why).1, if_pos g] at h
    exact absurd h (by decide)
  refine ⟨gr_warsWhy hL hN hs hh (fun h => ?_), fun h => ?_, fun h => ?_⟩
  · obtain ⟨m, -, -, m3⟩ := key h; exact m3
  · obtain ⟨m, m1, m2, -⟩ := key (k2 h); exact (clamp_lt (n := 8) (by omega) (by omega) m2).1
  · obtain ⟨m, m1, m2, -⟩ := key (k2 h); exact (clamp_lt (n := 8) (by omega) (by omega) m2).2
end GR2
