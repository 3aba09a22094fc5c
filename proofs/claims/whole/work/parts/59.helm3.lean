/-! DOUBT, HONEST, DOUBTIF -/
def cbN (wb : Nat → Int32) (j : Nat) : Bool := decide (¬ wb j = 0)
def kN (wb : Nat → Int32) (i : Nat) : Nat := sN (fun j => aN (cbN wb j)) i
def HelR (rr : Nat → Int32) (beans black shaken fav draws : Int32) (drawer wb : Nat → Int32) : Prop := (rr 41 = 0 ∧ beans = 0 ∧ rr 7 = 0 ∧ draws = 0) ∨ ∃ B K S D, 1 ≤ K ∧ K ≤ B ∧ B ≤ 12 ∧ S ≤ 100 ∧ D ≤ 6 ∧ rr 41 = nI B ∧ beans = nI B ∧ rr 42 = nI K ∧ black = nI K ∧ rr 43 = nI S ∧ shaken = nI S ∧ fav = rr 44 ∧ rr 7 = nI D ∧ draws = nI D ∧ ∀ i, i < D → drawer i = rr (45 + 2 * i) ∧ wb i = nI (aN (cbN wb i)) ∧ rr (45 + 2 * i + 1) = nI (aN (cbN wb i)) ∧ (if cbN wb i then kN wb i < K else i - kN wb i < B - K)
theorem kN_le (wb : Nat → Int32) (i : Nat) : kN wb i ≤ i := by
  have := sN_bound (f := fun j => aN (cbN wb j)) (n := i) (c := 1) (fun k _ => by cases cbN wb k <;> decide)
  rw [Nat.mul_one] at this; exact this
theorem put11 : D_X7_put 1 1 = fr 1 1 := put_fr (u := 1) (d := 1) (by decide) (by decide) (by decide)
theorem lay_n {rr : Nat → Int32} {fav : Int32} {drawer wb : Nat → Int32} {B K D : Nat} (hK : 1 ≤ K) (hKB : K ≤ B) (hB : B ≤ 12) (hD : D ≤ 6) (hf : fav = rr 44) (hd : ∀ i, i < D → drawer i = rr (45 + 2 * i) ∧ wb i = nI (aN (cbN wb i)) ∧ rr (45 + 2 * i + 1) = nI (aN (cbN wb i)) ∧ (if cbN wb i then kN wb i < K else i - kN wb i < B - K)) : ∀ n, n ≤ D → ∃ as hU hD' sU sD, HM B K (kN wb n) (n - kN wb n) as hU hD' sU sD (am_fo (st_X2_drawAll_41 drawer wb fav) n ((D_X7_put 1 1).1, (D_X7_put 1 1).2, (D_X7_put 1 1).1, (D_X7_put 1 1).2, nI B, nI K, 1)) (am_fo (st_X12_layHelmet_75 rr) n (1, 1, 1, 1, nI B, nI K, nI B - 1, nI K - 1, 1)) := by
  intro n
  induction n with
  | zero =>
    intro _
    refine ⟨true, 1, 1, 1, 1, ⟨⟨hB, hKB, hK, Nat.zero_le _, Nat.zero_le _, Nat.zero_le _, rfl, rfl, Nat.one_pos, Nat.le_refl _, Or.inr (Or.inl ⟨rfl, hK, rfl, rfl⟩)⟩, ?_, ?_, rfl, rfl, rfl, rfl, rfl, rfl, rfl, rfl, rfl, rfl, Or.inr rfl, rfl⟩⟩
    · exact put11
    · exact put11
  | succ n ih =>
    intro hn
    obtain ⟨as, hU, hD', sU, sD, h⟩ := ih (by omega)
    obtain ⟨d1, d2, d3, d4⟩ := hd n (by omega)
    have hk := kN_le wb n
    obtain ⟨as', a1, a2, a3, a4, h'⟩ := HM_real h hf (m := drawer n) (cbN wb n) d4 (by omega) rfl rfl
    refine ⟨as', a1, a2, a3, a4, ?_⟩
    have e1 : kN wb n + aN (cbN wb n) = kN wb (n + 1) := rfl
    have e2 : n - kN wb n + aN (!cbN wb n) = n + 1 - kN wb (n + 1) := by
      rw [← e1]
      cases cbN wb n <;> simp [aN] <;> omega
    rw [e1, e2] at h'
    show HM B K _ _ as' a1 a2 a3 a4 (st_X2_drawAll_41 drawer wb fav n (am_fo (st_X2_drawAll_41 drawer wb fav) n _)) (st_X12_layHelmet_75 rr n (am_fo (st_X12_layHelmet_75 rr) n _))
    unfold st_X2_drawAll_41 D_X2_drawAll_a3 st_X12_layHelmet_75 D_X12_layHelmet_a1
    rw [← d1, d3]
    rw [← d2] at h' ⊢
    exact h'
theorem part_fr (b : Int32) (u d : Nat) {x y : Int64} (h : (x, y) = fr u d) : D_X7_part b x y = D_X7_part b (fr u d).1 (fr u d).2 := by rw [← h]
theorem fr_cross {u d u' d' : Nat} (hd : 0 < d) (hd' : 0 < d') (h : u * d' = u' * d) : fr u d = fr u' d' := by
  rw [← fr_scale (u := u) (d := d) hd', ← fr_scale (u := u') (d := d') hd, h, Nat.mul_comm d d']
theorem doubt_eq {rr : Nat → Int32} {S hU hD sU sD : Nat} {su hl hu sl : Int64} (hS : S ≤ 100) (h43 : rr 43 = nI S) (b1 : hU ≤ 35831808) (b2 : hD ≤ 35831808) (b3 : sU ≤ 35831808) (b4 : sD ≤ 35831808) (p1 : 0 < hD) (p2 : 0 < sD) (e1 : (hu, hl) = fr hU hD) (e2 : (su, sl) = fr sU sD) (b : Int32) : D_X7_part b (D_X2_doubtTo (nI S) su hl hu sl).1 (D_X2_doubtTo (nI S) su hl hu sl).2 = D_X12_doubtOf b rr (lN sU) (lN hD) (lN hU) (lN sD) := by
  rw [fr_N p1] at e1
  rw [fr_N p2] at e2
  have hg1 : 0 < Nat.gcd hU hD := Nat.gcd_pos_of_pos_right hU p1
  have hg2 : 0 < Nat.gcd sU sD := Nat.gcd_pos_of_pos_right sU p2
  have q1 : hU / Nat.gcd hU hD * Nat.gcd hU hD = hU := Nat.div_mul_cancel (Nat.gcd_dvd_left hU hD)
  have q2 : hD / Nat.gcd hU hD * Nat.gcd hU hD = hD := Nat.div_mul_cancel (Nat.gcd_dvd_right hU hD)
  have q3 : sU / Nat.gcd sU sD * Nat.gcd sU sD = sU := Nat.div_mul_cancel (Nat.gcd_dvd_left sU sD)
  have q4 : sD / Nat.gcd sU sD * Nat.gcd sU sD = sD := Nat.div_mul_cancel (Nat.gcd_dvd_right sU sD)
  have l1 := Nat.div_le_self hU (Nat.gcd hU hD)
  have l2 := Nat.div_le_self hD (Nat.gcd hU hD)
  have l3 := Nat.div_le_self sU (Nat.gcd sU sD)
  have l4 := Nat.div_le_self sD (Nat.gcd sU sD)
  have f1 : hu = lN (hU / Nat.gcd hU hD) := congrArg Prod.fst e1
  have f2 : hl = lN (hD / Nat.gcd hU hD) := congrArg Prod.snd e1
  have f3 : su = lN (sU / Nat.gcd sU sD) := congrArg Prod.fst e2
  have f4 : sl = lN (sD / Nat.gcd sU sD) := congrArg Prod.snd e2
  generalize hU / Nat.gcd hU hD = hu' at *
  generalize hD / Nat.gcd hU hD = hl' at *
  generalize sU / Nat.gcd sU sD = su' at *
  generalize sD / Nat.gcd sU sD = sl' at *
  generalize Nat.gcd hU hD = g1 at *
  generalize Nat.gcd sU sD = g2 at *
  have B1 : S * su' * hl' ≤ 100 * 35831808 * 35831808 := Nat.mul_le_mul (Nat.mul_le_mul hS (by omega)) (by omega)
  have B2 : (100 - S) * hu' * sl' ≤ 100 * 35831808 * 35831808 := Nat.mul_le_mul (Nat.mul_le_mul (by omega) (by omega)) (by omega)
  have B3 : S * sU * hD ≤ 100 * 35831808 * 35831808 := Nat.mul_le_mul (Nat.mul_le_mul hS b3) b2
  have B4 : (100 - S) * hU * sD ≤ 100 * 35831808 * 35831808 := Nat.mul_le_mul (Nat.mul_le_mul (by omega) b1) b4
  have s1 : S * sU * hD = S * su' * hl' * (g1 * g2) := by rw [← q3, ← q2]; simp only [Nat.mul_assoc, Nat.mul_comm, Nat.mul_left_comm]
  have s2 : (100 - S) * hU * sD = (100 - S) * hu' * sl' * (g1 * g2) := by rw [← q1, ← q4]; simp only [Nat.mul_assoc, Nat.mul_comm, Nat.mul_left_comm]
  unfold D_X2_doubtTo D_X2_doubtTo_a1 D_X2_weightShaken D_X2_weightHonest D_X12_doubtOf D_X12_doubtOf_j1 D_X12_doubtOf_a1 D_X12_shakenPart D_X12_honestPart
  rw [h43, f1, f2, f3, f4, show (100 : Int32) = nI 100 from rfl, nI_sub hS, nI_l (by omega), nI_l (by omega)]
  simp only [lN_mul, lN_add]
  by_cases hz : S * su' * hl' + (100 - S) * hu' * sl' = 0
  · have hz1 : S * su' * hl' = 0 := by omega
    have hz2 : S * sU * hD + (100 - S) * hU * sD = 0 := by rw [s1, s2, ← Nat.add_mul, hz, Nat.zero_mul]
    rw [hz, hz1, hz2, if_pos (by decide)]
    have := lowest_fr (u := 0) (d := 1) (by decide) (by decide) (by decide) b
    rw [show lN 0 = 0 from rfl, show lN 1 = 1 from rfl, fr_0] at this
    rw [this]
    rfl
  · have hnz : ¬ S * sU * hD + (100 - S) * hU * sD = 0 := by
      rw [s1, s2, ← Nat.add_mul]
      exact Nat.ne_of_gt (Nat.mul_pos (by omega) (Nat.mul_pos hg1 hg2))
    rw [if_neg (fun g => hnz ((l_c0 (by omega)).mp g)), put_fr (by omega) (by omega) (by omega), lowest_fr (by omega) (by omega) (by omega)]
    have : fr (S * sU * hD) (S * sU * hD + (100 - S) * hU * sD) = fr (S * su' * hl') (S * su' * hl' + (100 - S) * hu' * sl') := by
      rw [s1, s2, ← Nat.add_mul]
      exact fr_scale (Nat.mul_pos hg1 hg2)
    rw [this]
section HELM
variable {M : Nat} {holds oneIn fear mutiny tens present braced seed x0 hl a b c : Int32} {kind nerve friendsOf fearTimes weight rr tenOf feared angerOf lotsOf st : Nat → Int32}
variable {beans black shaken fav draws men x1 x2 bL kL as_ bL2 kL2 pL pB iA : Int32} {drawer wb : Nat → Int32} {u1 l1 u2 l2 u3 l3 u4 l4 hU0 hD0 sU0 sD0 : Int64}
theorem helmet_why (hh : hl = 0 ↔ tens = 0) (hE : HelR rr beans black shaken fav draws drawer wb) : D_X12_helmetWhy 0 0 hl rr = D_X11_troubleOfHelmet tens beans ∧ (D_X11_troubleOfHelmet tens beans = 0 → ¬ rr 41 = 0) := by
  unfold D_X12_helmetWhy D_X11_troubleOfHelmet D_X11_troubleOfLegion D_X2_isTold
  by_cases h0 : hl = 0
  · rw [if_pos h0, if_pos (hh.mp h0), firstOfN (by decide)]; exact ⟨rfl, fun h => absurd h (by decide)⟩
  · rw [if_neg h0, if_neg (fun g => h0 (hh.mpr g)), firstOf0, if_pos (show (0 : Int32) = 0 from rfl)]
    rcases hE with ⟨e1, e2, -⟩ | ⟨B, K, S, D, k1, k2, k3, -, -, e1, e2, -⟩
    · rw [if_pos e1, e2, if_pos (show (0 : Int32) ≤ 0 by decide), if_pos (show (0 : Int32) = 0 from rfl)]
      exact ⟨rfl, fun h => absurd h (by decide)⟩
    · have : ¬ rr 41 = 0 := by rw [e1]; exact nI_ne0 (by omega) (by omega)
      rw [if_neg this, e2, if_neg (nI_nle (by omega) (by omega)), if_neg (show ¬ (1 : Int32) = 0 by decide)]
      exact ⟨rfl, fun _ => this⟩
theorem drew_eq (hE : HelR rr beans black shaken fav draws drawer wb) : (D_X2_hasDrawn x0 draws drawer = 0 ∧ D_X12_drewBy x0 rr < 0) ∨ (¬ D_X2_hasDrawn x0 draws drawer = 0 ∧ ¬ D_X12_drewBy x0 rr < 0 ∧ ¬ rr 41 = 0) := by
  have key : ∀ D, D ≤ 6 → rr 7 = nI D → draws = nI D → (∀ i, i < D → drawer i = rr (45 + 2 * i)) → (D_X2_hasDrawn x0 draws drawer = 0 ∧ D_X12_drewBy x0 rr < 0) ∨ (0 < D ∧ ¬ D_X2_hasDrawn x0 draws drawer = 0 ∧ ¬ D_X12_drewBy x0 rr < 0) := by
    intro D hD e1 e2 hd
    unfold D_X2_hasDrawn D_X12_drewBy D_X2_hasDrawn_l1 D_X12_drewBy_l1
    rw [e1, e2, be_nI (by omega)]
    have := am_fe_relI (f := st_X2_hasDrawn_2 x0 drawer) (g := st_X12_drewBy_2 x0 rr) (R := fun _ _ _ => True) (Q := fun _ t => ∃ j, j < 6 ∧ 0 < D ∧ t = nI j) (n := D) (s := ()) (t := ()) trivial (fun k s t hk _ => by
      unfold st_X2_hasDrawn_2 st_X12_drewBy_2
      rw [hd k hk]
      by_cases c : rr (45 + 2 * k) = x0
      · rw [if_pos c, if_pos c]; exact Or.inr ⟨_, _, rfl, rfl, k, by omega, by omega, rfl⟩
      · rw [if_neg c, if_neg c]; exact Or.inl ⟨_, _, rfl, rfl, trivial⟩)
    rcases this with ⟨s, t, g1, g2, -⟩ | ⟨s, t, g1, g2, j, j1, j2, j3⟩
    · rw [am_sel_l g1, am_sel_l g2]; exact Or.inl ⟨rfl, by decide⟩
    · rw [am_sel_r g1, am_sel_r g2, j3]; exact Or.inr ⟨j2, by decide, nI_pos (by omega)⟩
  rcases hE with ⟨e1, e2, e3, e4⟩ | ⟨B, K, S, D, k1, k2, k3, -, d6, e1, -, -, -, -, -, -, e7, e8, hd⟩
  · rcases key 0 (by omega) e3 e4 (fun i hi => absurd hi (Nat.not_lt_zero i)) with h | ⟨h, -⟩
    · exact Or.inl h
    · exact absurd h (Nat.lt_irrefl 0)
  · rcases key D d6 e7 e8 (fun i hi => (hd i hi).1) with h | ⟨-, h1, h2⟩
    · exact Or.inl h
    · exact Or.inr ⟨h1, h2, by rw [e1]; exact nI_ne0 (by omega) (by omega)⟩
theorem drawer_why (hh : hl = 0 ↔ tens = 0) (hM : M ≤ 8) (hr : rr 5 = nI M) (hm : men = nI M) (hz : hl = 0 → M = 0) (hE : HelR rr beans black shaken fav draws drawer wb) : D_X12_helmetWhy x0 1 hl rr = D_X11_troubleOfDrawer x0 men draws drawer tens beans ∧ (D_X11_troubleOfDrawer x0 men draws drawer tens beans = 0 → ¬ rr 41 = 0 ∧ ∃ m, m < M ∧ x0 = nI m) := by
  obtain ⟨w1, w2⟩ := helmet_why hh hE
  have hw : D_X11_troubleOfHelmet tens beans = if hl = 0 then 1 else if rr 41 = 0 then 6 else 0 := by
    rw [← w1]; unfold D_X12_helmetWhy
    by_cases h0 : hl = 0
    · rw [if_pos h0, if_pos h0]
    · rw [if_neg h0, if_neg h0, if_pos (show (0 : Int32) = 0 from rfl)]
  unfold D_X12_helmetWhy D_X11_troubleOfDrawer
  rw [hm, hw]
  rcases isMan_spec (x0 := x0) hM hr hz with ⟨h1, h2⟩ | ⟨h1, h2, h3, m, h4, h5⟩
  · rw [h1, h2, if_neg (show ¬ (1 : Int32) = 0 by decide), if_neg (show ¬ (1 : Int32) = 0 by decide), if_pos rfl, firstOfN (by decide)]
    refine ⟨?_, fun h => absurd h (by decide)⟩
    by_cases h0 : hl = 0
    · rw [if_pos h0]
    · rw [if_neg h0]
  · rw [h1, h2, if_neg h3, if_neg (show ¬ (1 : Int32) = 0 by decide), if_neg (show ¬ (1 : Int32) = 0 by decide), if_pos (show (0 : Int32) = 0 from rfl), if_neg h3, firstOf0]
    rcases drew_eq (x0 := x0) hE with ⟨d1, d2⟩ | ⟨d1, d2, d3⟩
    · rw [if_pos d1, if_pos d2]
      refine ⟨rfl, fun h => ⟨fun g => ?_, m, h4, h5⟩⟩
      rw [if_pos g] at h; exact absurd h (by decide)
    · rw [if_neg d1, if_neg d2, if_neg d3]
      exact ⟨rfl, fun h => absurd h (by decide)⟩
theorem hel_lay (hE : HelR rr beans black shaken fav draws drawer wb) (h41 : ¬ rr 41 = 0) : ∃ B K S k w as hU hD sU sD c r, S ≤ 100 ∧ rr 43 = nI S ∧ shaken = nI S ∧ fav = rr 44 ∧ HM B K k w as hU hD sU sD c r ∧ D_X2_drawAll beans black draws drawer wb fav = c ∧ D_X12_layHelmet_l1 rr = r ∧ D_X12_layHelmet (-1) 0 rr = r := by
  obtain ⟨B, K, S, D, k1, k2, k3, s1, d6, e1, e2, e3, e4, e5, e6, e7, e8, e9, hd⟩ := hE.resolve_left (fun g => h41 g.1)
  obtain ⟨as, hU, hD, sU, sD, h⟩ := lay_n k1 k2 k3 d6 e7 hd D (Nat.le_refl D)
  refine ⟨B, K, S, _, _, as, hU, hD, sU, sD, _, _, s1, e5, e6, e7, h, ?_, ?_, ?_⟩
  · unfold D_X2_drawAll D_X2_drawAll_l1 D_X2_drawAll_a1 D_X2_drawAll_a2
    rw [e2, e4, e9, be_nI (by omega)]
  · unfold D_X12_layHelmet_l1
    rw [e1, e3, e8, be_nI (by omega)]
  · unfold D_X12_layHelmet D_X12_layHelmet_j1
    rw [if_pos (show (-1 : Int32) < 0 by decide)]
    unfold D_X12_layHelmet_l1
    rw [e1, e3, e8, be_nI (by omega)]
theorem pub_honest (hh : hl = 0 ↔ tens = 0) (hE : HelR rr beans black shaken fav draws drawer wb) : (D_X11_honest x0 tens beans u1 l1 u2 l2 bL black kL as_ draws drawer wb fav).1 = (D_X12_honest x0 hl rr hU0 hD0 sU0 sD0 bL2 kL2 pL pB iA).1 ∧ (D_X11_honest x0 tens beans u1 l1 u2 l2 bL black kL as_ draws drawer wb fav).2.1 = (D_X12_honest x0 hl rr hU0 hD0 sU0 sD0 bL2 kL2 pL pB iA).2.2.1 := by
  obtain ⟨w1, w2⟩ := helmet_why hh hE
  unfold D_X11_honest D_X12_honest D_X11_honest_a1 D_X11_honest_a3 D_X11_honest_a2 D_X12_honest_a2 D_X12_honest_a3
  rw [w1, refused2]
  by_cases h0 : D_X11_troubleOfHelmet tens beans = 0
  · obtain ⟨B, K, S, k, w, as, hU, hD, sU, sD, c, r, s1, e1, e2, e3, h, g1, g2, g3⟩ := hel_lay hE (w2 h0)
    have b1 := h.hb.hUl
    have b2 := h.hb.hDl
    have p1 := h.hb.hDp
    rw [if_pos ((refused1 _).mpr h0), if_pos h0, h0, g1, g3]
    dsimp only
    rw [h.r1, h.r2, lowest_fr (by omega) (by omega) p1, part_fr x0 hU hD h.c1]
    exact ⟨rfl, rfl⟩
  · rw [if_neg (fun g => h0 ((refused1 _).mp g)), if_neg h0]; exact ⟨rfl, rfl⟩
theorem pub_doubt (hh : hl = 0 ↔ tens = 0) (hE : HelR rr beans black shaken fav draws drawer wb) : (D_X11_doubt x0 tens beans u1 l1 u2 l2 bL black kL as_ draws drawer wb fav shaken u3 l3).1 = (D_X12_doubt x0 hl rr hU0 hD0 sU0 sD0 bL2 kL2 pL pB iA).1 ∧ (D_X11_doubt x0 tens beans u1 l1 u2 l2 bL black kL as_ draws drawer wb fav shaken u3 l3).2.1 = (D_X12_doubt x0 hl rr hU0 hD0 sU0 sD0 bL2 kL2 pL pB iA).2.2.1 := by
  obtain ⟨w1, w2⟩ := helmet_why hh hE
  unfold D_X11_doubt D_X12_doubt D_X11_doubt_a1 D_X11_doubt_a4 D_X11_doubt_a3 D_X11_doubt_a2 D_X12_doubt_a4 D_X12_doubt_a3 D_X12_doubt_a2
  rw [w1, refused2]
  by_cases h0 : D_X11_troubleOfHelmet tens beans = 0
  · obtain ⟨B, K, S, k, w, as, hU, hD, sU, sD, c, r, s1, e1, e2, e3, h, g1, g2, g3⟩ := hel_lay hE (w2 h0)
    have b1 := h.hb.hUl
    have b2 := h.hb.hDl
    have b3 := h.hb.sUl
    have b4 := h.hb.sDl
    rw [if_pos ((refused1 _).mpr h0), if_pos h0, h0, g1, g3]
    dsimp only
    rw [h.r1, h.r2, h.r3, h.r4, e2, doubt_eq s1 e1 (by omega) (by omega) (by omega) (by omega) h.hb.hDp h.hb.sP h.c1 h.c2]
    exact ⟨rfl, rfl⟩
  · rw [if_neg (fun g => h0 ((refused1 _).mp g)), if_neg h0]; exact ⟨rfl, rfl⟩
theorem pub_doubtIf (hh : hl = 0 ↔ tens = 0) (hM : M ≤ 8) (hr : rr 5 = nI M) (hm : men = nI M) (hz : hl = 0 → M = 0) (hx1 : x1 = 0 ∨ x1 = 1) (hE : HelR rr beans black shaken fav draws drawer wb) : (D_X11_doubtIf x0 x1 x2 men draws drawer tens beans u1 l1 u2 l2 bL black kL as_ wb fav shaken u3 l3).1 = (D_X12_doubtIf x0 x1 x2 hl rr hU0 hD0 sU0 sD0 bL2 kL2 pL pB iA).1 ∧ (D_X11_doubtIf x0 x1 x2 men draws drawer tens beans u1 l1 u2 l2 bL black kL as_ wb fav shaken u3 l3).2.1 = (D_X12_doubtIf x0 x1 x2 hl rr hU0 hD0 sU0 sD0 bL2 kL2 pL pB iA).2.2.1 := by
  obtain ⟨w1, w2⟩ := drawer_why (x0 := x0) hh hM hr hm hz hE
  unfold D_X11_doubtIf D_X12_doubtIf D_X11_doubtIf_a1 D_X11_doubtIf_a5 D_X11_doubtIf_a4 D_X11_doubtIf_a3 D_X11_doubtIf_a2 D_X12_doubtIf_a4 D_X12_doubtIf_a3 D_X12_doubtIf_a2
  rw [w1, refused2]
  by_cases h0 : D_X11_troubleOfDrawer x0 men draws drawer tens beans = 0
  · obtain ⟨h41, mm, m1, m2⟩ := w2 h0
    obtain ⟨B, K, S, k, w, as, hU, hD, sU, sD, c, r, s1, e1, e2, e3, h, g1, g2, g3⟩ := hel_lay hE h41
    have b1 := h.hb.hUl
    have b2 := h.hb.hDl
    have b3 := h.hb.sUl
    have b4 := h.hb.sDl
    have p1 := h.hb.hDp
    have p2 := h.hb.sP
    have q12 := h.hb.b12
    have qk := h.hb.kB
    have qkk := h.hb.kK
    have qww := h.hb.wW
    obtain ⟨bk, hbk⟩ : ∃ bk, x1 = nI (aN bk) := by
      rcases hx1 with e | e
      · exact ⟨false, e⟩
      · exact ⟨true, e⟩
    rw [if_pos ((refused1 _).mpr h0), if_pos h0, h0, g1]
    have hcol : (if x1 = 0 then 0 else 1 : Int32) = nI (aN bk) := by
      rw [hbk]; cases bk
      · exact if_pos rfl
      · exact if_neg (by decide)
    have hlay : D_X12_layHelmet x0 (nI (aN bk)) rr = (fun R : Int64 × Int64 × Int32 × Int32 × Int64 × Int64 × Int32 × Int32 × Int32 => (R.1, R.2.1, R.2.2.2.2.1, R.2.2.2.2.2.1, R.2.2.1, R.2.2.2.1, R.2.2.2.2.2.2.1, R.2.2.2.2.2.2.2.1, R.2.2.2.2.2.2.2.2)) (D_X12_drawsBean x0 (nI (aN bk)) r.1 r.2.2.2.2.2.1 r.2.2.2.2.1 r.2.1 rr r.2.2.2.2.2.2.2.2 r.2.2.2.2.2.2.2.1 r.2.2.2.2.2.2.1 r.2.2.1 r.2.2.2.1) := by
      unfold D_X12_layHelmet D_X12_layHelmet_j1 D_X12_layHelmet_a2
      rw [g2, m2, if_neg (nI_pos (by omega))]
    obtain ⟨hU', hD', sU', sD', as', v1, v2, -, -, -, v6, v7, -, -, v10, v11, -, v13, v14, v15⟩ := weigh h e3 (m := x0) bk rfl rfl
    have hfl : (if bk then K - k else B - K - w) ≤ 12 := by cases bk <;> simp <;> omega
    have c1 : hU' ≤ 35831808 := by rw [v13]; exact Nat.le_trans (Nat.mul_le_mul b1 hfl) (by decide)
    have c2 : hD' ≤ 35831808 ∧ 0 < hD' := by
      rw [v14]
      by_cases e : k + w = B
      · rw [if_pos e]; omega
      · rw [if_neg e]; exact ⟨Nat.le_trans (Nat.mul_le_mul b2 (show B - (k + w) ≤ 12 by omega)) (by decide), Nat.mul_pos p1 (by omega)⟩
    have c3 : sU' ≤ 35831808 ∧ sD' ≤ 35831808 ∧ 0 < sD' := by
      by_cases hfv : x0 = fav ∧ as = true
      · rw [if_pos hfv] at v15
        rw [v15.2.1, v15.2.2.1]
        refine ⟨Nat.le_trans (Nat.mul_le_mul b3 (show aN bk ≤ 12 by cases bk <;> decide)) (by decide), by omega, p2⟩
      · rw [if_neg hfv] at v15
        rw [v15.2.1, v15.2.2.1]
        have hml : (if bk then K - k - aN as else B - K - w) ≤ 12 := by cases bk <;> simp <;> omega
        refine ⟨Nat.le_trans (Nat.mul_le_mul b3 hml) (by decide), ?_⟩
        by_cases e : B - (k + w) ≤ aN as
        · rw [if_pos e]; omega
        · rw [if_neg e]; exact ⟨Nat.le_trans (Nat.mul_le_mul b4 (show B - (k + w) - aN as ≤ 12 by omega)) (by decide), Nat.mul_pos p2 (by omega)⟩
    rw [hcol, hlay, hbk]
    dsimp only
    rw [v6, v7, v10, v11, e2, doubt_eq s1 e1 c1 c2.1 c3.1 c3.2.1 c2.2 c3.2.2 v1 v2]
    exact ⟨rfl, rfl⟩
  · rw [if_neg (fun g => h0 ((refused1 _).mp g)), if_neg h0]; exact ⟨rfl, rfl⟩
end HELM
