/-! NEXT -/
theorem ffle_all : ∀ B, B < 13 → ∀ K, K < B → ∀ k, k < 8 → ∀ w, w < 8 - k → ff (K + 1) k * ff (B - (K + 1)) w ≤ ff B (k + w) ∧ ff K k * ff (B - (K + 1)) w ≤ ff (B - 1) (k + w) := by decide +kernel
theorem rd_pos {u d : Nat} (hd : 0 < d) : 1 ≤ rd u d := fr_pos hd
theorem rd_0 {d : Nat} (hd : 0 < d) : rd 0 d = 1 := by unfold rd; rw [Nat.gcd_zero_left, Nat.div_self hd]
theorem helm_bound {B K k w hU hD sU sD : Nat} (hB : B ≤ 12) (hK : 1 ≤ K) (hKB : K ≤ B) (hk : k ≤ K) (hw : w ≤ B - K) (hn : k + w ≤ 7) (p1 : 0 < hD) (p2 : 0 < sD) (h1 : hU = 0 ∨ (hU = ff K k * ff (B - K) w ∧ hD = ff B (k + w))) (h2 : sU = 0 ∨ (k < K ∧ sU = ff (K - 1) k * ff (B - K) w ∧ sD = ff (B - 1) (k + w)) ∨ (1 ≤ k ∧ sU = ff (K - 1) (k - 1) * ff (B - K) w ∧ sD = ff (B - 1) (k + w - 1))) : 100 * rd hU hD * rd sU sD ≤ 43000000 ∧ hU ≤ hD ∧ sU ≤ sD := by
  obtain ⟨r1, r2, r3⟩ := rd_bound B (by omega) K (by omega) k (by omega) w (by omega)
  obtain ⟨Q, rfl⟩ : ∃ q, K = q + 1 := ⟨K - 1, by omega⟩
  obtain ⟨f1, f2⟩ := ffle_all B (by omega) Q (by omega) k (by omega) w (by omega)
  have hff : 0 < ff B (k + w) := ff_pos (by omega)
  have hr1 : 1 ≤ rd (ff (Q + 1) k * ff (B - (Q + 1)) w) (ff B (k + w)) := rd_pos hff
  -- the honest part is one of two
  have hH : hU ≤ hD ∧ rd hU hD ≤ rd (ff (Q + 1) k * ff (B - (Q + 1)) w) (ff B (k + w)) := by
    rcases h1 with e | ⟨e1, e2⟩
    · rw [e, rd_0 p1]; exact ⟨Nat.zero_le _, hr1⟩
    · rw [e1, e2]; exact ⟨f1, Nat.le_refl _⟩
  generalize rd (ff (Q + 1) k * ff (B - (Q + 1)) w) (ff B (k + w)) = H at *
  rcases h2 with e | ⟨e0, e1, e2⟩ | ⟨e0, e1, e2⟩
  · rw [e, rd_0 p2, Nat.mul_one]
    exact ⟨by omega, hH.1, Nat.zero_le _⟩
  · have := f2
    rw [e1, e2]
    exact ⟨Nat.le_trans (Nat.mul_le_mul_right _ (Nat.mul_le_mul_left 100 hH.2)) r2, hH.1, this⟩
  · obtain ⟨z, rfl⟩ : ∃ z, k = z + 1 := ⟨k - 1, by omega⟩
    have := (ffle_all B (by omega) Q (by omega) z (by omega) w (by omega)).2
    rw [e1, e2]
    refine ⟨Nat.le_trans (Nat.mul_le_mul_right _ (Nat.mul_le_mul_left 100 hH.2)) r3, hH.1, ?_⟩
    rw [show z + 1 + w - 1 = z + w by omega]
    exact this
theorem either_fr {S hU hD sU sD : Nat} {su hl hu sl : Int64} (hS : S ≤ 100) (p1 : 0 < hD) (p2 : 0 < sD) (e1 : (hu, hl) = fr hU hD) (e2 : (su, sl) = fr sU sD) (hb : 100 * rd hU hD * rd sU sD ≤ 43000000) (l1 : hU ≤ hD) (l2 : sU ≤ sD) : ∃ x d G, 0 < G ∧ 0 < d ∧ d ≤ 43000000 ∧ x ≤ d ∧ D_X2_eitherTo (nI S) su hl hu sl = fr x d ∧ x * G = S * sU * hD + (100 - S) * hU * sD ∧ d * G = 100 * sD * hD := by
  rw [fr_N p1] at e1
  rw [fr_N p2] at e2
  unfold rd at hb
  have hg1 : 0 < Nat.gcd hU hD := Nat.gcd_pos_of_pos_right hU p1
  have hg2 : 0 < Nat.gcd sU sD := Nat.gcd_pos_of_pos_right sU p2
  have q1 : hU / Nat.gcd hU hD * Nat.gcd hU hD = hU := Nat.div_mul_cancel (Nat.gcd_dvd_left hU hD)
  have q2 : hD / Nat.gcd hU hD * Nat.gcd hU hD = hD := Nat.div_mul_cancel (Nat.gcd_dvd_right hU hD)
  have q3 : sU / Nat.gcd sU sD * Nat.gcd sU sD = sU := Nat.div_mul_cancel (Nat.gcd_dvd_left sU sD)
  have q4 : sD / Nat.gcd sU sD * Nat.gcd sU sD = sD := Nat.div_mul_cancel (Nat.gcd_dvd_right sU sD)
  have f1 : hu = lN (hU / Nat.gcd hU hD) := congrArg Prod.fst e1
  have f2 : hl = lN (hD / Nat.gcd hU hD) := congrArg Prod.snd e1
  have f3 : su = lN (sU / Nat.gcd sU sD) := congrArg Prod.fst e2
  have f4 : sl = lN (sD / Nat.gcd sU sD) := congrArg Prod.snd e2
  have m1 : hU / Nat.gcd hU hD ≤ hD / Nat.gcd hU hD := Nat.div_le_div_right l1
  have m2 : sU / Nat.gcd sU sD ≤ sD / Nat.gcd sU sD := Nat.div_le_div_right l2
  have z1 := fr_pos (u := hU) p1
  have z2 := fr_pos (u := sU) p2
  generalize hU / Nat.gcd hU hD = hu' at *
  generalize hD / Nat.gcd hU hD = hl' at *
  generalize sU / Nat.gcd sU sD = su' at *
  generalize sD / Nat.gcd sU sD = sl' at *
  generalize Nat.gcd hU hD = g1 at *
  generalize Nat.gcd sU sD = g2 at *
  have hx : S * su' * hl' + (100 - S) * hu' * sl' ≤ 100 * sl' * hl' := by
    have a1 : S * su' * hl' ≤ S * sl' * hl' := Nat.mul_le_mul_right _ (Nat.mul_le_mul_left S m2)
    have a2 : (100 - S) * hu' * sl' ≤ (100 - S) * hl' * sl' := Nat.mul_le_mul_right _ (Nat.mul_le_mul_left _ m1)
    have a3 : S * sl' * hl' + (100 - S) * hl' * sl' = 100 * sl' * hl' := by
      rw [Nat.mul_right_comm (100 - S) hl' sl', ← Nat.add_mul, ← Nat.add_mul, Nat.add_sub_cancel' hS]
    omega
  have hb' : 100 * sl' * hl' ≤ 43000000 := by rw [Nat.mul_right_comm]; exact hb
  have hp : 0 < 100 * sl' * hl' := Nat.mul_pos (Nat.mul_pos (by decide) z2) z1
  refine ⟨S * su' * hl' + (100 - S) * hu' * sl', 100 * sl' * hl', g1 * g2, Nat.mul_pos hg1 hg2, hp, hb', hx, ?_, ?_, ?_⟩
  · unfold D_X2_eitherTo D_X2_eitherTo_a1 D_X2_weightShaken D_X2_weightHonest
    rw [f1, f2, f3, f4, show (100 : Int32) = nI 100 from rfl, nI_sub hS, nI_l (by omega), nI_l (by omega), show (100 : Int64) = lN 100 from rfl]
    simp only [lN_mul, lN_add]
    exact put_fr (by omega) (by omega) hp
  · rw [← q1, ← q2, ← q3, ← q4, Nat.add_mul]; congr 1 <;> simp only [Nat.mul_assoc, Nat.mul_comm, Nat.mul_left_comm]
  · rw [← q2, ← q4]; simp only [Nat.mul_assoc, Nat.mul_comm, Nat.mul_left_comm]
theorem divide_fr {u d u2 d2 : Nat} {a b c e : Int64} (hd : 0 < d) (hd2 : 0 < d2) (b1 : d ≤ 43000000) (b2 : u ≤ d) (b3 : d2 ≤ 43000000) (b4 : u2 ≤ d2) (e1 : (a, b) = fr u d) (e2 : (c, e) = fr u2 d2) : D_X7_divideBy a c b e = if u2 = 0 then (0, 1) else fr (u * d2) (d * u2) := by
  rw [fr_N hd] at e1
  rw [fr_N hd2] at e2
  have hg1 : 0 < Nat.gcd u d := Nat.gcd_pos_of_pos_right u hd
  have hg2 : 0 < Nat.gcd u2 d2 := Nat.gcd_pos_of_pos_right u2 hd2
  have q1 : u / Nat.gcd u d * Nat.gcd u d = u := Nat.div_mul_cancel (Nat.gcd_dvd_left u d)
  have q2 : d / Nat.gcd u d * Nat.gcd u d = d := Nat.div_mul_cancel (Nat.gcd_dvd_right u d)
  have q3 : u2 / Nat.gcd u2 d2 * Nat.gcd u2 d2 = u2 := Nat.div_mul_cancel (Nat.gcd_dvd_left u2 d2)
  have q4 : d2 / Nat.gcd u2 d2 * Nat.gcd u2 d2 = d2 := Nat.div_mul_cancel (Nat.gcd_dvd_right u2 d2)
  have f1 : a = lN (u / Nat.gcd u d) := congrArg Prod.fst e1
  have f2 : b = lN (d / Nat.gcd u d) := congrArg Prod.snd e1
  have f3 : c = lN (u2 / Nat.gcd u2 d2) := congrArg Prod.fst e2
  have f4 : e = lN (d2 / Nat.gcd u2 d2) := congrArg Prod.snd e2
  have l1 := Nat.div_le_self u (Nat.gcd u d)
  have l2 := Nat.div_le_self d (Nat.gcd u d)
  have l3 := Nat.div_le_self u2 (Nat.gcd u2 d2)
  have l4 := Nat.div_le_self d2 (Nat.gcd u2 d2)
  have z1 := fr_pos (u := u) hd
  have z2 := fr_pos (u := u2) hd2
  generalize u / Nat.gcd u d = a' at *
  generalize d / Nat.gcd u d = b' at *
  generalize u2 / Nat.gcd u2 d2 = c' at *
  generalize d2 / Nat.gcd u2 d2 = e' at *
  generalize Nat.gcd u d = g1 at *
  generalize Nat.gcd u2 d2 = g2 at *
  unfold D_X7_divideBy D_X7_divideBy_a1
  by_cases h0 : u2 = 0
  · have hc : c' = 0 := by
      rcases Nat.eq_zero_or_pos c' with h | h
      · exact h
      · rw [← q3] at h0; exact absurd h0 (Nat.ne_of_gt (Nat.mul_pos h hg2))
    rw [if_pos h0, f3, hc, lN_0, Int64.zero_div, Int64.mul_zero]
    unfold D_X7_put
    by_cases h : lg_cmp (a / D_X7_common a 0 * (e / D_X7_common b e)) 0 ≤ 0
    · rw [if_pos h]
    · rw [if_neg h, if_neg (by decide)]
  · have hc : 0 < c' := by
      rcases Nat.eq_zero_or_pos c' with h | h
      · rw [h, Nat.zero_mul] at q3; exact absurd q3.symm h0
      · exact h
    have hk1 : 0 < Nat.gcd a' c' := Nat.gcd_pos_of_pos_right a' hc
    have hk2 : 0 < Nat.gcd b' e' := Nat.gcd_pos_of_pos_right b' z2
    have t1 : a' / Nat.gcd a' c' * Nat.gcd a' c' = a' := Nat.div_mul_cancel (Nat.gcd_dvd_left a' c')
    have t2 : c' / Nat.gcd a' c' * Nat.gcd a' c' = c' := Nat.div_mul_cancel (Nat.gcd_dvd_right a' c')
    have t3 : b' / Nat.gcd b' e' * Nat.gcd b' e' = b' := Nat.div_mul_cancel (Nat.gcd_dvd_left b' e')
    have t4 : e' / Nat.gcd b' e' * Nat.gcd b' e' = e' := Nat.div_mul_cancel (Nat.gcd_dvd_right b' e')
    have n1 := Nat.div_le_self a' (Nat.gcd a' c')
    have n2 := Nat.div_le_self c' (Nat.gcd a' c')
    have n3 := Nat.div_le_self b' (Nat.gcd b' e')
    have n4 := Nat.div_le_self e' (Nat.gcd b' e')
    have y1 : 0 < b' / Nat.gcd b' e' := Nat.div_pos (Nat.le_of_dvd z1 (Nat.gcd_dvd_left b' e')) hk2
    have y2 : 0 < c' / Nat.gcd a' c' := Nat.div_pos (Nat.le_of_dvd hc (Nat.gcd_dvd_right a' c')) hk1
    have k1l : Nat.gcd a' c' ≤ c' := Nat.gcd_le_right a' hc
    have k2l : Nat.gcd b' e' ≤ b' := Nat.gcd_le_left e' z1
    rw [if_neg h0, f1, f2, f3, f4, common_gcd (by omega) (by omega) (Or.inr hc), common_gcd (by omega) (by omega) (Or.inl z1), l_div (by omega) (by omega), l_div (by omega) (by omega), l_div (by omega) (by omega), l_div (by omega) (by omega), lN_mul, lN_mul]
    generalize a' / Nat.gcd a' c' = A at *
    generalize c' / Nat.gcd a' c' = Cc at *
    generalize b' / Nat.gcd b' e' = Bb at *
    generalize e' / Nat.gcd b' e' = E at *
    generalize Nat.gcd a' c' = k1 at *
    generalize Nat.gcd b' e' = k2 at *
    have w1 : A * E ≤ 43000000 * 43000000 := Nat.mul_le_mul (by omega) (by omega)
    have w2 : Bb * Cc ≤ 43000000 * 43000000 := Nat.mul_le_mul (by omega) (by omega)
    rw [put_fr (by omega) (by omega) (Nat.mul_pos y1 y2)]
    show fr (A * E) (Bb * Cc) = fr (u * d2) (d * u2)
    refine fr_cross (Nat.mul_pos y1 y2) (Nat.mul_pos hd (by omega)) ?_
    rw [← q1, ← q2, ← q3, ← q4, ← t1, ← t2, ← t3, ← t4]
    simp only [Nat.mul_assoc, Nat.mul_comm, Nat.mul_left_comm]
