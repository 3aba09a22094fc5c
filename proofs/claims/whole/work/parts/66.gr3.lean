section GR3
variable {M : Nat} {holds oneIn fear mutiny tens present braced seed x0 hl a b c : Int32} {kind nerve friendsOf fearTimes weight rr tenOf feared angerOf lotsOf st : Nat → Int32}
variable {beans black shaken fav draws men x1 x2 : Int32} {drawer wb : Nat → Int32}
theorem gr_doubtIf (hh : hl = 0 ↔ tens = 0) (hM : M ≤ 8) (hr : rr 5 = nI M) (hm : men = nI M) (hz : hl = 0 → M = 0) (hx1 : x1 = 0 ∨ x1 = 1) (hE : HelR rr beans black shaken fav draws drawer wb) : G_X12_doubtIf x0 x1 hl rr := by
  refine ⟨gr_hwhy hE, fun _ => gr_lay hE, fun h0 => ?_⟩
  obtain ⟨w1, w2⟩ := drawer_why (x0 := x0) hh hM hr hm hz hE
  rw [w1] at h0
  obtain ⟨h41, mm, m1, m2⟩ := w2 h0
  obtain ⟨B, K, S, k, w, as, hU, hD, sU, sD, c, r, s1, e1, e2, e3, h, g1, g2, g3⟩ := hel_lay hE h41
  have b1 := h.hb.hUl
  have b2 := h.hb.hDl
  have b3 := h.hb.sUl
  have b4 := h.hb.sDl
  have p1 := h.hb.hDp
  have p2 := h.hb.sP
  have q12 := h.hb.b12
  have qk := h.hb.kB
  have qkk := h.hb.kK
  have qww := h.hb.wW
  obtain ⟨bk, hbk⟩ : ∃ bk, x1 = nI (aN bk) := by
    rcases hx1 with e | e
    · exact ⟨false, e⟩
    · exact ⟨true, e⟩
  have hcol : (if x1 = 0 then 0 else 1 : Int32) = nI (aN bk) := by
    rw [hbk]; cases bk
    · exact if_pos rfl
    · exact if_neg (by decide)
  have hlay : D_X12_layHelmet x0 (nI (aN bk)) rr = (fun R : Int64 × Int64 × Int32 × Int32 × Int64 × Int64 × Int32 × Int32 × Int32 => (R.1, R.2.1, R.2.2.2.2.1, R.2.2.2.2.2.1, R.2.2.1, R.2.2.2.1, R.2.2.2.2.2.2.1, R.2.2.2.2.2.2.2.1, R.2.2.2.2.2.2.2.2)) (D_X12_drawsBean x0 (nI (aN bk)) r.1 r.2.2.2.2.2.1 r.2.2.2.2.1 r.2.1 rr r.2.2.2.2.2.2.2.2 r.2.2.2.2.2.2.2.1 r.2.2.2.2.2.2.1 r.2.2.1 r.2.2.2.1) := by
    unfold D_X12_layHelmet D_X12_layHelmet_j1 D_X12_layHelmet_a2
    rw [g2, m2, if_neg (nI_pos (by omega))]
  obtain ⟨hU', hD', sU', sD', as', v1, v2, -, -, -, v6, v7, -, -, v10, v11, -, v13, v14, v15⟩ := weigh h e3 (m := x0) bk rfl rfl
  have hfl : (if bk then K - k else B - K - w) ≤ 12 := by cases bk <;> simp <;> omega
  have c1 : hU' ≤ 35831808 := by rw [v13]; exact Nat.le_trans (Nat.mul_le_mul b1 hfl) (by decide)
  have c2 : hD' ≤ 35831808 ∧ 0 < hD' := by
    rw [v14]
    by_cases e : k + w = B
    · rw [if_pos e]; omega
    · rw [if_neg e]; exact ⟨Nat.le_trans (Nat.mul_le_mul b2 (show B - (k + w) ≤ 12 by omega)) (by decide), Nat.mul_pos p1 (by omega)⟩
  have c3 : sU' ≤ 35831808 ∧ sD' ≤ 35831808 ∧ 0 < sD' := by
    by_cases hfv : x0 = fav ∧ as = true
    · rw [if_pos hfv] at v15
      rw [v15.2.1, v15.2.2.1]
      refine ⟨Nat.le_trans (Nat.mul_le_mul b3 (show aN bk ≤ 12 by cases bk <;> decide)) (by decide), by omega, p2⟩
    · rw [if_neg hfv] at v15
      rw [v15.2.1, v15.2.2.1]
      have hml : (if bk then K - k - aN as else B - K - w) ≤ 12 := by cases bk <;> simp <;> omega
      refine ⟨Nat.le_trans (Nat.mul_le_mul b3 hml) (by decide), ?_⟩
      by_cases e : B - (k + w) ≤ aN as
      · rw [if_pos e]; omega
      · rw [if_neg e]; exact ⟨Nat.le_trans (Nat.mul_le_mul b4 (show B - (k + w) - aN as ≤ 12 by omega)) (by decide), Nat.mul_pos p2 (by omega)⟩
  unfold D_X12_doubtIf_a2
  rw [hcol, hlay]
  dsimp only
  rw [v6, v7, v10, v11]
  exact gr_doubtOf s1 e1 c1 c2.1 c3.1 c3.2.1
theorem gr_next (hh : hl = 0 ↔ tens = 0) (hM : M ≤ 8) (hr : rr 5 = nI M) (hm : men = nI M) (hz : hl = 0 → M = 0) (hE : HelR rr beans black shaken fav draws drawer wb) : G_X12_next x0 hl rr := by
  refine ⟨gr_hwhy hE, fun _ => gr_lay hE, fun _ _ => gr_low01, fun _ _ _ => gr_low01, fun h0 hc1 hc2 => ?_⟩
  obtain ⟨w1, w2⟩ := drawer_why (x0 := x0) hh hM hr hm hz hE
  rw [w1] at h0
  obtain ⟨h41, mm, m1, m2⟩ := w2 h0
  obtain ⟨B, K, S, k, w, as, hU, hD, sU, sD, c, r, s1, e1, e2, e3, h, g1, g2, g3⟩ := hel_lay hE h41
  have hb := h.hb
  have b1 := hb.hUl
  have b2 := hb.hDl
  have b3 := hb.sUl
  have b4 := hb.sDl
  have q12 := hb.b12
  have qk := hb.kB
  have qkk := hb.kK
  have qww := hb.wW
  have ha1 : aN as ≤ 1 := by cases as <;> decide
  have B3 : S * sU * hD ≤ 100 * 2985984 * 2985984 := Nat.mul_le_mul (Nat.mul_le_mul s1 b3) b2
  have B4 : (100 - S) * hU * sD ≤ 100 * 2985984 * 2985984 := Nat.mul_le_mul (Nat.mul_le_mul (by omega) b1) b4
  unfold D_X12_next_j1 D_X12_next_j2 D_X12_next_a2 at *
  rw [g3] at hc1 hc2 ⊢
  have hSP : D_X12_shakenPart rr r.2.2.1 r.2.1 = lN (S * sU * hD) := by
    unfold D_X12_shakenPart; rw [e1, h.r2, h.r3, nI_l (by omega), lN_mul, lN_mul]
  have hHP : D_X12_honestPart rr r.1 r.2.2.2.1 = lN ((100 - S) * hU * sD) := by
    unfold D_X12_honestPart; rw [e1, h.r1, h.r4, show (100 : Int32) = nI 100 from rfl, nI_sub s1, nI_l (by omega), lN_mul, lN_mul]
  rw [hSP, hHP, lN_add] at hc1
  rw [hSP, hHP, lN_add, h.r5, h.r6, h.r9]
  rw [h.r5] at hc2
  rcases next_val (x0 := x0) h s1 e1 e3 rfl with ⟨hz0, -⟩ | ⟨n1, n2, up, dn, d1, d2, d3, -, d4⟩
  · exfalso
    rcases hz0 with g | g
    · exact hc1 ((l_c0 (by omega)).mpr g)
    · exact hc2 (by rw [show B - (k + w) = 0 by omega]; rfl)
  · have hdn : (if (if x0 = rr 44 then if nI (aN as) = 0 then 0 else 1 else 0 : Int32) = 0 then if 1 ≤ r.2.2.2.2.2.2.1 then r.2.2.2.2.2.2.1.toInt64 else 1 else 1 : Int64) = lN dn := by
      by_cases hfv : x0 = fav ∧ as = true
      · rw [if_pos hfv] at d4
        rw [if_pos (show x0 = rr 44 by rw [hfv.1, e3]), hfv.2, if_neg (show ¬ nI (aN true) = 0 by decide), if_neg (show ¬ (1 : Int32) = 0 by decide), d4.2]; rfl
      · rw [if_neg hfv] at d4
        have : (if x0 = rr 44 then if nI (aN as) = 0 then 0 else 1 else 0 : Int32) = 0 := by
          by_cases e : x0 = rr 44
          · have : as = false := by
              cases as with
              | false => rfl
              | true => exact absurd ⟨by rw [e, e3], rfl⟩ hfv
            rw [if_pos e, this, if_pos (show nI (aN false) = 0 from rfl)]
          · rw [if_neg e]
        rw [if_pos this, h.r7, d4.2]
        by_cases e : B - (k + w) ≤ aN as
        · have : ¬ (1 : Int32) ≤ nI (B - (k + w)) - nI (aN as) := by
            rcases (by omega : (B - (k + w) = 0 ∧ aN as = 0) ∨ (B - (k + w) = 0 ∧ aN as = 1) ∨ (B - (k + w) = 1 ∧ aN as = 1)) with ⟨g1, g2⟩ | ⟨g1, g2⟩ | ⟨g1, g2⟩ <;> rw [g1, g2] <;> decide
          rw [if_pos e, if_neg this]; rfl
        · rw [if_neg e, nI_sub (by omega), if_pos (show (1 : Int32) ≤ nI (B - (k + w) - aN as) from nI_le (a := 1) (by omega) (by omega)), nI_l (by omega)]
    have hup : lN (S * sU * hD) * (if (if x0 = rr 44 then if nI (aN as) = 0 then 0 else 1 else 0 : Int32) = 0 then if 1 ≤ r.2.2.2.2.2.2.1 then r.2.2.2.2.2.2.2.1.toInt64 else 0 else 1 : Int64) = lN (S * sU * hD * up) := by
      rcases Nat.eq_zero_or_pos sU with e0 | e0
      · rw [e0, Nat.mul_zero, Nat.zero_mul, Nat.zero_mul, lN_0, Int64.zero_mul]
      · by_cases hfv : x0 = fav ∧ as = true
        · rw [if_pos hfv] at d4
          rw [if_pos (show x0 = rr 44 by rw [hfv.1, e3]), hfv.2, if_neg (show ¬ nI (aN true) = 0 by decide), if_neg (show ¬ (1 : Int32) = 0 by decide), d4.1]
          exact lN_mul _ 1
        · rw [if_neg hfv] at d4
          have hsh : aN as ≤ K - k := by
            rcases hb.sh with g | ⟨g1, g2, -⟩ | ⟨g1, -⟩
            · omega
            · rw [g1]; show 1 ≤ K - k; omega
            · rw [g1]; exact Nat.zero_le _
          have : (if x0 = rr 44 then if nI (aN as) = 0 then 0 else 1 else 0 : Int32) = 0 := by
            by_cases e : x0 = rr 44
            · have : as = false := by
                cases as with
                | false => rfl
                | true => exact absurd ⟨by rw [e, e3], rfl⟩ hfv
              rw [if_pos e, this, if_pos (show nI (aN false) = 0 from rfl)]
            · rw [if_neg e]
          rw [if_pos this, h.r7, h.r8.resolve_left (by omega), d4.1.resolve_left (by omega), nI_sub hsh, nI_sub (show aN as ≤ B - (k + w) by omega), nI_l (by omega)]
          by_cases e : B - (k + w) ≤ aN as
          · rw [if_neg (show ¬ (1 : Int32) ≤ nI (B - (k + w) - aN as) by rw [show B - (k + w) - aN as = 0 by omega]; decide), show K - k - aN as = 0 by omega, Nat.mul_zero, lN_0, Int64.mul_zero]
          · rw [if_pos (show (1 : Int32) ≤ nI (B - (k + w) - aN as) from nI_le (a := 1) (by omega) (by omega)), lN_mul]
    rw [hup, hdn, nI_l (by omega), nI_l (by omega)]
    simp only [lN_mul, lN_add]
    have W1 : S * sU * hD * up * (B - (k + w)) ≤ 100 * 2985984 * 2985984 * 12 * 12 := Nat.mul_le_mul (Nat.mul_le_mul B3 d3) (by omega)
    have W2 : (100 - S) * hU * sD * (K - k) * dn ≤ 100 * 2985984 * 2985984 * 12 * 12 := Nat.mul_le_mul (Nat.mul_le_mul B4 (by omega)) d2
    have W3 : (S * sU * hD + (100 - S) * hU * sD) * dn * (B - (k + w)) ≤ (100 * 2985984 * 2985984 + 100 * 2985984 * 2985984) * 12 * 12 := Nat.mul_le_mul (Nat.mul_le_mul (Nat.add_le_add B3 B4) d2) (by omega)
    exact G_lowest_n (by omega) (by omega) (Nat.mul_pos (Nat.mul_pos (by omega) d1) (by omega))
end GR3
