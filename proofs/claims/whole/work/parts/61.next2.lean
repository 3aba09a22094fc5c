section NEXT
variable {M : Nat} {holds oneIn fear mutiny tens present braced seed x0 hl a b c : Int32} {kind nerve friendsOf fearTimes weight rr tenOf feared angerOf lotsOf st : Nat → Int32}
variable {beans black shaken fav draws men x1 x2 bL kL as_ bL2 kL2 pL pB iA : Int32} {drawer wb : Nat → Int32} {u1 l1 u2 l2 u3 l3 u4 l4 hU0 hD0 sU0 sD0 : Int64}
theorem low01 (b : Int32) : D_X12_lowest 0 1 b = D_X7_part b 0 1 := by
  have := lowest_fr (u := 0) (d := 1) (by decide) (by decide) (by decide) b
  rw [show lN 0 = 0 from rfl, show lN 1 = 1 from rfl, fr_0] at this
  exact this
theorem next_val {B K k w hU hD sU sD S : Nat} {as : Bool} {c : Int64 × Int64 × Int64 × Int64 × Int32 × Int32 × Int32} {r : Int64 × Int64 × Int64 × Int64 × Int32 × Int32 × Int32 × Int32 × Int32} (h : HM B K k w as hU hD sU sD c r) (hS : S ≤ 100) (h43 : rr 43 = nI S) (hf : fav = rr 44) {Z : Int64 × Int64} (hZ : D_X7_divideBy (D_X2_eitherTo (nI S) (D_X2_weighDraw x0 1 c.2.2.2.2.1 c.2.2.2.2.2.1 c.1 c.2.1 c.2.2.2.2.2.2 c.2.2.1 c.2.2.2.1 fav).2.2.1 (D_X2_weighDraw x0 1 c.2.2.2.2.1 c.2.2.2.2.2.1 c.1 c.2.1 c.2.2.2.2.2.2 c.2.2.1 c.2.2.2.1 fav).2.1 (D_X2_weighDraw x0 1 c.2.2.2.2.1 c.2.2.2.2.2.1 c.1 c.2.1 c.2.2.2.2.2.2 c.2.2.1 c.2.2.2.1 fav).1 (D_X2_weighDraw x0 1 c.2.2.2.2.1 c.2.2.2.2.2.1 c.1 c.2.1 c.2.2.2.2.2.2 c.2.2.1 c.2.2.2.1 fav).2.2.2.1).1 (D_X2_eitherTo (nI S) c.2.2.1 c.2.1 c.1 c.2.2.2.1).1 (D_X2_eitherTo (nI S) (D_X2_weighDraw x0 1 c.2.2.2.2.1 c.2.2.2.2.2.1 c.1 c.2.1 c.2.2.2.2.2.2 c.2.2.1 c.2.2.2.1 fav).2.2.1 (D_X2_weighDraw x0 1 c.2.2.2.2.1 c.2.2.2.2.2.1 c.1 c.2.1 c.2.2.2.2.2.2 c.2.2.1 c.2.2.2.1 fav).2.1 (D_X2_weighDraw x0 1 c.2.2.2.2.1 c.2.2.2.2.2.1 c.1 c.2.1 c.2.2.2.2.2.2 c.2.2.1 c.2.2.2.1 fav).1 (D_X2_weighDraw x0 1 c.2.2.2.2.1 c.2.2.2.2.2.1 c.1 c.2.1 c.2.2.2.2.2.2 c.2.2.1 c.2.2.2.1 fav).2.2.2.1).2 (D_X2_eitherTo (nI S) c.2.2.1 c.2.1 c.1 c.2.2.2.1).2 = Z) : ((S * sU * hD + (100 - S) * hU * sD = 0 ∨ k + w = B) ∧ Z = (0, 1)) ∨ (¬ S * sU * hD + (100 - S) * hU * sD = 0 ∧ ¬ k + w = B ∧ ∃ up dn, 0 < dn ∧ dn ≤ 12 ∧ up ≤ 12 ∧ Z = fr (S * (sU * up) * (hD * (B - (k + w))) + (100 - S) * (hU * (K - k)) * (sD * dn)) ((S * sU * hD + (100 - S) * hU * sD) * dn * (B - (k + w))) ∧ (if x0 = fav ∧ as = true then up = 1 ∧ dn = 1 else (sU = 0 ∨ up = K - k - aN as) ∧ dn = if B - (k + w) ≤ aN as then 1 else B - (k + w) - aN as)) := by
  have hb := h.hb
  have b1 := hb.hUl
  have b2 := hb.hDl
  have b3 := hb.sUl
  have b4 := hb.sDl
  have p1 := hb.hDp
  have p2 := hb.sP
  have q12 := hb.b12
  have qk := hb.kB
  have qkk := hb.kK
  have qww := hb.wW
  have qk1 := hb.k1
  have qn := hb.n6
  have ha1 : aN as ≤ 1 := by cases as <;> decide
  obtain ⟨hU', hD', sU', sD', as', v1, v2, -, -, -, -, -, -, -, -, -, -, v13, v14, v15⟩ := weigh h hf (m := x0) (rr := rr) true rfl rfl
  rw [show nI (aN true) = 1 from rfl] at v1 v2
  rw [if_pos (rfl : true = true)] at v13
  -- the bounds
  obtain ⟨B1, L1, L2⟩ := helm_bound q12 qk1 qk qkk qww (by omega) p1 p2 (Or.inr ⟨hb.eU, hb.eD⟩) (by
    rcases hb.sh with g | ⟨-, g2, g3, g4⟩ | ⟨-, g2, g3, g4⟩
    · exact Or.inl g
    · exact Or.inr (Or.inl ⟨g2, g3, g4⟩)
    · exact Or.inr (Or.inr ⟨g2, g3, g4⟩))
  obtain ⟨x, d, G, hG, hd, hdl, hxl, eI, eX, eD⟩ := either_fr (su := c.2.2.1) (hl := c.2.1) (hu := c.1) (sl := c.2.2.2.1) hS p1 p2 h.c1 h.c2 B1 L1 L2
  have hD'p : 0 < hD' := by
    rw [v14]
    by_cases e : k + w = B
    · rw [if_pos e]; omega
    · rw [if_neg e]; exact Nat.mul_pos p1 (by omega)
  -- what his draw makes of the shaken part
  have hsh : ∃ up dn, 0 < dn ∧ dn ≤ 12 ∧ up ≤ 12 ∧ sU' = sU * up ∧ sD' = sD * dn ∧ (if x0 = fav ∧ as = true then up = 1 ∧ dn = 1 else (sU = 0 ∨ up = K - k - aN as) ∧ dn = if B - (k + w) ≤ aN as then 1 else B - (k + w) - aN as) := by
    by_cases hfv : x0 = fav ∧ as = true
    · rw [if_pos hfv] at v15
      exact ⟨1, 1, by omega, by omega, by omega, v15.2.1, by rw [v15.2.2.1, Nat.mul_one], by rw [if_pos hfv]; exact ⟨rfl, rfl⟩⟩
    · rw [if_neg hfv] at v15
      refine ⟨K - k - aN as, if B - (k + w) ≤ aN as then 1 else B - (k + w) - aN as, ?_, ?_, by omega, v15.2.1, v15.2.2.1, by rw [if_neg hfv]; exact ⟨Or.inr rfl, rfl⟩⟩
      · by_cases e : B - (k + w) ≤ aN as
        · rw [if_pos e]; omega
        · rw [if_neg e]; omega
      · by_cases e : B - (k + w) ≤ aN as
        · rw [if_pos e]; omega
        · rw [if_neg e]; omega
  obtain ⟨up, dn, u1, u2, u3, u4, u5, u6⟩ := hsh
  have hsD'p : 0 < sD' := by rw [u5]; exact Nat.mul_pos p2 u1
  -- closed forms behind the draw
  have hB2 : 100 * rd hU' hD' * rd sU' sD' ≤ 43000000 ∧ hU' ≤ hD' ∧ sU' ≤ sD' := by
    by_cases e : k = K
    · -- no black bean is left
      have z1 : hU' = 0 := by rw [v13, e, Nat.sub_self, Nat.mul_zero]
      have z2 : sU' = 0 := by
        rw [u4]
        rcases Nat.eq_zero_or_pos sU with g | g
        · rw [g, Nat.zero_mul]
        · by_cases hfv : x0 = fav ∧ as = true
          · rcases hb.sh with g0 | ⟨-, g2, -⟩ | ⟨g1, -⟩
            · omega
            · omega
            · rw [hfv.2] at g1; cases g1
          · rw [if_neg hfv] at u6
            rw [u6.1.resolve_left (by omega), e, Nat.sub_self, Nat.zero_sub, Nat.mul_zero]
      rw [z1, z2, rd_0 hD'p, rd_0 hsD'p]
      exact ⟨by omega, Nat.zero_le _, Nat.zero_le _⟩
    · refine helm_bound (k := k + 1) (w := w) q12 qk1 qk (by omega) qww (by omega) hD'p hsD'p (Or.inr ⟨?_, ?_⟩) ?_
      · rw [v13, hb.eU, ff_s, Nat.mul_right_comm]
      · rw [v14, hb.eD, if_neg (by omega), show k + 1 + w = k + w + 1 by omega, ff_s]
      · rcases hb.sh with g | ⟨g1, g2, g3, g4⟩ | ⟨g1, g2, g3, g4⟩
        · exact Or.inl (by rw [u4, g, Nat.zero_mul])
        · by_cases hfv : x0 = fav ∧ as = true
          · rw [if_pos hfv] at u6
            refine Or.inr (Or.inr ⟨by omega, ?_, ?_⟩)
            · rw [u4, u6.1, Nat.mul_one, g3]; rfl
            · rw [u5, u6.2, Nat.mul_one, g4, show k + 1 + w - 1 = k + w by omega]
          · rw [if_neg hfv, g1] at u6
            obtain ⟨u6a, u6b⟩ := u6
            rcases Nat.eq_zero_or_pos sU with g | g
            · exact Or.inl (by rw [u4, g, Nat.zero_mul])
            · have hup : up = K - k - 1 := u6a.resolve_left (by omega)
              by_cases e2 : k + 1 = K
              · exact Or.inl (by rw [u4, hup, show K - k - 1 = 0 by omega, Nat.mul_zero])
              · refine Or.inr (Or.inl ⟨by omega, ?_, ?_⟩)
                · rw [u4, hup, g3, ff_s, Nat.mul_right_comm, show K - 1 - k = K - k - 1 by omega]
                · rw [u5, u6b, if_neg (show ¬ B - (k + w) ≤ aN true by show ¬ B - (k + w) ≤ 1; omega), g4, show k + 1 + w = k + w + 1 by omega, ff_s]
                  show _ * (B - (k + w) - 1) = _
                  rw [show B - 1 - (k + w) = B - (k + w) - 1 by omega]
        · rw [if_neg (fun hfv => by rw [hfv.2] at g1; cases g1), g1] at u6
          obtain ⟨u6a, u6b⟩ := u6
          rcases Nat.eq_zero_or_pos sU with g | g
          · exact Or.inl (by rw [u4, g, Nat.zero_mul])
          · have hup : up = K - k - 0 := u6a.resolve_left (by omega)
            refine Or.inr (Or.inr ⟨by omega, ?_, ?_⟩)
            · obtain ⟨z, hz⟩ : ∃ z, k = z + 1 := ⟨k - 1, by omega⟩
              rw [u4, hup, g3, hz, show z + 1 + 1 - 1 = z + 1 by omega, show z + 1 - 1 = z by omega, ff_s, Nat.mul_right_comm, show K - 1 - z = K - (z + 1) - 0 by omega]
            · rw [u5, u6b, if_neg (show ¬ B - (k + w) ≤ aN false by show ¬ B - (k + w) ≤ 0; omega), g4]
              obtain ⟨z, hz⟩ : ∃ z, k + w = z + 1 := ⟨k + w - 1, by omega⟩
              rw [show k + 1 + w - 1 = z + 1 by omega, hz, show z + 1 - 1 = z by omega, ff_s]
              show _ * (B - (z + 1) - 0) = _
              rw [show B - 1 - z = B - (z + 1) - 0 by omega]
  obtain ⟨B2, L3, L4⟩ := hB2
  obtain ⟨x', d', G', hG', hd', hdl', hxl', eI', eX', eD'⟩ := either_fr (S := S) hS hD'p hsD'p v1 v2 B2 L3 L4
  rw [eI, eI', divide_fr (a := (fr x' d').1) (b := (fr x' d').2) (c := (fr x d).1) (e := (fr x d).2) hd' hd hdl' hxl' hdl hxl rfl rfl] at hZ
  subst hZ
  have hx0 : x = 0 ↔ S * sU * hD + (100 - S) * hU * sD = 0 := by
    rw [← eX]
    constructor
    · intro g; rw [g, Nat.zero_mul]
    · intro g
      rcases Nat.eq_zero_or_pos x with g2 | g2
      · exact g2
      · exact absurd g (Nat.ne_of_gt (Nat.mul_pos g2 hG))
  by_cases c0 : x = 0
  · exact Or.inl ⟨Or.inl (hx0.mp c0), by rw [if_pos c0]⟩
  · by_cases c1 : k + w = B
    · refine Or.inl ⟨Or.inr c1, ?_⟩
      have z1 : hU' = 0 := by rw [v13, show K - k = 0 by omega, Nat.mul_zero]
      have z2 : sU' = 0 := by
        rw [u4]
        rcases Nat.eq_zero_or_pos sU with g | g
        · rw [g, Nat.zero_mul]
        · by_cases hfv : x0 = fav ∧ as = true
          · rcases hb.sh with g0 | ⟨-, g2, -⟩ | ⟨g1, -⟩
            · omega
            · omega
            · rw [hfv.2] at g1; cases g1
          · rw [if_neg hfv] at u6
            rw [u6.1.resolve_left (by omega), show K - k - aN as = 0 by omega, Nat.mul_zero]
      have hx' : x' = 0 := by
        rw [z1, z2, Nat.mul_zero, Nat.mul_zero, Nat.zero_mul, Nat.zero_mul] at eX'
        rcases Nat.eq_zero_or_pos x' with g2 | g2
        · exact g2
        · exact absurd eX' (Nat.ne_of_gt (Nat.mul_pos g2 hG'))
      rw [if_neg c0, hx', Nat.zero_mul, fr_0]
    · refine Or.inr ⟨fun g => c0 (hx0.mpr g), c1, up, dn, u1, u2, u3, ?_, u6⟩
      rw [if_neg c0]
      have hW0 : 0 < S * sU * hD + (100 - S) * hU * sD := by
        rw [← eX]; exact Nat.mul_pos (by omega) hG
      refine fr_cross (Nat.mul_pos hd' (by omega)) (Nat.mul_pos (Nat.mul_pos hW0 u1) (by omega)) ?_
      rw [v13, v14, if_neg c1, u4, u5] at eX'
      rw [v14, if_neg c1, u5] at eD'
      rw [← eX', ← eX]
      refine Nat.eq_of_mul_eq_mul_right (Nat.mul_pos hG hG') ?_
      have t1 : d' * G' = d * G * (dn * (B - (k + w))) := by
        rw [eD', eD]; simp only [Nat.mul_assoc, Nat.mul_comm, Nat.mul_left_comm]
      calc x' * d * (x * G * dn * (B - (k + w))) * (G * G') = x' * G' * (x * G) * (d * G * (dn * (B - (k + w)))) := by simp only [Nat.mul_assoc, Nat.mul_comm, Nat.mul_left_comm]
        _ = x' * G' * (x * G) * (d' * G') := by rw [← t1]
        _ = x' * G' * (d' * x) * (G * G') := by simp only [Nat.mul_assoc, Nat.mul_comm, Nat.mul_left_comm]
theorem pub_next (hh : hl = 0 ↔ tens = 0) (hM : M ≤ 8) (hr : rr 5 = nI M) (hm : men = nI M) (hz : hl = 0 → M = 0) (hE : HelR rr beans black shaken fav draws drawer wb) : (D_X11_next x0 x1 men draws drawer tens beans u1 l1 u2 l2 bL black kL as_ wb fav shaken u3 l3 u4 l4).1 = (D_X12_next x0 x1 hl rr hU0 hD0 sU0 sD0 bL2 kL2 pL pB iA).1 ∧ (D_X11_next x0 x1 men draws drawer tens beans u1 l1 u2 l2 bL black kL as_ wb fav shaken u3 l3 u4 l4).2.1 = (D_X12_next x0 x1 hl rr hU0 hD0 sU0 sD0 bL2 kL2 pL pB iA).2.2.1 := by
  obtain ⟨w1, w2⟩ := drawer_why (x0 := x0) hh hM hr hm hz hE
  unfold D_X11_next D_X12_next D_X11_next_a1 D_X11_next_a3 D_X11_next_a2 D_X2_nextBlackTo D_X2_nextBlackTo_a5 D_X2_nextBlackTo_a4 D_X2_nextBlackTo_a3 D_X2_nextBlackTo_a2 D_X2_nextBlackTo_a1 D_X12_next_a4 D_X12_next_a3 D_X12_next_j1 D_X12_next_j2 D_X12_next_a2
  rw [w1, refused2]
  by_cases h0 : D_X11_troubleOfDrawer x0 men draws drawer tens beans = 0
  · obtain ⟨h41, mm, m1, m2⟩ := w2 h0
    obtain ⟨B, K, S, k, w, as, hU, hD, sU, sD, c, r, s1, e1, e2, e3, h, g1, g2, g3⟩ := hel_lay hE h41
    have hb := h.hb
    have b1 := hb.hUl
    have b2 := hb.hDl
    have b3 := hb.sUl
    have b4 := hb.sDl
    have q12 := hb.b12
    have qk := hb.kB
    have qkk := hb.kK
    have qww := hb.wW
    have ha1 : aN as ≤ 1 := by cases as <;> decide
    have B3 : S * sU * hD ≤ 100 * 2985984 * 2985984 := Nat.mul_le_mul (Nat.mul_le_mul s1 b3) b2
    have B4 : (100 - S) * hU * sD ≤ 100 * 2985984 * 2985984 := Nat.mul_le_mul (Nat.mul_le_mul (by omega) b1) b4
    rw [if_pos ((refused1 _).mpr h0), if_pos h0, h0, g1, g3, e2]
    dsimp only
    have hSP : D_X12_shakenPart rr r.2.2.1 r.2.1 = lN (S * sU * hD) := by
      unfold D_X12_shakenPart; rw [e1, h.r2, h.r3, nI_l (by omega), lN_mul, lN_mul]
    have hHP : D_X12_honestPart rr r.1 r.2.2.2.1 = lN ((100 - S) * hU * sD) := by
      unfold D_X12_honestPart; rw [e1, h.r1, h.r4, show (100 : Int32) = nI 100 from rfl, nI_sub s1, nI_l (by omega), lN_mul, lN_mul]
    rw [hSP, hHP, lN_add, h.r5, h.r6, h.r9]
    rcases next_val (x0 := x0) h s1 e1 e3 rfl with ⟨hz0, hZ⟩ | ⟨n1, n2, up, dn, d1, d2, d3, hZ, d4⟩
    · have hZ1 := congrArg Prod.fst hZ
      have hZ2 := congrArg Prod.snd hZ
      rw [hZ1, hZ2]
      by_cases hw0 : S * sU * hD + (100 - S) * hU * sD = 0
      · rw [if_pos ((l_c0 (by omega)).mpr hw0), low01]; exact ⟨rfl, rfl⟩
      · rw [if_neg (fun g => hw0 ((l_c0 (by omega)).mp g)), if_pos (show nI (B - (k + w)) = 0 by rw [show B - (k + w) = 0 by have := hz0.resolve_left hw0; omega]; rfl), low01]
        exact ⟨rfl, rfl⟩
    · have hZ1 := congrArg Prod.fst hZ
      have hZ2 := congrArg Prod.snd hZ
      rw [hZ1, hZ2, if_neg (fun g => n1 ((l_c0 (by omega)).mp g)), if_neg (nI_ne0 (by omega) (by omega))]
      dsimp only
      refine ⟨?_, rfl⟩
      -- his own bean
      have hdn : (if (if x0 = rr 44 then if nI (aN as) = 0 then 0 else 1 else 0 : Int32) = 0 then if 1 ≤ r.2.2.2.2.2.2.1 then r.2.2.2.2.2.2.1.toInt64 else 1 else 1 : Int64) = lN dn := by
        by_cases hfv : x0 = fav ∧ as = true
        · rw [if_pos hfv] at d4
          rw [if_pos (show x0 = rr 44 by rw [hfv.1, e3]), hfv.2, if_neg (show ¬ nI (aN true) = 0 by decide), if_neg (show ¬ (1 : Int32) = 0 by decide), d4.2]; rfl
        · rw [if_neg hfv] at d4
          have : (if x0 = rr 44 then if nI (aN as) = 0 then 0 else 1 else 0 : Int32) = 0 := by
            by_cases e : x0 = rr 44
            · have : as = false := by
                cases as with
                | false => rfl
                | true => exact absurd ⟨by rw [e, e3], rfl⟩ hfv
              rw [if_pos e, this, if_pos (show nI (aN false) = 0 from rfl)]
            · rw [if_neg e]
          rw [if_pos this, h.r7, d4.2]
          by_cases e : B - (k + w) ≤ aN as
          · have : ¬ (1 : Int32) ≤ nI (B - (k + w)) - nI (aN as) := by
              rcases (by omega : (B - (k + w) = 0 ∧ aN as = 0) ∨ (B - (k + w) = 0 ∧ aN as = 1) ∨ (B - (k + w) = 1 ∧ aN as = 1)) with ⟨g1, g2⟩ | ⟨g1, g2⟩ | ⟨g1, g2⟩ <;> rw [g1, g2] <;> decide
            rw [if_pos e, if_neg this]; rfl
          · rw [if_neg e, nI_sub (by omega), if_pos (show (1 : Int32) ≤ nI (B - (k + w) - aN as) from nI_le (a := 1) (by omega) (by omega)), nI_l (by omega)]
      have hup : lN (S * sU * hD) * (if (if x0 = rr 44 then if nI (aN as) = 0 then 0 else 1 else 0 : Int32) = 0 then if 1 ≤ r.2.2.2.2.2.2.1 then r.2.2.2.2.2.2.2.1.toInt64 else 0 else 1 : Int64) = lN (S * sU * hD * up) := by
        rcases Nat.eq_zero_or_pos sU with e0 | e0
        · rw [e0, Nat.mul_zero, Nat.zero_mul, Nat.zero_mul, lN_0, Int64.zero_mul]
        · by_cases hfv : x0 = fav ∧ as = true
          · rw [if_pos hfv] at d4
            rw [if_pos (show x0 = rr 44 by rw [hfv.1, e3]), hfv.2, if_neg (show ¬ nI (aN true) = 0 by decide), if_neg (show ¬ (1 : Int32) = 0 by decide), d4.1]
            exact lN_mul _ 1
          · rw [if_neg hfv] at d4
            have hsh : aN as ≤ K - k := by
              rcases hb.sh with g | ⟨g1, g2, -⟩ | ⟨g1, -⟩
              · omega
              · rw [g1]; show 1 ≤ K - k; omega
              · rw [g1]; exact Nat.zero_le _
            have : (if x0 = rr 44 then if nI (aN as) = 0 then 0 else 1 else 0 : Int32) = 0 := by
              by_cases e : x0 = rr 44
              · have : as = false := by
                  cases as with
                  | false => rfl
                  | true => exact absurd ⟨by rw [e, e3], rfl⟩ hfv
                rw [if_pos e, this, if_pos (show nI (aN false) = 0 from rfl)]
              · rw [if_neg e]
            rw [if_pos this, h.r7, h.r8.resolve_left (by omega), d4.1.resolve_left (by omega), nI_sub hsh, nI_sub (show aN as ≤ B - (k + w) by omega), nI_l (by omega)]
            by_cases e : B - (k + w) ≤ aN as
            · rw [if_neg (show ¬ (1 : Int32) ≤ nI (B - (k + w) - aN as) by rw [show B - (k + w) - aN as = 0 by omega]; decide), show K - k - aN as = 0 by omega, Nat.mul_zero, lN_0, Int64.mul_zero]
            · rw [if_pos (show (1 : Int32) ≤ nI (B - (k + w) - aN as) from nI_le (a := 1) (by omega) (by omega)), lN_mul]
      rw [hup, hdn, nI_l (by omega), nI_l (by omega)]
      simp only [lN_mul, lN_add]
      have e1' : S * (sU * up) * (hD * (B - (k + w))) = S * sU * hD * up * (B - (k + w)) := by simp only [Nat.mul_assoc, Nat.mul_comm, Nat.mul_left_comm]
      have e2' : (100 - S) * (hU * (K - k)) * (sD * dn) = (100 - S) * hU * sD * (K - k) * dn := by simp only [Nat.mul_assoc, Nat.mul_comm, Nat.mul_left_comm]
      rw [e1', e2']
      have W1 : S * sU * hD * up * (B - (k + w)) ≤ 100 * 2985984 * 2985984 * 12 * 12 := Nat.mul_le_mul (Nat.mul_le_mul B3 d3) (by omega)
      have W2 : (100 - S) * hU * sD * (K - k) * dn ≤ 100 * 2985984 * 2985984 * 12 * 12 := Nat.mul_le_mul (Nat.mul_le_mul B4 (by omega)) d2
      have W3 : (S * sU * hD + (100 - S) * hU * sD) * dn * (B - (k + w)) ≤ (100 * 2985984 * 2985984 + 100 * 2985984 * 2985984) * 12 * 12 := Nat.mul_le_mul (Nat.mul_le_mul (Nat.add_le_add B3 B4) d2) (by omega)
      rw [lowest_fr (by omega) (by omega) (Nat.mul_pos (Nat.mul_pos (by omega) d1) (by omega))]
  · rw [if_neg (fun g => h0 ((refused1 _).mp g)), if_neg h0]; exact ⟨rfl, rfl⟩
end NEXT
