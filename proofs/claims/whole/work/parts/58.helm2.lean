theorem ff_s (x i : Nat) : ff x (i + 1) = ff x i * (x - i) := rfl
theorem HM_real {B K k w hU hD sU sD : Nat} {as : Bool} {c : Int64 × Int64 × Int64 × Int64 × Int32 × Int32 × Int32} {r : Int64 × Int64 × Int64 × Int64 × Int32 × Int32 × Int32 × Int32 × Int32} (h : HM B K k w as hU hD sU sD c r) {rr : Nat → Int32} {m fav : Int32} (hf : fav = rr 44) (bk : Bool) (hfit : if bk then k < K else w < B - K) (hn : k + w < 6) {C : Int64 × Int64 × Int64 × Int64 × Int32 × Int32 × Int32} {R : Int64 × Int64 × Int32 × Int32 × Int64 × Int64 × Int32 × Int32 × Int32} (hC : D_X2_weighDraw m (nI (aN bk)) c.2.2.2.2.1 c.2.2.2.2.2.1 c.1 c.2.1 c.2.2.2.2.2.2 c.2.2.1 c.2.2.2.1 fav = C) (hR : D_X12_drawsBean m (nI (aN bk)) r.1 r.2.2.2.2.2.1 r.2.2.2.2.1 r.2.1 rr r.2.2.2.2.2.2.2.2 r.2.2.2.2.2.2.2.1 r.2.2.2.2.2.2.1 r.2.2.1 r.2.2.2.1 = R) : ∃ as' hU' hD' sU' sD', HM B K (k + aN bk) (w + aN (!bk)) as' hU' hD' sU' sD' (C.1, C.2.1, C.2.2.1, C.2.2.2.1, C.2.2.2.2.2.1, C.2.2.2.2.2.2, C.2.2.2.2.1) (R.1, R.2.1, R.2.2.2.2.1, R.2.2.2.2.2.1, R.2.2.1, R.2.2.2.1, R.2.2.2.2.2.2.1, R.2.2.2.2.2.2.2.1, R.2.2.2.2.2.2.2.2) := by
  have hb := h.hb
  have hB := hb.b12
  have hkB := hb.kB
  have hkK := hb.kK
  have hwW := hb.wW
  have hk1 := hb.k1
  obtain ⟨hU', hD', sU', sD', as', w1, w2, w3, w4, w5, w6, w7, w8, w9, w10, w11, w12, w13, w14, w15⟩ := weigh h hf bk hC hR
  have hkw : k + aN bk + (w + aN (!bk)) = k + w + 1 := by cases bk <;> show _ = _ <;> simp [aN] <;> omega
  have hlt : k + w < B := by cases bk <;> simp at hfit <;> omega
  have hbl : nI (B - (k + w)) - 1 = nI (B - (k + w + 1)) := by
    obtain ⟨z, hz⟩ : ∃ z, B - (k + w) = z + 1 := ⟨B - (k + w) - 1, by omega⟩
    rw [hz, nI_prd, show B - (k + w + 1) = z by omega]
  have hkl : nI (K - k) - nI (aN bk) = nI (K - (k + aN bk)) := by
    rw [nI_sub (by cases bk <;> simp at hfit <;> simp [aN] <;> omega), Nat.sub_add_eq]
  have eU : hU' = ff K (k + aN bk) * ff (B - K) (w + aN (!bk)) := by
    rw [w13, hb.eU]
    cases bk
    · show ff K k * ff (B - K) w * (B - K - w) = ff K k * ff (B - K) (w + 1)
      rw [ff_s, Nat.mul_assoc]
    · show ff K k * ff (B - K) w * (K - k) = ff K (k + 1) * ff (B - K) w
      rw [ff_s, Nat.mul_right_comm]
  have eD : hD' = ff B (k + aN bk + (w + aN (!bk))) := by
    rw [w14, hb.eD, if_neg (by omega), hkw, ff_s]
  have ha1 : aN as ≤ 1 := by cases as <;> decide
  have hsh : (0 < sD' ∧ sD' ≤ 12 ^ (k + w + 1)) ∧ (sU' = 0 ∨ (as' = true ∧ k + aN bk < K ∧ sU' = ff (K - 1) (k + aN bk) * ff (B - K) (w + aN (!bk)) ∧ sD' = ff (B - 1) (k + aN bk + (w + aN (!bk)))) ∨ (as' = false ∧ 1 ≤ k + aN bk ∧ sU' = ff (K - 1) (k + aN bk - 1) * ff (B - K) (w + aN (!bk)) ∧ sD' = ff (B - 1) (k + aN bk + (w + aN (!bk)) - 1))) ∧ (R.2.2.2.2.2.2.1 = nI (B - (k + w + 1)) - nI (aN as')) ∧ (sU' = 0 ∨ R.2.2.2.2.2.2.2.1 = nI (K - (k + aN bk)) - nI (aN as')) := by
    have hp12 : 12 ^ (k + w + 1) = 12 ^ (k + w) * 12 := Nat.pow_succ 12 (k + w)
    have hsp := hb.sP
    have hsl := hb.sL
    by_cases hfv : m = fav ∧ as = true
    · rw [if_pos hfv] at w15
      obtain ⟨x1, x2, x3, x4, x5⟩ := w15
      obtain ⟨-, has⟩ := hfv
      refine ⟨⟨by rw [x3]; exact hsp, by rw [x3]; omega⟩, ?_, ?_, ?_⟩
      · cases bk with
        | false => exact Or.inl (by rw [x2]; show sU * 0 = 0; exact Nat.mul_zero _)
        | true =>
          rcases hb.sh with g | ⟨g1, g2, g3, g4⟩ | ⟨g1, -⟩
          · exact Or.inl (by rw [x2, g, Nat.zero_mul])
          · refine Or.inr (Or.inr ⟨x1, by show 1 ≤ k + 1; omega, ?_, ?_⟩)
            · rw [x2, g3]; show _ * 1 = ff (K - 1) (k + 1 - 1) * ff (B - K) w; rw [Nat.mul_one]; rfl
            · rw [x3, g4]; show _ = ff (B - 1) (k + 1 + w - 1); rw [show k + 1 + w - 1 = k + w by omega]
          · rw [g1] at has; cases has
      · rw [x4, x1, has]
        show nI (B - (k + w)) - 1 = nI (B - (k + w + 1)) - 0
        rw [hbl, Int32.sub_zero]
      · cases bk with
        | false => exact Or.inl (by rw [x2]; show sU * 0 = 0; exact Nat.mul_zero _)
        | true =>
          rcases x5 with g | g
          · exact Or.inl (by rw [x2, g, Nat.zero_mul])
          · refine Or.inr ?_
            rw [g, x1, has]
            show nI (K - k) - nI (aN true) = nI (K - (k + aN true)) - 0
            rw [hkl, Int32.sub_zero]
    · rw [if_neg hfv] at w15
      obtain ⟨x1, x2, x3, x4, x5⟩ := w15
      have hfac : 1 ≤ (if B - (k + w) ≤ aN as then 1 else B - (k + w) - aN as) ∧ (if B - (k + w) ≤ aN as then 1 else B - (k + w) - aN as) ≤ 12 := by
        by_cases e : B - (k + w) ≤ aN as
        · rw [if_pos e]; omega
        · rw [if_neg e]; omega
      refine ⟨⟨by rw [x3]; exact Nat.mul_pos hsp hfac.1, by rw [x3, hp12]; exact Nat.mul_le_mul hsl hfac.2⟩, ?_, ?_, ?_⟩
      · rcases hb.sh with g | ⟨g1, g2, g3, g4⟩ | ⟨g1, g2, g3, g4⟩
        · exact Or.inl (by rw [x2, g, Nat.zero_mul])
        · rw [g1] at x2 x3
          by_cases e2 : B - (k + w) ≤ 1
          · -- the last bean isn't his
            refine Or.inl ?_
            rw [x2]
            have : (if bk then K - k - aN true else B - K - w) = 0 := by cases bk <;> simp [aN] <;> simp at hfit <;> omega
            rw [this, Nat.mul_zero]
          · by_cases e3 : bk = true ∧ k + 1 = K
            · refine Or.inl ?_
              rw [x2, e3.1]
              show sU * (K - k - 1) = 0
              rw [show K - k - 1 = 0 by omega, Nat.mul_zero]
            · refine Or.inr (Or.inl ⟨by rw [x1, g1], ?_, ?_, ?_⟩)
              · cases bk
                · exact g2
                · show k + 1 < K
                  have : ¬ k + 1 = K := fun e => e3 ⟨rfl, e⟩
                  omega
              · rw [x2, g3]
                cases bk
                · show ff (K - 1) k * ff (B - K) w * (B - K - w) = ff (K - 1) k * ff (B - K) (w + 1)
                  rw [ff_s, Nat.mul_assoc]
                · show ff (K - 1) k * ff (B - K) w * (K - k - 1) = ff (K - 1) (k + 1) * ff (B - K) w
                  rw [ff_s, Nat.mul_right_comm, show K - 1 - k = K - k - 1 by omega]
              · rw [x3, g4, if_neg (show ¬ B - (k + w) ≤ aN true from e2), hkw, ff_s]
                show _ * (B - (k + w) - 1) = _
                rw [show B - 1 - (k + w) = B - (k + w) - 1 by omega]
        · rw [g1] at x2 x3
          refine Or.inr (Or.inr ⟨by rw [x1, g1], by omega, ?_, ?_⟩)
          · rw [x2, g3]
            cases bk
            · show ff (K - 1) (k - 1) * ff (B - K) w * (B - K - w) = ff (K - 1) (k - 1) * ff (B - K) (w + 1)
              rw [ff_s, Nat.mul_assoc]
            · show ff (K - 1) (k - 1) * ff (B - K) w * (K - k) = ff (K - 1) (k + 1 - 1) * ff (B - K) w
              obtain ⟨z, hz⟩ : ∃ z, k = z + 1 := ⟨k - 1, by omega⟩
              rw [hz, show z + 1 + 1 - 1 = z + 1 by omega, show z + 1 - 1 = z by omega, ff_s, Nat.mul_right_comm, show K - 1 - z = K - (z + 1) by omega]
          · rw [x3, g4, if_neg (show ¬ B - (k + w) ≤ aN false by show ¬ B - (k + w) ≤ 0; omega), hkw]
            obtain ⟨z, hz⟩ : ∃ z, k + w = z + 1 := ⟨k + w - 1, by omega⟩
            rw [hz, show z + 1 + 1 - 1 = z + 1 by omega, show z + 1 - 1 = z by omega, ff_s]
            show _ * (B - (z + 1) - 0) = _
            rw [show B - 1 - z = B - (z + 1) - 0 by omega]
      · rw [x4, x1, Int32.sub_sub, Int32.add_comm, ← Int32.sub_sub, hbl]
      · rcases x5 with g | g
        · exact Or.inl (by rw [x2, g, Nat.zero_mul])
        · refine Or.inr ?_
          rw [g, x1, Int32.sub_sub, Int32.add_comm, ← Int32.sub_sub, hkl]
  obtain ⟨⟨s1, s2⟩, s3, s4, s5⟩ := hsh
  refine ⟨as', hU', hD', sU', sD', ⟨⟨hB, hkB, hk1, ?_, ?_, by omega, eU, eD, s1, by rw [hkw]; exact s2, s3⟩, w1, w2, ?_, ?_, w3, w6, w7, w10, w11, ?_, ?_, ?_, s5, w12⟩⟩
  · cases bk <;> simp at hfit <;> simp [aN] <;> omega
  · cases bk <;> simp at hfit <;> simp [aN] <;> omega
  · rw [hkw]; dsimp only; rw [w4, hbl]
  · dsimp only; rw [w5, hkl]
  · rw [hkw]; dsimp only; rw [w8, hbl]
  · dsimp only; rw [w9, hkl]
  · rw [hkw]; exact s4
