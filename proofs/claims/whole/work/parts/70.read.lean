/-! THE READER: words, numbers, names read -/
section READ
variable {N p q : Nat} {bytes tape le fresh : Nat → Int32} {so ns wh tk en ft plc fm pm : Int32}
theorem tk_step (hN : N ≤ 1000) (hT : TapR bytes tape) (hR : TokR N bytes p q so ns wh tk en le) (h4 : so ≠ 4) : ∃ p1 q1 so1 ns1 wh1 tk1 en1 le1, p + q ≤ p1 ∧ D_X10_step (nI p) (nI q) (nI N) bytes = (nI p1, nI q1, so1) ∧ D_X12_goOn en (nI N) tape le = (nI p1, ns1, wh1, tk1, en1, le1) ∧ TokR N bytes p1 q1 so1 ns1 wh1 tk1 en1 le1 ∧ G_X10_step (nI p) (nI q) (nI N) bytes ∧ G_X12_goOn en (nI N) tape le := by
  obtain ⟨h, h'⟩ := hR
  have e : en = nI (p + q) := by
    rcases h' with ⟨a, b⟩ | ⟨a, b, c, d⟩ | ⟨a, b, c, d⟩ | ⟨a, b, c, d, _⟩ | ⟨a, b, c, d, _⟩
    · exact absurd a h4
    all_goals exact d
  subst e
  exact step_go hN hT h (nI_add p q)
theorem word_so {w : Nat} (hR : TokR N bytes p q so ns wh tk en le) (h : ¬ D_X12_isWord w 0 tk ns le = 0) : so = 1 := by
  have : tk = 2 := Classical.byContradiction fun c => h (by unfold D_X12_isWord; rw [if_pos rfl, if_neg c])
  obtain ⟨_, h'⟩ := hR
  rcases h' with ⟨a, b⟩ | ⟨a, b, _⟩ | ⟨a, b, _⟩ | ⟨a, b, _⟩ | ⟨a, b, _⟩
  · rw [b] at this; exact absurd this (by decide)
  · rw [b] at this; exact absurd this (by decide)
  · rw [b] at this; exact absurd this (by decide)
  · exact a
  · rw [b] at this; exact absurd this (by decide)
theorem must_eq {w w' : Nat} (hN : N ≤ 1000) (hT : TapR bytes tape) (hR : TokR N bytes p q so ns wh tk en le) (hw : am_strs.getD w [] = am_strs.getD w' []) (h47 : w' < 47) : ((∃ p1 q1 so1 ns1 wh1 tk1 en1 le1, p + q ≤ p1 ∧ D_X8_readWord w so (nI q) (nI p) (nI N) bytes fm pm = (1, fm, pm, nI p1, nI q1, so1) ∧ D_X12_must w' 0 tk ns le en (nI N) tape (nI p) wh ft plc = (nI p1, ns1, wh1, tk1, en1, le1, 0, ft, plc) ∧ TokR N bytes p1 q1 so1 ns1 wh1 tk1 en1 le1) ∨ (D_X8_readWord w so (nI q) (nI p) (nI N) bytes fm pm = (0, 1, nI p, nI p, nI q, so) ∧ D_X12_must w' 0 tk ns le en (nI N) tape (nI p) wh ft plc = (nI p, ns, wh, tk, en, le, 1, 1, nI p))) ∧ G_X8_readWord w so (nI q) (nI p) (nI N) bytes ∧ G_X12_must w' 0 tk ns le en (nI N) tape := by
  obtain ⟨e1, e2, e3, e4⟩ := isWord_eq hN hR hw h47
  unfold D_X8_readWord D_X12_must D_X12_must_j1 D_X12_must_a2 D_X12_must_a1 D_X12_takesWord G_X8_readWord G_X12_must G_X12_takesWord D_X8_readWord_a1 D_X8_readWord_a2 D_X12_takesWord_a1 D_X8_fail
  rw [e1]
  by_cases c : D_X12_isWord w' 0 tk ns le = 0
  · rw [if_pos c, if_pos c, if_pos rfl]
    dsimp only
    rw [if_pos rfl, bad_0]
    exact ⟨Or.inr ⟨rfl, rfl⟩, ⟨e3, fun h => absurd c h⟩, fun _ => ⟨e4, fun h => absurd c h⟩⟩
  · obtain ⟨p1, q1, so1, ns1, wh1, tk1, en1, le1, l1, s1, s2, s3, s4, s5⟩ := tk_step hN hT hR (by rw [word_so hR c]; decide)
    rw [if_neg c, if_neg c, if_pos rfl, s1, s2]
    dsimp only
    rw [if_neg (by decide)]
    exact ⟨Or.inl ⟨p1, q1, so1, ns1, wh1, tk1, en1, le1, l1, rfl, rfl, s3⟩, ⟨e3, fun _ => s4⟩, fun _ => ⟨e4, fun _ => s5⟩⟩
theorem must_f {w : Nat} {sz : Int32} {a1 : Int32} : D_X12_must w 1 tk ns le en sz tape a1 wh ft plc = (a1, ns, wh, tk, en, le, 1, ft, plc) := by
  unfold D_X12_must D_X12_must_j1
  rw [if_neg (by decide)]
theorem G_must_f {w : Nat} {sz : Int32} : G_X12_must w 1 tk ns le en sz tape := fun h => absurd h (by decide)
theorem number_eq {lo hi : Int32} (hN : N ≤ 1000) (hT : TapR bytes tape) (hR : TokR N bytes p q so ns wh tk en le) : ((∃ w, ∃ p1 q1 so1 ns1 wh1 tk1 en1 le1, w < 1000 ∧ lo ≤ nI w ∧ nI w ≤ hi ∧ p + q ≤ p1 ∧ D_X8_readWhole lo hi so (nI q) (nI p) (nI N) bytes fm pm = (nI w, fm, pm, nI p1, nI q1, so1) ∧ D_X12_number lo hi 0 tk wh (nI p) ft plc en (nI N) tape ns le = (nI w, 0, ft, plc, nI p1, ns1, wh1, tk1, en1, le1) ∧ TokR N bytes p1 q1 so1 ns1 wh1 tk1 en1 le1) ∨ (∃ n, D_X8_readWhole lo hi so (nI q) (nI p) (nI N) bytes fm pm = (-1, n, nI p, nI p, nI q, so) ∧ D_X12_number lo hi 0 tk wh (nI p) ft plc en (nI N) tape ns le = (lo, 1, n, nI p, nI p, ns, wh, tk, en, le))) ∧ G_X8_readWhole lo hi so (nI q) (nI p) (nI N) bytes ∧ G_X12_number lo hi 0 tk wh (nI p) ft plc en (nI N) tape le := by
  unfold D_X8_readWhole D_X12_number D_X12_number_j1 D_X12_number_a1 D_X12_number_a2 D_X12_number_a3 D_X8_readWhole_a1 D_X8_readWhole_a2 D_X8_readWhole_a3 D_X8_readWhole_a4 D_X8_fail G_X8_readWhole G_X12_number D_X12_number_j1 D_X12_number_a1 D_X12_number_a2
  rw [bad_0, bad_0, if_pos rfl]
  by_cases c : so = 2
  · obtain ⟨p1, q1, so1, ns1, wh1, tk1, en1, le1, l1, s1, s2, s3, s4, s5⟩ := tk_step hN hT hR (by rw [c]; decide)
    have hh := hR
    obtain ⟨_, h'⟩ := hh
    obtain ⟨_, b, _, d, _, ⟨w, w1, w2⟩, v1, v2⟩ : so = 2 ∧ tk = 3 ∧ 1 ≤ q ∧ en = nI (p + q) ∧ q ≤ 3 ∧ (∃ w, w < 1000 ∧ wh = nI w) ∧ D_X10_value (nI q) (nI p) (nI N) bytes = wh ∧ G_X10_value (nI q) (nI p) (nI N) bytes := by
      rcases h' with ⟨a, b⟩ | ⟨a, b, _⟩ | ⟨a, b, _⟩ | ⟨a, b, _⟩ | h
      · rw [a] at c; exact absurd c (by decide)
      · rw [a] at c; exact absurd c (by decide)
      · rw [a] at c; exact absurd c (by decide)
      · rw [a] at c; exact absurd c (by decide)
      · exact h
    rw [if_pos c, if_pos b, v1, s1, s2, w2]
    unfold D_X12_in
    by_cases c1 : nI w < lo
    · rw [if_pos c1, if_pos c1, if_pos rfl]
      dsimp only
      rw [if_neg (by decide)]
      exact ⟨Or.inr ⟨4, by rw [c]; exact ⟨rfl, rfl⟩⟩, ⟨fun _ => v2, fun _ h => absurd c1 h⟩, fun _ h => absurd h (by decide)⟩
    · rw [if_neg c1, if_neg c1]
      by_cases c2 : nI w ≤ hi
      · have c3 : ¬ hi < nI w := fun h => by
          have := Int32.lt_iff_toInt_lt.mp h
          have := Int32.le_iff_toInt_le.mp c2
          omega
        have c4 : lo ≤ nI w := by
          rw [Int32.le_iff_toInt_le]
          have : ¬ (nI w).toInt < lo.toInt := fun h => c1 (Int32.lt_iff_toInt_lt.mpr h)
          omega
        rw [if_pos c2, if_neg c3, if_neg (show ¬ (1 : Int32) = 0 by decide), if_pos rfl]
        exact ⟨Or.inl ⟨w, p1, q1, so1, ns1, wh1, tk1, en1, le1, w1, c4, c2, l1, rfl, rfl, s3⟩, ⟨fun _ => v2, fun _ _ _ => s4⟩, fun _ _ => s5⟩
      · have c3 : hi < nI w := by
          rw [Int32.lt_iff_toInt_lt]
          have : ¬ (nI w).toInt ≤ hi.toInt := fun h => c2 (Int32.le_iff_toInt_le.mpr h)
          omega
        rw [if_neg c2, if_pos c3, if_pos rfl]
        dsimp only
        rw [if_neg (by decide)]
        exact ⟨Or.inr ⟨4, by rw [c]; exact ⟨rfl, rfl⟩⟩, ⟨fun _ => v2, fun _ _ h => absurd h c2⟩, fun _ h => absurd h (by decide)⟩
  · have b : ¬ tk = 3 := fun h => by
      obtain ⟨_, h'⟩ := hR
      rcases h' with ⟨a, b⟩ | ⟨a, b, _⟩ | ⟨a, b, _⟩ | ⟨a, b, _⟩ | ⟨a, b, _⟩
      · rw [b] at h; exact absurd h (by decide)
      · rw [b] at h; exact absurd h (by decide)
      · rw [b] at h; exact absurd h (by decide)
      · rw [b] at h; exact absurd h (by decide)
      · exact c a
    rw [if_neg c, if_neg b]
    dsimp only
    rw [if_neg (by decide)]
    exact ⟨Or.inr ⟨1, rfl, rfl⟩, ⟨fun h => absurd h c, fun h => absurd h c⟩, fun _ h => absurd h (by decide)⟩
theorem number_f {lo hi sz a1 : Int32} : D_X12_number lo hi 1 tk wh a1 ft plc en sz tape ns le = (lo, 1, ft, plc, a1, ns, wh, tk, en, le) := by
  unfold D_X12_number
  rw [if_neg (by decide)]
theorem G_number_f {lo hi sz a1 : Int32} : G_X12_number lo hi 1 tk wh a1 ft plc en sz tape le := fun h => absurd h (by decide)
theorem after_eq {w w' : Nat} {lo hi : Int32} (hN : N ≤ 1000) (hT : TapR bytes tape) (hR : TokR N bytes p q so ns wh tk en le) (hw : am_strs.getD w [] = am_strs.getD w' []) (h47 : w' < 47) : ((∃ v, ∃ p1 q1 so1 ns1 wh1 tk1 en1 le1, v < 1000 ∧ lo ≤ nI v ∧ nI v ≤ hi ∧ p + q ≤ p1 ∧ D_X8_readNamed w lo hi so (nI q) (nI p) (nI N) bytes fm pm = (nI v, fm, pm, nI p1, nI q1, so1) ∧ D_X12_after w' lo hi 0 tk ns le en (nI N) tape (nI p) wh ft plc = (nI v, nI p1, ns1, wh1, tk1, en1, le1, 0, ft, plc) ∧ TokR N bytes p1 q1 so1 ns1 wh1 tk1 en1 le1) ∨ (∃ n x pl ln s a1 b1 c1 d1 e1 f1, D_X8_readNamed w lo hi so (nI q) (nI p) (nI N) bytes fm pm = (-1, n, x, pl, ln, s) ∧ D_X12_after w' lo hi 0 tk ns le en (nI N) tape (nI p) wh ft plc = (lo, a1, b1, c1, d1, e1, f1, 1, n, x))) ∧ G_X8_readNamed w lo hi so (nI q) (nI p) (nI N) bytes fm pm ∧ G_X12_after w' lo hi 0 tk ns le en (nI N) tape (nI p) wh ft plc := by
  unfold D_X8_readNamed D_X8_readNamed_j1 D_X8_readNamed_a2 D_X8_readNamed_a1 D_X12_after D_X12_after_a2 D_X12_after_a1 G_X8_readNamed D_X8_readNamed_a1 G_X12_after D_X12_after_a1
  obtain ⟨h | h, g1, g2⟩ := must_eq (fm := fm) (pm := pm) (ft := ft) (plc := plc) hN hT hR hw h47
  · obtain ⟨p1, q1, so1, ns1, wh1, tk1, en1, le1, l1, e1, e2, hR1⟩ := h
    rw [e1, e2]
    dsimp only
    rw [if_neg (by decide)]
    obtain ⟨h | h, g3, g4⟩ := number_eq (lo := lo) (hi := hi) (fm := fm) (pm := pm) (ft := ft) (plc := plc) hN hT hR1
    · obtain ⟨v, p2, q2, so2, ns2, wh2, tk2, en2, le2, v1, v2, v3, l2, e3, e4, hR2⟩ := h
      rw [e3, e4]
      exact ⟨Or.inl ⟨v, p2, q2, so2, ns2, wh2, tk2, en2, le2, v1, v2, v3, by omega, rfl, rfl, hR2⟩, ⟨g1, fun _ => g3⟩, g2, g4⟩
    · obtain ⟨n, e3, e4⟩ := h
      rw [e3, e4]
      exact ⟨Or.inr ⟨n, nI p1, nI p1, nI q1, so1, nI p1, ns1, wh1, tk1, en1, le1, rfl, rfl⟩, ⟨g1, fun _ => g3⟩, g2, g4⟩
  · obtain ⟨e1, e2⟩ := h
    rw [e1, e2]
    dsimp only
    rw [if_pos rfl, number_f]
    exact ⟨Or.inr ⟨1, nI p, nI p, nI q, so, nI p, ns, wh, tk, en, le, rfl, rfl⟩, ⟨g1, fun h => absurd rfl h⟩, g2, G_number_f⟩
theorem after_f {w : Nat} {lo hi sz a1 : Int32} : D_X12_after w lo hi 1 tk ns le en sz tape a1 wh ft plc = (lo, a1, ns, wh, tk, en, le, 1, ft, plc) := by
  unfold D_X12_after D_X12_after_a2 D_X12_after_a1
  rw [must_f]
  dsimp only
  rw [number_f]
theorem G_after_f {w : Nat} {lo hi sz a1 : Int32} : G_X12_after w lo hi 1 tk ns le en sz tape a1 wh ft plc := by
  unfold G_X12_after D_X12_after_a1
  rw [must_f]
  exact ⟨G_must_f, G_number_f⟩
end READ
