/-! THE READER: lines, legion and ten -/
theorem leN {a b : Nat} (ha : a < 2 ^ 31) (hb : b < 2 ^ 31) (h : nI a ≤ nI b) : a ≤ b := by
  have := Int32.le_iff_toInt_le.mp h
  rw [nI_toInt ha, nI_toInt hb] at this
  omega
theorem nm1 {t : Nat} (ht : t < 2 ^ 31) : ¬ nI t = -1 := fun e => by
  have := congrArg Int32.toInt e
  rw [nI_toInt ht] at this
  have e1 : (-1 : Int32).toInt = -1 := rfl
  omega
def lgF (a b c d : Nat) (fresh : Nat → Int32) : Nat → Int32 := va_up (va_up (va_up (va_up fresh 0 (nI a)) 2 (nI c)) 3 (nI d)) 1 (nI b)
section LINES
variable {N p q p1 q1 T M : Nat} {bytes tape le le1 fresh : Nat → Int32} {so ns wh tk en so1 ns1 wh1 tk1 en1 ft plc fm pm : Int32} {tn mn : Nat → Int64}
theorem line_legion {o1 o2 o3 : Int32} (hN : N ≤ 1000) (hT : TapR bytes tape) (hR1 : TokR N bytes p1 q1 so1 ns1 wh1 tk1 en1 le1) (hs : D_X12_goOn en (nI N) tape le = (nI p1, ns1, wh1, tk1, en1, le1)) (gs : G_X12_goOn en (nI N) tape le) (h1 : fresh 1 = 0) : ((∃ a b c d, ∃ p2 q2 so2 ns2 wh2 tk2 en2 le2, a ≤ 8 ∧ 2 ≤ b ∧ b ≤ 6 ∧ c ≤ 4 ∧ 1 ≤ d ∧ d ≤ 30 ∧ p1 + q1 ≤ p2 ∧ D_X8_readLegion so1 (nI q1) (nI p1) (nI N) bytes fm pm o1 o2 o3 = (1, 1, fm, pm, nI p2, nI q2, so2, nI a, nI b, nI c, nI d) ∧ D_X12_legionLine fresh (nI p) 0 ft plc en (nI N) tape ns wh tk le = (0, ft, plc, nI p2, ns2, wh2, tk2, en2, le2, lgF a b c d fresh) ∧ TokR N bytes p2 q2 so2 ns2 wh2 tk2 en2 le2) ∨ (∃ n x Y Z, D_X8_readLegion so1 (nI q1) (nI p1) (nI N) bytes fm pm o1 o2 o3 = Y ∧ Y.1 = 0 ∧ Y.2.2.1 = n ∧ Y.2.2.2.1 = x ∧ D_X12_legionLine fresh (nI p) 0 ft plc en (nI N) tape ns wh tk le = Z ∧ Z.1 = 1 ∧ Z.2.1 = n ∧ Z.2.2.1 = x)) ∧ G_X8_readLegion so1 (nI q1) (nI p1) (nI N) bytes fm pm ∧ G_X12_legionLine fresh (nI p) 0 ft plc en (nI N) tape le := by
  have j1 : D_X12_legionLine_j1 fresh (nI p) 0 ft plc = (0, ft, plc) := by
    unfold D_X12_legionLine_j1; rw [h1, if_pos (by decide)]
  have b2 : D_X12_legionLine_a2 en (nI N) tape le = (nI p1, ns1, wh1, tk1, en1, le1) := hs
  unfold D_X8_readLegion D_X12_legionLine D_X12_legionLine_j2 D_X12_legionLine_a9 D_X12_legionLine_a8 D_X12_legionLine_a6 G_X8_readLegion G_X12_legionLine
  rw [j1, b2]
  obtain ⟨⟨a, p2, q2, so2, ns2, wh2, tk2, en2, le2, va, la, ha, l2, e1, e2, hR2⟩ | ⟨n, x, pl, ln, s, u1, u2, u3, u4, u5, u6, e1, e2⟩, g1, g2⟩ := after_eq (w := 8) (w' := 25) (lo := 0) (hi := 8) (fm := fm) (pm := pm) (ft := ft) (plc := plc) hN hT hR1 rfl (by decide)
  case inr =>
    have a1 : D_X8_readLegion_a1 so1 (nI q1) (nI p1) (nI N) bytes fm pm = (-1, n, x, pl, ln, s) := e1
    have b3 : D_X12_legionLine_a3 fresh (nI p) 0 ft plc en (nI N) tape le = (0, u1, u2, u3, u4, u5, u6, 1, n, x) := by
      unfold D_X12_legionLine_a3; rw [j1, b2]; exact e2
    have b4 : D_X12_legionLine_a4 fresh (nI p) 0 ft plc en (nI N) tape le = (2, u1, u2, u3, u4, u5, u6, 1, n, x) := by
      unfold D_X12_legionLine_a4; rw [b3]; exact after_f
    have b5 : D_X12_legionLine_a5 fresh (nI p) 0 ft plc en (nI N) tape le = (0, u1, u2, u3, u4, u5, u6, 1, n, x) := by
      unfold D_X12_legionLine_a5; rw [b4]; exact after_f
    have b7 : D_X12_legionLine_a7 fresh (nI p) 0 ft plc en (nI N) tape le = (1, u1, u2, u3, u4, u5, u6, 1, n, x) := by
      unfold D_X12_legionLine_a7; rw [b5]; exact after_f
    rw [a1, b7, b3, b4, b5]
    dsimp only
    rw [if_pos rfl, if_pos rfl]
    exact ⟨Or.inr ⟨n, x, _, _, rfl, rfl, rfl, rfl, rfl, rfl, rfl, rfl⟩, ⟨g1, fun h => absurd rfl h, fun h => absurd rfl h, fun h => absurd rfl h⟩, fun _ => gs, fun _ => g2, fun _ => G_after_f, fun _ => G_after_f, fun _ => G_after_f⟩
  have a1 : D_X8_readLegion_a1 so1 (nI q1) (nI p1) (nI N) bytes fm pm = (nI a, fm, pm, nI p2, nI q2, so2) := e1
  have b3 : D_X12_legionLine_a3 fresh (nI p) 0 ft plc en (nI N) tape le = (nI a, nI p2, ns2, wh2, tk2, en2, le2, 0, ft, plc) := by
    unfold D_X12_legionLine_a3; rw [j1, b2]; exact e2
  rw [a1, b3]
  obtain ⟨⟨b, p3, q3, so3, ns3, wh3, tk3, en3, le3, vb, lb, hb, l3, e3, e4, hR3⟩ | ⟨n, x, pl, ln, s, u1, u2, u3, u4, u5, u6, e3, e4⟩, g3, g4⟩ := after_eq (w := 9) (w' := 26) (lo := 2) (hi := 6) (fm := fm) (pm := pm) (ft := ft) (plc := plc) hN hT hR2 rfl (by decide)
  case inr =>
    have a2 : D_X8_readLegion_a2 so1 (nI q1) (nI p1) (nI N) bytes fm pm = (-1, n, x, pl, ln, s) := by unfold D_X8_readLegion_a2; rw [a1]; exact e3
    have b4 : D_X12_legionLine_a4 fresh (nI p) 0 ft plc en (nI N) tape le = (2, u1, u2, u3, u4, u5, u6, 1, n, x) := by
      unfold D_X12_legionLine_a4; rw [b3]; exact e4
    have b5 : D_X12_legionLine_a5 fresh (nI p) 0 ft plc en (nI N) tape le = (0, u1, u2, u3, u4, u5, u6, 1, n, x) := by
      unfold D_X12_legionLine_a5; rw [b4]; exact after_f
    have b7 : D_X12_legionLine_a7 fresh (nI p) 0 ft plc en (nI N) tape le = (1, u1, u2, u3, u4, u5, u6, 1, n, x) := by
      unfold D_X12_legionLine_a7; rw [b5]; exact after_f
    rw [a2, b7, b4, b5]
    dsimp only
    rw [if_neg (nm1 (by omega)), if_pos rfl, if_pos rfl]
    exact ⟨Or.inr ⟨n, x, _, _, rfl, rfl, rfl, rfl, rfl, rfl, rfl, rfl⟩, ⟨g1, fun _ => g3, fun _ h => absurd rfl h, fun _ h => absurd rfl h⟩, fun _ => gs, fun _ => g2, fun _ => g4, fun _ => G_after_f, fun _ => G_after_f⟩
  have a2 : D_X8_readLegion_a2 so1 (nI q1) (nI p1) (nI N) bytes fm pm = (nI b, fm, pm, nI p3, nI q3, so3) := by unfold D_X8_readLegion_a2; rw [a1]; exact e3
  have b4 : D_X12_legionLine_a4 fresh (nI p) 0 ft plc en (nI N) tape le = (nI b, nI p3, ns3, wh3, tk3, en3, le3, 0, ft, plc) := by
    unfold D_X12_legionLine_a4; rw [b3]; exact e4
  rw [a2, b4]
  obtain ⟨⟨c, p4, q4, so4, ns4, wh4, tk4, en4, le4, vc, lc, hc, l4, e5, e6, hR4⟩ | ⟨n, x, pl, ln, s, u1, u2, u3, u4, u5, u6, e5, e6⟩, g5, g6⟩ := after_eq (w := 10) (w' := 27) (lo := 0) (hi := 4) (fm := fm) (pm := pm) (ft := ft) (plc := plc) hN hT hR3 rfl (by decide)
  case inr =>
    have a3 : D_X8_readLegion_a3 so1 (nI q1) (nI p1) (nI N) bytes fm pm = (-1, n, x, pl, ln, s) := by unfold D_X8_readLegion_a3; rw [a2]; exact e5
    have b5 : D_X12_legionLine_a5 fresh (nI p) 0 ft plc en (nI N) tape le = (0, u1, u2, u3, u4, u5, u6, 1, n, x) := by
      unfold D_X12_legionLine_a5; rw [b4]; exact e6
    have b7 : D_X12_legionLine_a7 fresh (nI p) 0 ft plc en (nI N) tape le = (1, u1, u2, u3, u4, u5, u6, 1, n, x) := by
      unfold D_X12_legionLine_a7; rw [b5]; exact after_f
    rw [a3, b7, b5]
    dsimp only
    rw [if_neg (nm1 (by omega)), if_neg (nm1 (by omega)), if_pos rfl, if_pos rfl]
    exact ⟨Or.inr ⟨n, x, _, _, rfl, rfl, rfl, rfl, rfl, rfl, rfl, rfl⟩, ⟨g1, fun _ => g3, fun _ _ => g5, fun _ _ h => absurd rfl h⟩, fun _ => gs, fun _ => g2, fun _ => g4, fun _ => g6, fun _ => G_after_f⟩
  have a3 : D_X8_readLegion_a3 so1 (nI q1) (nI p1) (nI N) bytes fm pm = (nI c, fm, pm, nI p4, nI q4, so4) := by unfold D_X8_readLegion_a3; rw [a2]; exact e5
  have b5 : D_X12_legionLine_a5 fresh (nI p) 0 ft plc en (nI N) tape le = (nI c, nI p4, ns4, wh4, tk4, en4, le4, 0, ft, plc) := by
    unfold D_X12_legionLine_a5; rw [b4]; exact e6
  rw [a3, b5]
  obtain ⟨⟨d, p5, q5, so5, ns5, wh5, tk5, en5, le5, vd, ld, hd, l5, e7, e8, hR5⟩ | ⟨n, x, pl, ln, s, u1, u2, u3, u4, u5, u6, e7, e8⟩, g7, g8⟩ := after_eq (w := 11) (w' := 28) (lo := 1) (hi := 30) (fm := fm) (pm := pm) (ft := ft) (plc := plc) hN hT hR4 rfl (by decide)
  case inr =>
    have a4 : D_X8_readLegion_a4 so1 (nI q1) (nI p1) (nI N) bytes fm pm = (-1, n, x, pl, ln, s) := by unfold D_X8_readLegion_a4; rw [a3]; exact e7
    have b7 : D_X12_legionLine_a7 fresh (nI p) 0 ft plc en (nI N) tape le = (1, u1, u2, u3, u4, u5, u6, 1, n, x) := by
      unfold D_X12_legionLine_a7; rw [b5]; exact e8
    rw [a4, b7]
    dsimp only
    rw [if_neg (nm1 (by omega)), if_neg (nm1 (by omega)), if_neg (nm1 (by omega)), if_pos rfl, if_pos rfl]
    exact ⟨Or.inr ⟨n, x, _, _, rfl, rfl, rfl, rfl, rfl, rfl, rfl, rfl⟩, ⟨g1, fun _ => g3, fun _ _ => g5, fun _ _ _ => g7⟩, fun _ => gs, fun _ => g2, fun _ => g4, fun _ => g6, fun _ => g8⟩
  have a4 : D_X8_readLegion_a4 so1 (nI q1) (nI p1) (nI N) bytes fm pm = (nI d, fm, pm, nI p5, nI q5, so5) := by unfold D_X8_readLegion_a4; rw [a3]; exact e7
  have b7 : D_X12_legionLine_a7 fresh (nI p) 0 ft plc en (nI N) tape le = (nI d, nI p5, ns5, wh5, tk5, en5, le5, 0, ft, plc) := by
    unfold D_X12_legionLine_a7; rw [b5]; exact e8
  rw [a4, b7]
  dsimp only
  rw [if_neg (nm1 (by omega)), if_neg (nm1 (by omega)), if_neg (nm1 (by omega)), if_neg (nm1 (by omega)), if_pos rfl]
  exact ⟨Or.inl ⟨a, b, c, d, p5, q5, so5, ns5, wh5, tk5, en5, le5, leN (b := 8) (by omega) (by decide) ha, leN (a := 2) (by decide) (by omega) lb, leN (b := 6) (by omega) (by decide) hb, leN (b := 4) (by omega) (by decide) hc, leN (a := 1) (by decide) (by omega) ld, leN (b := 30) (by omega) (by decide) hd, by omega, rfl, rfl, hR5⟩, ⟨g1, fun _ => g3, fun _ _ => g5, fun _ _ _ => g7⟩, fun _ => gs, fun _ => g2, fun _ => g4, fun _ => g6, fun _ => g8⟩
theorem line_ten (hN : N ≤ 1000) (hT : TapR bytes tape) (hR1 : TokR N bytes p1 q1 so1 ns1 wh1 tk1 en1 le1) (hs : D_X12_goOn en (nI N) tape le = (nI p1, ns1, wh1, tk1, en1, le1)) (gs : G_X12_goOn en (nI N) tape le) (hM : NamR T M tn mn fresh) (h3 : T < 3) (h4 : fresh 4 = nI T) : ((∃ p2 q2 so2 ns2 wh2 tk2 en2 le2, p1 + q1 ≤ p2 ∧ 1 ≤ q1 ∧ q1 ≤ 8 ∧ NamR (T + 1) M (va_up tn T (cdN q1 le1)) mn (va_up (nwF T q1 le1 fresh) 4 (nI (T + 1))) ∧ D_X8_readTen so1 (nI q1) (nI p1) (nI N) bytes (nI T) tn (nI M) mn fm pm = (1, fm, pm, va_up tn T (cdN q1 le1), nI (T + 1), nI p2, nI q2, so2) ∧ D_X12_tenLine 0 en (nI N) tape (nI p) ns wh tk le fresh ft plc = (nI p2, ns2, wh2, tk2, en2, le2, 0, ft, plc, va_up (nwF T q1 le1 fresh) 4 (nI (T + 1))) ∧ TokR N bytes p2 q2 so2 ns2 wh2 tk2 en2 le2) ∨ (∃ n x Y Z, D_X8_readTen so1 (nI q1) (nI p1) (nI N) bytes (nI T) tn (nI M) mn fm pm = Y ∧ Y.1 = 0 ∧ Y.2.1 = n ∧ Y.2.2.1 = x ∧ D_X12_tenLine 0 en (nI N) tape (nI p) ns wh tk le fresh ft plc = Z ∧ Z.2.2.2.2.2.2.1 = 1 ∧ Z.2.2.2.2.2.2.2.1 = n ∧ Z.2.2.2.2.2.2.2.2.1 = x)) ∧ G_X8_readTen so1 (nI q1) (nI p1) (nI N) bytes (nI T) tn (nI M) mn fm pm ∧ G_X12_tenLine 0 en (nI N) tape le fresh ft plc := by
  have b1 : D_X12_tenLine_a1 en (nI N) tape le = (nI p1, ns1, wh1, tk1, en1, le1) := hs
  have c4 : (fresh 4).toNatClampNeg = T := by rw [h4, nI_clamp (by omega)]
  unfold D_X8_readTen D_X8_readTen_j1 D_X8_readTen_a2 D_X12_tenLine D_X12_tenLine_j1 D_X12_tenLine_a3 G_X8_readTen G_X12_tenLine
  rw [b1, c4]
  obtain ⟨⟨p2, q2, so2, ns2, wh2, tk2, en2, le2, l2, q1a, q1b, hl, ht, hm, e0, g0, e1, e2, g1, e3, hR2⟩ | ⟨n, e1, e3⟩, g2, g3⟩ := fresh_eq (n0 := T) (fm := fm) (pm := pm) (ft := ft) (plc := plc) (by omega) hN hT hR1 hM
  · have a1 : D_X8_readTen_a1 so1 (nI q1) (nI p1) (nI N) bytes (nI T) tn (nI M) mn fm pm = (1, fm, pm) := e1
    have b2 : D_X12_tenLine_a2 0 en (nI N) tape le fresh ft plc = (0, ft, plc, nwF T q1 le1 fresh, nI p2, ns2, wh2, tk2, en2, le2) := by
      unfold D_X12_tenLine_a2; rw [b1, c4]; exact e3
    have f4 : nwF T q1 le1 fresh 4 = nI T := by rw [nwF_o (by omega) (by omega), h4]
    have h3' : ¬ (3 : Int32) ≤ nI T := nI_ge (b := 3) h3 (by decide)
    rw [a1, b2]
    dsimp only
    rw [if_neg (by decide), if_neg h3', if_pos rfl, if_pos rfl, e2, e0, f4, nI_1, nI_clamp (by omega)]
    refine ⟨Or.inl ⟨p2, q2, so2, ns2, wh2, tk2, en2, le2, l2, q1a, q1b, NamR_congr (NamR_ten hM h3 q1a q1b hl hm) (fun i hi => va_up_ne _ _ (by omega)), rfl, rfl, hR2⟩, ⟨g2, fun _ _ => g0, fun _ _ => nI_pos (by omega), fun _ _ => h3, fun _ => g1⟩, fun _ => gs, fun _ => ?_, fun _ => g3⟩
    rw [h4]; exact nI_pos (by omega)
  · have a1 : D_X8_readTen_a1 so1 (nI q1) (nI p1) (nI N) bytes (nI T) tn (nI M) mn fm pm = (0, n, nI p1) := e1
    have b2 : D_X12_tenLine_a2 0 en (nI N) tape le fresh ft plc = (1, n, nI p1, fresh, nI p1, ns1, wh1, tk1, en1, le1) := by
      unfold D_X12_tenLine_a2; rw [b1, c4]; exact e3
    rw [a1, b2]
    dsimp only
    rw [if_pos rfl, if_pos rfl]
    refine ⟨Or.inr ⟨n, nI p1, _, _, rfl, rfl, rfl, rfl, rfl, rfl, rfl, rfl⟩, ⟨g2, fun h => absurd rfl h, fun h => absurd rfl h, fun h => absurd rfl h, fun h => absurd rfl h⟩, fun _ => gs, fun _ => ?_, fun _ => g3⟩
    rw [h4]; exact nI_pos (by omega)
end LINES
