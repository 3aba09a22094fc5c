/-! THE READER: the lines helmet and drew -/
section HELML
variable {N p q p1 q1 T M : Nat} {bytes tape le le1 fresh : Nat → Int32} {so ns wh tk en so1 ns1 wh1 tk1 en1 ft plc fm pm : Int32} {tn mn : Nat → Int64}
theorem line_helmet {o1 o2 o3 o4 : Int32} (hN : N ≤ 1000) (hT : TapR bytes tape) (hR1 : TokR N bytes p1 q1 so1 ns1 wh1 tk1 en1 le1) (hs : D_X12_goOn en (nI N) tape le = (nI p1, ns1, wh1, tk1, en1, le1)) (gs : G_X12_goOn en (nI N) tape le) (hM : NamR T M tn mn fresh) (h41 : fresh 41 = 0) : ((∃ B K S m, ∃ p2 q2 so2 ns2 wh2 tk2 en2 le2, B ≤ 12 ∧ 1 ≤ K ∧ K ≤ B ∧ S ≤ 100 ∧ m < M ∧ p1 + q1 ≤ p2 ∧ D_X8_readHelmet so1 (nI q1) (nI p1) (nI N) bytes fm pm (nI M) mn o1 o2 o3 o4 = (1, fm, pm, nI p2, nI q2, so2, nI B, nI K, nI S, nI m) ∧ D_X12_helmetLine fresh (nI p) 0 ft plc en (nI N) tape ns wh tk le = (0, ft, plc, nI p2, ns2, wh2, tk2, en2, le2, hmF B K S m fresh) ∧ TokR N bytes p2 q2 so2 ns2 wh2 tk2 en2 le2) ∨ (∃ n x Y Z, D_X8_readHelmet so1 (nI q1) (nI p1) (nI N) bytes fm pm (nI M) mn o1 o2 o3 o4 = Y ∧ Y.1 = 0 ∧ Y.2.1 = n ∧ Y.2.2.1 = x ∧ D_X12_helmetLine fresh (nI p) 0 ft plc en (nI N) tape ns wh tk le = Z ∧ Z.1 = 1 ∧ Z.2.1 = n ∧ Z.2.2.1 = x)) ∧ G_X8_readHelmet so1 (nI q1) (nI p1) (nI N) bytes fm pm (nI M) mn ∧ G_X12_helmetLine fresh (nI p) 0 ft plc en (nI N) tape le := by
  have h8 := hM.2.1
  have j0 : D_X12_helmetLine_j1 fresh (nI p) 0 ft plc = (0, ft, plc) := by unfold D_X12_helmetLine_j1; rw [h41, if_pos (by decide)]
  have b2 : D_X12_helmetLine_a2 en (nI N) tape le = (nI p1, ns1, wh1, tk1, en1, le1) := hs
  unfold D_X8_readHelmet D_X12_helmetLine D_X12_helmetLine_j2 D_X12_helmetLine_a10 D_X12_helmetLine_a9 G_X8_readHelmet G_X12_helmetLine
  rw [j0, b2]
  obtain ⟨⟨B, p2, q2, so2, ns2, wh2, tk2, en2, le2, B0, B1, B2, l2, e1, e2, hR2⟩ | ⟨n, x, pl, ln, s, u1, u2, u3, u4, u5, u6, e1, e2⟩, g1, g2⟩ := after_eq (w := 18) (w' := 42) (lo := 1) (hi := 12) (fm := fm) (pm := pm) (ft := ft) (plc := plc) hN hT hR1 rfl (by decide)
  case inr =>
    have a1 : D_X8_readHelmet_a1 so1 (nI q1) (nI p1) (nI N) bytes fm pm = (-1, n, x, pl, ln, s) := e1
    have c1 : D_X8_readHelmet_j1 so1 (nI q1) (nI p1) (nI N) bytes fm pm = (-1, s, ln, pl, n, x) := by unfold D_X8_readHelmet_j1; rw [a1, if_pos rfl]
    have c2 : D_X8_readHelmet_j2 so1 (nI q1) (nI p1) (nI N) bytes fm pm = (-1, s, ln, pl, n, x) := by unfold D_X8_readHelmet_j2; rw [c1, if_pos rfl]
    have b3 : D_X12_helmetLine_a3 fresh (nI p) 0 ft plc en (nI N) tape le = (1, u1, u2, u3, u4, u5, u6, 1, n, x) := by unfold D_X12_helmetLine_a3; rw [j0, b2]; exact e2
    have b4 : D_X12_helmetLine_a4 fresh (nI p) 0 ft plc en (nI N) tape le = (1, u1, u2, u3, u4, u5, u6, 1, n, x) := by unfold D_X12_helmetLine_a4; rw [b3]; exact after_f
    have b5 : D_X12_helmetLine_a5 fresh (nI p) 0 ft plc en (nI N) tape le = (0, u1, u2, u3, u4, u5, u6, 1, n, x) := by unfold D_X12_helmetLine_a5; rw [b4]; exact after_f
    have b7 : D_X12_helmetLine_a7 fresh (nI p) 0 ft plc en (nI N) tape le = (u1, u2, u3, u4, u5, u6, 1, n, x) := by unfold D_X12_helmetLine_a7; rw [b5]; exact must_f
    have b8 : D_X12_helmetLine_a8 fresh (nI p) 0 ft plc en (nI N) tape le = (0, 1, n, x, u1, u2, u3, u4, u5, u6) := by unfold D_X12_helmetLine_a8; rw [b7]; exact manPassed_f
    rw [a1, c1, c2, b3, b4, b5, b7, b8]
    dsimp only
    rw [if_pos rfl, if_pos rfl]
    exact ⟨Or.inr ⟨n, x, _, _, rfl, rfl, rfl, rfl, rfl, rfl, rfl, rfl⟩, ⟨g1, fun h => absurd rfl h, fun h => absurd rfl h, fun h => absurd rfl h, fun h => absurd rfl h⟩, fun _ => gs, fun _ => g2, fun _ => G_after_f, fun _ => G_after_f, fun _ => G_must_f, fun _ => G_manPassed_f⟩
  have a1 : D_X8_readHelmet_a1 so1 (nI q1) (nI p1) (nI N) bytes fm pm = (nI B, fm, pm, nI p2, nI q2, so2) := e1
  have b3 : D_X12_helmetLine_a3 fresh (nI p) 0 ft plc en (nI N) tape le = (nI B, nI p2, ns2, wh2, tk2, en2, le2, 0, ft, plc) := by unfold D_X12_helmetLine_a3; rw [j0, b2]; exact e2
  rw [a1, b3]
  obtain ⟨⟨K, p3, q3, so3, ns3, wh3, tk3, en3, le3, K0, K1, K2, l3, e3, e4, hR3⟩ | ⟨n, x, pl, ln, s, u1, u2, u3, u4, u5, u6, e3, e4⟩, g3, g4⟩ := after_eq (w := 19) (w' := 43) (lo := 1) (hi := nI B) (fm := fm) (pm := pm) (ft := ft) (plc := plc) hN hT hR2 rfl (by decide)
  case inr =>
    have a2 : D_X8_readHelmet_a2 so1 (nI q1) (nI p1) (nI N) bytes fm pm = (-1, n, x, pl, ln, s) := by unfold D_X8_readHelmet_a2; rw [a1]; exact e3
    have c1 : D_X8_readHelmet_j1 so1 (nI q1) (nI p1) (nI N) bytes fm pm = (-1, s, ln, pl, n, x) := by unfold D_X8_readHelmet_j1; rw [a1, a2, if_neg (nm1 (by omega))]
    have c2 : D_X8_readHelmet_j2 so1 (nI q1) (nI p1) (nI N) bytes fm pm = (-1, s, ln, pl, n, x) := by unfold D_X8_readHelmet_j2; rw [c1, if_pos rfl]
    have b4 : D_X12_helmetLine_a4 fresh (nI p) 0 ft plc en (nI N) tape le = (1, u1, u2, u3, u4, u5, u6, 1, n, x) := by unfold D_X12_helmetLine_a4; rw [b3]; exact e4
    have b5 : D_X12_helmetLine_a5 fresh (nI p) 0 ft plc en (nI N) tape le = (0, u1, u2, u3, u4, u5, u6, 1, n, x) := by unfold D_X12_helmetLine_a5; rw [b4]; exact after_f
    have b7 : D_X12_helmetLine_a7 fresh (nI p) 0 ft plc en (nI N) tape le = (u1, u2, u3, u4, u5, u6, 1, n, x) := by unfold D_X12_helmetLine_a7; rw [b5]; exact must_f
    have b8 : D_X12_helmetLine_a8 fresh (nI p) 0 ft plc en (nI N) tape le = (0, 1, n, x, u1, u2, u3, u4, u5, u6) := by unfold D_X12_helmetLine_a8; rw [b7]; exact manPassed_f
    rw [c1, c2, b4, b5, b7, b8]
    dsimp only
    rw [if_pos rfl, if_pos rfl]
    exact ⟨Or.inr ⟨n, x, _, _, rfl, rfl, rfl, rfl, rfl, rfl, rfl, rfl⟩, ⟨g1, fun _ => g3, fun h => absurd rfl h, fun h => absurd rfl h, fun h => absurd rfl h⟩, fun _ => gs, fun _ => g2, fun _ => g4, fun _ => G_after_f, fun _ => G_must_f, fun _ => G_manPassed_f⟩
  have a2 : D_X8_readHelmet_a2 so1 (nI q1) (nI p1) (nI N) bytes fm pm = (nI K, fm, pm, nI p3, nI q3, so3) := by unfold D_X8_readHelmet_a2; rw [a1]; exact e3
  have c1 : D_X8_readHelmet_j1 so1 (nI q1) (nI p1) (nI N) bytes fm pm = (nI K, so3, nI q3, nI p3, fm, pm) := by unfold D_X8_readHelmet_j1; rw [a1, a2, if_neg (nm1 (by omega))]
  have b4 : D_X12_helmetLine_a4 fresh (nI p) 0 ft plc en (nI N) tape le = (nI K, nI p3, ns3, wh3, tk3, en3, le3, 0, ft, plc) := by unfold D_X12_helmetLine_a4; rw [b3]; exact e4
  rw [c1, b4]
  obtain ⟨⟨S, p4, q4, so4, ns4, wh4, tk4, en4, le4, S0, S1, S2, l4, e5, e6, hR4⟩ | ⟨n, x, pl, ln, s, u1, u2, u3, u4, u5, u6, e5, e6⟩, g5, g6⟩ := after_eq (w := 20) (w' := 44) (lo := 0) (hi := 100) (fm := fm) (pm := pm) (ft := ft) (plc := plc) hN hT hR3 rfl (by decide)
  case inr =>
    have a3 : D_X8_readHelmet_a3 so1 (nI q1) (nI p1) (nI N) bytes fm pm = (-1, n, x, pl, ln, s) := by unfold D_X8_readHelmet_a3; rw [c1]; exact e5
    have c2 : D_X8_readHelmet_j2 so1 (nI q1) (nI p1) (nI N) bytes fm pm = (-1, s, ln, pl, n, x) := by unfold D_X8_readHelmet_j2; rw [c1, a3, if_neg (nm1 (by omega))]
    have b5 : D_X12_helmetLine_a5 fresh (nI p) 0 ft plc en (nI N) tape le = (0, u1, u2, u3, u4, u5, u6, 1, n, x) := by unfold D_X12_helmetLine_a5; rw [b4]; exact e6
    have b7 : D_X12_helmetLine_a7 fresh (nI p) 0 ft plc en (nI N) tape le = (u1, u2, u3, u4, u5, u6, 1, n, x) := by unfold D_X12_helmetLine_a7; rw [b5]; exact must_f
    have b8 : D_X12_helmetLine_a8 fresh (nI p) 0 ft plc en (nI N) tape le = (0, 1, n, x, u1, u2, u3, u4, u5, u6) := by unfold D_X12_helmetLine_a8; rw [b7]; exact manPassed_f
    rw [c2, b5, b7, b8]
    dsimp only
    rw [if_pos rfl, if_pos rfl]
    exact ⟨Or.inr ⟨n, x, _, _, rfl, rfl, rfl, rfl, rfl, rfl, rfl, rfl⟩, ⟨g1, fun _ => g3, fun _ => g5, fun h => absurd rfl h, fun h => absurd rfl h⟩, fun _ => gs, fun _ => g2, fun _ => g4, fun _ => g6, fun _ => G_must_f, fun _ => G_manPassed_f⟩
  have a3 : D_X8_readHelmet_a3 so1 (nI q1) (nI p1) (nI N) bytes fm pm = (nI S, fm, pm, nI p4, nI q4, so4) := by unfold D_X8_readHelmet_a3; rw [c1]; exact e5
  have c2 : D_X8_readHelmet_j2 so1 (nI q1) (nI p1) (nI N) bytes fm pm = (nI S, so4, nI q4, nI p4, fm, pm) := by unfold D_X8_readHelmet_j2; rw [c1, a3, if_neg (nm1 (by omega))]
  have b5 : D_X12_helmetLine_a5 fresh (nI p) 0 ft plc en (nI N) tape le = (nI S, nI p4, ns4, wh4, tk4, en4, le4, 0, ft, plc) := by unfold D_X12_helmetLine_a5; rw [b4]; exact e6
  have b6 : D_X12_helmetLine_a6 fresh (nI p) 0 ft plc en (nI N) tape le = va_up (va_up fresh 42 (nI K)) 43 (nI S) := by unfold D_X12_helmetLine_a6; rw [b4, b5]
  have hM2 : NamR T M tn mn (va_up (va_up fresh 42 (nI K)) 43 (nI S)) := NamR_congr hM (fun i hi => by rw [va_up_ne _ _ (by omega), va_up_ne _ _ (by omega)])
  rw [c2, b5, b6]
  obtain ⟨⟨p5, q5, so5, ns5, wh5, tk5, en5, le5, l5, e7, e8, hR5⟩ | ⟨e7, e8⟩, g7, g8⟩ := must_eq (w := 21) (w' := 45) (fm := fm) (pm := pm) (ft := ft) (plc := plc) hN hT hR4 rfl (by decide)
  case inr =>
    have a4 : D_X8_readHelmet_a4 so1 (nI q1) (nI p1) (nI N) bytes fm pm = (0, 1, nI p4, nI p4, nI q4, so4) := by unfold D_X8_readHelmet_a4; rw [c2]; exact e7
    have b7 : D_X12_helmetLine_a7 fresh (nI p) 0 ft plc en (nI N) tape le = (nI p4, ns4, wh4, tk4, en4, le4, 1, 1, nI p4) := by unfold D_X12_helmetLine_a7; rw [b5]; exact e8
    have b8 : D_X12_helmetLine_a8 fresh (nI p) 0 ft plc en (nI N) tape le = (0, 1, 1, nI p4, nI p4, ns4, wh4, tk4, en4, le4) := by unfold D_X12_helmetLine_a8; rw [b7]; exact manPassed_f
    rw [a4, b7, b8]
    dsimp only
    rw [if_neg (nm1 (by omega)), if_pos rfl, if_pos rfl]
    exact ⟨Or.inr ⟨1, nI p4, _, _, rfl, rfl, rfl, rfl, rfl, rfl, rfl, rfl⟩, ⟨g1, fun _ => g3, fun _ => g5, fun _ => g7, fun _ h => absurd rfl h⟩, fun _ => gs, fun _ => g2, fun _ => g4, fun _ => g6, fun _ => g8, fun _ => G_manPassed_f⟩
  have a4 : D_X8_readHelmet_a4 so1 (nI q1) (nI p1) (nI N) bytes fm pm = (1, fm, pm, nI p5, nI q5, so5) := by unfold D_X8_readHelmet_a4; rw [c2]; exact e7
  have b7 : D_X12_helmetLine_a7 fresh (nI p) 0 ft plc en (nI N) tape le = (nI p5, ns5, wh5, tk5, en5, le5, 0, ft, plc) := by unfold D_X12_helmetLine_a7; rw [b5]; exact e8
  rw [a4, b7]
  obtain ⟨⟨m, p6, q6, so6, ns6, wh6, tk6, en6, le6, m0, l6, e9, e10, hR6⟩ | ⟨n, e9, e10⟩, g9, g10⟩ := member_eq (fm := fm) (pm := pm) (ft := ft) (plc := plc) hN hT hR5 hM2
  · have a5 : D_X8_readHelmet_a5 so1 (nI q1) (nI p1) (nI N) bytes fm pm (nI M) mn = (nI m, fm, pm, nI p6, nI q6, so6) := by unfold D_X8_readHelmet_a5; rw [a4]; exact e9
    have b8 : D_X12_helmetLine_a8 fresh (nI p) 0 ft plc en (nI N) tape le = (nI m, 0, ft, plc, nI p6, ns6, wh6, tk6, en6, le6) := by unfold D_X12_helmetLine_a8; rw [b7, b6]; exact e10
    rw [a5, b8]
    dsimp only
    rw [if_neg (nm1 (by omega)), if_neg (by decide), if_neg (nm1 (by omega)), if_pos rfl, if_pos rfl]
    exact ⟨Or.inl ⟨B, K, S, m, p6, q6, so6, ns6, wh6, tk6, en6, le6, leN (b := 12) (by omega) (by decide) B2, leN (a := 1) (by decide) (by omega) K1, leN (by omega) (by omega) K2, leN (b := 100) (by omega) (by decide) S2, m0, by omega, rfl, rfl, hR6⟩, ⟨g1, fun _ => g3, fun _ => g5, fun _ => g7, fun _ _ => g9⟩, fun _ => gs, fun _ => g2, fun _ => g4, fun _ => g6, fun _ => g8, fun _ => g10⟩
  · have a5 : D_X8_readHelmet_a5 so1 (nI q1) (nI p1) (nI N) bytes fm pm (nI M) mn = (-1, n, nI p5, nI p5, nI q5, so5) := by unfold D_X8_readHelmet_a5; rw [a4]; exact e9
    have b8 : D_X12_helmetLine_a8 fresh (nI p) 0 ft plc en (nI N) tape le = (0, 1, n, nI p5, nI p5, ns5, wh5, tk5, en5, le5) := by unfold D_X12_helmetLine_a8; rw [b7, b6]; exact e10
    rw [a5, b8]
    dsimp only
    rw [if_neg (nm1 (by omega)), if_neg (by decide), if_pos rfl, if_pos rfl]
    exact ⟨Or.inr ⟨n, nI p5, _, _, rfl, rfl, rfl, rfl, rfl, rfl, rfl, rfl⟩, ⟨g1, fun _ => g3, fun _ => g5, fun _ => g7, fun _ _ => g9⟩, fun _ => gs, fun _ => g2, fun _ => g4, fun _ => g6, fun _ => g8, fun _ => g10⟩
end HELML
