/-! THE READER: the man's line -/
section MANL
variable {N p q p1 q1 T M : Nat} {bytes tape le le1 fresh : Nat → Int32} {so ns wh tk en so1 ns1 wh1 tk1 en1 ft plc fm pm : Int32} {tn mn : Nat → Int64}
theorem kind_eq (hN : N ≤ 1000) (hT : TapR bytes tape) (hR : TokR N bytes p q so ns wh tk en le) : ((∃ k, ∃ p1 q1 so1 ns1 wh1 tk1 en1 le1, k ≤ 3 ∧ p + q ≤ p1 ∧ D_X8_readKind so (nI q) (nI p) (nI N) bytes fm pm = (nI k, fm, pm, nI p1, nI q1, so1) ∧ (if D_X12_isWord 36 0 tk ns le = 0 then if D_X12_isWord 37 0 tk ns le = 0 then if D_X12_isWord 38 0 tk ns le = 0 then if D_X12_isWord 39 0 tk ns le = 0 then (-1) else 3 else 2 else 1 else 0 : Int32) = nI k ∧ D_X12_goOn en (nI N) tape le = (nI p1, ns1, wh1, tk1, en1, le1) ∧ TokR N bytes p1 q1 so1 ns1 wh1 tk1 en1 le1 ∧ G_X12_goOn en (nI N) tape le) ∨ (D_X8_readKind so (nI q) (nI p) (nI N) bytes fm pm = (-1, 1, nI p, nI p, nI q, so) ∧ (if D_X12_isWord 36 0 tk ns le = 0 then if D_X12_isWord 37 0 tk ns le = 0 then if D_X12_isWord 38 0 tk ns le = 0 then if D_X12_isWord 39 0 tk ns le = 0 then (-1) else 3 else 2 else 1 else 0 : Int32) = -1)) ∧ G_X8_readKind so (nI q) (nI p) (nI N) bytes ∧ G_X12_isWord 36 0 tk ns le ∧ G_X12_isWord 37 0 tk ns le ∧ G_X12_isWord 38 0 tk ns le ∧ G_X12_isWord 39 0 tk ns le := by
  obtain ⟨a1, _, a2, a3⟩ := isWord_eq (w := 12) (w' := 36) hN hR rfl (by decide)
  obtain ⟨b1, _, b2, b3⟩ := isWord_eq (w := 13) (w' := 37) hN hR rfl (by decide)
  obtain ⟨c1, _, c2, c3⟩ := isWord_eq (w := 14) (w' := 38) hN hR rfl (by decide)
  obtain ⟨d1, _, d2, d3⟩ := isWord_eq (w := 15) (w' := 39) hN hR rfl (by decide)
  have stp : ∀ w, ¬ D_X12_isWord w 0 tk ns le = 0 → ∃ p1 q1 so1 ns1 wh1 tk1 en1 le1, p + q ≤ p1 ∧ D_X10_step (nI p) (nI q) (nI N) bytes = (nI p1, nI q1, so1) ∧ D_X12_goOn en (nI N) tape le = (nI p1, ns1, wh1, tk1, en1, le1) ∧ TokR N bytes p1 q1 so1 ns1 wh1 tk1 en1 le1 ∧ G_X10_step (nI p) (nI q) (nI N) bytes ∧ G_X12_goOn en (nI N) tape le := fun w c => tk_step hN hT hR (by rw [word_so hR c]; decide)
  unfold D_X8_readKind D_X8_readKind_a1 D_X8_readKind_a2 D_X8_readKind_a3 D_X8_readKind_a4 D_X8_readKind_a5 D_X8_fail G_X8_readKind
  rw [a1, b1, c1, d1]
  by_cases e0 : D_X12_isWord 36 0 tk ns le = 0
  · by_cases e1 : D_X12_isWord 37 0 tk ns le = 0
    · by_cases e2 : D_X12_isWord 38 0 tk ns le = 0
      · by_cases e3 : D_X12_isWord 39 0 tk ns le = 0
        · rw [if_pos e0, if_pos e0, if_pos e1, if_pos e1, if_pos e2, if_pos e2, if_pos e3, if_pos e3]
          exact ⟨Or.inr ⟨rfl, rfl⟩, ⟨a2, fun _ => b2, fun _ _ => c2, fun _ _ _ => d2, fun _ _ _ h => absurd e3 h, fun _ _ h => absurd e2 h, fun _ h => absurd e1 h, fun h => absurd e0 h⟩, a3, b3, c3, d3⟩
        · obtain ⟨p1, q1, so1, ns1, wh1, tk1, en1, le1, l1, s1, s2, s3, s4, s5⟩ := stp 39 e3
          rw [if_pos e0, if_pos e0, if_pos e1, if_pos e1, if_pos e2, if_pos e2, if_neg e3, if_neg e3, s1]
          exact ⟨Or.inl ⟨3, p1, q1, so1, ns1, wh1, tk1, en1, le1, by omega, l1, rfl, rfl, s2, s3, s5⟩, ⟨a2, fun _ => b2, fun _ _ => c2, fun _ _ _ => d2, fun _ _ _ _ => s4, fun _ _ h => absurd e2 h, fun _ h => absurd e1 h, fun h => absurd e0 h⟩, a3, b3, c3, d3⟩
      · obtain ⟨p1, q1, so1, ns1, wh1, tk1, en1, le1, l1, s1, s2, s3, s4, s5⟩ := stp 38 e2
        rw [if_pos e0, if_pos e0, if_pos e1, if_pos e1, if_neg e2, if_neg e2, s1]
        exact ⟨Or.inl ⟨2, p1, q1, so1, ns1, wh1, tk1, en1, le1, by omega, l1, rfl, rfl, s2, s3, s5⟩, ⟨a2, fun _ => b2, fun _ _ => c2, fun _ _ _ => d2, fun _ _ h _ => absurd h e2, fun _ _ _ => s4, fun _ h => absurd e1 h, fun h => absurd e0 h⟩, a3, b3, c3, d3⟩
    · obtain ⟨p1, q1, so1, ns1, wh1, tk1, en1, le1, l1, s1, s2, s3, s4, s5⟩ := stp 37 e1
      rw [if_pos e0, if_pos e0, if_neg e1, if_neg e1, s1]
      exact ⟨Or.inl ⟨1, p1, q1, so1, ns1, wh1, tk1, en1, le1, by omega, l1, rfl, rfl, s2, s3, s5⟩, ⟨a2, fun _ => b2, fun _ _ => c2, fun _ _ _ => d2, fun _ h _ _ => absurd h e1, fun _ h _ => absurd h e1, fun _ _ => s4, fun h => absurd e0 h⟩, a3, b3, c3, d3⟩
  · obtain ⟨p1, q1, so1, ns1, wh1, tk1, en1, le1, l1, s1, s2, s3, s4, s5⟩ := stp 36 e0
    rw [if_neg e0, if_neg e0, s1]
    exact ⟨Or.inl ⟨0, p1, q1, so1, ns1, wh1, tk1, en1, le1, by omega, l1, rfl, rfl, s2, s3, s5⟩, ⟨a2, fun _ => b2, fun _ _ => c2, fun _ _ _ => d2, fun h _ _ _ => absurd h e0, fun h _ _ => absurd h e0, fun h _ => absurd h e0, fun _ => s4⟩, a3, b3, c3, d3⟩
def mnF (M k t v : Nat) (fresh : Nat → Int32) : Nat → Int32 := va_up (va_up (va_up (va_up fresh (9 + 3 * M) (nI k)) (9 + 3 * M + 1) (nI t)) (9 + 3 * M + 2) (nI v)) 5 (nI (M + 1))
theorem line_man {kind firstTen nerve friendsOf fearTimes weight : Nat → Int32} (hN : N ≤ 1000) (hT : TapR bytes tape) (hR1 : TokR N bytes p1 q1 so1 ns1 wh1 tk1 en1 le1) (hs : D_X12_goOn en (nI N) tape le = (nI p1, ns1, wh1, tk1, en1, le1)) (gs : G_X12_goOn en (nI N) tape le) (hM : NamR T M tn mn fresh) (h3 : M < 8) (h4 : fresh 5 = nI M) : ((∃ k t v, ∃ p2 q2 so2 ns2 wh2 tk2 en2 le2, k ≤ 3 ∧ t < T ∧ v ≤ 7 ∧ p1 + q1 ≤ p2 ∧ 1 ≤ q1 ∧ q1 ≤ 8 ∧ NamR T (M + 1) tn (va_up mn M (cdN q1 le1)) (nwF (3 + M) q1 le1 fresh) ∧ D_X8_readMan so1 (nI q1) (nI p1) (nI N) bytes (nI T) tn (nI M) mn fm pm kind firstTen nerve friendsOf fearTimes weight = (1, fm, pm, nI p2, nI q2, so2, va_up mn M (cdN q1 le1), va_up kind M (nI k), va_up firstTen M (nI t), va_up nerve M (nI v), va_up friendsOf M 0, va_up fearTimes M (if nI k = 1 then 2 else if nI k = 2 then 0 else 1), va_up weight M (if nI k = 3 then 2 else 1), nI (M + 1)) ∧ D_X12_manLine 0 en (nI N) tape (nI p) ns wh tk le fresh ft plc = (nI p2, ns2, wh2, tk2, en2, le2, 0, ft, plc, mnF M k t v (nwF (3 + M) q1 le1 fresh)) ∧ TokR N bytes p2 q2 so2 ns2 wh2 tk2 en2 le2) ∨ (∃ n x Y Z, D_X8_readMan so1 (nI q1) (nI p1) (nI N) bytes (nI T) tn (nI M) mn fm pm kind firstTen nerve friendsOf fearTimes weight = Y ∧ Y.1 = 0 ∧ Y.2.1 = n ∧ Y.2.2.1 = x ∧ D_X12_manLine 0 en (nI N) tape (nI p) ns wh tk le fresh ft plc = Z ∧ Z.2.2.2.2.2.2.1 = 1 ∧ Z.2.2.2.2.2.2.2.1 = n ∧ Z.2.2.2.2.2.2.2.2.1 = x)) ∧ G_X8_readMan so1 (nI q1) (nI p1) (nI N) bytes (nI T) tn (nI M) mn fm pm ∧ G_X12_manLine 0 en (nI N) tape le fresh ft plc := by
  have b1 : D_X12_manLine_a1 en (nI N) tape le = (nI p1, ns1, wh1, tk1, en1, le1) := hs
  have c4 : (fresh 5).toNatClampNeg = M := by rw [h4, nI_clamp (by omega)]
  have g5 : ¬ fresh 5 < 0 := by rw [h4]; exact nI_pos (by omega)
  have m8 : ¬ (8 : Int32) ≤ nI M := nI_ge (b := 8) h3 (by decide)
  unfold D_X8_readMan D_X12_manLine D_X12_manLine_j4 D_X12_manLine_a16 D_X12_manLine_a15 D_X12_manLine_a12 G_X8_readMan G_X12_manLine
  rw [b1, c4]
  obtain ⟨⟨p2, q2, so2, ns2, wh2, tk2, en2, le2, l2, q1a, q1b, hl, ht, hm, e0, g0, e1, e2, g1, e3, hR2⟩ | ⟨n, e1, e3⟩, g2, g3⟩ := fresh_eq (n0 := 3 + M) (fm := fm) (pm := pm) (ft := ft) (plc := plc) (by omega) hN hT hR1 hM
  case inr =>
    have a1 : D_X8_readMan_a1 so1 (nI q1) (nI p1) (nI N) bytes (nI T) tn (nI M) mn fm pm = (0, n, nI p1) := e1
    have b2 : D_X12_manLine_a2 0 en (nI N) tape le fresh ft plc = (1, n, nI p1, fresh, nI p1, ns1, wh1, tk1, en1, le1) := by
      unfold D_X12_manLine_a2; rw [b1, c4]; exact e3
    have b3 : D_X12_manLine_a3 0 en (nI N) tape le fresh ft plc = 0 := by unfold D_X12_manLine_a3; rw [b2]; exact isWord_f _
    have b4 : D_X12_manLine_a4 0 en (nI N) tape le fresh ft plc = 0 := by unfold D_X12_manLine_a4; rw [b2]; exact isWord_f _
    have b5 : D_X12_manLine_a5 0 en (nI N) tape le fresh ft plc = 0 := by unfold D_X12_manLine_a5; rw [b2]; exact isWord_f _
    have b6 : D_X12_manLine_a6 0 en (nI N) tape le fresh ft plc = 0 := by unfold D_X12_manLine_a6; rw [b2]; exact isWord_f _
    have j1 : D_X12_manLine_j1 0 en (nI N) tape le fresh ft plc = -1 := by unfold D_X12_manLine_j1; rw [b3, b4, b5, b6]; rfl
    have b7 : D_X12_manLine_a7 0 en (nI N) tape le fresh ft plc = (1, n, nI p1) := by unfold D_X12_manLine_a7; rw [b2]; exact bad_1 _ _
    have j2 : D_X12_manLine_j2 0 en (nI N) tape le fresh ft plc = (1, n, nI p1) := by unfold D_X12_manLine_j2; rw [j1, b7, if_neg (by decide)]
    rw [a1, j2, b2]
    dsimp only
    rw [if_pos rfl, if_pos rfl, if_neg (by decide)]
    exact ⟨Or.inr ⟨n, nI p1, _, _, rfl, rfl, rfl, rfl, rfl, rfl, rfl, rfl⟩, ⟨g2, fun h => absurd rfl h, fun h => absurd rfl h, fun h => absurd rfl h, fun h => absurd rfl h, fun h => absurd rfl h, fun h => absurd rfl h, fun h => absurd rfl h, fun h => absurd rfl h, fun h => absurd rfl h, fun h => absurd rfl h⟩, fun _ => gs, fun _ => g5, fun _ => g3, fun _ => G_isWord_f _, fun _ _ => G_isWord_f _, fun _ _ _ => G_isWord_f _, fun _ _ _ _ => G_isWord_f _, fun _ h => absurd h (show ¬ (1 : Int32) = 0 by decide), fun _ h => absurd h (show ¬ (1 : Int32) = 0 by decide), fun _ h => absurd h (show ¬ (1 : Int32) = 0 by decide), fun _ h => absurd h (show ¬ (1 : Int32) = 0 by decide), fun _ h => absurd h (show ¬ (1 : Int32) = 0 by decide), fun _ h => absurd h (show ¬ (1 : Int32) = 0 by decide), fun _ h => absurd h (show ¬ (1 : Int32) = 0 by decide), fun _ h => absurd h (show ¬ (1 : Int32) = 0 by decide), fun _ h => absurd h (show ¬ (1 : Int32) = 0 by decide)⟩
  have hM' := NamR_man (fresh := fresh) hM h3 q1a q1b hl ht
  have a1 : D_X8_readMan_a1 so1 (nI q1) (nI p1) (nI N) bytes (nI T) tn (nI M) mn fm pm = (1, fm, pm) := e1
  have a2 : D_X8_readMan_a2 (nI q1) (nI p1) (nI N) bytes = (nI p2, nI q2, so2) := e2
  have b2 : D_X12_manLine_a2 0 en (nI N) tape le fresh ft plc = (0, ft, plc, nwF (3 + M) q1 le1 fresh, nI p2, ns2, wh2, tk2, en2, le2) := by
    unfold D_X12_manLine_a2; rw [b1, c4]; exact e3
  rw [a1, a2, b2]
  obtain ⟨⟨k, p3, q3, so3, ns3, wh3, tk3, en3, le3, k0, l3, e4, e5, e6, hR3, g6⟩ | ⟨e4, e5⟩, g7, g8, g9, g10, g11⟩ := kind_eq (fm := fm) (pm := pm) hN hT hR2
  case inr =>
    have a3 : D_X8_readMan_a3 so1 (nI q1) (nI p1) (nI N) bytes (nI T) tn (nI M) mn fm pm = (-1, 1, nI p2, nI p2, nI q2, so2) := by unfold D_X8_readMan_a3; rw [a1, a2]; exact e4
    have j1 : D_X12_manLine_j1 0 en (nI N) tape le fresh ft plc = -1 := by
      unfold D_X12_manLine_j1 D_X12_manLine_a3 D_X12_manLine_a4 D_X12_manLine_a5 D_X12_manLine_a6; rw [b2]; exact e5
    have b7 : D_X12_manLine_a7 0 en (nI N) tape le fresh ft plc = (1, 1, nI p2) := by unfold D_X12_manLine_a7; rw [b2]; exact bad_0 _ _
    have j2 : D_X12_manLine_j2 0 en (nI N) tape le fresh ft plc = (1, 1, nI p2) := by unfold D_X12_manLine_j2; rw [j1, b7, if_neg (by decide)]
    rw [a3, j2]
    dsimp only
    rw [if_neg (by decide), if_pos rfl, if_pos rfl, if_neg (by decide)]
    exact ⟨Or.inr ⟨1, nI p2, _, _, rfl, rfl, rfl, rfl, rfl, rfl, rfl, rfl⟩, ⟨g2, fun _ => g0, fun _ => g1, fun _ => g7, fun _ h => absurd rfl h, fun _ h => absurd rfl h, fun _ h => absurd rfl h, fun _ h => absurd rfl h, fun _ h => absurd rfl h, fun _ h => absurd rfl h, fun _ h => absurd rfl h⟩, fun _ => gs, fun _ => g5, fun _ => g3, fun _ => g8, fun _ _ => g9, fun _ _ _ => g10, fun _ _ _ _ => g11, fun _ h => absurd h (show ¬ (1 : Int32) = 0 by decide), fun _ h => absurd h (show ¬ (1 : Int32) = 0 by decide), fun _ h => absurd h (show ¬ (1 : Int32) = 0 by decide), fun _ h => absurd h (show ¬ (1 : Int32) = 0 by decide), fun _ h => absurd h (show ¬ (1 : Int32) = 0 by decide), fun _ h => absurd h (show ¬ (1 : Int32) = 0 by decide), fun _ h => absurd h (show ¬ (1 : Int32) = 0 by decide), fun _ h => absurd h (show ¬ (1 : Int32) = 0 by decide), fun _ h => absurd h (show ¬ (1 : Int32) = 0 by decide)⟩
  have a3 : D_X8_readMan_a3 so1 (nI q1) (nI p1) (nI N) bytes (nI T) tn (nI M) mn fm pm = (nI k, fm, pm, nI p3, nI q3, so3) := by unfold D_X8_readMan_a3; rw [a1, a2]; exact e4
  have j1 : D_X12_manLine_j1 0 en (nI N) tape le fresh ft plc = nI k := by
    unfold D_X12_manLine_j1 D_X12_manLine_a3 D_X12_manLine_a4 D_X12_manLine_a5 D_X12_manLine_a6; rw [b2]; exact e5
  have j2 : D_X12_manLine_j2 0 en (nI N) tape le fresh ft plc = (0, ft, plc) := by
    unfold D_X12_manLine_j2; rw [j1, b2, if_pos (show (0 : Int32) ≤ nI k from nI_le (a := 0) (by omega) (by omega))]
  have b8 : D_X12_manLine_a8 0 en (nI N) tape le fresh ft plc = (nI p3, ns3, wh3, tk3, en3, le3) := by unfold D_X12_manLine_a8; rw [b2]; exact e6
  have b10 : D_X12_manLine_a10 0 en (nI N) tape le fresh ft plc = va_up (nwF (3 + M) q1 le1 fresh) (9 + 3 * M) (nI k) := by
    unfold D_X12_manLine_a10; rw [b2, c4, j1]
  rw [a3, j2, b8, b10]
  have hM2 : NamR T (M + 1) tn (va_up mn M (cdN q1 le1)) (va_up (nwF (3 + M) q1 le1 fresh) (9 + 3 * M) (nI k)) := NamR_congr hM' (fun i hi => va_up_ne _ _ (by omega))
  obtain ⟨⟨p4, q4, so4, ns4, wh4, tk4, en4, le4, l4, e7, e8, hR4⟩ | ⟨e7, e8⟩, g12, g13⟩ := must_eq (w := 16) (w' := 40) (fm := fm) (pm := pm) (ft := ft) (plc := plc) hN hT hR3 rfl (by decide)
  case inr =>
    have a4 : D_X8_readMan_a4 so1 (nI q1) (nI p1) (nI N) bytes (nI T) tn (nI M) mn fm pm = (0, 1, nI p3, nI p3, nI q3, so3) := by unfold D_X8_readMan_a4; rw [a3]; exact e7
    have b9 : D_X12_manLine_a9 0 en (nI N) tape le fresh ft plc = (nI p3, ns3, wh3, tk3, en3, le3, 1, 1, nI p3) := by unfold D_X12_manLine_a9; rw [j2, b8]; exact e8
    have b11 : D_X12_manLine_a11 0 en (nI N) tape le fresh ft plc = (0, 1, 1, nI p3) := by unfold D_X12_manLine_a11; rw [b9]; exact named_f
    have j3 : D_X12_manLine_j3 0 en (nI N) tape le fresh ft plc = (en3, nI p3, ns3, wh3, tk3, le3) := by unfold D_X12_manLine_j3; rw [b11, b9, if_neg (show ¬ (1 : Int32) = 0 by decide)]
    have b14 : D_X12_manLine_a14 0 en (nI N) tape le fresh ft plc = (0, nI p3, ns3, wh3, tk3, en3, le3, 1, 1, nI p3) := by unfold D_X12_manLine_a14; rw [b11, j3]; exact after_f
    rw [a4, b14, b9, b11, j3]
    dsimp only
    rw [if_neg (by decide), if_neg (nm1 (by omega)), if_pos rfl, if_pos rfl]
    exact ⟨Or.inr ⟨1, nI p3, _, _, rfl, rfl, rfl, rfl, rfl, rfl, rfl, rfl⟩, ⟨g2, fun _ => g0, fun _ => g1, fun _ => g7, fun _ _ => g12, fun _ _ h => absurd rfl h, fun _ _ h => absurd rfl h, fun _ _ h => absurd rfl h, fun _ _ h => absurd rfl h, fun _ _ h => absurd rfl h, fun _ _ h => absurd rfl h⟩, fun _ => gs, fun _ => g5, fun _ => g3, fun _ => g8, fun _ _ => g9, fun _ _ _ => g10, fun _ _ _ _ => g11, fun _ _ => g6, fun _ _ => g13, fun _ _ => g5, fun _ _ => by omega, fun _ _ => G_named_f, fun _ _ => by omega, fun _ _ h => absurd h (show ¬ (1 : Int32) = 0 by decide), fun _ _ => G_after_f, fun _ _ => by omega⟩
  have a4 : D_X8_readMan_a4 so1 (nI q1) (nI p1) (nI N) bytes (nI T) tn (nI M) mn fm pm = (1, fm, pm, nI p4, nI q4, so4) := by unfold D_X8_readMan_a4; rw [a3]; exact e7
  have b9 : D_X12_manLine_a9 0 en (nI N) tape le fresh ft plc = (nI p4, ns4, wh4, tk4, en4, le4, 0, ft, plc) := by unfold D_X12_manLine_a9; rw [j2, b8]; exact e8
  rw [a4, b9]
  obtain ⟨⟨t, t1, t2, e9, e10⟩ | ⟨n, e9, e10⟩, g14, g15⟩ := told_ten (fm := fm) (pm := pm) (ft := ft) (plc := plc) hN hR4 hM2
  case inr =>
    have a5 : D_X8_readMan_a5 so1 (nI q1) (nI p1) (nI N) bytes (nI T) tn (nI M) mn fm pm = (-1, n, nI p4) := by unfold D_X8_readMan_a5; rw [a4]; exact e9
    have b11 : D_X12_manLine_a11 0 en (nI N) tape le fresh ft plc = (0, 1, n, nI p4) := by unfold D_X12_manLine_a11; rw [b9, b10]; exact e10
    have j3 : D_X12_manLine_j3 0 en (nI N) tape le fresh ft plc = (en4, nI p4, ns4, wh4, tk4, le4) := by unfold D_X12_manLine_j3; rw [b11, b9, if_neg (show ¬ (1 : Int32) = 0 by decide)]
    have b14 : D_X12_manLine_a14 0 en (nI N) tape le fresh ft plc = (0, nI p4, ns4, wh4, tk4, en4, le4, 1, n, nI p4) := by unfold D_X12_manLine_a14; rw [b11, j3]; exact after_f
    rw [a5, b14, b11, j3]
    dsimp only
    rw [if_neg (by decide), if_neg (nm1 (by omega)), if_neg (by decide), if_pos rfl, if_pos rfl]
    exact ⟨Or.inr ⟨n, nI p4, _, _, rfl, rfl, rfl, rfl, rfl, rfl, rfl, rfl⟩, ⟨g2, fun _ => g0, fun _ => g1, fun _ => g7, fun _ _ => g12, fun _ _ _ => g14, fun _ _ _ h => absurd rfl h, fun _ _ _ h => absurd rfl h, fun _ _ _ h => absurd rfl h, fun _ _ _ h => absurd rfl h, fun _ _ _ h => absurd rfl h⟩, fun _ => gs, fun _ => g5, fun _ => g3, fun _ => g8, fun _ _ => g9, fun _ _ _ => g10, fun _ _ _ _ => g11, fun _ _ => g6, fun _ _ => g13, fun _ _ => g5, fun _ _ => by omega, fun _ _ => g15, fun _ _ => by omega, fun _ _ h => absurd h (show ¬ (1 : Int32) = 0 by decide), fun _ _ => G_after_f, fun _ _ => by omega⟩
  have h3T := hM.1
  have a5 : D_X8_readMan_a5 so1 (nI q1) (nI p1) (nI N) bytes (nI T) tn (nI M) mn fm pm = (nI t, fm, pm) := by unfold D_X8_readMan_a5; rw [a4]; exact e9
  have b11 : D_X12_manLine_a11 0 en (nI N) tape le fresh ft plc = (nI t, 0, ft, plc) := by unfold D_X12_manLine_a11; rw [b9, b10]; exact e10
  obtain ⟨p5, q5, so5, ns5, wh5, tk5, en5, le5, l5, s1, s2, hR5, s4, s5⟩ := tk_step hN hT hR4 (by rw [t2]; decide)
  have a6 : D_X8_readMan_a6 so1 (nI q1) (nI p1) (nI N) bytes (nI T) tn (nI M) mn fm pm = (nI p5, nI q5, so5) := by unfold D_X8_readMan_a6; rw [a4]; exact s1
  have b13 : D_X12_manLine_a13 0 en (nI N) tape le fresh ft plc = (nI p5, ns5, wh5, tk5, en5, le5) := by unfold D_X12_manLine_a13; rw [b9]; exact s2
  have j3 : D_X12_manLine_j3 0 en (nI N) tape le fresh ft plc = (en5, nI p5, ns5, wh5, tk5, le5) := by unfold D_X12_manLine_j3; rw [b11, b13, if_pos rfl]
  rw [a5, a6, b11, j3]
  obtain ⟨⟨v, p6, q6, so6, ns6, wh6, tk6, en6, le6, v1, v2, v3, l6, e11, e12, hR6⟩ | ⟨n, x, pl, ln, s, u1, u2, u3, u4, u5, u6, e11, e12⟩, g16, g17⟩ := after_eq (w := 17) (w' := 41) (lo := 0) (hi := 7) (fm := fm) (pm := pm) (ft := ft) (plc := plc) hN hT hR5 rfl (by decide)
  case inr =>
    have a7 : D_X8_readMan_a7 so1 (nI q1) (nI p1) (nI N) bytes (nI T) tn (nI M) mn fm pm = (-1, n, x, pl, ln, s) := by unfold D_X8_readMan_a7; rw [a6, a5]; exact e11
    have b14 : D_X12_manLine_a14 0 en (nI N) tape le fresh ft plc = (0, u1, u2, u3, u4, u5, u6, 1, n, x) := by unfold D_X12_manLine_a14; rw [b11, j3]; exact e12
    rw [a7, b14]
    dsimp only
    rw [if_neg (by decide), if_neg (nm1 (by omega)), if_neg (by decide), if_neg (nm1 (by omega)), if_pos rfl, if_pos rfl]
    exact ⟨Or.inr ⟨n, x, _, _, rfl, rfl, rfl, rfl, rfl, rfl, rfl, rfl⟩, ⟨g2, fun _ => g0, fun _ => g1, fun _ => g7, fun _ _ => g12, fun _ _ _ => g14, fun _ _ _ _ => s4, fun _ _ _ _ => g16, fun _ _ _ _ h => absurd rfl h, fun _ _ _ _ h => absurd rfl h, fun _ _ _ _ h => absurd rfl h⟩, fun _ => gs, fun _ => g5, fun _ => g3, fun _ => g8, fun _ _ => g9, fun _ _ _ => g10, fun _ _ _ _ => g11, fun _ _ => g6, fun _ _ => g13, fun _ _ => g5, fun _ _ => by omega, fun _ _ => g15, fun _ _ => by omega, fun _ _ _ => s5, fun _ _ => g17, fun _ _ => by omega⟩
  have a7 : D_X8_readMan_a7 so1 (nI q1) (nI p1) (nI N) bytes (nI T) tn (nI M) mn fm pm = (nI v, fm, pm, nI p6, nI q6, so6) := by unfold D_X8_readMan_a7; rw [a6, a5]; exact e11
  have b14 : D_X12_manLine_a14 0 en (nI N) tape le fresh ft plc = (nI v, nI p6, ns6, wh6, tk6, en6, le6, 0, ft, plc) := by unfold D_X12_manLine_a14; rw [b11, j3]; exact e12
  have a8 : D_X8_readMan_a8 so1 (nI q1) (nI p1) (nI N) bytes (nI T) tn (nI M) mn fm pm kind firstTen nerve friendsOf fearTimes weight = (va_up kind M (nI k), va_up firstTen M (nI t), va_up nerve M (nI v), va_up friendsOf M 0, va_up fearTimes M (if nI k = 1 then 2 else if nI k = 2 then 0 else 1), va_up weight M (if nI k = 3 then 2 else 1), nI (M + 1)) := by
    unfold D_X8_readMan_a8 D_X4_addMan D_X4_addMan_j1
    rw [a3, a5, a7, if_neg m8, nI_clamp (by omega), nI_1]
  have j8 : D_X8_readMan_j1 so1 (nI q1) (nI p1) (nI N) bytes (nI T) tn (nI M) mn fm pm kind firstTen nerve friendsOf fearTimes weight = (nI (M + 1), va_up mn M (cdN q1 le1), va_up kind M (nI k), va_up firstTen M (nI t), va_up nerve M (nI v), va_up friendsOf M 0, va_up fearTimes M (if nI k = 1 then 2 else if nI k = 2 then 0 else 1), va_up weight M (if nI k = 3 then 2 else 1)) := by
    unfold D_X8_readMan_j1
    rw [a8, e0, if_neg m8, nI_clamp (by omega)]
  have f5 : va_up (va_up (va_up (nwF (3 + M) q1 le1 fresh) (9 + 3 * M) (nI k)) (9 + 3 * M + 1) (nI t)) (9 + 3 * M + 2) (nI v) 5 = nI M := by
    rw [va_up_ne _ _ (by omega), va_up_ne _ _ (by omega), va_up_ne _ _ (by omega), nwF_o (by omega) (by omega), h4]
  rw [a7, b14, j8]
  dsimp only
  rw [if_neg (by decide), if_neg (nm1 (by omega)), if_neg (by decide), if_neg (nm1 (by omega)), if_neg (nm1 (by omega)), if_pos rfl, if_pos rfl, f5, nI_1]
  refine ⟨Or.inl ⟨k, t, v, p6, q6, so6, ns6, wh6, tk6, en6, le6, k0, t1, leN (b := 7) (by omega) (by decide) v3, by omega, q1a, q1b, hM', rfl, rfl, hR6⟩, ⟨g2, fun _ => g0, fun _ => g1, fun _ => g7, fun _ _ => g12, fun _ _ _ => g14, fun _ _ _ _ => s4, fun _ _ _ _ => g16, fun _ _ _ _ _ _ => nI_pos (by omega), fun _ _ _ _ _ _ => by rw [nI_clamp (by omega)]; exact h3, fun _ _ _ _ _ _ => ?_⟩, fun _ => gs, fun _ => g5, fun _ => g3, fun _ => g8, fun _ _ => g9, fun _ _ _ => g10, fun _ _ _ _ => g11, fun _ _ => g6, fun _ _ => g13, fun _ _ => g5, fun _ _ => by omega, fun _ _ => g15, fun _ _ => by omega, fun _ _ _ => s5, fun _ _ => g17, fun _ _ => by omega⟩
  have c5 : (nI M).toNatClampNeg < 8 := by rw [nI_clamp (by omega)]; exact h3
  unfold G_X4_addMan
  repeat' apply And.intro
  all_goals intro _
  all_goals first | exact nI_pos (by omega) | exact c5
end MANL
