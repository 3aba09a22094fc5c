/-! THE READER: the lines friend, helmet, gone, among -/
def frC (a b : Nat) (row : Nat → Int32) : Nat → Int32 := va_up (va_up row a (row a ||| ((1 : Int32) <<< (nI b &&& 31)))) b (row b ||| ((1 : Int32) <<< (nI a &&& 31)))
def frF (a b P : Nat) (fresh : Nat → Int32) : Nat → Int32 := va_up (va_up (va_up fresh (33 + a) (fresh (33 + a) ||| ((1 : Int32) <<< (nI b &&& 31)))) (33 + b) (fresh (33 + b) ||| ((1 : Int32) <<< (nI a &&& 31)))) 6 (nI (P + 1))
def hmF (B K S m : Nat) (fresh : Nat → Int32) : Nat → Int32 := va_up (va_up (va_up (va_up fresh 42 (nI K)) 43 (nI S)) 44 (nI m)) 41 (nI B)
def amF (A a b h : Nat) (fresh : Nat → Int32) : Nat → Int32 := va_up (va_up (va_up (va_up fresh (58 + 3 * A) (nI a)) (58 + 3 * A + 1) (nI b)) (58 + 3 * A + 2) (nI h)) 8 (nI (A + 1))
section LINES2
variable {N p q p1 q1 T M : Nat} {bytes tape le le1 fresh : Nat → Int32} {so ns wh tk en so1 ns1 wh1 tk1 en1 ft plc fm pm : Int32} {tn mn : Nat → Int64}
theorem line_friend {P : Nat} {friendsOf : Nat → Int32} (hN : N ≤ 1000) (hT : TapR bytes tape) (hR1 : TokR N bytes p1 q1 so1 ns1 wh1 tk1 en1 le1) (hs : D_X12_goOn en (nI N) tape le = (nI p1, ns1, wh1, tk1, en1, le1)) (gs : G_X12_goOn en (nI N) tape le) (hM : NamR T M tn mn fresh) (hf : ∀ m, m < M → friendsOf m = fresh (33 + m)) (h6 : fresh 6 = nI P) : ((∃ a b, ∃ p2 q2 so2 ns2 wh2 tk2 en2 le2, a < M ∧ b < M ∧ a ≠ b ∧ bt (fresh (33 + a)) b = false ∧ p1 + q1 ≤ p2 ∧ D_X8_readFriend (nI M) so1 (nI q1) (nI p1) (nI N) bytes mn fm pm friendsOf (nI P) = (1, fm, pm, nI p2, nI q2, so2, frC a b friendsOf, nI (P + 1)) ∧ D_X12_friendLine 0 en (nI N) tape (nI p) ns wh tk le ft plc fresh = (nI p2, ns2, wh2, tk2, en2, le2, 0, ft, plc, frF a b P fresh) ∧ TokR N bytes p2 q2 so2 ns2 wh2 tk2 en2 le2) ∨ (∃ n x Y Z, D_X8_readFriend (nI M) so1 (nI q1) (nI p1) (nI N) bytes mn fm pm friendsOf (nI P) = Y ∧ Y.1 = 0 ∧ Y.2.1 = n ∧ Y.2.2.1 = x ∧ D_X12_friendLine 0 en (nI N) tape (nI p) ns wh tk le ft plc fresh = Z ∧ Z.2.2.2.2.2.2.1 = 1 ∧ Z.2.2.2.2.2.2.2.1 = n ∧ Z.2.2.2.2.2.2.2.2.1 = x)) ∧ G_X8_readFriend (nI M) so1 (nI q1) (nI p1) (nI N) bytes mn fm pm friendsOf ∧ G_X12_friendLine 0 en (nI N) tape le ft plc fresh := by
  have b1 : D_X12_friendLine_a1 en (nI N) tape le = (nI p1, ns1, wh1, tk1, en1, le1) := hs
  have h8 := hM.2.1
  unfold D_X8_readFriend D_X12_friendLine G_X8_readFriend G_X12_friendLine
  rw [b1]
  obtain ⟨⟨a, p2, q2, so2, ns2, wh2, tk2, en2, le2, ha, l2, e1, e2, hR2⟩ | ⟨n, e1, e2⟩, g1, g2⟩ := member_eq (fm := fm) (pm := pm) (ft := ft) (plc := plc) hN hT hR1 hM
  case inr =>
    have a1 : D_X8_readFriend_a1 (nI M) so1 (nI q1) (nI p1) (nI N) bytes mn fm pm = (-1, n, nI p1, nI p1, nI q1, so1) := e1
    have j1 : D_X8_readFriend_j1 (nI M) so1 (nI q1) (nI p1) (nI N) bytes mn fm pm = (-1, n, nI p1) := by unfold D_X8_readFriend_j1; rw [a1, if_pos rfl]
    have b2 : D_X12_friendLine_a2 0 en (nI N) tape le ft plc fresh = (0, 1, n, nI p1, nI p1, ns1, wh1, tk1, en1, le1) := by unfold D_X12_friendLine_a2; rw [b1]; exact e2
    have b3 : D_X12_friendLine_a3 0 en (nI N) tape le ft plc fresh = (0, 1, n, nI p1) := by unfold D_X12_friendLine_a3; rw [b2]; exact manHere_f
    have c1 : D_X12_friendLine_j1 0 en (nI N) tape le ft plc fresh = (1, n, nI p1) := by unfold D_X12_friendLine_j1; rw [b3, if_neg (show ¬ (1 : Int32) = 0 by decide)]
    rw [a1, j1, b2, b3, c1]
    dsimp only
    rw [if_pos rfl, if_pos rfl, if_neg (by decide)]
    exact ⟨Or.inr ⟨n, nI p1, _, _, rfl, rfl, rfl, rfl, rfl, rfl, rfl, rfl⟩, ⟨g1, fun h => absurd rfl h, fun h => absurd rfl h, fun h => absurd rfl h, fun h => absurd rfl h, fun h => absurd rfl h, fun h => absurd rfl h, fun h => absurd rfl h, fun h => absurd rfl h⟩, fun _ => gs, fun _ => g2, fun _ => G_manHere_f, fun _ h => absurd h (by decide), fun _ h => absurd h (by decide), fun _ h => absurd h (by decide), fun _ h => absurd h (by decide), fun _ h => absurd h (by decide), fun _ h => absurd h (by decide), fun _ h => absurd h (by decide)⟩
  have a1 : D_X8_readFriend_a1 (nI M) so1 (nI q1) (nI p1) (nI N) bytes mn fm pm = (nI a, fm, pm, nI p2, nI q2, so2) := e1
  have b2 : D_X12_friendLine_a2 0 en (nI N) tape le ft plc fresh = (nI a, 0, ft, plc, nI p2, ns2, wh2, tk2, en2, le2) := by unfold D_X12_friendLine_a2; rw [b1]; exact e2
  have ca : (nI a).toNatClampNeg = a := nI_clamp (by omega)
  rw [a1, b2]
  obtain ⟨⟨b, hb, hne, t2, e3, e4⟩ | ⟨e3, e4⟩ | ⟨n, e3, e4⟩, g3, g4⟩ := other_eq (fm := fm) (pm := pm) (ft := ft) (plc := plc) ha hN hR2 hM
  case inr.inl =>
    have a2 : D_X8_readFriend_a2 (nI M) so1 (nI q1) (nI p1) (nI N) bytes mn fm pm = (-1, 3, nI p2) := by unfold D_X8_readFriend_a2; rw [a1]; exact e3
    have j1 : D_X8_readFriend_j1 (nI M) so1 (nI q1) (nI p1) (nI N) bytes mn fm pm = (-1, 3, nI p2) := by unfold D_X8_readFriend_j1; rw [a1, a2, if_neg (nm1 (by omega))]
    have b3 : D_X12_friendLine_a3 0 en (nI N) tape le ft plc fresh = (nI a, 0, ft, plc) := by unfold D_X12_friendLine_a3; rw [b2]; exact e4
    have b4 : D_X12_friendLine_a4 0 en (nI N) tape le ft plc fresh = (1, 3, nI p2) := by unfold D_X12_friendLine_a4; rw [b2, b3]; exact bad_0 _ _
    have c1 : D_X12_friendLine_j1 0 en (nI N) tape le ft plc fresh = (1, 3, nI p2) := by unfold D_X12_friendLine_j1; rw [b2, b3, b4, if_pos rfl, if_pos rfl]
    rw [j1, b3, c1]
    dsimp only
    rw [if_pos rfl, if_pos rfl, if_neg (by decide)]
    exact ⟨Or.inr ⟨3, nI p2, _, _, rfl, rfl, rfl, rfl, rfl, rfl, rfl, rfl⟩, ⟨g1, fun _ => g3, fun h => absurd rfl h, fun h => absurd rfl h, fun h => absurd rfl h, fun h => absurd rfl h, fun h => absurd rfl h, fun h => absurd rfl h, fun h => absurd rfl h⟩, fun _ => gs, fun _ => g2, fun _ => g4, fun _ _ h => absurd rfl h, fun _ _ h => absurd rfl h, fun _ h => absurd h (by decide), fun _ h => absurd h (by decide), fun _ h => absurd h (by decide), fun _ h => absurd h (by decide), fun _ h => absurd h (by decide)⟩
  case inr.inr =>
    have a2 : D_X8_readFriend_a2 (nI M) so1 (nI q1) (nI p1) (nI N) bytes mn fm pm = (-1, n, nI p2) := by unfold D_X8_readFriend_a2; rw [a1]; exact e3
    have j1 : D_X8_readFriend_j1 (nI M) so1 (nI q1) (nI p1) (nI N) bytes mn fm pm = (-1, n, nI p2) := by unfold D_X8_readFriend_j1; rw [a1, a2, if_neg (nm1 (by omega))]
    have b3 : D_X12_friendLine_a3 0 en (nI N) tape le ft plc fresh = (0, 1, n, nI p2) := by unfold D_X12_friendLine_a3; rw [b2]; exact e4
    have c1 : D_X12_friendLine_j1 0 en (nI N) tape le ft plc fresh = (1, n, nI p2) := by unfold D_X12_friendLine_j1; rw [b3, if_neg (show ¬ (1 : Int32) = 0 by decide)]
    rw [j1, b3, c1]
    dsimp only
    rw [if_pos rfl, if_pos rfl, if_neg (by decide)]
    exact ⟨Or.inr ⟨n, nI p2, _, _, rfl, rfl, rfl, rfl, rfl, rfl, rfl, rfl⟩, ⟨g1, fun _ => g3, fun h => absurd rfl h, fun h => absurd rfl h, fun h => absurd rfl h, fun h => absurd rfl h, fun h => absurd rfl h, fun h => absurd rfl h, fun h => absurd rfl h⟩, fun _ => gs, fun _ => g2, fun _ => g4, fun _ h => absurd h (by decide), fun _ h => absurd h (by decide), fun _ h => absurd h (by decide), fun _ h => absurd h (by decide), fun _ h => absurd h (by decide), fun _ h => absurd h (by decide), fun _ h => absurd h (by decide)⟩
  have cb : (nI b).toNatClampNeg = b := nI_clamp (by omega)
  have nab : ¬ nI a = nI b := fun h => hne ((nI_eq (by omega) (by omega)).mp h).symm
  have a2 : D_X8_readFriend_a2 (nI M) so1 (nI q1) (nI p1) (nI N) bytes mn fm pm = (nI b, fm, pm) := by unfold D_X8_readFriend_a2; rw [a1]; exact e3
  have j1 : D_X8_readFriend_j1 (nI M) so1 (nI q1) (nI p1) (nI N) bytes mn fm pm = (nI b, fm, pm) := by unfold D_X8_readFriend_j1; rw [a1, a2, if_neg (nm1 (by omega))]
  have b3 : D_X12_friendLine_a3 0 en (nI N) tape le ft plc fresh = (nI b, 0, ft, plc) := by unfold D_X12_friendLine_a3; rw [b2]; exact e4
  have a3 : D_X8_readFriend_a3 (nI M) so1 (nI q1) (nI p1) (nI N) bytes mn fm pm friendsOf = if bt (fresh (33 + a)) b then 1 else 0 := by
    unfold D_X8_readFriend_a3; rw [a1, j1]
    dsimp only
    rw [ca, has_bt _ (by omega), hf a ha]
  have b5 : D_X12_friendLine_a5 0 en (nI N) tape le ft plc fresh = if bt (fresh (33 + a)) b then 1 else 0 := by
    unfold D_X12_friendLine_a5; rw [b2, b3]
    dsimp only
    rw [ca, hasBit_bt _ (by omega)]
  obtain ⟨p3, q3, so3, ns3, wh3, tk3, en3, le3, l3, s1, s2, hR3, s4, s5⟩ := tk_step hN hT hR2 (by rw [t2]; decide)
  by_cases c : bt (fresh (33 + a)) b = true
  · rw [if_pos c] at a3 b5
    have b6 : D_X12_friendLine_a6 0 en (nI N) tape le ft plc fresh = (1, 3, nI p2) := by unfold D_X12_friendLine_a6; rw [b2, b3]; exact bad_0 _ _
    have c1 : D_X12_friendLine_j1 0 en (nI N) tape le ft plc fresh = (1, 3, nI p2) := by
      unfold D_X12_friendLine_j1; rw [b2, b3, b5, b6]
      dsimp only
      rw [if_pos rfl, if_neg nab, if_neg (by decide)]
    have a7 : D_X8_readFriend_a7 (nI M) so1 (nI q1) (nI p1) (nI N) bytes mn fm pm = (0, 3, nI p2) := by unfold D_X8_readFriend_a7 D_X8_fail; rw [a1]
    rw [j1, b3, c1, a3, a7]
    dsimp only
    rw [if_neg (nm1 (by omega)), if_neg (by decide), if_pos rfl, if_neg (by decide), ca, cb]
    exact ⟨Or.inr ⟨3, nI p2, _, _, rfl, rfl, rfl, rfl, rfl, rfl, rfl, rfl⟩, ⟨g1, fun _ => g3, fun _ => nI_pos (by omega), fun _ => by omega, fun _ h => absurd h (by decide), fun _ h => absurd h (by decide), fun _ h => absurd h (by decide), fun _ h => absurd h (by decide), fun _ h => absurd h (by decide)⟩, fun _ => gs, fun _ => g2, fun _ => g4, fun _ _ _ => nI_pos (by omega), fun _ _ _ => by omega, fun _ h => absurd h (by decide), fun _ h => absurd h (by decide), fun _ h => absurd h (by decide), fun _ h => absurd h (by decide), fun _ h => absurd h (by decide)⟩
  · rw [if_neg c] at a3 b5
    have c1 : D_X12_friendLine_j1 0 en (nI N) tape le ft plc fresh = (0, ft, plc) := by
      unfold D_X12_friendLine_j1; rw [b2, b3, b5]
      dsimp only
      rw [if_pos rfl, if_neg nab, if_pos rfl]
    have a4 : D_X8_readFriend_a4 (nI M) so1 (nI q1) (nI p1) (nI N) bytes mn fm pm = (nI p3, nI q3, so3) := by unfold D_X8_readFriend_a4; rw [a1]; exact s1
    have a6 : D_X8_readFriend_a6 (nI M) so1 (nI q1) (nI p1) (nI N) bytes mn fm pm friendsOf = frC a b friendsOf := by
      unfold D_X8_readFriend_a6 D_X8_readFriend_a5 frC; rw [a1, j1]
      dsimp only
      rw [ca, cb, va_up_ne _ _ hne]
    have b7 : D_X12_friendLine_a7 0 en (nI N) tape le ft plc fresh = (nI p3, ns3, wh3, tk3, en3, le3) := by unfold D_X12_friendLine_a7; rw [b2]; exact s2
    have b10 : D_X12_friendLine_a10 0 en (nI N) tape le ft plc fresh = frF a b P fresh := by
      unfold D_X12_friendLine_a10 D_X12_friendLine_a9 D_X12_friendLine_a8 frF; rw [b2, b3]
      dsimp only
      rw [ca, cb, va_up_ne _ _ (show 33 + b ≠ 33 + a by omega), va_up_ne _ _ (show 6 ≠ 33 + b by omega), va_up_ne _ _ (show 6 ≠ 33 + a by omega), h6, nI_1]
    rw [j1, b3, c1, a3, a4, a6, b7, b10]
    dsimp only
    rw [if_neg (nm1 (by omega)), if_pos rfl, if_pos rfl, if_pos rfl, ca, cb, nI_1]
    exact ⟨Or.inl ⟨a, b, p3, q3, so3, ns3, wh3, tk3, en3, le3, ha, hb, fun h => hne h.symm, Bool.eq_false_iff.mpr c, by omega, rfl, rfl, hR3⟩, ⟨g1, fun _ => g3, fun _ => nI_pos (by omega), fun _ => by omega, fun _ _ => s4, fun _ _ => nI_pos (by omega), fun _ _ => by omega, fun _ _ => nI_pos (by omega), fun _ _ => by omega⟩, fun _ => gs, fun _ => g2, fun _ => g4, fun _ _ _ => nI_pos (by omega), fun _ _ _ => by omega, fun _ _ => s5, fun _ _ => nI_pos (by omega), fun _ _ => by omega, fun _ _ => nI_pos (by omega), fun _ _ => by omega⟩
theorem line_gone (hN : N ≤ 1000) (hT : TapR bytes tape) (hR1 : TokR N bytes p1 q1 so1 ns1 wh1 tk1 en1 le1) (hs : D_X12_goOn en (nI N) tape le = (nI p1, ns1, wh1, tk1, en1, le1)) (gs : G_X12_goOn en (nI N) tape le) (hM : NamR T M tn mn fresh) (h5 : fresh 5 = nI M) (h57 : fresh 57 = 0) : ((∃ v, ∃ p2 q2 so2 ns2 wh2 tk2 en2 le2, v ≤ M ∧ p1 + q1 ≤ p2 ∧ D_X8_readGone (nI M) so1 (nI q1) (nI p1) (nI N) bytes fm pm = (1, fm, pm, nI p2, nI q2, so2, nI v) ∧ D_X12_goneLine fresh (nI p) 0 ft plc en (nI N) tape ns wh tk le = (0, ft, plc, nI p2, ns2, wh2, tk2, en2, le2, va_up fresh 57 (nI (v + 1))) ∧ TokR N bytes p2 q2 so2 ns2 wh2 tk2 en2 le2) ∨ (∃ n x Y Z, D_X8_readGone (nI M) so1 (nI q1) (nI p1) (nI N) bytes fm pm = Y ∧ Y.1 = 0 ∧ Y.2.1 = n ∧ Y.2.2.1 = x ∧ D_X12_goneLine fresh (nI p) 0 ft plc en (nI N) tape ns wh tk le = Z ∧ Z.1 = 1 ∧ Z.2.1 = n ∧ Z.2.2.1 = x)) ∧ G_X8_readGone (nI M) so1 (nI q1) (nI p1) (nI N) bytes ∧ G_X12_goneLine fresh (nI p) 0 ft plc en (nI N) tape le := by
  have h8 := hM.2.1
  have j1 : D_X12_goneLine_j1 fresh (nI p) 0 ft plc = (0, ft, plc) := by unfold D_X12_goneLine_j1; rw [h57, if_pos (by decide)]
  have b2 : D_X12_goneLine_a2 en (nI N) tape le = (nI p1, ns1, wh1, tk1, en1, le1) := hs
  unfold D_X8_readGone D_X12_goneLine D_X12_goneLine_j2 G_X8_readGone G_X12_goneLine
  rw [j1, b2, h5]
  obtain ⟨⟨v, p2, q2, so2, ns2, wh2, tk2, en2, le2, v1, v2, v3, l2, e1, e2, hR2⟩ | ⟨n, e1, e2⟩, g1, g2⟩ := number_eq (lo := 0) (hi := nI M) (fm := fm) (pm := pm) (ft := ft) (plc := plc) hN hT hR1
  · have a1 : D_X8_readGone_a1 (nI M) so1 (nI q1) (nI p1) (nI N) bytes fm pm = (nI v, fm, pm, nI p2, nI q2, so2) := e1
    have b3 : D_X12_goneLine_a3 fresh (nI p) 0 ft plc en (nI N) tape le = (nI v, 0, ft, plc, nI p2, ns2, wh2, tk2, en2, le2) := by unfold D_X12_goneLine_a3; rw [j1, b2, h5]; exact e2
    rw [a1, b3]
    dsimp only
    rw [if_neg (nm1 (by omega)), if_pos rfl, if_pos rfl, nI_1]
    exact ⟨Or.inl ⟨v, p2, q2, so2, ns2, wh2, tk2, en2, le2, leN (by omega) (by omega) v3, l2, rfl, rfl, hR2⟩, g1, fun _ => gs, fun _ => g2⟩
  · have a1 : D_X8_readGone_a1 (nI M) so1 (nI q1) (nI p1) (nI N) bytes fm pm = (-1, n, nI p1, nI p1, nI q1, so1) := e1
    have b3 : D_X12_goneLine_a3 fresh (nI p) 0 ft plc en (nI N) tape le = (0, 1, n, nI p1, nI p1, ns1, wh1, tk1, en1, le1) := by unfold D_X12_goneLine_a3; rw [j1, b2, h5]; exact e2
    rw [a1, b3]
    dsimp only
    rw [if_pos rfl, if_pos rfl]
    exact ⟨Or.inr ⟨n, nI p1, _, _, rfl, rfl, rfl, rfl, rfl, rfl, rfl, rfl⟩, g1, fun _ => gs, fun _ => g2⟩
theorem line_among {A : Nat} {pair ofPair : Nat → Int32} (hN : N ≤ 1000) (hT : TapR bytes tape) (hR1 : TokR N bytes p1 q1 so1 ns1 wh1 tk1 en1 le1) (hs : D_X12_goOn en (nI N) tape le = (nI p1, ns1, wh1, tk1, en1, le1)) (gs : G_X12_goOn en (nI N) tape le) (hM : NamR T M tn mn fresh) (h57 : ¬ fresh 57 = 0) (hA : A < 5) (h8' : fresh 8 = nI A) : ((∃ a b h, ∃ p2 q2 so2 ns2 wh2 tk2 en2 le2, a < M ∧ b < M ∧ a ≠ b ∧ h ≤ 2 ∧ p1 + q1 ≤ p2 ∧ D_X8_readAmong (nI M) so1 (nI q1) (nI p1) (nI N) bytes mn fm pm (nI A) pair ofPair = (1, fm, pm, nI p2, nI q2, so2, va_up pair A (((1 : Int32) <<< (nI a &&& 31)) ||| ((1 : Int32) <<< (nI b &&& 31))), va_up ofPair A (nI h), nI (A + 1)) ∧ D_X12_amongLine 0 fresh (nI p) ft plc en (nI N) tape ns wh tk le = (0, ft, plc, nI p2, ns2, wh2, tk2, en2, le2, amF A a b h fresh) ∧ TokR N bytes p2 q2 so2 ns2 wh2 tk2 en2 le2) ∨ (∃ n x Y Z, D_X8_readAmong (nI M) so1 (nI q1) (nI p1) (nI N) bytes mn fm pm (nI A) pair ofPair = Y ∧ Y.1 = 0 ∧ Y.2.1 = n ∧ Y.2.2.1 = x ∧ D_X12_amongLine 0 fresh (nI p) ft plc en (nI N) tape ns wh tk le = Z ∧ Z.1 = 1 ∧ Z.2.1 = n ∧ Z.2.2.1 = x)) ∧ G_X8_readAmong (nI M) so1 (nI q1) (nI p1) (nI N) bytes mn fm pm (nI A) ∧ G_X12_amongLine 0 fresh (nI p) ft plc en (nI N) tape le := by
  have h8 := hM.2.1
  have j1 : D_X12_amongLine_j1 0 fresh (nI p) ft plc = (0, ft, plc) := by unfold D_X12_amongLine_j1; rw [if_pos rfl, if_neg h57]
  have b2 : D_X12_amongLine_a2 en (nI N) tape le = (nI p1, ns1, wh1, tk1, en1, le1) := hs
  have cA : (fresh 8).toNatClampNeg = A := by rw [h8', nI_clamp (by omega)]
  have gA : ¬ fresh 8 < 0 := by rw [h8']; exact nI_pos (by omega)
  have A5 : ¬ (5 : Int32) ≤ nI A := nI_ge (b := 5) hA (by decide)
  have gB : G_X1_addAmong (nI A) := ⟨fun _ => nI_pos (by omega), fun _ => by rw [nI_clamp (by omega)]; exact hA⟩
  unfold D_X8_readAmong D_X12_amongLine D_X12_amongLine_j3 D_X12_amongLine_a10 D_X12_amongLine_a9 D_X12_amongLine_a7 G_X8_readAmong G_X12_amongLine
  rw [j1, b2, cA]
  obtain ⟨⟨a, p2, q2, so2, ns2, wh2, tk2, en2, le2, ha, l2, e1, e2, hR2⟩ | ⟨n, e1, e2⟩, g1, g2⟩ := member_eq (fm := fm) (pm := pm) (ft := ft) (plc := plc) hN hT hR1 hM
  case inr =>
    have a1 : D_X8_readAmong_a1 (nI M) so1 (nI q1) (nI p1) (nI N) bytes mn fm pm = (-1, n, nI p1, nI p1, nI q1, so1) := e1
    have c1 : D_X8_readAmong_j1 (nI M) so1 (nI q1) (nI p1) (nI N) bytes mn fm pm = (-1, n, nI p1) := by unfold D_X8_readAmong_j1; rw [a1, if_pos rfl]
    have b3 : D_X12_amongLine_a3 0 fresh (nI p) ft plc en (nI N) tape le = (0, 1, n, nI p1, nI p1, ns1, wh1, tk1, en1, le1) := by unfold D_X12_amongLine_a3; rw [j1, b2]; exact e2
    have b4 : D_X12_amongLine_a4 0 fresh (nI p) ft plc en (nI N) tape le = (0, 1, n, nI p1) := by unfold D_X12_amongLine_a4; rw [b3]; exact manHere_f
    have j2 : D_X12_amongLine_j2 0 fresh (nI p) ft plc en (nI N) tape le = (1, n, nI p1) := by unfold D_X12_amongLine_j2; rw [b4, if_neg (show ¬ (1 : Int32) = 0 by decide)]
    rw [a1, c1, b3, j2]
    dsimp only
    rw [if_pos rfl, if_pos rfl, if_neg (by decide)]
    exact ⟨Or.inr ⟨n, nI p1, _, _, rfl, rfl, rfl, rfl, rfl, rfl, rfl, rfl⟩, ⟨g1, fun h => absurd rfl h, fun h => absurd rfl h, fun h => absurd rfl h, fun h => absurd rfl h⟩, fun _ => gs, fun _ => g2, fun _ => G_manHere_f, fun _ h => absurd h (by decide), fun _ h => absurd h (by decide), fun _ h => absurd h (by decide), fun _ h => absurd h (by decide), fun _ h => absurd h (by decide), fun _ h => absurd h (by decide)⟩
  have a1 : D_X8_readAmong_a1 (nI M) so1 (nI q1) (nI p1) (nI N) bytes mn fm pm = (nI a, fm, pm, nI p2, nI q2, so2) := e1
  have b3 : D_X12_amongLine_a3 0 fresh (nI p) ft plc en (nI N) tape le = (nI a, 0, ft, plc, nI p2, ns2, wh2, tk2, en2, le2) := by unfold D_X12_amongLine_a3; rw [j1, b2]; exact e2
  rw [a1, b3]
  obtain ⟨⟨b, hb, hne, t2, e3, e4⟩ | ⟨e3, e4⟩ | ⟨n, e3, e4⟩, g3, g4⟩ := other_eq (fm := fm) (pm := pm) (ft := ft) (plc := plc) ha hN hR2 hM
  case inr.inl =>
    have a2 : D_X8_readAmong_a2 (nI M) so1 (nI q1) (nI p1) (nI N) bytes mn fm pm = (-1, 3, nI p2) := by unfold D_X8_readAmong_a2; rw [a1]; exact e3
    have c1 : D_X8_readAmong_j1 (nI M) so1 (nI q1) (nI p1) (nI N) bytes mn fm pm = (-1, 3, nI p2) := by unfold D_X8_readAmong_j1; rw [a1, a2, if_neg (nm1 (by omega))]
    have b4 : D_X12_amongLine_a4 0 fresh (nI p) ft plc en (nI N) tape le = (nI a, 0, ft, plc) := by unfold D_X12_amongLine_a4; rw [b3]; exact e4
    have b5 : D_X12_amongLine_a5 0 fresh (nI p) ft plc en (nI N) tape le = (1, 3, nI p2) := by unfold D_X12_amongLine_a5; rw [b3, b4]; exact bad_0 _ _
    have j2 : D_X12_amongLine_j2 0 fresh (nI p) ft plc en (nI N) tape le = (1, 3, nI p2) := by unfold D_X12_amongLine_j2; rw [b3, b4, b5, if_pos rfl, if_pos rfl]
    rw [c1, j2]
    dsimp only
    rw [if_pos rfl, if_pos rfl, if_neg (by decide)]
    exact ⟨Or.inr ⟨3, nI p2, _, _, rfl, rfl, rfl, rfl, rfl, rfl, rfl, rfl⟩, ⟨g1, fun _ => g3, fun h => absurd rfl h, fun h => absurd rfl h, fun h => absurd rfl h⟩, fun _ => gs, fun _ => g2, fun _ => g4, fun _ h => absurd h (by decide), fun _ h => absurd h (by decide), fun _ h => absurd h (by decide), fun _ h => absurd h (by decide), fun _ h => absurd h (by decide), fun _ h => absurd h (by decide)⟩
  case inr.inr =>
    have a2 : D_X8_readAmong_a2 (nI M) so1 (nI q1) (nI p1) (nI N) bytes mn fm pm = (-1, n, nI p2) := by unfold D_X8_readAmong_a2; rw [a1]; exact e3
    have c1 : D_X8_readAmong_j1 (nI M) so1 (nI q1) (nI p1) (nI N) bytes mn fm pm = (-1, n, nI p2) := by unfold D_X8_readAmong_j1; rw [a1, a2, if_neg (nm1 (by omega))]
    have b4 : D_X12_amongLine_a4 0 fresh (nI p) ft plc en (nI N) tape le = (0, 1, n, nI p2) := by unfold D_X12_amongLine_a4; rw [b3]; exact e4
    have j2 : D_X12_amongLine_j2 0 fresh (nI p) ft plc en (nI N) tape le = (1, n, nI p2) := by unfold D_X12_amongLine_j2; rw [b4, if_neg (show ¬ (1 : Int32) = 0 by decide)]
    rw [c1, j2]
    dsimp only
    rw [if_pos rfl, if_pos rfl, if_neg (by decide)]
    exact ⟨Or.inr ⟨n, nI p2, _, _, rfl, rfl, rfl, rfl, rfl, rfl, rfl, rfl⟩, ⟨g1, fun _ => g3, fun h => absurd rfl h, fun h => absurd rfl h, fun h => absurd rfl h⟩, fun _ => gs, fun _ => g2, fun _ => g4, fun _ h => absurd h (by decide), fun _ h => absurd h (by decide), fun _ h => absurd h (by decide), fun _ h => absurd h (by decide), fun _ h => absurd h (by decide), fun _ h => absurd h (by decide)⟩
  have nab : ¬ nI a = nI b := fun h => hne ((nI_eq (by omega) (by omega)).mp h).symm
  have a2 : D_X8_readAmong_a2 (nI M) so1 (nI q1) (nI p1) (nI N) bytes mn fm pm = (nI b, fm, pm) := by unfold D_X8_readAmong_a2; rw [a1]; exact e3
  have c1 : D_X8_readAmong_j1 (nI M) so1 (nI q1) (nI p1) (nI N) bytes mn fm pm = (nI b, fm, pm) := by unfold D_X8_readAmong_j1; rw [a1, a2, if_neg (nm1 (by omega))]
  have b4 : D_X12_amongLine_a4 0 fresh (nI p) ft plc en (nI N) tape le = (nI b, 0, ft, plc) := by unfold D_X12_amongLine_a4; rw [b3]; exact e4
  have j2 : D_X12_amongLine_j2 0 fresh (nI p) ft plc en (nI N) tape le = (0, ft, plc) := by
    unfold D_X12_amongLine_j2; rw [b3, b4]
    dsimp only
    rw [if_pos rfl, if_neg nab]
  obtain ⟨p3, q3, so3, ns3, wh3, tk3, en3, le3, l3, s1, s2, hR3, s4, s5⟩ := tk_step hN hT hR2 (by rw [t2]; decide)
  have a3 : D_X8_readAmong_a3 (nI M) so1 (nI q1) (nI p1) (nI N) bytes mn fm pm = (nI p3, nI q3, so3) := by unfold D_X8_readAmong_a3; rw [a1]; exact s1
  have b6 : D_X12_amongLine_a6 0 fresh (nI p) ft plc en (nI N) tape le = (nI p3, ns3, wh3, tk3, en3, le3) := by unfold D_X12_amongLine_a6; rw [b3]; exact s2
  rw [c1, a3, b4, j2, b6]
  obtain ⟨⟨v, p4, q4, so4, ns4, wh4, tk4, en4, le4, v1, v2, v3, l4, e5, e6, hR4⟩ | ⟨n, e5, e6⟩, g5, g6⟩ := number_eq (lo := 0) (hi := 2) (fm := fm) (pm := pm) (ft := ft) (plc := plc) hN hT hR3
  · have a4 : D_X8_readAmong_a4 (nI M) so1 (nI q1) (nI p1) (nI N) bytes mn fm pm = (nI v, fm, pm, nI p4, nI q4, so4) := by unfold D_X8_readAmong_a4; rw [a3, c1]; exact e5
    have b8 : D_X12_amongLine_a8 0 fresh (nI p) ft plc en (nI N) tape le = (nI v, 0, ft, plc, nI p4, ns4, wh4, tk4, en4, le4) := by unfold D_X12_amongLine_a8; rw [j2, b6]; exact e6
    have a5 : D_X8_readAmong_a5 (nI M) so1 (nI q1) (nI p1) (nI N) bytes mn fm pm (nI A) pair ofPair = (va_up pair A (((1 : Int32) <<< (nI a &&& 31)) ||| ((1 : Int32) <<< (nI b &&& 31))), va_up ofPair A (nI v), nI (A + 1)) := by
      unfold D_X8_readAmong_a5 D_X1_addAmong D_X1_addAmong_j1; rw [a1, c1, a4, if_neg A5, nI_clamp (by omega), nI_1]
    rw [a4, b8, a5]
    dsimp only
    rw [if_neg (nm1 (by omega)), if_neg (nm1 (by omega)), if_pos rfl, if_pos rfl, va_up_ne _ _ (show 8 ≠ 58 + 3 * A + 2 by omega), va_up_ne _ _ (show 8 ≠ 58 + 3 * A + 1 by omega), va_up_ne _ _ (show 8 ≠ 58 + 3 * A by omega), h8', nI_1]
    exact ⟨Or.inl ⟨a, b, v, p4, q4, so4, ns4, wh4, tk4, en4, le4, ha, hb, fun h => hne h.symm, leN (b := 2) (by omega) (by decide) v3, by omega, rfl, rfl, hR4⟩, ⟨g1, fun _ => g3, fun _ => s4, fun _ => g5, fun _ _ => gB⟩, fun _ => gs, fun _ => g2, fun _ => g4, fun _ _ => s5, fun _ _ => by rw [← h8']; exact gA, fun _ _ => by omega, fun _ _ => by omega, fun _ _ => g6, fun _ _ => by omega⟩
  · have a4 : D_X8_readAmong_a4 (nI M) so1 (nI q1) (nI p1) (nI N) bytes mn fm pm = (-1, n, nI p3, nI p3, nI q3, so3) := by unfold D_X8_readAmong_a4; rw [a3, c1]; exact e5
    have b8 : D_X12_amongLine_a8 0 fresh (nI p) ft plc en (nI N) tape le = (0, 1, n, nI p3, nI p3, ns3, wh3, tk3, en3, le3) := by unfold D_X12_amongLine_a8; rw [j2, b6]; exact e6
    rw [a4, b8]
    dsimp only
    rw [if_neg (nm1 (by omega)), if_pos rfl, if_pos rfl]
    exact ⟨Or.inr ⟨n, nI p3, _, _, rfl, rfl, rfl, rfl, rfl, rfl, rfl, rfl⟩, ⟨g1, fun _ => g3, fun _ => s4, fun _ => g5, fun _ h => absurd rfl h⟩, fun _ => gs, fun _ => g2, fun _ => g4, fun _ _ => s5, fun _ _ => gA, fun _ _ => by omega, fun _ _ => by omega, fun _ _ => g6, fun _ _ => by omega⟩
end LINES2
