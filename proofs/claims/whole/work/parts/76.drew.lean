/-! THE READER: the line drew -/
def DrR (fresh : Nat → Int32) (B K D : Nat) (drawer wb : Nat → Int32) : Prop := ∀ i, i < D → drawer i = fresh (45 + 2 * i) ∧ wb i = nI (aN (cbN wb i)) ∧ fresh (45 + 2 * i + 1) = nI (aN (cbN wb i)) ∧ (if cbN wb i then kN wb i < K else i - kN wb i < B - K)
def dwF (D m col : Nat) (fresh : Nat → Int32) : Nat → Int32 := va_up (va_up (va_up fresh (45 + 2 * D) (nI m)) (45 + 2 * D + 1) (nI col)) 7 (nI (D + 1))
theorem kN_s (wb : Nat → Int32) (i : Nat) : kN wb (i + 1) = kN wb i + aN (cbN wb i) := rfl
theorem nI_m1 {n : Nat} (h : 1 ≤ n) : nI n + -1 = nI (n - 1) := by
  have e : n = (n - 1) + 1 := by omega
  rw [e, nI_succ, Int32.add_assoc, show (1 : Int32) + -1 = 0 from rfl, Int32.add_zero, Nat.add_sub_cancel]
section DREW
variable {N p q p1 q1 T M B K D : Nat} {bytes tape le le1 fresh drawer wb : Nat → Int32} {so ns wh tk en so1 ns1 wh1 tk1 en1 ft plc fm pm : Int32} {tn mn : Nat → Int64}
theorem DrR_le (h : DrR fresh B K D drawer wb) : ∀ i, i ≤ D → kN wb i ≤ K ∧ i - kN wb i ≤ B - K := by
  intro i
  induction i with
  | zero => intro _; exact ⟨Nat.zero_le _, by show 0 - _ ≤ _; omega⟩
  | succ i ih =>
    intro hi
    have h1 := ih (by omega)
    have h2 := (h i (by omega)).2.2.2
    have h3 := kN_le wb i
    rw [kN_s]
    cases c : cbN wb i
    · rw [c] at h2
      have h2' : i - kN wb i < B - K := h2
      show kN wb i + 0 ≤ K ∧ i + 1 - (kN wb i + 0) ≤ B - K
      omega
    · rw [c] at h2
      have h2' : kN wb i < K := h2
      show kN wb i + 1 ≤ K ∧ i + 1 - (kN wb i + 1) ≤ B - K
      omega
theorem left_b (hD : D ≤ 6) (h : DrR fresh B K D drawer wb) : D_X2_leftOf 1 (nI B) (nI K) (nI D) wb = nI (K - kN wb D) ∧ am_fo (fun k1 (s1 : Int32) => s1 + (if fresh (45 + 2 * k1 + 1) = 1 then 1 else 0)) D 0 = nI (kN wb D) := by
  have inv : ∀ i, i ≤ D → am_fo (st_X2_leftOf_23 1 wb) i (nI K) = nI (K - kN wb i) ∧ am_fo (fun k1 (s1 : Int32) => s1 + (if fresh (45 + 2 * k1 + 1) = 1 then 1 else 0)) i 0 = nI (kN wb i) := by
    intro i
    induction i with
    | zero => intro _; exact ⟨rfl, rfl⟩
    | succ i ih =>
      intro hi
      obtain ⟨i1, i2⟩ := ih (by omega)
      obtain ⟨_, h1, h2, h3⟩ := h i (by omega)
      show st_X2_leftOf_23 1 wb i (am_fo (st_X2_leftOf_23 1 wb) i (nI K)) = _ ∧ (am_fo (fun k1 (s1 : Int32) => s1 + (if fresh (45 + 2 * k1 + 1) = 1 then 1 else 0)) i 0 + (if fresh (45 + 2 * i + 1) = 1 then 1 else 0)) = _
      rw [i1, i2]
      unfold st_X2_leftOf_23
      rw [h1, h2, kN_s]
      cases c : cbN wb i
      · rw [if_neg (show ¬ nI (aN false) = 1 by decide), if_neg (show ¬ nI (aN false) = 1 by decide)]
        exact ⟨rfl, Int32.add_zero _⟩
      · rw [c] at h3
        have h3' : kN wb i < K := h3
        rw [if_pos (show nI (aN true) = 1 by decide), if_pos (show nI (aN true) = 1 by decide), nI_m1 (by omega), nI_1]
        exact ⟨by show nI (K - kN wb i - 1) = nI (K - (kN wb i + 1)); congr 1, rfl⟩
  obtain ⟨a, b⟩ := inv D (Nat.le_refl D)
  refine ⟨?_, b⟩
  unfold D_X2_leftOf D_X2_leftOf_l1
  rw [be_nI (by omega), if_neg (by decide)]
  exact a
theorem left_w (hD : D ≤ 6) (hK : K ≤ B) (h : DrR fresh B K D drawer wb) : D_X2_leftOf 0 (nI B) (nI K) (nI D) wb = nI ((B - K) - (D - kN wb D)) ∧ am_fo (fun k1 (s1 : Int32) => s1 + (if fresh (45 + 2 * k1 + 1) = 0 then 1 else 0)) D 0 = nI (D - kN wb D) := by
  have inv : ∀ i, i ≤ D → am_fo (st_X2_leftOf_23 0 wb) i (nI (B - K)) = nI ((B - K) - (i - kN wb i)) ∧ am_fo (fun k1 (s1 : Int32) => s1 + (if fresh (45 + 2 * k1 + 1) = 0 then 1 else 0)) i 0 = nI (i - kN wb i) := by
    intro i
    induction i with
    | zero => intro _; exact ⟨rfl, rfl⟩
    | succ i ih =>
      intro hi
      obtain ⟨i1, i2⟩ := ih (by omega)
      obtain ⟨_, h1, h2, h3⟩ := h i (by omega)
      have h4 := kN_le wb i
      show st_X2_leftOf_23 0 wb i (am_fo (st_X2_leftOf_23 0 wb) i (nI (B - K))) = _ ∧ (am_fo (fun k1 (s1 : Int32) => s1 + (if fresh (45 + 2 * k1 + 1) = 0 then 1 else 0)) i 0 + (if fresh (45 + 2 * i + 1) = 0 then 1 else 0)) = _
      rw [i1, i2]
      unfold st_X2_leftOf_23
      rw [h1, h2, kN_s]
      cases c : cbN wb i
      · rw [c] at h3
        have h3' : i - kN wb i < B - K := h3
        rw [if_pos (show nI (aN false) = 0 by decide), if_pos (show nI (aN false) = 0 by decide), nI_m1 (by omega), nI_1]
        exact ⟨by show nI (B - K - (i - kN wb i) - 1) = nI (B - K - (i + 1 - (kN wb i + 0))); congr 1; omega, by show nI (i - kN wb i + 1) = nI (i + 1 - (kN wb i + 0)); congr 1; omega⟩
      · rw [if_neg (show ¬ nI (aN true) = 0 by decide), if_neg (show ¬ nI (aN true) = 0 by decide), Int32.add_zero]
        exact ⟨by show nI (B - K - (i - kN wb i)) = nI (B - K - (i + 1 - (kN wb i + 1))); congr 1; omega, by show nI (i - kN wb i) = nI (i + 1 - (kN wb i + 1)); congr 1; omega⟩
  obtain ⟨a, b⟩ := inv D (Nat.le_refl D)
  refine ⟨?_, b⟩
  unfold D_X2_leftOf D_X2_leftOf_l1
  rw [be_nI (by omega), if_pos rfl, show nI B - nI K = nI (B - K) by
    rw [show nI B = nI (B - K + K) by rw [Nat.sub_add_cancel hK], ← nI_add]; exact Int32.add_sub_cancel _ _]
  exact a
theorem drawn_eq {x : Int32} (hD : D ≤ 6) (h7 : fresh 7 = nI D) (h : DrR fresh B K D drawer wb) : ((D_X2_hasDrawn x (nI D) drawer = 0 ∧ D_X12_drewBy x fresh < 0) ∨ (D_X2_hasDrawn x (nI D) drawer = 1 ∧ ¬ D_X12_drewBy x fresh < 0)) ∧ G_X2_hasDrawn x (nI D) drawer ∧ G_X12_drewBy x fresh 172 := by
  have inv : ∀ i, i ≤ D → (am_fe (st_X2_hasDrawn_2 x drawer) i () = .inl () ∧ am_fe (st_X12_drewBy_2 x fresh) i () = .inl ()) ∨ (am_fe (st_X2_hasDrawn_2 x drawer) i () = .inr () ∧ ∃ j, j < i ∧ am_fe (st_X12_drewBy_2 x fresh) i () = .inr (nI j)) := by
    intro i
    induction i with
    | zero => intro _; exact Or.inl ⟨rfl, rfl⟩
    | succ i ih =>
      intro hi
      obtain ⟨h1, _⟩ := h i (by omega)
      rw [am_fe_s, am_fe_s]
      rcases ih (by omega) with ⟨i1, i2⟩ | ⟨i1, j, i2, i3⟩
      · rw [am_sel_l i1, am_sel_l i2]
        unfold st_X2_hasDrawn_2 st_X12_drewBy_2
        rw [h1]
        by_cases c : fresh (45 + 2 * i) = x
        · rw [if_pos c, if_pos c]; exact Or.inr ⟨rfl, i, by omega, rfl⟩
        · rw [if_neg c, if_neg c]; exact Or.inl ⟨rfl, rfl⟩
      · rw [am_sel_r i1, am_sel_r i3]; exact Or.inr ⟨rfl, j, by omega, rfl⟩
  refine ⟨?_, fun k s hk _ => ?_, fun k s hk _ => ?_, fun _ _ => by decide⟩
  · unfold D_X2_hasDrawn D_X2_hasDrawn_l1 D_X12_drewBy D_X12_drewBy_l1
    rw [h7, be_nI (by omega)]
    rcases inv D (Nat.le_refl D) with ⟨i1, i2⟩ | ⟨i1, j, i2, i3⟩
    · rw [am_sel_l i1, am_sel_l i2]; exact Or.inl ⟨rfl, by decide⟩
    · rw [am_sel_r i1, am_sel_r i3]; exact Or.inr ⟨rfl, nI_pos (by omega)⟩
  · rw [be_nI (by omega)] at hk; show k < 6; omega
  · rw [h7, be_nI (by omega)] at hk; exact ⟨by decide, by omega⟩
theorem line_drew (hN : N ≤ 1000) (hT : TapR bytes tape) (hR1 : TokR N bytes p1 q1 so1 ns1 wh1 tk1 en1 le1) (hs : D_X12_goOn en (nI N) tape le = (nI p1, ns1, wh1, tk1, en1, le1)) (gs : G_X12_goOn en (nI N) tape le) (hM : NamR T M tn mn fresh) (hB : B ≤ 12) (hK1 : 1 ≤ K) (hK : K ≤ B) (h41 : fresh 41 = nI B) (h42 : fresh 42 = nI K) (hD : D < 6) (h7 : fresh 7 = nI D) (hd : DrR fresh B K D drawer wb) : ((∃ m col, ∃ p2 q2 so2 ns2 wh2 tk2 en2 le2, m < M ∧ col ≤ 1 ∧ (if col = 1 then kN wb D < K else D - kN wb D < B - K) ∧ p1 + q1 ≤ p2 ∧ D_X8_readDrew (nI M) so1 (nI q1) (nI p1) (nI N) bytes mn fm pm (nI D) drawer (nI B) (nI K) wb = (1, fm, pm, nI p2, nI q2, so2, va_up drawer D (nI m), va_up wb D (nI col), nI (D + 1)) ∧ D_X12_drewLine 0 fresh (nI p) ft plc en (nI N) tape ns wh tk le = (0, ft, plc, nI p2, ns2, wh2, tk2, en2, le2, dwF D m col fresh) ∧ TokR N bytes p2 q2 so2 ns2 wh2 tk2 en2 le2) ∨ (∃ n x Y Z, D_X8_readDrew (nI M) so1 (nI q1) (nI p1) (nI N) bytes mn fm pm (nI D) drawer (nI B) (nI K) wb = Y ∧ Y.1 = 0 ∧ Y.2.1 = n ∧ Y.2.2.1 = x ∧ D_X12_drewLine 0 fresh (nI p) ft plc en (nI N) tape ns wh tk le = Z ∧ Z.1 = 1 ∧ Z.2.1 = n ∧ Z.2.2.1 = x)) ∧ G_X8_readDrew (nI M) so1 (nI q1) (nI p1) (nI N) bytes mn fm pm (nI D) drawer (nI B) (nI K) wb ∧ G_X12_drewLine 0 fresh (nI p) ft plc en (nI N) tape le := by
  have h8 := hM.2.1
  have j0 : D_X12_drewLine_j1 0 fresh (nI p) ft plc = (0, ft, plc) := by
    unfold D_X12_drewLine_j1; rw [if_pos rfl, h41, if_neg (fun h => by have := (nI_eq (a := B) (b := 0) (by omega) (by decide)).mp h; omega)]
  have b2 : D_X12_drewLine_a2 en (nI N) tape le = (nI p1, ns1, wh1, tk1, en1, le1) := hs
  have c7 : (fresh 7).toNatClampNeg = D := by rw [h7, nI_clamp (by omega)]
  have g7 : ¬ fresh 7 < 0 := by rw [h7]; exact nI_pos (by omega)
  have D6 : ¬ (6 : Int32) ≤ nI D := nI_ge (b := 6) hD (by decide)
  have gB : G_X2_addDraw (nI D) := ⟨fun _ => nI_pos (by omega), fun _ => by rw [nI_clamp (by omega)]; exact hD⟩
  have gL : ∀ x, G_X2_leftOf x (nI B) (nI K) (nI D) wb := fun x k s hk _ => by rw [be_nI (by omega)] at hk; show k < 6; omega
  have gU : ∀ (k1 : Nat) (s1 : Int32), k1 < am_be (fresh 7) 0 → s1 = am_fo (st_X12_drewLine_131 0 fresh (nI p) ft plc en (nI N) tape le) k1 0 → G_st_X12_drewLine_131 k1 s1 := fun k s hk _ => by
    rw [h7, be_nI (by omega)] at hk; show 45 + 2 * k + 1 < 172; omega
  have up7 : ∀ v : Int32, va_up fresh (45 + 2 * D) v 7 = nI D := fun v => by rw [va_up_ne _ _ (by omega), h7]
  unfold D_X8_readDrew D_X12_drewLine G_X8_readDrew G_X12_drewLine
  rw [j0, b2, c7]
  obtain ⟨⟨m, m1, m2, e1, e2⟩ | ⟨n, e1, e2⟩, g1, g2⟩ := told_man (fm := fm) (pm := pm) (ft := ft) (plc := plc) hN hR1 hM
  case inr =>
    have a1 : D_X8_readDrew_a1 (nI M) so1 (nI q1) (nI p1) (nI N) bytes mn fm pm = (-1, n, nI p1) := e1
    have b3 : D_X12_drewLine_a3 0 fresh (nI p) ft plc en (nI N) tape le = (0, 1, n, nI p1) := by unfold D_X12_drewLine_a3; rw [j0, b2]; exact e2
    have j2 : D_X12_drewLine_j2 0 fresh (nI p) ft plc en (nI N) tape le = (1, n, nI p1) := by unfold D_X12_drewLine_j2; rw [b3, if_neg (show ¬ (1 : Int32) = 0 by decide)]
    rw [a1, b3, j2]
    dsimp only
    rw [if_pos rfl, if_pos rfl, if_neg (by decide)]
    exact ⟨Or.inr ⟨n, nI p1, _, _, rfl, rfl, rfl, rfl, rfl, rfl, rfl, rfl⟩, ⟨g1, fun h => absurd rfl h, fun h => absurd rfl h, fun h => absurd rfl h, fun h => absurd rfl h, fun h => absurd rfl h, fun h => absurd rfl h, fun h => absurd rfl h, fun h => absurd rfl h, fun h => absurd rfl h, fun h => absurd rfl h⟩, fun _ => gs, fun _ => g2, fun _ h => absurd h (by decide), fun _ h => absurd h (by decide), fun _ h => absurd h (by decide), fun _ h => absurd h (by decide), fun _ h => absurd h (by decide), fun _ h => absurd h (by decide), fun _ h => absurd h (by decide), fun _ h => absurd h (by decide), fun _ h => absurd h (by decide), fun _ h => absurd h (by decide)⟩
  have a1 : D_X8_readDrew_a1 (nI M) so1 (nI q1) (nI p1) (nI N) bytes mn fm pm = (nI m, fm, pm) := e1
  have b3 : D_X12_drewLine_a3 0 fresh (nI p) ft plc en (nI N) tape le = (nI m, 0, ft, plc) := by unfold D_X12_drewLine_a3; rw [j0, b2]; exact e2
  rw [a1, b3]
  obtain ⟨⟨d1, d2⟩ | ⟨d1, d2⟩, g3, g4⟩ := drawn_eq (x := nI m) (by omega) h7 hd
  case inr =>
    have a2 : D_X8_readDrew_a2 (nI M) so1 (nI q1) (nI p1) (nI N) bytes mn fm pm (nI D) drawer = 1 := by unfold D_X8_readDrew_a2; rw [a1]; exact d1
    have b4 : ¬ D_X12_drewLine_a4 0 fresh (nI p) ft plc en (nI N) tape le < 0 := by unfold D_X12_drewLine_a4; rw [b3]; exact d2
    have b5 : D_X12_drewLine_a5 0 fresh (nI p) ft plc en (nI N) tape le = (1, 3, nI p1) := by unfold D_X12_drewLine_a5; rw [b2, b3]; exact bad_0 _ _
    have j2 : D_X12_drewLine_j2 0 fresh (nI p) ft plc en (nI N) tape le = (1, 3, nI p1) := by
      unfold D_X12_drewLine_j2; rw [b3, b5]
      dsimp only
      rw [if_pos rfl, if_neg b4]
    have a13 : D_X8_readDrew_a13 (nI p1) = (0, 3, nI p1) := rfl
    rw [a2, j2, a13]
    dsimp only
    rw [if_neg (nm1 (by omega)), if_neg (by decide), if_pos rfl, if_neg (by decide)]
    exact ⟨Or.inr ⟨3, nI p1, _, _, rfl, rfl, rfl, rfl, rfl, rfl, rfl, rfl⟩, ⟨g1, fun _ => g3, fun _ h => absurd h (by decide), fun _ h => absurd h (by decide), fun _ h => absurd h (by decide), fun _ h => absurd h (by decide), fun _ h => absurd h (by decide), fun _ h => absurd h (by decide), fun _ h => absurd h (by decide), fun _ h => absurd h (by decide), fun _ h => absurd h (by decide)⟩, fun _ => gs, fun _ => g2, fun _ _ => g4, fun _ h => absurd h (by decide), fun _ h => absurd h (by decide), fun _ h => absurd h (by decide), fun _ h => absurd h (by decide), fun _ h => absurd h (by decide), fun _ h => absurd h (by decide), fun _ h => absurd h (by decide), fun _ h => absurd h (by decide), fun _ h => absurd h (by decide)⟩
  have a2 : D_X8_readDrew_a2 (nI M) so1 (nI q1) (nI p1) (nI N) bytes mn fm pm (nI D) drawer = 0 := by unfold D_X8_readDrew_a2; rw [a1]; exact d1
  have b4 : D_X12_drewLine_a4 0 fresh (nI p) ft plc en (nI N) tape le < 0 := by unfold D_X12_drewLine_a4; rw [b3]; exact d2
  have j2 : D_X12_drewLine_j2 0 fresh (nI p) ft plc en (nI N) tape le = (0, ft, plc) := by
    unfold D_X12_drewLine_j2; rw [b3]
    dsimp only
    rw [if_pos rfl, if_pos b4]
  obtain ⟨p2, q2, so2, ns2, wh2, tk2, en2, le2, l2, s1, s2, hR2, s4, s5⟩ := tk_step hN hT hR1 (by rw [m2]; decide)
  have a3 : D_X8_readDrew_a3 (nI q1) (nI p1) (nI N) bytes = (nI p2, nI q2, so2) := s1
  have b6 : D_X12_drewLine_a6 en (nI N) tape le = (nI p2, ns2, wh2, tk2, en2, le2) := by unfold D_X12_drewLine_a6; rw [b2]; exact s2
  obtain ⟨w1, w2, w3, w4⟩ := isWord_eq (w := 19) (w' := 43) hN hR2 rfl (by decide)
  obtain ⟨x1, x2, x3, x4⟩ := isWord_eq (w := 22) (w' := 46) hN hR2 rfl (by decide)
  have a4 : D_X8_readDrew_a4 (nI q1) (nI p1) (nI N) bytes = D_X12_isWord 43 0 tk2 ns2 le2 := by unfold D_X8_readDrew_a4; rw [a3]; exact w1
  have a5 : D_X8_readDrew_a5 (nI q1) (nI p1) (nI N) bytes = D_X12_isWord 46 0 tk2 ns2 le2 := by unfold D_X8_readDrew_a5; rw [a3]; exact x1
  have b7 : D_X12_drewLine_a7 0 fresh (nI p) ft plc en (nI N) tape le = D_X12_isWord 43 0 tk2 ns2 le2 := by unfold D_X12_drewLine_a7; rw [j2, b6]
  have b8 : D_X12_drewLine_a8 0 fresh (nI p) ft plc en (nI N) tape le = D_X12_isWord 46 0 tk2 ns2 le2 := by unfold D_X12_drewLine_a8; rw [j2, b6]
  have a7 : D_X8_readDrew_a7 (nI M) so1 (nI q1) (nI p1) (nI N) bytes mn fm pm (nI D) drawer wb = (va_up drawer D (nI m), va_up wb D (vp_nar .boolean (D_X12_isWord 43 0 tk2 ns2 le2)), nI (D + 1)) := by
    unfold D_X8_readDrew_a7 D_X2_addDraw D_X2_addDraw_j1; rw [a1, a4, if_neg D6, nI_clamp (by omega), nI_1]
  have a10 : D_X8_readDrew_a10 (nI M) so1 (nI q1) (nI p1) (nI N) bytes mn fm pm (nI D) drawer wb = (va_up drawer D (nI m), va_up wb D (vp_nar .boolean (D_X12_isWord 43 0 tk2 ns2 le2)), nI (D + 1)) := by
    unfold D_X8_readDrew_a10 D_X2_addDraw D_X2_addDraw_j1; rw [a1, a4, if_neg D6, nI_clamp (by omega), nI_1]
  have a9 : D_X8_readDrew_a9 (nI q1) (nI p1) (nI N) bytes = (0, 7, nI p2) := by unfold D_X8_readDrew_a9 D_X8_fail; rw [a3]
  have a12 : D_X8_readDrew_a12 (nI q1) (nI p1) (nI N) bytes = (0, 7, nI p2) := by unfold D_X8_readDrew_a12 D_X8_fail; rw [a3]
  have a6 : D_X8_readDrew_a6 (nI q1) (nI p1) (nI N) bytes = (0, 1, nI p2) := by unfold D_X8_readDrew_a6 D_X8_fail; rw [a3]
  have le1' := DrR_le hd D (Nat.le_refl D)
  rw [a2, a3, a4, a5, j2, b6, b7, a7, a10, a9, a12, a6]
  by_cases c : D_X12_isWord 43 0 tk2 ns2 le2 = 0
  · rw [c] at b7 ⊢
    by_cases d : D_X12_isWord 46 0 tk2 ns2 le2 = 0
    · -- no colour
      rw [d] at b8
      have j3 : D_X12_drewLine_j3 0 fresh (nI p) ft plc en (nI N) tape le = -1 := by unfold D_X12_drewLine_j3; rw [b7, b8, if_pos rfl, if_pos rfl]
      have b9 : D_X12_drewLine_a9 0 fresh (nI p) ft plc en (nI N) tape le = (1, 1, nI p2) := by unfold D_X12_drewLine_a9; rw [j2, b6]; exact bad_0 _ _
      have j4 : D_X12_drewLine_j4 0 fresh (nI p) ft plc en (nI N) tape le = (1, 1, nI p2) := by unfold D_X12_drewLine_j4; rw [j3, b9, if_neg (by decide)]
      have j7 : D_X12_drewLine_j7 0 fresh (nI p) ft plc en (nI N) tape le = (1, 1, nI p2) := by unfold D_X12_drewLine_j7; rw [j4, if_neg (show ¬ (1 : Int32) = 0 by decide)]
      rw [d, j7]
      dsimp only
      rw [if_neg (nm1 (by omega)), if_pos rfl, if_pos rfl, if_pos rfl, if_pos rfl, if_pos rfl, if_neg (show ¬ (1 : Int32) = 0 by decide)]
      exact ⟨Or.inr ⟨1, nI p2, _, _, rfl, rfl, rfl, rfl, rfl, rfl, rfl, rfl⟩, ⟨g1, fun _ => g3, fun _ _ => s4, fun _ _ => w3, fun _ _ _ => x3, fun _ _ _ h => absurd rfl h, fun _ _ _ h => absurd rfl h, fun _ _ _ h => absurd rfl h, fun _ _ h => absurd rfl h, fun _ _ h => absurd rfl h, fun _ _ h => absurd rfl h⟩, fun _ => gs, fun _ => g2, fun _ _ => g4, fun _ _ => s5, fun _ _ => w4, fun _ _ _ => x4, fun _ _ => gU, fun _ _ h => absurd h (by decide), fun _ _ h => absurd h (by decide), fun _ _ h => absurd h (by decide), fun _ _ h => absurd h (by decide), fun _ _ h => absurd h (by decide)⟩
    · -- white
      obtain ⟨p3, q3, so3, ns3, wh3, tk3, en3, le3, l3, t1, t2, hR3, t4, t5⟩ := tk_step hN hT hR2 (by rw [word_so hR2 d]; decide)
      have a8 : D_X8_readDrew_a8 (nI q1) (nI p1) (nI N) bytes = (nI p3, nI q3, so3) := by unfold D_X8_readDrew_a8; rw [a3]; exact t1
      have b11 : D_X12_drewLine_a11 en (nI N) tape le = (nI p3, ns3, wh3, tk3, en3, le3) := by unfold D_X12_drewLine_a11; rw [b6]; exact t2
      have j3 : D_X12_drewLine_j3 0 fresh (nI p) ft plc en (nI N) tape le = 0 := by unfold D_X12_drewLine_j3; rw [b7, b8, if_pos rfl, if_neg d]
      have j4 : D_X12_drewLine_j4 0 fresh (nI p) ft plc en (nI N) tape le = (0, ft, plc) := by unfold D_X12_drewLine_j4; rw [j3, j2, if_pos (by decide)]
      obtain ⟨f1, f2⟩ := left_w (by omega) hK hd
      have lw : D_X12_drewLine_l1 0 fresh (nI p) ft plc en (nI N) tape le = nI (D - kN wb D) := by
        unfold D_X12_drewLine_l1; rw [h7, be_nI (by omega)]
        refine Eq.trans (am_fo_congr (fun k s _ => ?_) 0) f2
        unfold st_X12_drewLine_131 D_X12_drewLine_j5; rw [j3]
      have j6 : D_X12_drewLine_j6 0 fresh (nI p) ft plc en (nI N) tape le = nI (B - K) := by
        unfold D_X12_drewLine_j6; rw [j3, if_neg (by decide), h41, h42]
        rw [show nI B = nI (B - K + K) by rw [Nat.sub_add_cancel hK], ← nI_add]; exact Int32.add_sub_cancel _ _
      rw [f1, a8, b11]
      dsimp only
      rw [if_neg (nm1 (by omega)), if_pos rfl, if_pos rfl, if_neg d]
      by_cases f : D - kN wb D = B - K
      · have j7 : D_X12_drewLine_j7 0 fresh (nI p) ft plc en (nI N) tape le = (1, 7, nI p2) := by
          unfold D_X12_drewLine_j7 D_X12_drewLine_a10; rw [j4, lw, j6, b6]
          dsimp only
          rw [if_pos rfl, if_pos (by rw [f]), bad_0]
        rw [j7, f, Nat.sub_self]
        dsimp only
        rw [if_neg (show ¬ (0 : Int32) < nI 0 by decide), if_pos rfl, if_pos rfl, if_neg (show ¬ (1 : Int32) = 0 by decide)]
        exact ⟨Or.inr ⟨7, nI p2, _, _, rfl, rfl, rfl, rfl, rfl, rfl, rfl, rfl⟩, ⟨g1, fun _ => g3, fun _ _ => s4, fun _ _ => w3, fun _ _ _ => x3, fun _ _ _ _ => gL _, fun _ _ _ _ h => absurd h (by decide), fun _ _ _ _ h => absurd h (by decide), fun _ _ h => absurd rfl h, fun _ _ h => absurd rfl h, fun _ _ h => absurd rfl h⟩, fun _ => gs, fun _ => g2, fun _ _ => g4, fun _ _ => s5, fun _ _ => w4, fun _ _ _ => x4, fun _ _ => gU, fun _ _ h => absurd h (by decide), fun _ _ h => absurd h (by decide), fun _ _ h => absurd h (by decide), fun _ _ h => absurd h (by decide), fun _ _ h => absurd h (by decide)⟩
      · have j7 : D_X12_drewLine_j7 0 fresh (nI p) ft plc en (nI N) tape le = (0, ft, plc) := by
          unfold D_X12_drewLine_j7; rw [j4, lw, j6]
          dsimp only
          rw [if_pos rfl, if_neg (fun h => f ((nI_eq (by omega) (by omega)).mp h))]
        have b13 : D_X12_drewLine_a13 0 fresh (nI p) ft plc en (nI N) tape le = dwF D m 0 fresh := by
          unfold D_X12_drewLine_a13 D_X12_drewLine_a12 dwF; rw [b3, c7, j3, up7, nI_clamp (by omega), va_up_ne _ _ (show 7 ≠ 45 + 2 * D + 1 by omega), up7, nI_1]; rfl
        rw [j7, b13, up7, nI_clamp (show D < 2 ^ 31 by omega)]
        dsimp only
        rw [if_pos (show (0 : Int32) < nI (B - K - (D - kN wb D)) from nI_lt (a := 0) (by omega) (by omega)), if_pos rfl, if_pos rfl, if_pos rfl]
        exact ⟨Or.inl ⟨m, 0, p3, q3, so3, ns3, wh3, tk3, en3, le3, m1, by omega, by rw [if_neg (by decide)]; omega, by omega, rfl, rfl, hR3⟩, ⟨g1, fun _ => g3, fun _ _ => s4, fun _ _ => w3, fun _ _ _ => x3, fun _ _ _ _ => gL _, fun _ _ _ _ _ => gB, fun _ _ _ _ _ => t4, fun _ _ h => absurd rfl h, fun _ _ h => absurd rfl h, fun _ _ h => absurd rfl h⟩, fun _ => gs, fun _ => g2, fun _ _ => g4, fun _ _ => s5, fun _ _ => w4, fun _ _ _ => x4, fun _ _ => gU, fun _ _ _ => t5, fun _ _ _ => g7, fun _ _ _ => by omega, fun _ _ _ => nI_pos (by omega), fun _ _ _ => by omega⟩
  · -- black
    have c1 : D_X12_isWord 43 0 tk2 ns2 le2 = 1 := w2.resolve_left c
    obtain ⟨p3, q3, so3, ns3, wh3, tk3, en3, le3, l3, t1, t2, hR3, t4, t5⟩ := tk_step hN hT hR2 (by rw [word_so hR2 c]; decide)
    rw [c1] at b7 ⊢
    have a11 : D_X8_readDrew_a11 (nI q1) (nI p1) (nI N) bytes = (nI p3, nI q3, so3) := by unfold D_X8_readDrew_a11; rw [a3]; exact t1
    have b11 : D_X12_drewLine_a11 en (nI N) tape le = (nI p3, ns3, wh3, tk3, en3, le3) := by unfold D_X12_drewLine_a11; rw [b6]; exact t2
    have j3 : D_X12_drewLine_j3 0 fresh (nI p) ft plc en (nI N) tape le = 1 := by unfold D_X12_drewLine_j3; rw [b7, if_neg (by decide)]
    have j4 : D_X12_drewLine_j4 0 fresh (nI p) ft plc en (nI N) tape le = (0, ft, plc) := by unfold D_X12_drewLine_j4; rw [j3, j2, if_pos (by decide)]
    obtain ⟨f1, f2⟩ := left_b (by omega) hd
    have lw : D_X12_drewLine_l1 0 fresh (nI p) ft plc en (nI N) tape le = nI (kN wb D) := by
      unfold D_X12_drewLine_l1; rw [h7, be_nI (by omega)]
      refine Eq.trans (am_fo_congr (fun k s _ => ?_) 0) f2
      unfold st_X12_drewLine_131 D_X12_drewLine_j5; rw [j3]
    have j6 : D_X12_drewLine_j6 0 fresh (nI p) ft plc en (nI N) tape le = nI K := by
      unfold D_X12_drewLine_j6; rw [j3, if_pos rfl, h42]
    rw [f1, a11, b11]
    dsimp only
    rw [if_neg (nm1 (by omega)), if_pos rfl, if_neg (by decide)]
    by_cases f : kN wb D = K
    · have j7 : D_X12_drewLine_j7 0 fresh (nI p) ft plc en (nI N) tape le = (1, 7, nI p2) := by
        unfold D_X12_drewLine_j7 D_X12_drewLine_a10; rw [j4, lw, j6, b6]
        dsimp only
        rw [if_pos rfl, if_pos (by rw [f]), bad_0]
      rw [j7, f, Nat.sub_self]
      dsimp only
      rw [if_neg (show ¬ (0 : Int32) < nI 0 by decide), if_pos rfl, if_pos rfl, if_neg (show ¬ (1 : Int32) = 0 by decide)]
      exact ⟨Or.inr ⟨7, nI p2, _, _, rfl, rfl, rfl, rfl, rfl, rfl, rfl, rfl⟩, ⟨g1, fun _ => g3, fun _ _ => s4, fun _ _ => w3, fun _ _ h => absurd h (by decide), fun _ _ h => absurd h (by decide), fun _ _ h => absurd h (by decide), fun _ _ h => absurd h (by decide), fun _ _ _ => gL _, fun _ _ _ h => absurd h (by decide), fun _ _ _ h => absurd h (by decide)⟩, fun _ => gs, fun _ => g2, fun _ _ => g4, fun _ _ => s5, fun _ _ => w4, fun _ _ h => absurd h (by decide), fun _ _ => gU, fun _ _ h => absurd h (by decide), fun _ _ h => absurd h (by decide), fun _ _ h => absurd h (by decide), fun _ _ h => absurd h (by decide), fun _ _ h => absurd h (by decide)⟩
    · have j7 : D_X12_drewLine_j7 0 fresh (nI p) ft plc en (nI N) tape le = (0, ft, plc) := by
        unfold D_X12_drewLine_j7; rw [j4, lw, j6]
        dsimp only
        rw [if_pos rfl, if_neg (fun h => f ((nI_eq (by omega) (by omega)).mp h))]
      have b13 : D_X12_drewLine_a13 0 fresh (nI p) ft plc en (nI N) tape le = dwF D m 1 fresh := by
        unfold D_X12_drewLine_a13 D_X12_drewLine_a12 dwF; rw [b3, c7, j3, up7, nI_clamp (by omega), va_up_ne _ _ (show 7 ≠ 45 + 2 * D + 1 by omega), up7, nI_1]; rfl
      rw [j7, b13, up7, nI_clamp (show D < 2 ^ 31 by omega)]
      dsimp only
      rw [if_pos (show (0 : Int32) < nI (K - kN wb D) from nI_lt (a := 0) (by omega) (by omega)), if_pos rfl, if_pos rfl, if_pos rfl]
      exact ⟨Or.inl ⟨m, 1, p3, q3, so3, ns3, wh3, tk3, en3, le3, m1, by omega, by rw [if_pos rfl]; omega, by omega, rfl, rfl, hR3⟩, ⟨g1, fun _ => g3, fun _ _ => s4, fun _ _ => w3, fun _ _ h => absurd h (by decide), fun _ _ h => absurd h (by decide), fun _ _ h => absurd h (by decide), fun _ _ h => absurd h (by decide), fun _ _ _ => gL _, fun _ _ _ _ => gB, fun _ _ _ _ => t4⟩, fun _ => gs, fun _ => g2, fun _ _ => g4, fun _ _ => s5, fun _ _ => w4, fun _ _ h => absurd h (by decide), fun _ _ => gU, fun _ _ _ => t5, fun _ _ _ => g7, fun _ _ _ => by omega, fun _ _ _ => nI_pos (by omega), fun _ _ _ => by omega⟩
end DREW
