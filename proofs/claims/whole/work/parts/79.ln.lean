/-! THE READER: a line, class beside reference -/
abbrev S32 : Type := Int32 × Int32 × Int32 × Int32 × Int32 × Int32 × Int32 × Int32 × Int32 × Int32 × Int32 × Int32 × Int32 × Int32 × Int32 × Int32 × Int32 × (Nat → Int64) × (Nat → Int64) × (Nat → Int32) × (Nat → Int32) × (Nat → Int32) × (Nat → Int32) × (Nat → Int32) × (Nat → Int32) × Int32 × Int32 × Int32 × (Nat → Int32) × (Nat → Int32) × (Nat → Int32) × (Nat → Int32)
def LnC (x0 : Int32) (bytes : Nat → Int32) (s : S32) (Z : Z10) (N p : Nat) (fm pm ft plc : Int32) : Prop :=
  (∃ n, ¬ n = 0 ∧ D_X8_readText_a4 x0 bytes s = n ∧ Z.1 = 1 ∧ Z.2.1 = n ∧ Z.2.2.1 = nI p) ∨
  (D_X8_readText_a4 x0 bytes s = 0 ∧ ∃ J, D_X8_readText_j1 x0 bytes s = J ∧ J.1 = 0 ∧ Z.1 = 1 ∧ Z.2.1 = J.2.2.2.2.2.2.2.2.2.2.2.2.2.1 ∧ Z.2.2.1 = J.2.2.2.2.2.2.2.2.2.2.2.2.2.2.1) ∨
  (D_X8_readText_a4 x0 bytes s = 0 ∧ ∃ T' M' P' holds' oneIn' fear' mutiny' beans' draws' goneTold' amongs' begun' tn' mn' kind' firstTen' nerve' friendsOf' fearTimes' weight' black' shaken' fav' drawer' wb' pair' ofPair' fresh', ∃ p2 q2 so2 ns2 wh2 tk2 en2 le2, p + 1 ≤ p2 ∧ D_X8_readText_j1 x0 bytes s = (1, holds', oneIn', fear', mutiny', nI T', nI M', nI P', beans', draws', goneTold', amongs', begun', fm, pm, nI p2, nI q2, so2, tn', mn', kind', firstTen', nerve', friendsOf', fearTimes', weight', black', shaken', fav', drawer', wb', pair', ofPair') ∧ Z = (0, ft, plc, nI p2, ns2, wh2, tk2, en2, le2, fresh') ∧ TokR N bytes p2 q2 so2 ns2 wh2 tk2 en2 le2 ∧ RdR T' M' P' holds' oneIn' fear' mutiny' beans' draws' goneTold' amongs' begun' tn' mn' kind' firstTen' nerve' friendsOf' fearTimes' weight' black' shaken' fav' drawer' wb' pair' ofPair' fresh')
section LN
variable {begun tens men pairs beans draws goneTold amongs : Int32}
theorem fol0 : D_X8_faultOfLine 0 begun tens men pairs beans draws goneTold amongs = if begun = 0 then 0 else 3 := by
  unfold D_X8_faultOfLine; rw [if_neg (show ¬ (0 : Int32) = -1 by decide), if_neg (show ¬ (0 : Int32) = 8 by decide), if_pos rfl]
theorem folL1 (hb : begun = 0) : D_X8_faultOfLine 1 begun tens men pairs beans draws goneTold amongs = 6 := by
  unfold D_X8_faultOfLine; rw [if_neg (show ¬ (1 : Int32) = -1 by decide), if_neg (show ¬ (1 : Int32) = 8 by decide), if_neg (show ¬ (1 : Int32) = 0 by decide), if_pos hb]
theorem fol1 (hb : ¬ begun = 0) : D_X8_faultOfLine 1 begun tens men pairs beans draws goneTold amongs = if 3 ≤ tens then 5 else 0 := by
  unfold D_X8_faultOfLine; rw [if_neg (show ¬ (1 : Int32) = -1 by decide), if_neg (show ¬ (1 : Int32) = 8 by decide), if_neg (show ¬ (1 : Int32) = 0 by decide), if_neg hb, if_pos rfl]
theorem folL2 (hb : begun = 0) : D_X8_faultOfLine 2 begun tens men pairs beans draws goneTold amongs = 6 := by
  unfold D_X8_faultOfLine; rw [if_neg (show ¬ (2 : Int32) = -1 by decide), if_neg (show ¬ (2 : Int32) = 8 by decide), if_neg (show ¬ (2 : Int32) = 0 by decide), if_pos hb]
theorem fol2 (hb : ¬ begun = 0) : D_X8_faultOfLine 2 begun tens men pairs beans draws goneTold amongs = if 8 ≤ men then 5 else 0 := by
  unfold D_X8_faultOfLine; rw [if_neg (show ¬ (2 : Int32) = -1 by decide), if_neg (show ¬ (2 : Int32) = 8 by decide), if_neg (show ¬ (2 : Int32) = 0 by decide), if_neg hb, if_neg (show ¬ (2 : Int32) = 1 by decide), if_pos rfl]
theorem folL3 (hb : begun = 0) : D_X8_faultOfLine 3 begun tens men pairs beans draws goneTold amongs = 6 := by
  unfold D_X8_faultOfLine; rw [if_neg (show ¬ (3 : Int32) = -1 by decide), if_neg (show ¬ (3 : Int32) = 8 by decide), if_neg (show ¬ (3 : Int32) = 0 by decide), if_pos hb]
theorem fol3 (hb : ¬ begun = 0) : D_X8_faultOfLine 3 begun tens men pairs beans draws goneTold amongs = if 8 ≤ pairs then 5 else 0 := by
  unfold D_X8_faultOfLine; rw [if_neg (show ¬ (3 : Int32) = -1 by decide), if_neg (show ¬ (3 : Int32) = 8 by decide), if_neg (show ¬ (3 : Int32) = 0 by decide), if_neg hb, if_neg (show ¬ (3 : Int32) = 1 by decide), if_neg (show ¬ (3 : Int32) = 2 by decide), if_pos rfl]
theorem folL4 (hb : begun = 0) : D_X8_faultOfLine 4 begun tens men pairs beans draws goneTold amongs = 6 := by
  unfold D_X8_faultOfLine; rw [if_neg (show ¬ (4 : Int32) = -1 by decide), if_neg (show ¬ (4 : Int32) = 8 by decide), if_neg (show ¬ (4 : Int32) = 0 by decide), if_pos hb]
theorem fol4 (hb : ¬ begun = 0) : D_X8_faultOfLine 4 begun tens men pairs beans draws goneTold amongs = if D_X2_isTold beans = 0 then 0 else 3 := by
  unfold D_X8_faultOfLine; rw [if_neg (show ¬ (4 : Int32) = -1 by decide), if_neg (show ¬ (4 : Int32) = 8 by decide), if_neg (show ¬ (4 : Int32) = 0 by decide), if_neg hb, if_neg (show ¬ (4 : Int32) = 1 by decide), if_neg (show ¬ (4 : Int32) = 2 by decide), if_neg (show ¬ (4 : Int32) = 3 by decide), if_pos rfl]
theorem folL5 (hb : begun = 0) : D_X8_faultOfLine 5 begun tens men pairs beans draws goneTold amongs = 6 := by
  unfold D_X8_faultOfLine; rw [if_neg (show ¬ (5 : Int32) = -1 by decide), if_neg (show ¬ (5 : Int32) = 8 by decide), if_neg (show ¬ (5 : Int32) = 0 by decide), if_pos hb]
theorem fol5 (hb : ¬ begun = 0) : D_X8_faultOfLine 5 begun tens men pairs beans draws goneTold amongs = D_X8_behind (D_X2_isTold beans) (if 6 ≤ draws then 0 else 1) := by
  unfold D_X8_faultOfLine; rw [if_neg (show ¬ (5 : Int32) = -1 by decide), if_neg (show ¬ (5 : Int32) = 8 by decide), if_neg (show ¬ (5 : Int32) = 0 by decide), if_neg hb, if_neg (show ¬ (5 : Int32) = 1 by decide), if_neg (show ¬ (5 : Int32) = 2 by decide), if_neg (show ¬ (5 : Int32) = 3 by decide), if_neg (show ¬ (5 : Int32) = 4 by decide), if_pos rfl]
theorem folL6 (hb : begun = 0) : D_X8_faultOfLine 6 begun tens men pairs beans draws goneTold amongs = 6 := by
  unfold D_X8_faultOfLine; rw [if_neg (show ¬ (6 : Int32) = -1 by decide), if_neg (show ¬ (6 : Int32) = 8 by decide), if_neg (show ¬ (6 : Int32) = 0 by decide), if_pos hb]
theorem fol6 (hb : ¬ begun = 0) : D_X8_faultOfLine 6 begun tens men pairs beans draws goneTold amongs = if D_X1_isTold goneTold = 0 then 0 else 3 := by
  unfold D_X8_faultOfLine; rw [if_neg (show ¬ (6 : Int32) = -1 by decide), if_neg (show ¬ (6 : Int32) = 8 by decide), if_neg (show ¬ (6 : Int32) = 0 by decide), if_neg hb, if_neg (show ¬ (6 : Int32) = 1 by decide), if_neg (show ¬ (6 : Int32) = 2 by decide), if_neg (show ¬ (6 : Int32) = 3 by decide), if_neg (show ¬ (6 : Int32) = 4 by decide), if_neg (show ¬ (6 : Int32) = 5 by decide), if_pos rfl]
theorem folL7 (hb : begun = 0) : D_X8_faultOfLine 7 begun tens men pairs beans draws goneTold amongs = 6 := by
  unfold D_X8_faultOfLine; rw [if_neg (show ¬ (7 : Int32) = -1 by decide), if_neg (show ¬ (7 : Int32) = 8 by decide), if_neg (show ¬ (7 : Int32) = 0 by decide), if_pos hb]
theorem fol7 (hb : ¬ begun = 0) : D_X8_faultOfLine 7 begun tens men pairs beans draws goneTold amongs = D_X8_behind (D_X1_isTold goneTold) (if 5 ≤ amongs then 0 else 1) := by
  unfold D_X8_faultOfLine; rw [if_neg (show ¬ (7 : Int32) = -1 by decide), if_neg (show ¬ (7 : Int32) = 8 by decide), if_neg (show ¬ (7 : Int32) = 0 by decide), if_neg hb, if_neg (show ¬ (7 : Int32) = 1 by decide), if_neg (show ¬ (7 : Int32) = 2 by decide), if_neg (show ¬ (7 : Int32) = 3 by decide), if_neg (show ¬ (7 : Int32) = 4 by decide), if_neg (show ¬ (7 : Int32) = 5 by decide), if_neg (show ¬ (7 : Int32) = 6 by decide)]
end LN
section LINE
variable {N p q T M P k1 : Nat} {bytes tape le fresh : Nat → Int32} {so ns wh tk en ft plc fm pm x0 holds oneIn fear mutiny beans draws goneTold amongs begun black shaken fav : Int32} {tn mn : Nat → Int64} {kind firstTen nerve friendsOf fearTimes weight drawer wb pair ofPair : Nat → Int32}
theorem ln_0 (hx : (D_X8_readText_a2 x0 bytes).1 = nI N) (hN : N ≤ 1000) (hT : TapR bytes tape) (hR : TokR N bytes p q so ns wh tk en le) (hD : RdR T M P holds oneIn fear mutiny beans draws goneTold amongs begun tn mn kind firstTen nerve friendsOf fearTimes weight black shaken fav drawer wb pair ofPair fresh)  (h0 : ¬ D_X12_isWord 24 0 tk ns le = 0) : ∃ Z, D_X12_readLine 0 tk ns le fresh (nI p) ft plc en (nI N) tape wh = Z ∧ G_X12_readLine 0 tk ns le fresh (nI p) ft plc en (nI N) tape ∧ LnC x0 bytes (holds, oneIn, fear, mutiny, nI T, nI M, nI P, beans, draws, goneTold, amongs, begun, fm, pm, nI p, nI q, so, tn, mn, kind, firstTen, nerve, friendsOf, fearTimes, weight, black, shaken, fav, drawer, wb, pair, ofPair) Z N p fm pm ft plc ∧ G_st_X8_readText_32 x0 bytes k1 (holds, oneIn, fear, mutiny, nI T, nI M, nI P, beans, draws, goneTold, amongs, begun, fm, pm, nI p, nI q, so, tn, mn, kind, firstTen, nerve, friendsOf, fearTimes, weight, black, shaken, fav, drawer, wb, pair, ofPair) := by
  obtain ⟨r1, r2, r3, r4, r5, r6, r7, r8, r9, r10, r11⟩ := hD
  have hD : RdR T M P holds oneIn fear mutiny beans draws goneTold amongs begun tn mn kind firstTen nerve friendsOf fearTimes weight black shaken fav drawer wb pair ofPair fresh := ⟨r1, r2, r3, r4, r5, r6, r7, r8, r9, r10, r11⟩
  have h88 := r1.2.1
  have h33 := r1.1
  have gw : ∀ w, w < 47 → G_X12_isWord w 0 tk ns le := fun w hw => (isWord_eq (w := w) hN hR rfl hw).2.2.2
  have gs0 : G_X10_wordSort so (nI q) (nI p) (nI N) bytes := (G_sort hN hR).1
  have ht2 : tk = 2 := by have := word_so hR h0; obtain ⟨_, h'⟩ := hR; rcases h' with ⟨a, b⟩ | ⟨a, b, _⟩ | ⟨a, b, _⟩ | ⟨a, b, _⟩ | ⟨a, b, _⟩ <;> first | exact b | (rw [a] at this; exact absurd this (by decide))
  have hq1 : 1 ≤ q := by have := word_so hR h0; obtain ⟨_, h'⟩ := hR; rcases h' with ⟨a, b⟩ | ⟨a, b, _⟩ | ⟨a, b, _⟩ | ⟨a, b, c, _⟩ | ⟨a, b, _⟩ <;> first | exact c | (rw [a] at this; exact absurd this (by decide))
  have ws : D_X10_wordSort so (nI q) (nI p) (nI N) bytes = 0 := by rw [sort_eq hN hR, if_pos ht2, if_neg h0]
  have a3 : D_X8_readText_a3 x0 bytes (holds, oneIn, fear, mutiny, nI T, nI M, nI P, beans, draws, goneTold, amongs, begun, fm, pm, nI p, nI q, so, tn, mn, kind, firstTen, nerve, friendsOf, fearTimes, weight, black, shaken, fav, drawer, wb, pair, ofPair) = 0 := by unfold D_X8_readText_a3; rw [hx]; exact ws
  rcases r11 with ⟨c0, c1, c2⟩ | ⟨c0, b, c1, c2, c3, c4⟩
  · skip
    have ha : D_X8_readText_a4 x0 bytes (holds, oneIn, fear, mutiny, nI T, nI M, nI P, beans, draws, goneTold, amongs, begun, fm, pm, nI p, nI q, so, tn, mn, kind, firstTen, nerve, friendsOf, fearTimes, weight, black, shaken, fav, drawer, wb, pair, ofPair) = 0 := by unfold D_X8_readText_a4; rw [a3]; exact (fol0).trans (if_pos c0)
    obtain ⟨p1, q1, so1, ns1, wh1, tk1, en1, le1, l1, t1, t2, hR1, t4, t6⟩ := tk_step hN hT hR (by rw [word_so hR h0]; decide)
    have a5 : D_X8_readText_a5 x0 bytes (holds, oneIn, fear, mutiny, nI T, nI M, nI P, beans, draws, goneTold, amongs, begun, fm, pm, nI p, nI q, so, tn, mn, kind, firstTen, nerve, friendsOf, fearTimes, weight, black, shaken, fav, drawer, wb, pair, ofPair) = (nI p1, nI q1, so1) := by unfold D_X8_readText_a5; rw [hx]; exact t1
    obtain ⟨⟨a, b, c, d, p2, q2, so2, ns2, wh2, tk2, en2, le2, v1, v2, v3, v4, v5, v6, l2, e1, e2, hR2⟩ | ⟨n, x, Y, Z, e1, y1, y2, y3, e2, z1, z2, z3⟩, g1, g2⟩ := line_legion (p := p) (ns := ns) (wh := wh) (tk := tk) (o1 := oneIn) (o2 := fear) (o3 := mutiny) (fm := fm) (pm := pm) (ft := ft) (plc := plc) hN hT hR1 t2 t6 c1
    · have hr := rd_legion (a := a) (b := b) (c := c) (d := d) hD v2 v3
      have ay : D_X8_readText_a6 x0 bytes (holds, oneIn, fear, mutiny, nI T, nI M, nI P, beans, draws, goneTold, amongs, begun, fm, pm, nI p, nI q, so, tn, mn, kind, firstTen, nerve, friendsOf, fearTimes, weight, black, shaken, fav, drawer, wb, pair, ofPair) = (1, 1, fm, pm, nI p2, nI q2, so2, nI a, nI b, nI c, nI d) := by unfold D_X8_readText_a6; rw [a5, hx]; exact e1
      have jj : D_X8_readText_j1 x0 bytes (holds, oneIn, fear, mutiny, nI T, nI M, nI P, beans, draws, goneTold, amongs, begun, fm, pm, nI p, nI q, so, tn, mn, kind, firstTen, nerve, friendsOf, fearTimes, weight, black, shaken, fav, drawer, wb, pair, ofPair) = (1, nI a, nI b, nI c, nI d, nI T, nI M, nI P, beans, draws, goneTold, amongs, 1, fm, pm, nI p2, nI q2, so2, tn, mn, kind, firstTen, nerve, friendsOf, fearTimes, weight, black, shaken, fav, drawer, wb, pair, ofPair) := by unfold D_X8_readText_j1; rw [a3, if_pos rfl, ay]
      have t5 : so2 = 3 → G_X10_step (nI p2) (nI q2) (nI N) bytes := fun c => by
        obtain ⟨_, _, _, _, _, _, _, _, _, _, _, _, s4, _⟩ := tk_step hN hT hR2 (by rw [c]; decide)
        exact s4
      obtain ⟨z1, z2⟩ := rl_0 (wh := wh) (en := en) (sz := nI N) (tape := tape) (fresh := fresh) (a0 := nI p) (ft := ft) (plc := plc) h0 e2 g2 gw
      refine ⟨_, z1, z2, Or.inr (Or.inr ⟨ha, _, _, _, _, _, _, _, _, _, _, _, _, _, _, _, _, _, _, _, _, _, _, _, _, _, _, _, _, p2, q2, so2, ns2, wh2, tk2, en2, le2, by omega, jj, rfl, hR2, hr⟩), ?_⟩
      unfold G_st_X8_readText_32
      rw [hx, a3, a5, jj]
      exact ⟨gs0, fun _ => t4, fun _ _ => g1, fun _ h _ => absurd rfl h, fun _ h _ _ => absurd rfl h, fun _ h _ _ _ => absurd rfl h, fun _ h _ _ _ _ => absurd rfl h, fun _ h _ _ _ _ _ => absurd rfl h, fun _ h _ _ _ _ _ _ => absurd rfl h, fun _ h _ _ _ _ _ _ => absurd rfl h, fun _ _ _ h => t5 h⟩
    · have ay : D_X8_readText_a6 x0 bytes (holds, oneIn, fear, mutiny, nI T, nI M, nI P, beans, draws, goneTold, amongs, begun, fm, pm, nI p, nI q, so, tn, mn, kind, firstTen, nerve, friendsOf, fearTimes, weight, black, shaken, fav, drawer, wb, pair, ofPair) = Y := by unfold D_X8_readText_a6; rw [a5, hx]; exact e1
      have jj : D_X8_readText_j1 x0 bytes (holds, oneIn, fear, mutiny, nI T, nI M, nI P, beans, draws, goneTold, amongs, begun, fm, pm, nI p, nI q, so, tn, mn, kind, firstTen, nerve, friendsOf, fearTimes, weight, black, shaken, fav, drawer, wb, pair, ofPair) = (Y.1, Y.2.2.2.2.2.2.2.1, Y.2.2.2.2.2.2.2.2.1, Y.2.2.2.2.2.2.2.2.2.1, Y.2.2.2.2.2.2.2.2.2.2, nI T, nI M, nI P, beans, draws, goneTold, amongs, Y.2.1, Y.2.2.1, Y.2.2.2.1, Y.2.2.2.2.1, Y.2.2.2.2.2.1, Y.2.2.2.2.2.2.1, tn, mn, kind, firstTen, nerve, friendsOf, fearTimes, weight, black, shaken, fav, drawer, wb, pair, ofPair) := by unfold D_X8_readText_j1; rw [a3, if_pos rfl, ay]
      have hJ0 : (Y.1, Y.2.2.2.2.2.2.2.1, Y.2.2.2.2.2.2.2.2.1, Y.2.2.2.2.2.2.2.2.2.1, Y.2.2.2.2.2.2.2.2.2.2, nI T, nI M, nI P, beans, draws, goneTold, amongs, Y.2.1, Y.2.2.1, Y.2.2.2.1, Y.2.2.2.2.1, Y.2.2.2.2.2.1, Y.2.2.2.2.2.2.1, tn, mn, kind, firstTen, nerve, friendsOf, fearTimes, weight, black, shaken, fav, drawer, wb, pair, ofPair).1 = 0 := y1
      obtain ⟨w1, w2⟩ := rl_0 (wh := wh) (en := en) (sz := nI N) (tape := tape) (fresh := fresh) (a0 := nI p) (ft := ft) (plc := plc) h0 e2 g2 gw
      refine ⟨_, w1, w2, Or.inr (Or.inl ⟨ha, _, jj, y1, z1, z2.trans y2.symm, z3.trans y3.symm⟩), ?_⟩
      unfold G_st_X8_readText_32
      rw [hx, a3, a5, jj]
      exact ⟨gs0, fun _ => t4, fun _ _ => g1, fun _ h _ => absurd rfl h, fun _ h _ _ => absurd rfl h, fun _ h _ _ _ => absurd rfl h, fun _ h _ _ _ _ => absurd rfl h, fun _ h _ _ _ _ _ => absurd rfl h, fun _ h _ _ _ _ _ _ => absurd rfl h, fun _ h _ _ _ _ _ _ => absurd rfl h, fun _ h => absurd hJ0 h⟩
  · have nz : ¬ begun = 0 := by rw [c0]; decide
    have ha : D_X8_readText_a4 x0 bytes (holds, oneIn, fear, mutiny, nI T, nI M, nI P, beans, draws, goneTold, amongs, begun, fm, pm, nI p, nI q, so, tn, mn, kind, firstTen, nerve, friendsOf, fearTimes, weight, black, shaken, fav, drawer, wb, pair, ofPair) = 3 := by unfold D_X8_readText_a4; rw [a3]; exact (fol0).trans (if_neg nz)
    have ha4 : ¬ D_X8_readText_a4 x0 bytes (holds, oneIn, fear, mutiny, nI T, nI M, nI P, beans, draws, goneTold, amongs, begun, fm, pm, nI p, nI q, so, tn, mn, kind, firstTen, nerve, friendsOf, fearTimes, weight, black, shaken, fav, drawer, wb, pair, ofPair) = 0 := by rw [ha]; decide
    obtain ⟨z1, z2⟩ := rl_0 (wh := wh) (en := en) (sz := nI N) (tape := tape) (fresh := fresh) (a0 := nI p) (ft := ft) (plc := plc) h0 (legion_x (tk := tk) (ns := ns) (wh := wh) (by rw [c3]; exact nI_nle (by omega) (by omega))).1 (legion_x (tk := tk) (ns := ns) (wh := wh) (by rw [c3]; exact nI_nle (by omega) (by omega))).2 gw
    refine ⟨_, z1, z2, Or.inl ⟨3, by decide, ha, rfl, rfl, rfl⟩, ?_⟩
    unfold G_st_X8_readText_32
    rw [hx]
    exact ⟨gs0, fun h => absurd h ha4, fun h _ => absurd h ha4, fun h _ _ => absurd h ha4, fun h _ _ _ => absurd h ha4, fun h _ _ _ _ => absurd h ha4, fun h _ _ _ _ _ => absurd h ha4, fun h _ _ _ _ _ _ => absurd h ha4, fun h _ _ _ _ _ _ _ => absurd h ha4, fun h _ _ _ _ _ _ _ => absurd h ha4, fun h _ _ _ => absurd h ha4⟩
theorem ln_1 (hx : (D_X8_readText_a2 x0 bytes).1 = nI N) (hN : N ≤ 1000) (hT : TapR bytes tape) (hR : TokR N bytes p q so ns wh tk en le) (hD : RdR T M P holds oneIn fear mutiny beans draws goneTold amongs begun tn mn kind firstTen nerve friendsOf fearTimes weight black shaken fav drawer wb pair ofPair fresh) (h0 : D_X12_isWord 24 0 tk ns le = 0) (h1 : ¬ D_X12_isWord 29 0 tk ns le = 0) : ∃ Z, D_X12_readLine 0 tk ns le fresh (nI p) ft plc en (nI N) tape wh = Z ∧ G_X12_readLine 0 tk ns le fresh (nI p) ft plc en (nI N) tape ∧ LnC x0 bytes (holds, oneIn, fear, mutiny, nI T, nI M, nI P, beans, draws, goneTold, amongs, begun, fm, pm, nI p, nI q, so, tn, mn, kind, firstTen, nerve, friendsOf, fearTimes, weight, black, shaken, fav, drawer, wb, pair, ofPair) Z N p fm pm ft plc ∧ G_st_X8_readText_32 x0 bytes k1 (holds, oneIn, fear, mutiny, nI T, nI M, nI P, beans, draws, goneTold, amongs, begun, fm, pm, nI p, nI q, so, tn, mn, kind, firstTen, nerve, friendsOf, fearTimes, weight, black, shaken, fav, drawer, wb, pair, ofPair) := by
  obtain ⟨r1, r2, r3, r4, r5, r6, r7, r8, r9, r10, r11⟩ := hD
  have hD : RdR T M P holds oneIn fear mutiny beans draws goneTold amongs begun tn mn kind firstTen nerve friendsOf fearTimes weight black shaken fav drawer wb pair ofPair fresh := ⟨r1, r2, r3, r4, r5, r6, r7, r8, r9, r10, r11⟩
  have h88 := r1.2.1
  have h33 := r1.1
  have gw : ∀ w, w < 47 → G_X12_isWord w 0 tk ns le := fun w hw => (isWord_eq (w := w) hN hR rfl hw).2.2.2
  have gs0 : G_X10_wordSort so (nI q) (nI p) (nI N) bytes := (G_sort hN hR).1
  have ht2 : tk = 2 := by have := word_so hR h1; obtain ⟨_, h'⟩ := hR; rcases h' with ⟨a, b⟩ | ⟨a, b, _⟩ | ⟨a, b, _⟩ | ⟨a, b, _⟩ | ⟨a, b, _⟩ <;> first | exact b | (rw [a] at this; exact absurd this (by decide))
  have hq1 : 1 ≤ q := by have := word_so hR h1; obtain ⟨_, h'⟩ := hR; rcases h' with ⟨a, b⟩ | ⟨a, b, _⟩ | ⟨a, b, _⟩ | ⟨a, b, c, _⟩ | ⟨a, b, _⟩ <;> first | exact c | (rw [a] at this; exact absurd this (by decide))
  have ws : D_X10_wordSort so (nI q) (nI p) (nI N) bytes = 1 := by rw [sort_eq hN hR, if_pos ht2, if_pos h0, if_neg h1]
  have a3 : D_X8_readText_a3 x0 bytes (holds, oneIn, fear, mutiny, nI T, nI M, nI P, beans, draws, goneTold, amongs, begun, fm, pm, nI p, nI q, so, tn, mn, kind, firstTen, nerve, friendsOf, fearTimes, weight, black, shaken, fav, drawer, wb, pair, ofPair) = 1 := by unfold D_X8_readText_a3; rw [hx]; exact ws
  rcases r11 with ⟨c0, c1, c2, c3, c4, c5, c6⟩ | ⟨c0, b, c1, c2, c3, c4⟩
  · skip
    have ha : D_X8_readText_a4 x0 bytes (holds, oneIn, fear, mutiny, nI T, nI M, nI P, beans, draws, goneTold, amongs, begun, fm, pm, nI p, nI q, so, tn, mn, kind, firstTen, nerve, friendsOf, fearTimes, weight, black, shaken, fav, drawer, wb, pair, ofPair) = 6 := by unfold D_X8_readText_a4; rw [a3]; exact folL1 c0
    have ha4 : ¬ D_X8_readText_a4 x0 bytes (holds, oneIn, fear, mutiny, nI T, nI M, nI P, beans, draws, goneTold, amongs, begun, fm, pm, nI p, nI q, so, tn, mn, kind, firstTen, nerve, friendsOf, fearTimes, weight, black, shaken, fav, drawer, wb, pair, ofPair) = 0 := by rw [ha]; decide
    obtain ⟨z1, z2⟩ := rl_1 (wh := wh) (en := en) (sz := nI N) (tape := tape) (fresh := fresh) (a0 := nI p) (ft := ft) (plc := plc) h0 (begins_lack h1 (by rw [r5, c2]; decide) c1) ten_f G_ten_f gw
    refine ⟨_, z1, z2, Or.inl ⟨6, by decide, ha, rfl, rfl, rfl⟩, ?_⟩
    unfold G_st_X8_readText_32
    rw [hx]
    exact ⟨gs0, fun h => absurd h ha4, fun h _ => absurd h ha4, fun h _ _ => absurd h ha4, fun h _ _ _ => absurd h ha4, fun h _ _ _ _ => absurd h ha4, fun h _ _ _ _ _ => absurd h ha4, fun h _ _ _ _ _ _ => absurd h ha4, fun h _ _ _ _ _ _ _ => absurd h ha4, fun h _ _ _ _ _ _ _ => absurd h ha4, fun h _ _ _ => absurd h ha4⟩
  have nz : ¬ begun = 0 := by rw [c0]; decide
  have f1 : ¬ fresh 1 = 0 := by rw [c3]; exact fun h => by have := (nI_eq (a := b) (b := 0) (by omega) (by decide)).mp h; omega
  by_cases f : T < 3
  · have f3 : ¬ (3 : Int32) ≤ nI T := nI_ge (b := 3) f (by decide)
    have fc : ¬ (if 3 ≤ fresh 4 then 0 else 1 : Int32) = 0 := by rw [r5, if_neg f3]; decide
    have ha : D_X8_readText_a4 x0 bytes (holds, oneIn, fear, mutiny, nI T, nI M, nI P, beans, draws, goneTold, amongs, begun, fm, pm, nI p, nI q, so, tn, mn, kind, firstTen, nerve, friendsOf, fearTimes, weight, black, shaken, fav, drawer, wb, pair, ofPair) = 0 := by unfold D_X8_readText_a4; rw [a3]; exact (fol1 nz).trans (if_neg f3)
    obtain ⟨p1, q1, so1, ns1, wh1, tk1, en1, le1, l1, t1, t2, hR1, t4, t6⟩ := tk_step hN hT hR (by rw [word_so hR h1]; decide)
    have a5 : D_X8_readText_a5 x0 bytes (holds, oneIn, fear, mutiny, nI T, nI M, nI P, beans, draws, goneTold, amongs, begun, fm, pm, nI p, nI q, so, tn, mn, kind, firstTen, nerve, friendsOf, fearTimes, weight, black, shaken, fav, drawer, wb, pair, ofPair) = (nI p1, nI q1, so1) := by unfold D_X8_readText_a5; rw [hx]; exact t1
    obtain ⟨⟨p2, q2, so2, ns2, wh2, tk2, en2, le2, l2, q1a, q1b, hn, e1, e2, hR2⟩ | ⟨n, x, Y, Z, e1, y1, y2, y3, e2, z1, z2, z3⟩, g1, g2⟩ := line_ten (p := p) (ns := ns) (wh := wh) (tk := tk) (fm := fm) (pm := pm) (ft := ft) (plc := plc) hN hT hR1 t2 t6 r1 f r5
    · have hr := rd_ten hD nz q1b f hn
      have ay : D_X8_readText_a7 x0 bytes (holds, oneIn, fear, mutiny, nI T, nI M, nI P, beans, draws, goneTold, amongs, begun, fm, pm, nI p, nI q, so, tn, mn, kind, firstTen, nerve, friendsOf, fearTimes, weight, black, shaken, fav, drawer, wb, pair, ofPair) = (1, fm, pm, va_up tn T (cdN q1 le1), nI (T + 1), nI p2, nI q2, so2) := by unfold D_X8_readText_a7; rw [a5, hx]; exact e1
      have jj : D_X8_readText_j1 x0 bytes (holds, oneIn, fear, mutiny, nI T, nI M, nI P, beans, draws, goneTold, amongs, begun, fm, pm, nI p, nI q, so, tn, mn, kind, firstTen, nerve, friendsOf, fearTimes, weight, black, shaken, fav, drawer, wb, pair, ofPair) = (1, holds, oneIn, fear, mutiny, nI (T + 1), nI M, nI P, beans, draws, goneTold, amongs, begun, fm, pm, nI p2, nI q2, so2, va_up tn T (cdN q1 le1), mn, kind, firstTen, nerve, friendsOf, fearTimes, weight, black, shaken, fav, drawer, wb, pair, ofPair) := by unfold D_X8_readText_j1; rw [a3, if_neg (show ¬ (1 : Int32) = 0 by decide), if_pos rfl, ay]
      have t5 : so2 = 3 → G_X10_step (nI p2) (nI q2) (nI N) bytes := fun c => by
        obtain ⟨_, _, _, _, _, _, _, _, _, _, _, _, s4, _⟩ := tk_step hN hT hR2 (by rw [c]; decide)
        exact s4
      obtain ⟨z1, z2⟩ := rl_1 (wh := wh) (en := en) (sz := nI N) (tape := tape) (fresh := fresh) (a0 := nI p) (ft := ft) (plc := plc) h0 (begins_ok h1 fc f1) e2 g2 gw
      refine ⟨_, z1, z2, Or.inr (Or.inr ⟨ha, _, _, _, _, _, _, _, _, _, _, _, _, _, _, _, _, _, _, _, _, _, _, _, _, _, _, _, _, p2, q2, so2, ns2, wh2, tk2, en2, le2, by omega, jj, rfl, hR2, hr⟩), ?_⟩
      unfold G_st_X8_readText_32
      rw [hx, a3, a5, jj]
      exact ⟨gs0, fun _ => t4, fun _ h => absurd h (show ¬ (1 : Int32) = 0 by decide), fun _ _ _ => g1, fun _ _ h _ => absurd rfl h, fun _ _ h _ _ => absurd rfl h, fun _ _ h _ _ _ => absurd rfl h, fun _ _ h _ _ _ _ => absurd rfl h, fun _ _ h _ _ _ _ _ => absurd rfl h, fun _ _ h _ _ _ _ _ => absurd rfl h, fun _ _ _ h => t5 h⟩
    · have ay : D_X8_readText_a7 x0 bytes (holds, oneIn, fear, mutiny, nI T, nI M, nI P, beans, draws, goneTold, amongs, begun, fm, pm, nI p, nI q, so, tn, mn, kind, firstTen, nerve, friendsOf, fearTimes, weight, black, shaken, fav, drawer, wb, pair, ofPair) = Y := by unfold D_X8_readText_a7; rw [a5, hx]; exact e1
      have jj : D_X8_readText_j1 x0 bytes (holds, oneIn, fear, mutiny, nI T, nI M, nI P, beans, draws, goneTold, amongs, begun, fm, pm, nI p, nI q, so, tn, mn, kind, firstTen, nerve, friendsOf, fearTimes, weight, black, shaken, fav, drawer, wb, pair, ofPair) = (Y.1, holds, oneIn, fear, mutiny, Y.2.2.2.2.1, nI M, nI P, beans, draws, goneTold, amongs, begun, Y.2.1, Y.2.2.1, Y.2.2.2.2.2.1, Y.2.2.2.2.2.2.1, Y.2.2.2.2.2.2.2, Y.2.2.2.1, mn, kind, firstTen, nerve, friendsOf, fearTimes, weight, black, shaken, fav, drawer, wb, pair, ofPair) := by unfold D_X8_readText_j1; rw [a3, if_neg (show ¬ (1 : Int32) = 0 by decide), if_pos rfl, ay]
      have hJ0 : (Y.1, holds, oneIn, fear, mutiny, Y.2.2.2.2.1, nI M, nI P, beans, draws, goneTold, amongs, begun, Y.2.1, Y.2.2.1, Y.2.2.2.2.2.1, Y.2.2.2.2.2.2.1, Y.2.2.2.2.2.2.2, Y.2.2.2.1, mn, kind, firstTen, nerve, friendsOf, fearTimes, weight, black, shaken, fav, drawer, wb, pair, ofPair).1 = 0 := y1
      obtain ⟨w1, w2⟩ := rl_1 (wh := wh) (en := en) (sz := nI N) (tape := tape) (fresh := fresh) (a0 := nI p) (ft := ft) (plc := plc) h0 (begins_ok h1 fc f1) e2 g2 gw
      refine ⟨_, w1, w2, Or.inr (Or.inl ⟨ha, _, jj, y1, z1, z2.trans y2.symm, z3.trans y3.symm⟩), ?_⟩
      unfold G_st_X8_readText_32
      rw [hx, a3, a5, jj]
      exact ⟨gs0, fun _ => t4, fun _ h => absurd h (show ¬ (1 : Int32) = 0 by decide), fun _ _ _ => g1, fun _ _ h _ => absurd rfl h, fun _ _ h _ _ => absurd rfl h, fun _ _ h _ _ _ => absurd rfl h, fun _ _ h _ _ _ _ => absurd rfl h, fun _ _ h _ _ _ _ _ => absurd rfl h, fun _ _ h _ _ _ _ _ => absurd rfl h, fun _ h => absurd hJ0 h⟩
  · have f3 : (3 : Int32) ≤ nI T := nI_le (a := 3) (by omega) (by omega)
    have fc : (if 3 ≤ fresh 4 then 0 else 1 : Int32) = 0 := by rw [r5, if_pos f3]
    have ha : D_X8_readText_a4 x0 bytes (holds, oneIn, fear, mutiny, nI T, nI M, nI P, beans, draws, goneTold, amongs, begun, fm, pm, nI p, nI q, so, tn, mn, kind, firstTen, nerve, friendsOf, fearTimes, weight, black, shaken, fav, drawer, wb, pair, ofPair) = 5 := by unfold D_X8_readText_a4; rw [a3]; exact (fol1 nz).trans (if_pos f3)
    have ha4 : ¬ D_X8_readText_a4 x0 bytes (holds, oneIn, fear, mutiny, nI T, nI M, nI P, beans, draws, goneTold, amongs, begun, fm, pm, nI p, nI q, so, tn, mn, kind, firstTen, nerve, friendsOf, fearTimes, weight, black, shaken, fav, drawer, wb, pair, ofPair) = 0 := by rw [ha]; decide
    obtain ⟨z1, z2⟩ := rl_1 (wh := wh) (en := en) (sz := nI N) (tape := tape) (fresh := fresh) (a0 := nI p) (ft := ft) (plc := plc) h0 (begins_many h1 fc f1) ten_f G_ten_f gw
    refine ⟨_, z1, z2, Or.inl ⟨5, by decide, ha, rfl, rfl, rfl⟩, ?_⟩
    unfold G_st_X8_readText_32
    rw [hx]
    exact ⟨gs0, fun h => absurd h ha4, fun h _ => absurd h ha4, fun h _ _ => absurd h ha4, fun h _ _ _ => absurd h ha4, fun h _ _ _ _ => absurd h ha4, fun h _ _ _ _ _ => absurd h ha4, fun h _ _ _ _ _ _ => absurd h ha4, fun h _ _ _ _ _ _ _ => absurd h ha4, fun h _ _ _ _ _ _ _ => absurd h ha4, fun h _ _ _ => absurd h ha4⟩
theorem ln_2 (hx : (D_X8_readText_a2 x0 bytes).1 = nI N) (hN : N ≤ 1000) (hT : TapR bytes tape) (hR : TokR N bytes p q so ns wh tk en le) (hD : RdR T M P holds oneIn fear mutiny beans draws goneTold amongs begun tn mn kind firstTen nerve friendsOf fearTimes weight black shaken fav drawer wb pair ofPair fresh) (h0 : D_X12_isWord 24 0 tk ns le = 0) (h1 : D_X12_isWord 29 0 tk ns le = 0) (h2 : ¬ D_X12_isWord 30 0 tk ns le = 0) : ∃ Z, D_X12_readLine 0 tk ns le fresh (nI p) ft plc en (nI N) tape wh = Z ∧ G_X12_readLine 0 tk ns le fresh (nI p) ft plc en (nI N) tape ∧ LnC x0 bytes (holds, oneIn, fear, mutiny, nI T, nI M, nI P, beans, draws, goneTold, amongs, begun, fm, pm, nI p, nI q, so, tn, mn, kind, firstTen, nerve, friendsOf, fearTimes, weight, black, shaken, fav, drawer, wb, pair, ofPair) Z N p fm pm ft plc ∧ G_st_X8_readText_32 x0 bytes k1 (holds, oneIn, fear, mutiny, nI T, nI M, nI P, beans, draws, goneTold, amongs, begun, fm, pm, nI p, nI q, so, tn, mn, kind, firstTen, nerve, friendsOf, fearTimes, weight, black, shaken, fav, drawer, wb, pair, ofPair) := by
  obtain ⟨r1, r2, r3, r4, r5, r6, r7, r8, r9, r10, r11⟩ := hD
  have hD : RdR T M P holds oneIn fear mutiny beans draws goneTold amongs begun tn mn kind firstTen nerve friendsOf fearTimes weight black shaken fav drawer wb pair ofPair fresh := ⟨r1, r2, r3, r4, r5, r6, r7, r8, r9, r10, r11⟩
  have h88 := r1.2.1
  have h33 := r1.1
  have gw : ∀ w, w < 47 → G_X12_isWord w 0 tk ns le := fun w hw => (isWord_eq (w := w) hN hR rfl hw).2.2.2
  have gs0 : G_X10_wordSort so (nI q) (nI p) (nI N) bytes := (G_sort hN hR).1
  have ht2 : tk = 2 := by have := word_so hR h2; obtain ⟨_, h'⟩ := hR; rcases h' with ⟨a, b⟩ | ⟨a, b, _⟩ | ⟨a, b, _⟩ | ⟨a, b, _⟩ | ⟨a, b, _⟩ <;> first | exact b | (rw [a] at this; exact absurd this (by decide))
  have hq1 : 1 ≤ q := by have := word_so hR h2; obtain ⟨_, h'⟩ := hR; rcases h' with ⟨a, b⟩ | ⟨a, b, _⟩ | ⟨a, b, _⟩ | ⟨a, b, c, _⟩ | ⟨a, b, _⟩ <;> first | exact c | (rw [a] at this; exact absurd this (by decide))
  have ws : D_X10_wordSort so (nI q) (nI p) (nI N) bytes = 2 := by rw [sort_eq hN hR, if_pos ht2, if_pos h0, if_pos h1, if_neg h2]
  have a3 : D_X8_readText_a3 x0 bytes (holds, oneIn, fear, mutiny, nI T, nI M, nI P, beans, draws, goneTold, amongs, begun, fm, pm, nI p, nI q, so, tn, mn, kind, firstTen, nerve, friendsOf, fearTimes, weight, black, shaken, fav, drawer, wb, pair, ofPair) = 2 := by unfold D_X8_readText_a3; rw [hx]; exact ws
  rcases r11 with ⟨c0, c1, c2, c3, c4, c5, c6⟩ | ⟨c0, b, c1, c2, c3, c4⟩
  · skip
    have ha : D_X8_readText_a4 x0 bytes (holds, oneIn, fear, mutiny, nI T, nI M, nI P, beans, draws, goneTold, amongs, begun, fm, pm, nI p, nI q, so, tn, mn, kind, firstTen, nerve, friendsOf, fearTimes, weight, black, shaken, fav, drawer, wb, pair, ofPair) = 6 := by unfold D_X8_readText_a4; rw [a3]; exact folL2 c0
    have ha4 : ¬ D_X8_readText_a4 x0 bytes (holds, oneIn, fear, mutiny, nI T, nI M, nI P, beans, draws, goneTold, amongs, begun, fm, pm, nI p, nI q, so, tn, mn, kind, firstTen, nerve, friendsOf, fearTimes, weight, black, shaken, fav, drawer, wb, pair, ofPair) = 0 := by rw [ha]; decide
    obtain ⟨z1, z2⟩ := rl_2 (wh := wh) (en := en) (sz := nI N) (tape := tape) (fresh := fresh) (a0 := nI p) (ft := ft) (plc := plc) h0 h1 (begins_lack h2 (by rw [r6, c3]; decide) c1) man_f G_man_f gw
    refine ⟨_, z1, z2, Or.inl ⟨6, by decide, ha, rfl, rfl, rfl⟩, ?_⟩
    unfold G_st_X8_readText_32
    rw [hx]
    exact ⟨gs0, fun h => absurd h ha4, fun h _ => absurd h ha4, fun h _ _ => absurd h ha4, fun h _ _ _ => absurd h ha4, fun h _ _ _ _ => absurd h ha4, fun h _ _ _ _ _ => absurd h ha4, fun h _ _ _ _ _ _ => absurd h ha4, fun h _ _ _ _ _ _ _ => absurd h ha4, fun h _ _ _ _ _ _ _ => absurd h ha4, fun h _ _ _ => absurd h ha4⟩
  have nz : ¬ begun = 0 := by rw [c0]; decide
  have f1 : ¬ fresh 1 = 0 := by rw [c3]; exact fun h => by have := (nI_eq (a := b) (b := 0) (by omega) (by decide)).mp h; omega
  by_cases f : M < 8
  · have f3 : ¬ (8 : Int32) ≤ nI M := nI_ge (b := 8) f (by decide)
    have fc : ¬ (if 8 ≤ fresh 5 then 0 else 1 : Int32) = 0 := by rw [r6, if_neg f3]; decide
    have ha : D_X8_readText_a4 x0 bytes (holds, oneIn, fear, mutiny, nI T, nI M, nI P, beans, draws, goneTold, amongs, begun, fm, pm, nI p, nI q, so, tn, mn, kind, firstTen, nerve, friendsOf, fearTimes, weight, black, shaken, fav, drawer, wb, pair, ofPair) = 0 := by unfold D_X8_readText_a4; rw [a3]; exact (fol2 nz).trans (if_neg f3)
    obtain ⟨p1, q1, so1, ns1, wh1, tk1, en1, le1, l1, t1, t2, hR1, t4, t6⟩ := tk_step hN hT hR (by rw [word_so hR h2]; decide)
    have a5 : D_X8_readText_a5 x0 bytes (holds, oneIn, fear, mutiny, nI T, nI M, nI P, beans, draws, goneTold, amongs, begun, fm, pm, nI p, nI q, so, tn, mn, kind, firstTen, nerve, friendsOf, fearTimes, weight, black, shaken, fav, drawer, wb, pair, ofPair) = (nI p1, nI q1, so1) := by unfold D_X8_readText_a5; rw [hx]; exact t1
    obtain ⟨⟨k, t, v, p2, q2, so2, ns2, wh2, tk2, en2, le2, v1, v2, v3, l2, q1a, q1b, hn, e1, e2, hR2⟩ | ⟨n, x, Y, Z, e1, y1, y2, y3, e2, z1, z2, z3⟩, g1, g2⟩ := line_man (p := p) (ns := ns) (wh := wh) (tk := tk) (kind := kind) (firstTen := firstTen) (nerve := nerve) (friendsOf := friendsOf) (fearTimes := fearTimes) (weight := weight) (fm := fm) (pm := pm) (ft := ft) (plc := plc) hN hT hR1 t2 t6 r1 f r6
    · have hr := rd_man (k := k) (t := t) (v := v) hD nz q1b f v1 hn
      have ay : D_X8_readText_a8 x0 bytes (holds, oneIn, fear, mutiny, nI T, nI M, nI P, beans, draws, goneTold, amongs, begun, fm, pm, nI p, nI q, so, tn, mn, kind, firstTen, nerve, friendsOf, fearTimes, weight, black, shaken, fav, drawer, wb, pair, ofPair) = (1, fm, pm, nI p2, nI q2, so2, va_up mn M (cdN q1 le1), va_up kind M (nI k), va_up firstTen M (nI t), va_up nerve M (nI v), va_up friendsOf M 0, va_up fearTimes M (if nI k = 1 then 2 else if nI k = 2 then 0 else 1), va_up weight M (if nI k = 3 then 2 else 1), nI (M + 1)) := by unfold D_X8_readText_a8; rw [a5, hx]; exact e1
      have jj : D_X8_readText_j1 x0 bytes (holds, oneIn, fear, mutiny, nI T, nI M, nI P, beans, draws, goneTold, amongs, begun, fm, pm, nI p, nI q, so, tn, mn, kind, firstTen, nerve, friendsOf, fearTimes, weight, black, shaken, fav, drawer, wb, pair, ofPair) = (1, holds, oneIn, fear, mutiny, nI T, nI (M + 1), nI P, beans, draws, goneTold, amongs, begun, fm, pm, nI p2, nI q2, so2, tn, va_up mn M (cdN q1 le1), va_up kind M (nI k), va_up firstTen M (nI t), va_up nerve M (nI v), va_up friendsOf M 0, va_up fearTimes M (if nI k = 1 then 2 else if nI k = 2 then 0 else 1), va_up weight M (if nI k = 3 then 2 else 1), black, shaken, fav, drawer, wb, pair, ofPair) := by unfold D_X8_readText_j1; rw [a3, if_neg (show ¬ (2 : Int32) = 0 by decide), if_neg (show ¬ (2 : Int32) = 1 by decide), if_pos rfl, ay]
      have t5 : so2 = 3 → G_X10_step (nI p2) (nI q2) (nI N) bytes := fun c => by
        obtain ⟨_, _, _, _, _, _, _, _, _, _, _, _, s4, _⟩ := tk_step hN hT hR2 (by rw [c]; decide)
        exact s4
      obtain ⟨z1, z2⟩ := rl_2 (wh := wh) (en := en) (sz := nI N) (tape := tape) (fresh := fresh) (a0 := nI p) (ft := ft) (plc := plc) h0 h1 (begins_ok h2 fc f1) e2 g2 gw
      refine ⟨_, z1, z2, Or.inr (Or.inr ⟨ha, _, _, _, _, _, _, _, _, _, _, _, _, _, _, _, _, _, _, _, _, _, _, _, _, _, _, _, _, p2, q2, so2, ns2, wh2, tk2, en2, le2, by omega, jj, rfl, hR2, hr⟩), ?_⟩
      unfold G_st_X8_readText_32
      rw [hx, a3, a5, jj]
      exact ⟨gs0, fun _ => t4, fun _ h => absurd h (show ¬ (2 : Int32) = 0 by decide), fun _ _ h => absurd h (show ¬ (2 : Int32) = 1 by decide), fun _ _ _ _ => g1, fun _ _ _ h _ => absurd rfl h, fun _ _ _ h _ _ => absurd rfl h, fun _ _ _ h _ _ _ => absurd rfl h, fun _ _ _ h _ _ _ _ => absurd rfl h, fun _ _ _ h _ _ _ _ => absurd rfl h, fun _ _ _ h => t5 h⟩
    · have ay : D_X8_readText_a8 x0 bytes (holds, oneIn, fear, mutiny, nI T, nI M, nI P, beans, draws, goneTold, amongs, begun, fm, pm, nI p, nI q, so, tn, mn, kind, firstTen, nerve, friendsOf, fearTimes, weight, black, shaken, fav, drawer, wb, pair, ofPair) = Y := by unfold D_X8_readText_a8; rw [a5, hx]; exact e1
      have jj : D_X8_readText_j1 x0 bytes (holds, oneIn, fear, mutiny, nI T, nI M, nI P, beans, draws, goneTold, amongs, begun, fm, pm, nI p, nI q, so, tn, mn, kind, firstTen, nerve, friendsOf, fearTimes, weight, black, shaken, fav, drawer, wb, pair, ofPair) = (Y.1, holds, oneIn, fear, mutiny, nI T, Y.2.2.2.2.2.2.2.2.2.2.2.2.2, nI P, beans, draws, goneTold, amongs, begun, Y.2.1, Y.2.2.1, Y.2.2.2.1, Y.2.2.2.2.1, Y.2.2.2.2.2.1, tn, Y.2.2.2.2.2.2.1, Y.2.2.2.2.2.2.2.1, Y.2.2.2.2.2.2.2.2.1, Y.2.2.2.2.2.2.2.2.2.1, Y.2.2.2.2.2.2.2.2.2.2.1, Y.2.2.2.2.2.2.2.2.2.2.2.1, Y.2.2.2.2.2.2.2.2.2.2.2.2.1, black, shaken, fav, drawer, wb, pair, ofPair) := by unfold D_X8_readText_j1; rw [a3, if_neg (show ¬ (2 : Int32) = 0 by decide), if_neg (show ¬ (2 : Int32) = 1 by decide), if_pos rfl, ay]
      have hJ0 : (Y.1, holds, oneIn, fear, mutiny, nI T, Y.2.2.2.2.2.2.2.2.2.2.2.2.2, nI P, beans, draws, goneTold, amongs, begun, Y.2.1, Y.2.2.1, Y.2.2.2.1, Y.2.2.2.2.1, Y.2.2.2.2.2.1, tn, Y.2.2.2.2.2.2.1, Y.2.2.2.2.2.2.2.1, Y.2.2.2.2.2.2.2.2.1, Y.2.2.2.2.2.2.2.2.2.1, Y.2.2.2.2.2.2.2.2.2.2.1, Y.2.2.2.2.2.2.2.2.2.2.2.1, Y.2.2.2.2.2.2.2.2.2.2.2.2.1, black, shaken, fav, drawer, wb, pair, ofPair).1 = 0 := y1
      obtain ⟨w1, w2⟩ := rl_2 (wh := wh) (en := en) (sz := nI N) (tape := tape) (fresh := fresh) (a0 := nI p) (ft := ft) (plc := plc) h0 h1 (begins_ok h2 fc f1) e2 g2 gw
      refine ⟨_, w1, w2, Or.inr (Or.inl ⟨ha, _, jj, y1, z1, z2.trans y2.symm, z3.trans y3.symm⟩), ?_⟩
      unfold G_st_X8_readText_32
      rw [hx, a3, a5, jj]
      exact ⟨gs0, fun _ => t4, fun _ h => absurd h (show ¬ (2 : Int32) = 0 by decide), fun _ _ h => absurd h (show ¬ (2 : Int32) = 1 by decide), fun _ _ _ _ => g1, fun _ _ _ h _ => absurd rfl h, fun _ _ _ h _ _ => absurd rfl h, fun _ _ _ h _ _ _ => absurd rfl h, fun _ _ _ h _ _ _ _ => absurd rfl h, fun _ _ _ h _ _ _ _ => absurd rfl h, fun _ h => absurd hJ0 h⟩
  · have f3 : (8 : Int32) ≤ nI M := nI_le (a := 8) (by omega) (by omega)
    have fc : (if 8 ≤ fresh 5 then 0 else 1 : Int32) = 0 := by rw [r6, if_pos f3]
    have ha : D_X8_readText_a4 x0 bytes (holds, oneIn, fear, mutiny, nI T, nI M, nI P, beans, draws, goneTold, amongs, begun, fm, pm, nI p, nI q, so, tn, mn, kind, firstTen, nerve, friendsOf, fearTimes, weight, black, shaken, fav, drawer, wb, pair, ofPair) = 5 := by unfold D_X8_readText_a4; rw [a3]; exact (fol2 nz).trans (if_pos f3)
    have ha4 : ¬ D_X8_readText_a4 x0 bytes (holds, oneIn, fear, mutiny, nI T, nI M, nI P, beans, draws, goneTold, amongs, begun, fm, pm, nI p, nI q, so, tn, mn, kind, firstTen, nerve, friendsOf, fearTimes, weight, black, shaken, fav, drawer, wb, pair, ofPair) = 0 := by rw [ha]; decide
    obtain ⟨z1, z2⟩ := rl_2 (wh := wh) (en := en) (sz := nI N) (tape := tape) (fresh := fresh) (a0 := nI p) (ft := ft) (plc := plc) h0 h1 (begins_many h2 fc f1) man_f G_man_f gw
    refine ⟨_, z1, z2, Or.inl ⟨5, by decide, ha, rfl, rfl, rfl⟩, ?_⟩
    unfold G_st_X8_readText_32
    rw [hx]
    exact ⟨gs0, fun h => absurd h ha4, fun h _ => absurd h ha4, fun h _ _ => absurd h ha4, fun h _ _ _ => absurd h ha4, fun h _ _ _ _ => absurd h ha4, fun h _ _ _ _ _ => absurd h ha4, fun h _ _ _ _ _ _ => absurd h ha4, fun h _ _ _ _ _ _ _ => absurd h ha4, fun h _ _ _ _ _ _ _ => absurd h ha4, fun h _ _ _ => absurd h ha4⟩
theorem ln_3 (hx : (D_X8_readText_a2 x0 bytes).1 = nI N) (hN : N ≤ 1000) (hT : TapR bytes tape) (hR : TokR N bytes p q so ns wh tk en le) (hD : RdR T M P holds oneIn fear mutiny beans draws goneTold amongs begun tn mn kind firstTen nerve friendsOf fearTimes weight black shaken fav drawer wb pair ofPair fresh) (h0 : D_X12_isWord 24 0 tk ns le = 0) (h1 : D_X12_isWord 29 0 tk ns le = 0) (h2 : D_X12_isWord 30 0 tk ns le = 0) (h3 : ¬ D_X12_isWord 31 0 tk ns le = 0) : ∃ Z, D_X12_readLine 0 tk ns le fresh (nI p) ft plc en (nI N) tape wh = Z ∧ G_X12_readLine 0 tk ns le fresh (nI p) ft plc en (nI N) tape ∧ LnC x0 bytes (holds, oneIn, fear, mutiny, nI T, nI M, nI P, beans, draws, goneTold, amongs, begun, fm, pm, nI p, nI q, so, tn, mn, kind, firstTen, nerve, friendsOf, fearTimes, weight, black, shaken, fav, drawer, wb, pair, ofPair) Z N p fm pm ft plc ∧ G_st_X8_readText_32 x0 bytes k1 (holds, oneIn, fear, mutiny, nI T, nI M, nI P, beans, draws, goneTold, amongs, begun, fm, pm, nI p, nI q, so, tn, mn, kind, firstTen, nerve, friendsOf, fearTimes, weight, black, shaken, fav, drawer, wb, pair, ofPair) := by
  obtain ⟨r1, r2, r3, r4, r5, r6, r7, r8, r9, r10, r11⟩ := hD
  have hD : RdR T M P holds oneIn fear mutiny beans draws goneTold amongs begun tn mn kind firstTen nerve friendsOf fearTimes weight black shaken fav drawer wb pair ofPair fresh := ⟨r1, r2, r3, r4, r5, r6, r7, r8, r9, r10, r11⟩
  have h88 := r1.2.1
  have h33 := r1.1
  have gw : ∀ w, w < 47 → G_X12_isWord w 0 tk ns le := fun w hw => (isWord_eq (w := w) hN hR rfl hw).2.2.2
  have gs0 : G_X10_wordSort so (nI q) (nI p) (nI N) bytes := (G_sort hN hR).1
  have ht2 : tk = 2 := by have := word_so hR h3; obtain ⟨_, h'⟩ := hR; rcases h' with ⟨a, b⟩ | ⟨a, b, _⟩ | ⟨a, b, _⟩ | ⟨a, b, _⟩ | ⟨a, b, _⟩ <;> first | exact b | (rw [a] at this; exact absurd this (by decide))
  have hq1 : 1 ≤ q := by have := word_so hR h3; obtain ⟨_, h'⟩ := hR; rcases h' with ⟨a, b⟩ | ⟨a, b, _⟩ | ⟨a, b, _⟩ | ⟨a, b, c, _⟩ | ⟨a, b, _⟩ <;> first | exact c | (rw [a] at this; exact absurd this (by decide))
  have ws : D_X10_wordSort so (nI q) (nI p) (nI N) bytes = 3 := by rw [sort_eq hN hR, if_pos ht2, if_pos h0, if_pos h1, if_pos h2, if_neg h3]
  have a3 : D_X8_readText_a3 x0 bytes (holds, oneIn, fear, mutiny, nI T, nI M, nI P, beans, draws, goneTold, amongs, begun, fm, pm, nI p, nI q, so, tn, mn, kind, firstTen, nerve, friendsOf, fearTimes, weight, black, shaken, fav, drawer, wb, pair, ofPair) = 3 := by unfold D_X8_readText_a3; rw [hx]; exact ws
  rcases r11 with ⟨c0, c1, c2, c3, c4, c5, c6⟩ | ⟨c0, b, c1, c2, c3, c4⟩
  · skip
    have ha : D_X8_readText_a4 x0 bytes (holds, oneIn, fear, mutiny, nI T, nI M, nI P, beans, draws, goneTold, amongs, begun, fm, pm, nI p, nI q, so, tn, mn, kind, firstTen, nerve, friendsOf, fearTimes, weight, black, shaken, fav, drawer, wb, pair, ofPair) = 6 := by unfold D_X8_readText_a4; rw [a3]; exact folL3 c0
    have ha4 : ¬ D_X8_readText_a4 x0 bytes (holds, oneIn, fear, mutiny, nI T, nI M, nI P, beans, draws, goneTold, amongs, begun, fm, pm, nI p, nI q, so, tn, mn, kind, firstTen, nerve, friendsOf, fearTimes, weight, black, shaken, fav, drawer, wb, pair, ofPair) = 0 := by rw [ha]; decide
    obtain ⟨z1, z2⟩ := rl_3 (wh := wh) (en := en) (sz := nI N) (tape := tape) (fresh := fresh) (a0 := nI p) (ft := ft) (plc := plc) h0 h1 h2 (begins_lack h3 (by rw [r7, c4]; decide) c1) friend_f G_friend_f gw
    refine ⟨_, z1, z2, Or.inl ⟨6, by decide, ha, rfl, rfl, rfl⟩, ?_⟩
    unfold G_st_X8_readText_32
    rw [hx]
    exact ⟨gs0, fun h => absurd h ha4, fun h _ => absurd h ha4, fun h _ _ => absurd h ha4, fun h _ _ _ => absurd h ha4, fun h _ _ _ _ => absurd h ha4, fun h _ _ _ _ _ => absurd h ha4, fun h _ _ _ _ _ _ => absurd h ha4, fun h _ _ _ _ _ _ _ => absurd h ha4, fun h _ _ _ _ _ _ _ => absurd h ha4, fun h _ _ _ => absurd h ha4⟩
  have nz : ¬ begun = 0 := by rw [c0]; decide
  have f1 : ¬ fresh 1 = 0 := by rw [c3]; exact fun h => by have := (nI_eq (a := b) (b := 0) (by omega) (by decide)).mp h; omega
  by_cases f : P < 8
  · have f3 : ¬ (8 : Int32) ≤ nI P := nI_ge (b := 8) f (by decide)
    have fc : ¬ (if 8 ≤ fresh 6 then 0 else 1 : Int32) = 0 := by rw [r7, if_neg f3]; decide
    have ha : D_X8_readText_a4 x0 bytes (holds, oneIn, fear, mutiny, nI T, nI M, nI P, beans, draws, goneTold, amongs, begun, fm, pm, nI p, nI q, so, tn, mn, kind, firstTen, nerve, friendsOf, fearTimes, weight, black, shaken, fav, drawer, wb, pair, ofPair) = 0 := by unfold D_X8_readText_a4; rw [a3]; exact (fol3 nz).trans (if_neg f3)
    obtain ⟨p1, q1, so1, ns1, wh1, tk1, en1, le1, l1, t1, t2, hR1, t4, t6⟩ := tk_step hN hT hR (by rw [word_so hR h3]; decide)
    have a5 : D_X8_readText_a5 x0 bytes (holds, oneIn, fear, mutiny, nI T, nI M, nI P, beans, draws, goneTold, amongs, begun, fm, pm, nI p, nI q, so, tn, mn, kind, firstTen, nerve, friendsOf, fearTimes, weight, black, shaken, fav, drawer, wb, pair, ofPair) = (nI p1, nI q1, so1) := by unfold D_X8_readText_a5; rw [hx]; exact t1
    obtain ⟨⟨a, b, p2, q2, so2, ns2, wh2, tk2, en2, le2, v1, v2, v3, v4, l2, e1, e2, hR2⟩ | ⟨n, x, Y, Z, e1, y1, y2, y3, e2, z1, z2, z3⟩, g1, g2⟩ := line_friend (p := p) (ns := ns) (wh := wh) (tk := tk) (P := P) (friendsOf := friendsOf) (fm := fm) (pm := pm) (ft := ft) (plc := plc) hN hT hR1 t2 t6 r1 (fun m hm => (r2.1 m hm).2.2.2.1) r7
    · have hr := rd_friend hD nz v1 v2 v3 v4 f
      have ay : D_X8_readText_a9 x0 bytes (holds, oneIn, fear, mutiny, nI T, nI M, nI P, beans, draws, goneTold, amongs, begun, fm, pm, nI p, nI q, so, tn, mn, kind, firstTen, nerve, friendsOf, fearTimes, weight, black, shaken, fav, drawer, wb, pair, ofPair) = (1, fm, pm, nI p2, nI q2, so2, frC a b friendsOf, nI (P + 1)) := by unfold D_X8_readText_a9; rw [a5, hx]; exact e1
      have jj : D_X8_readText_j1 x0 bytes (holds, oneIn, fear, mutiny, nI T, nI M, nI P, beans, draws, goneTold, amongs, begun, fm, pm, nI p, nI q, so, tn, mn, kind, firstTen, nerve, friendsOf, fearTimes, weight, black, shaken, fav, drawer, wb, pair, ofPair) = (1, holds, oneIn, fear, mutiny, nI T, nI M, nI (P + 1), beans, draws, goneTold, amongs, begun, fm, pm, nI p2, nI q2, so2, tn, mn, kind, firstTen, nerve, frC a b friendsOf, fearTimes, weight, black, shaken, fav, drawer, wb, pair, ofPair) := by unfold D_X8_readText_j1; rw [a3, if_neg (show ¬ (3 : Int32) = 0 by decide), if_neg (show ¬ (3 : Int32) = 1 by decide), if_neg (show ¬ (3 : Int32) = 2 by decide), if_pos rfl, ay]
      have t5 : so2 = 3 → G_X10_step (nI p2) (nI q2) (nI N) bytes := fun c => by
        obtain ⟨_, _, _, _, _, _, _, _, _, _, _, _, s4, _⟩ := tk_step hN hT hR2 (by rw [c]; decide)
        exact s4
      obtain ⟨z1, z2⟩ := rl_3 (wh := wh) (en := en) (sz := nI N) (tape := tape) (fresh := fresh) (a0 := nI p) (ft := ft) (plc := plc) h0 h1 h2 (begins_ok h3 fc f1) e2 g2 gw
      refine ⟨_, z1, z2, Or.inr (Or.inr ⟨ha, _, _, _, _, _, _, _, _, _, _, _, _, _, _, _, _, _, _, _, _, _, _, _, _, _, _, _, _, p2, q2, so2, ns2, wh2, tk2, en2, le2, by omega, jj, rfl, hR2, hr⟩), ?_⟩
      unfold G_st_X8_readText_32
      rw [hx, a3, a5, jj]
      exact ⟨gs0, fun _ => t4, fun _ h => absurd h (show ¬ (3 : Int32) = 0 by decide), fun _ _ h => absurd h (show ¬ (3 : Int32) = 1 by decide), fun _ _ _ h => absurd h (show ¬ (3 : Int32) = 2 by decide), fun _ _ _ _ _ => g1, fun _ _ _ _ h _ => absurd rfl h, fun _ _ _ _ h _ _ => absurd rfl h, fun _ _ _ _ h _ _ _ => absurd rfl h, fun _ _ _ _ h _ _ _ => absurd rfl h, fun _ _ _ h => t5 h⟩
    · have ay : D_X8_readText_a9 x0 bytes (holds, oneIn, fear, mutiny, nI T, nI M, nI P, beans, draws, goneTold, amongs, begun, fm, pm, nI p, nI q, so, tn, mn, kind, firstTen, nerve, friendsOf, fearTimes, weight, black, shaken, fav, drawer, wb, pair, ofPair) = Y := by unfold D_X8_readText_a9; rw [a5, hx]; exact e1
      have jj : D_X8_readText_j1 x0 bytes (holds, oneIn, fear, mutiny, nI T, nI M, nI P, beans, draws, goneTold, amongs, begun, fm, pm, nI p, nI q, so, tn, mn, kind, firstTen, nerve, friendsOf, fearTimes, weight, black, shaken, fav, drawer, wb, pair, ofPair) = (Y.1, holds, oneIn, fear, mutiny, nI T, nI M, Y.2.2.2.2.2.2.2, beans, draws, goneTold, amongs, begun, Y.2.1, Y.2.2.1, Y.2.2.2.1, Y.2.2.2.2.1, Y.2.2.2.2.2.1, tn, mn, kind, firstTen, nerve, Y.2.2.2.2.2.2.1, fearTimes, weight, black, shaken, fav, drawer, wb, pair, ofPair) := by unfold D_X8_readText_j1; rw [a3, if_neg (show ¬ (3 : Int32) = 0 by decide), if_neg (show ¬ (3 : Int32) = 1 by decide), if_neg (show ¬ (3 : Int32) = 2 by decide), if_pos rfl, ay]
      have hJ0 : (Y.1, holds, oneIn, fear, mutiny, nI T, nI M, Y.2.2.2.2.2.2.2, beans, draws, goneTold, amongs, begun, Y.2.1, Y.2.2.1, Y.2.2.2.1, Y.2.2.2.2.1, Y.2.2.2.2.2.1, tn, mn, kind, firstTen, nerve, Y.2.2.2.2.2.2.1, fearTimes, weight, black, shaken, fav, drawer, wb, pair, ofPair).1 = 0 := y1
      obtain ⟨w1, w2⟩ := rl_3 (wh := wh) (en := en) (sz := nI N) (tape := tape) (fresh := fresh) (a0 := nI p) (ft := ft) (plc := plc) h0 h1 h2 (begins_ok h3 fc f1) e2 g2 gw
      refine ⟨_, w1, w2, Or.inr (Or.inl ⟨ha, _, jj, y1, z1, z2.trans y2.symm, z3.trans y3.symm⟩), ?_⟩
      unfold G_st_X8_readText_32
      rw [hx, a3, a5, jj]
      exact ⟨gs0, fun _ => t4, fun _ h => absurd h (show ¬ (3 : Int32) = 0 by decide), fun _ _ h => absurd h (show ¬ (3 : Int32) = 1 by decide), fun _ _ _ h => absurd h (show ¬ (3 : Int32) = 2 by decide), fun _ _ _ _ _ => g1, fun _ _ _ _ h _ => absurd rfl h, fun _ _ _ _ h _ _ => absurd rfl h, fun _ _ _ _ h _ _ _ => absurd rfl h, fun _ _ _ _ h _ _ _ => absurd rfl h, fun _ h => absurd hJ0 h⟩
  · have f3 : (8 : Int32) ≤ nI P := nI_le (a := 8) (by omega) (by omega)
    have fc : (if 8 ≤ fresh 6 then 0 else 1 : Int32) = 0 := by rw [r7, if_pos f3]
    have ha : D_X8_readText_a4 x0 bytes (holds, oneIn, fear, mutiny, nI T, nI M, nI P, beans, draws, goneTold, amongs, begun, fm, pm, nI p, nI q, so, tn, mn, kind, firstTen, nerve, friendsOf, fearTimes, weight, black, shaken, fav, drawer, wb, pair, ofPair) = 5 := by unfold D_X8_readText_a4; rw [a3]; exact (fol3 nz).trans (if_pos f3)
    have ha4 : ¬ D_X8_readText_a4 x0 bytes (holds, oneIn, fear, mutiny, nI T, nI M, nI P, beans, draws, goneTold, amongs, begun, fm, pm, nI p, nI q, so, tn, mn, kind, firstTen, nerve, friendsOf, fearTimes, weight, black, shaken, fav, drawer, wb, pair, ofPair) = 0 := by rw [ha]; decide
    obtain ⟨z1, z2⟩ := rl_3 (wh := wh) (en := en) (sz := nI N) (tape := tape) (fresh := fresh) (a0 := nI p) (ft := ft) (plc := plc) h0 h1 h2 (begins_many h3 fc f1) friend_f G_friend_f gw
    refine ⟨_, z1, z2, Or.inl ⟨5, by decide, ha, rfl, rfl, rfl⟩, ?_⟩
    unfold G_st_X8_readText_32
    rw [hx]
    exact ⟨gs0, fun h => absurd h ha4, fun h _ => absurd h ha4, fun h _ _ => absurd h ha4, fun h _ _ _ => absurd h ha4, fun h _ _ _ _ => absurd h ha4, fun h _ _ _ _ _ => absurd h ha4, fun h _ _ _ _ _ _ => absurd h ha4, fun h _ _ _ _ _ _ _ => absurd h ha4, fun h _ _ _ _ _ _ _ => absurd h ha4, fun h _ _ _ => absurd h ha4⟩
theorem ln_4 (hx : (D_X8_readText_a2 x0 bytes).1 = nI N) (hN : N ≤ 1000) (hT : TapR bytes tape) (hR : TokR N bytes p q so ns wh tk en le) (hD : RdR T M P holds oneIn fear mutiny beans draws goneTold amongs begun tn mn kind firstTen nerve friendsOf fearTimes weight black shaken fav drawer wb pair ofPair fresh) (h0 : D_X12_isWord 24 0 tk ns le = 0) (h1 : D_X12_isWord 29 0 tk ns le = 0) (h2 : D_X12_isWord 30 0 tk ns le = 0) (h3 : D_X12_isWord 31 0 tk ns le = 0) (h4 : ¬ D_X12_isWord 32 0 tk ns le = 0) : ∃ Z, D_X12_readLine 0 tk ns le fresh (nI p) ft plc en (nI N) tape wh = Z ∧ G_X12_readLine 0 tk ns le fresh (nI p) ft plc en (nI N) tape ∧ LnC x0 bytes (holds, oneIn, fear, mutiny, nI T, nI M, nI P, beans, draws, goneTold, amongs, begun, fm, pm, nI p, nI q, so, tn, mn, kind, firstTen, nerve, friendsOf, fearTimes, weight, black, shaken, fav, drawer, wb, pair, ofPair) Z N p fm pm ft plc ∧ G_st_X8_readText_32 x0 bytes k1 (holds, oneIn, fear, mutiny, nI T, nI M, nI P, beans, draws, goneTold, amongs, begun, fm, pm, nI p, nI q, so, tn, mn, kind, firstTen, nerve, friendsOf, fearTimes, weight, black, shaken, fav, drawer, wb, pair, ofPair) := by
  obtain ⟨r1, r2, r3, r4, r5, r6, r7, r8, r9, r10, r11⟩ := hD
  have hD : RdR T M P holds oneIn fear mutiny beans draws goneTold amongs begun tn mn kind firstTen nerve friendsOf fearTimes weight black shaken fav drawer wb pair ofPair fresh := ⟨r1, r2, r3, r4, r5, r6, r7, r8, r9, r10, r11⟩
  have h88 := r1.2.1
  have h33 := r1.1
  have gw : ∀ w, w < 47 → G_X12_isWord w 0 tk ns le := fun w hw => (isWord_eq (w := w) hN hR rfl hw).2.2.2
  have gs0 : G_X10_wordSort so (nI q) (nI p) (nI N) bytes := (G_sort hN hR).1
  have ht2 : tk = 2 := by have := word_so hR h4; obtain ⟨_, h'⟩ := hR; rcases h' with ⟨a, b⟩ | ⟨a, b, _⟩ | ⟨a, b, _⟩ | ⟨a, b, _⟩ | ⟨a, b, _⟩ <;> first | exact b | (rw [a] at this; exact absurd this (by decide))
  have hq1 : 1 ≤ q := by have := word_so hR h4; obtain ⟨_, h'⟩ := hR; rcases h' with ⟨a, b⟩ | ⟨a, b, _⟩ | ⟨a, b, _⟩ | ⟨a, b, c, _⟩ | ⟨a, b, _⟩ <;> first | exact c | (rw [a] at this; exact absurd this (by decide))
  have ws : D_X10_wordSort so (nI q) (nI p) (nI N) bytes = 4 := by rw [sort_eq hN hR, if_pos ht2, if_pos h0, if_pos h1, if_pos h2, if_pos h3, if_neg h4]
  have a3 : D_X8_readText_a3 x0 bytes (holds, oneIn, fear, mutiny, nI T, nI M, nI P, beans, draws, goneTold, amongs, begun, fm, pm, nI p, nI q, so, tn, mn, kind, firstTen, nerve, friendsOf, fearTimes, weight, black, shaken, fav, drawer, wb, pair, ofPair) = 4 := by unfold D_X8_readText_a3; rw [hx]; exact ws
  rcases r11 with ⟨c0, c1, c2, c3, c4, c5, c6⟩ | ⟨c0, b, c1, c2, c3, c4⟩
  · skip
    have ha : D_X8_readText_a4 x0 bytes (holds, oneIn, fear, mutiny, nI T, nI M, nI P, beans, draws, goneTold, amongs, begun, fm, pm, nI p, nI q, so, tn, mn, kind, firstTen, nerve, friendsOf, fearTimes, weight, black, shaken, fav, drawer, wb, pair, ofPair) = 6 := by unfold D_X8_readText_a4; rw [a3]; exact folL4 c0
    have ha4 : ¬ D_X8_readText_a4 x0 bytes (holds, oneIn, fear, mutiny, nI T, nI M, nI P, beans, draws, goneTold, amongs, begun, fm, pm, nI p, nI q, so, tn, mn, kind, firstTen, nerve, friendsOf, fearTimes, weight, black, shaken, fav, drawer, wb, pair, ofPair) = 0 := by rw [ha]; decide
    obtain ⟨z1, z2⟩ := rl_4 (wh := wh) (en := en) (sz := nI N) (tape := tape) (fresh := fresh) (a0 := nI p) (ft := ft) (plc := plc) h0 h1 h2 h3 (begins_lack h4 (by decide) c1) (helmet_x (tk := tk) (ns := ns) (wh := wh) helmet_f).1 (helmet_x (tk := tk) (ns := ns) (wh := wh) helmet_f).2 gw
    refine ⟨_, z1, z2, Or.inl ⟨6, by decide, ha, rfl, rfl, rfl⟩, ?_⟩
    unfold G_st_X8_readText_32
    rw [hx]
    exact ⟨gs0, fun h => absurd h ha4, fun h _ => absurd h ha4, fun h _ _ => absurd h ha4, fun h _ _ _ => absurd h ha4, fun h _ _ _ _ => absurd h ha4, fun h _ _ _ _ _ => absurd h ha4, fun h _ _ _ _ _ _ => absurd h ha4, fun h _ _ _ _ _ _ _ => absurd h ha4, fun h _ _ _ _ _ _ _ => absurd h ha4, fun h _ _ _ => absurd h ha4⟩
  have nz : ¬ begun = 0 := by rw [c0]; decide
  have f1 : ¬ fresh 1 = 0 := by rw [c3]; exact fun h => by have := (nI_eq (a := b) (b := 0) (by omega) (by decide)).mp h; omega
  have fc : ¬ (1 : Int32) = 0 := by decide
  rcases r8 with ⟨u1, u2, u3, u4⟩ | ⟨B, K, S, D, u1, u2, u3, u4, u5, u6, u7, u8⟩
  · have f3 : D_X2_isTold beans = 0 := by rw [u2]; rfl
    have ha : D_X8_readText_a4 x0 bytes (holds, oneIn, fear, mutiny, nI T, nI M, nI P, beans, draws, goneTold, amongs, begun, fm, pm, nI p, nI q, so, tn, mn, kind, firstTen, nerve, friendsOf, fearTimes, weight, black, shaken, fav, drawer, wb, pair, ofPair) = 0 := by unfold D_X8_readText_a4; rw [a3]; exact (fol4 nz).trans (if_pos f3)
    obtain ⟨p1, q1, so1, ns1, wh1, tk1, en1, le1, l1, t1, t2, hR1, t4, t6⟩ := tk_step hN hT hR (by rw [word_so hR h4]; decide)
    have a5 : D_X8_readText_a5 x0 bytes (holds, oneIn, fear, mutiny, nI T, nI M, nI P, beans, draws, goneTold, amongs, begun, fm, pm, nI p, nI q, so, tn, mn, kind, firstTen, nerve, friendsOf, fearTimes, weight, black, shaken, fav, drawer, wb, pair, ofPair) = (nI p1, nI q1, so1) := by unfold D_X8_readText_a5; rw [hx]; exact t1
    obtain ⟨⟨B, K, S, m, p2, q2, so2, ns2, wh2, tk2, en2, le2, v1, v2, v3, v4, v5, l2, e1, e2, hR2⟩ | ⟨n, x, Y, Z, e1, y1, y2, y3, e2, z1, z2, z3⟩, g1, g2⟩ := line_helmet (p := p) (ns := ns) (wh := wh) (tk := tk) (o1 := beans) (o2 := black) (o3 := shaken) (o4 := fav) (fm := fm) (pm := pm) (ft := ft) (plc := plc) hN hT hR1 t2 t6 r1 u1
    · have hr := rd_helmet (m := m) hD nz u1 v1 v2 v3 v4
      have ay : D_X8_readText_a10 x0 bytes (holds, oneIn, fear, mutiny, nI T, nI M, nI P, beans, draws, goneTold, amongs, begun, fm, pm, nI p, nI q, so, tn, mn, kind, firstTen, nerve, friendsOf, fearTimes, weight, black, shaken, fav, drawer, wb, pair, ofPair) = (1, fm, pm, nI p2, nI q2, so2, nI B, nI K, nI S, nI m) := by unfold D_X8_readText_a10; rw [a5, hx]; exact e1
      have jj : D_X8_readText_j1 x0 bytes (holds, oneIn, fear, mutiny, nI T, nI M, nI P, beans, draws, goneTold, amongs, begun, fm, pm, nI p, nI q, so, tn, mn, kind, firstTen, nerve, friendsOf, fearTimes, weight, black, shaken, fav, drawer, wb, pair, ofPair) = (1, holds, oneIn, fear, mutiny, nI T, nI M, nI P, nI B, draws, goneTold, amongs, begun, fm, pm, nI p2, nI q2, so2, tn, mn, kind, firstTen, nerve, friendsOf, fearTimes, weight, nI K, nI S, nI m, drawer, wb, pair, ofPair) := by unfold D_X8_readText_j1; rw [a3, if_neg (show ¬ (4 : Int32) = 0 by decide), if_neg (show ¬ (4 : Int32) = 1 by decide), if_neg (show ¬ (4 : Int32) = 2 by decide), if_neg (show ¬ (4 : Int32) = 3 by decide), if_pos rfl, ay]
      have t5 : so2 = 3 → G_X10_step (nI p2) (nI q2) (nI N) bytes := fun c => by
        obtain ⟨_, _, _, _, _, _, _, _, _, _, _, _, s4, _⟩ := tk_step hN hT hR2 (by rw [c]; decide)
        exact s4
      obtain ⟨z1, z2⟩ := rl_4 (wh := wh) (en := en) (sz := nI N) (tape := tape) (fresh := fresh) (a0 := nI p) (ft := ft) (plc := plc) h0 h1 h2 h3 (begins_ok h4 fc f1) e2 g2 gw
      refine ⟨_, z1, z2, Or.inr (Or.inr ⟨ha, _, _, _, _, _, _, _, _, _, _, _, _, _, _, _, _, _, _, _, _, _, _, _, _, _, _, _, _, p2, q2, so2, ns2, wh2, tk2, en2, le2, by omega, jj, rfl, hR2, hr⟩), ?_⟩
      unfold G_st_X8_readText_32
      rw [hx, a3, a5, jj]
      exact ⟨gs0, fun _ => t4, fun _ h => absurd h (show ¬ (4 : Int32) = 0 by decide), fun _ _ h => absurd h (show ¬ (4 : Int32) = 1 by decide), fun _ _ _ h => absurd h (show ¬ (4 : Int32) = 2 by decide), fun _ _ _ _ h => absurd h (show ¬ (4 : Int32) = 3 by decide), fun _ _ _ _ _ _ => g1, fun _ _ _ _ _ h _ => absurd rfl h, fun _ _ _ _ _ h _ _ => absurd rfl h, fun _ _ _ _ _ h _ _ => absurd rfl h, fun _ _ _ h => t5 h⟩
    · have ay : D_X8_readText_a10 x0 bytes (holds, oneIn, fear, mutiny, nI T, nI M, nI P, beans, draws, goneTold, amongs, begun, fm, pm, nI p, nI q, so, tn, mn, kind, firstTen, nerve, friendsOf, fearTimes, weight, black, shaken, fav, drawer, wb, pair, ofPair) = Y := by unfold D_X8_readText_a10; rw [a5, hx]; exact e1
      have jj : D_X8_readText_j1 x0 bytes (holds, oneIn, fear, mutiny, nI T, nI M, nI P, beans, draws, goneTold, amongs, begun, fm, pm, nI p, nI q, so, tn, mn, kind, firstTen, nerve, friendsOf, fearTimes, weight, black, shaken, fav, drawer, wb, pair, ofPair) = (Y.1, holds, oneIn, fear, mutiny, nI T, nI M, nI P, Y.2.2.2.2.2.2.1, draws, goneTold, amongs, begun, Y.2.1, Y.2.2.1, Y.2.2.2.1, Y.2.2.2.2.1, Y.2.2.2.2.2.1, tn, mn, kind, firstTen, nerve, friendsOf, fearTimes, weight, Y.2.2.2.2.2.2.2.1, Y.2.2.2.2.2.2.2.2.1, Y.2.2.2.2.2.2.2.2.2, drawer, wb, pair, ofPair) := by unfold D_X8_readText_j1; rw [a3, if_neg (show ¬ (4 : Int32) = 0 by decide), if_neg (show ¬ (4 : Int32) = 1 by decide), if_neg (show ¬ (4 : Int32) = 2 by decide), if_neg (show ¬ (4 : Int32) = 3 by decide), if_pos rfl, ay]
      have hJ0 : (Y.1, holds, oneIn, fear, mutiny, nI T, nI M, nI P, Y.2.2.2.2.2.2.1, draws, goneTold, amongs, begun, Y.2.1, Y.2.2.1, Y.2.2.2.1, Y.2.2.2.2.1, Y.2.2.2.2.2.1, tn, mn, kind, firstTen, nerve, friendsOf, fearTimes, weight, Y.2.2.2.2.2.2.2.1, Y.2.2.2.2.2.2.2.2.1, Y.2.2.2.2.2.2.2.2.2, drawer, wb, pair, ofPair).1 = 0 := y1
      obtain ⟨w1, w2⟩ := rl_4 (wh := wh) (en := en) (sz := nI N) (tape := tape) (fresh := fresh) (a0 := nI p) (ft := ft) (plc := plc) h0 h1 h2 h3 (begins_ok h4 fc f1) e2 g2 gw
      refine ⟨_, w1, w2, Or.inr (Or.inl ⟨ha, _, jj, y1, z1, z2.trans y2.symm, z3.trans y3.symm⟩), ?_⟩
      unfold G_st_X8_readText_32
      rw [hx, a3, a5, jj]
      exact ⟨gs0, fun _ => t4, fun _ h => absurd h (show ¬ (4 : Int32) = 0 by decide), fun _ _ h => absurd h (show ¬ (4 : Int32) = 1 by decide), fun _ _ _ h => absurd h (show ¬ (4 : Int32) = 2 by decide), fun _ _ _ _ h => absurd h (show ¬ (4 : Int32) = 3 by decide), fun _ _ _ _ _ _ => g1, fun _ _ _ _ _ h _ => absurd rfl h, fun _ _ _ _ _ h _ _ => absurd rfl h, fun _ _ _ _ _ h _ _ => absurd rfl h, fun _ h => absurd hJ0 h⟩
  · have f3 : ¬ D_X2_isTold beans = 0 := by rw [u7]; unfold D_X2_isTold; rw [if_neg (nI_nle (by omega) (by omega))]; decide
    have f41 : D_X12_helmetLine_j1 fresh (nI p) 0 ft plc = (1, 3, nI p) := by unfold D_X12_helmetLine_j1 D_X12_helmetLine_a1; rw [u6, if_neg (nI_nle (by omega) (by omega)), bad_0]
    have ha : D_X8_readText_a4 x0 bytes (holds, oneIn, fear, mutiny, nI T, nI M, nI P, beans, draws, goneTold, amongs, begun, fm, pm, nI p, nI q, so, tn, mn, kind, firstTen, nerve, friendsOf, fearTimes, weight, black, shaken, fav, drawer, wb, pair, ofPair) = 3 := by unfold D_X8_readText_a4; rw [a3]; exact (fol4 nz).trans (if_neg f3)
    have ha4 : ¬ D_X8_readText_a4 x0 bytes (holds, oneIn, fear, mutiny, nI T, nI M, nI P, beans, draws, goneTold, amongs, begun, fm, pm, nI p, nI q, so, tn, mn, kind, firstTen, nerve, friendsOf, fearTimes, weight, black, shaken, fav, drawer, wb, pair, ofPair) = 0 := by rw [ha]; decide
    obtain ⟨z1, z2⟩ := rl_4 (wh := wh) (en := en) (sz := nI N) (tape := tape) (fresh := fresh) (a0 := nI p) (ft := ft) (plc := plc) h0 h1 h2 h3 (begins_ok h4 fc f1) (helmet_x (tk := tk) (ns := ns) (wh := wh) f41).1 (helmet_x (tk := tk) (ns := ns) (wh := wh) f41).2 gw
    refine ⟨_, z1, z2, Or.inl ⟨3, by decide, ha, rfl, rfl, rfl⟩, ?_⟩
    unfold G_st_X8_readText_32
    rw [hx]
    exact ⟨gs0, fun h => absurd h ha4, fun h _ => absurd h ha4, fun h _ _ => absurd h ha4, fun h _ _ _ => absurd h ha4, fun h _ _ _ _ => absurd h ha4, fun h _ _ _ _ _ => absurd h ha4, fun h _ _ _ _ _ _ => absurd h ha4, fun h _ _ _ _ _ _ _ => absurd h ha4, fun h _ _ _ _ _ _ _ => absurd h ha4, fun h _ _ _ => absurd h ha4⟩
theorem ln_5 (hx : (D_X8_readText_a2 x0 bytes).1 = nI N) (hN : N ≤ 1000) (hT : TapR bytes tape) (hR : TokR N bytes p q so ns wh tk en le) (hD : RdR T M P holds oneIn fear mutiny beans draws goneTold amongs begun tn mn kind firstTen nerve friendsOf fearTimes weight black shaken fav drawer wb pair ofPair fresh) (h0 : D_X12_isWord 24 0 tk ns le = 0) (h1 : D_X12_isWord 29 0 tk ns le = 0) (h2 : D_X12_isWord 30 0 tk ns le = 0) (h3 : D_X12_isWord 31 0 tk ns le = 0) (h4 : D_X12_isWord 32 0 tk ns le = 0) (h5 : ¬ D_X12_isWord 33 0 tk ns le = 0) : ∃ Z, D_X12_readLine 0 tk ns le fresh (nI p) ft plc en (nI N) tape wh = Z ∧ G_X12_readLine 0 tk ns le fresh (nI p) ft plc en (nI N) tape ∧ LnC x0 bytes (holds, oneIn, fear, mutiny, nI T, nI M, nI P, beans, draws, goneTold, amongs, begun, fm, pm, nI p, nI q, so, tn, mn, kind, firstTen, nerve, friendsOf, fearTimes, weight, black, shaken, fav, drawer, wb, pair, ofPair) Z N p fm pm ft plc ∧ G_st_X8_readText_32 x0 bytes k1 (holds, oneIn, fear, mutiny, nI T, nI M, nI P, beans, draws, goneTold, amongs, begun, fm, pm, nI p, nI q, so, tn, mn, kind, firstTen, nerve, friendsOf, fearTimes, weight, black, shaken, fav, drawer, wb, pair, ofPair) := by
  obtain ⟨r1, r2, r3, r4, r5, r6, r7, r8, r9, r10, r11⟩ := hD
  have hD : RdR T M P holds oneIn fear mutiny beans draws goneTold amongs begun tn mn kind firstTen nerve friendsOf fearTimes weight black shaken fav drawer wb pair ofPair fresh := ⟨r1, r2, r3, r4, r5, r6, r7, r8, r9, r10, r11⟩
  have h88 := r1.2.1
  have h33 := r1.1
  have gw : ∀ w, w < 47 → G_X12_isWord w 0 tk ns le := fun w hw => (isWord_eq (w := w) hN hR rfl hw).2.2.2
  have gs0 : G_X10_wordSort so (nI q) (nI p) (nI N) bytes := (G_sort hN hR).1
  have ht2 : tk = 2 := by have := word_so hR h5; obtain ⟨_, h'⟩ := hR; rcases h' with ⟨a, b⟩ | ⟨a, b, _⟩ | ⟨a, b, _⟩ | ⟨a, b, _⟩ | ⟨a, b, _⟩ <;> first | exact b | (rw [a] at this; exact absurd this (by decide))
  have hq1 : 1 ≤ q := by have := word_so hR h5; obtain ⟨_, h'⟩ := hR; rcases h' with ⟨a, b⟩ | ⟨a, b, _⟩ | ⟨a, b, _⟩ | ⟨a, b, c, _⟩ | ⟨a, b, _⟩ <;> first | exact c | (rw [a] at this; exact absurd this (by decide))
  have ws : D_X10_wordSort so (nI q) (nI p) (nI N) bytes = 5 := by rw [sort_eq hN hR, if_pos ht2, if_pos h0, if_pos h1, if_pos h2, if_pos h3, if_pos h4, if_neg h5]
  have a3 : D_X8_readText_a3 x0 bytes (holds, oneIn, fear, mutiny, nI T, nI M, nI P, beans, draws, goneTold, amongs, begun, fm, pm, nI p, nI q, so, tn, mn, kind, firstTen, nerve, friendsOf, fearTimes, weight, black, shaken, fav, drawer, wb, pair, ofPair) = 5 := by unfold D_X8_readText_a3; rw [hx]; exact ws
  have d0 : fresh 41 = 0 → fresh 7 = 0 := fun h => by
    rcases r8 with ⟨u1, u2, u3, u4⟩ | ⟨B, K, S, D, u1, u2, u3, u4, u5, u6, u7, u8⟩
    · exact u3
    · rw [u6] at h; have := (nI_eq (a := B) (b := 0) (by omega) (by decide)).mp h; omega
  rcases r11 with ⟨c0, c1, c2, c3, c4, c5, c6⟩ | ⟨c0, b, c1, c2, c3, c4⟩
  · skip
    have ha : D_X8_readText_a4 x0 bytes (holds, oneIn, fear, mutiny, nI T, nI M, nI P, beans, draws, goneTold, amongs, begun, fm, pm, nI p, nI q, so, tn, mn, kind, firstTen, nerve, friendsOf, fearTimes, weight, black, shaken, fav, drawer, wb, pair, ofPair) = 6 := by unfold D_X8_readText_a4; rw [a3]; exact folL5 c0
    have ha4 : ¬ D_X8_readText_a4 x0 bytes (holds, oneIn, fear, mutiny, nI T, nI M, nI P, beans, draws, goneTold, amongs, begun, fm, pm, nI p, nI q, so, tn, mn, kind, firstTen, nerve, friendsOf, fearTimes, weight, black, shaken, fav, drawer, wb, pair, ofPair) = 0 := by rw [ha]; decide
    obtain ⟨z1, z2⟩ := rl_5 (wh := wh) (en := en) (sz := nI N) (tape := tape) (fresh := fresh) (a0 := nI p) (ft := ft) (plc := plc) h0 h1 h2 h3 h4 (begins_lack h5 (by rw [d0 c5]; decide) c1) (drew_x (tk := tk) (ns := ns) (wh := wh) drew_f).1 (drew_x (tk := tk) (ns := ns) (wh := wh) drew_f).2 gw
    refine ⟨_, z1, z2, Or.inl ⟨6, by decide, ha, rfl, rfl, rfl⟩, ?_⟩
    unfold G_st_X8_readText_32
    rw [hx]
    exact ⟨gs0, fun h => absurd h ha4, fun h _ => absurd h ha4, fun h _ _ => absurd h ha4, fun h _ _ _ => absurd h ha4, fun h _ _ _ _ => absurd h ha4, fun h _ _ _ _ _ => absurd h ha4, fun h _ _ _ _ _ _ => absurd h ha4, fun h _ _ _ _ _ _ _ => absurd h ha4, fun h _ _ _ _ _ _ _ => absurd h ha4, fun h _ _ _ => absurd h ha4⟩
  have nz : ¬ begun = 0 := by rw [c0]; decide
  have f1 : ¬ fresh 1 = 0 := by rw [c3]; exact fun h => by have := (nI_eq (a := b) (b := 0) (by omega) (by decide)).mp h; omega
  rcases r8 with ⟨u1, u2, u3, u4⟩ | ⟨B, K, S, D, u1, u2, u3, u4, u5, u6, u7, u8, u9, v1, v2, v3, v4, v5, v6⟩
  · have f3 : D_X2_isTold beans = 0 := by rw [u2]; rfl
    have fc : ¬ (if 6 ≤ fresh 7 then 0 else 1 : Int32) = 0 := by rw [u3]; decide
    have f41 : D_X12_drewLine_j1 0 fresh (nI p) ft plc = (1, 6, nI p) := by unfold D_X12_drewLine_j1 D_X12_drewLine_a1; rw [if_pos rfl, if_pos u1, bad_0]
    have ha : D_X8_readText_a4 x0 bytes (holds, oneIn, fear, mutiny, nI T, nI M, nI P, beans, draws, goneTold, amongs, begun, fm, pm, nI p, nI q, so, tn, mn, kind, firstTen, nerve, friendsOf, fearTimes, weight, black, shaken, fav, drawer, wb, pair, ofPair) = 6 := by unfold D_X8_readText_a4; rw [a3]; exact (fol5 nz).trans (by unfold D_X8_behind; rw [if_pos f3])
    have ha4 : ¬ D_X8_readText_a4 x0 bytes (holds, oneIn, fear, mutiny, nI T, nI M, nI P, beans, draws, goneTold, amongs, begun, fm, pm, nI p, nI q, so, tn, mn, kind, firstTen, nerve, friendsOf, fearTimes, weight, black, shaken, fav, drawer, wb, pair, ofPair) = 0 := by rw [ha]; decide
    obtain ⟨z1, z2⟩ := rl_5 (wh := wh) (en := en) (sz := nI N) (tape := tape) (fresh := fresh) (a0 := nI p) (ft := ft) (plc := plc) h0 h1 h2 h3 h4 (begins_ok h5 fc f1) (drew_x (tk := tk) (ns := ns) (wh := wh) f41).1 (drew_x (tk := tk) (ns := ns) (wh := wh) f41).2 gw
    refine ⟨_, z1, z2, Or.inl ⟨6, by decide, ha, rfl, rfl, rfl⟩, ?_⟩
    unfold G_st_X8_readText_32
    rw [hx]
    exact ⟨gs0, fun h => absurd h ha4, fun h _ => absurd h ha4, fun h _ _ => absurd h ha4, fun h _ _ _ => absurd h ha4, fun h _ _ _ _ => absurd h ha4, fun h _ _ _ _ _ => absurd h ha4, fun h _ _ _ _ _ _ => absurd h ha4, fun h _ _ _ _ _ _ _ => absurd h ha4, fun h _ _ _ _ _ _ _ => absurd h ha4, fun h _ _ _ => absurd h ha4⟩
  have f3 : ¬ D_X2_isTold beans = 0 := by rw [u7]; unfold D_X2_isTold; rw [if_neg (nI_nle (by omega) (by omega))]; decide
  subst v5; subst u7; subst u9; subst v2
  by_cases f : D < 6
  · have f6 : ¬ (6 : Int32) ≤ nI D := nI_ge (b := 6) f (by decide)
    have fc : ¬ (if 6 ≤ fresh 7 then 0 else 1 : Int32) = 0 := by rw [v4, if_neg f6]; decide
    have ha : D_X8_readText_a4 x0 bytes (holds, oneIn, fear, mutiny, nI T, nI M, nI P, nI B, nI D, goneTold, amongs, begun, fm, pm, nI p, nI q, so, tn, mn, kind, firstTen, nerve, friendsOf, fearTimes, weight, nI K, nI S, fav, drawer, wb, pair, ofPair) = 0 := by unfold D_X8_readText_a4; rw [a3]; exact (fol5 nz).trans (by unfold D_X8_behind; rw [if_neg f3, if_neg f6, if_neg (by decide)])
    obtain ⟨p1, q1, so1, ns1, wh1, tk1, en1, le1, l1, t1, t2, hR1, t4, t6⟩ := tk_step hN hT hR (by rw [word_so hR h5]; decide)
    have a5 : D_X8_readText_a5 x0 bytes (holds, oneIn, fear, mutiny, nI T, nI M, nI P, nI B, nI D, goneTold, amongs, begun, fm, pm, nI p, nI q, so, tn, mn, kind, firstTen, nerve, friendsOf, fearTimes, weight, nI K, nI S, fav, drawer, wb, pair, ofPair) = (nI p1, nI q1, so1) := by unfold D_X8_readText_a5; rw [hx]; exact t1
    obtain ⟨⟨m, col, p2, q2, so2, ns2, wh2, tk2, en2, le2, w1, w2, w3, l2, e1, e2, hR2⟩ | ⟨n, x, Y, Z, e1, y1, y2, y3, e2, z1, z2, z3⟩, g1, g2⟩ := line_drew (p := p) (ns := ns) (wh := wh) (tk := tk) (B := B) (K := K) (D := D) (drawer := drawer) (wb := wb) (fm := fm) (pm := pm) (ft := ft) (plc := plc) hN hT hR1 t2 t6 r1 u3 u1 u2 u6 u8 f v4 v6
    · have hr := rd_drew (m := m) (col := col) hD nz u3 u1 u2 u4 u6 u8 v1 rfl rfl rfl v3 f v4 v6 w2 w3
      have ay : D_X8_readText_a11 x0 bytes (holds, oneIn, fear, mutiny, nI T, nI M, nI P, nI B, nI D, goneTold, amongs, begun, fm, pm, nI p, nI q, so, tn, mn, kind, firstTen, nerve, friendsOf, fearTimes, weight, nI K, nI S, fav, drawer, wb, pair, ofPair) = (1, fm, pm, nI p2, nI q2, so2, va_up drawer D (nI m), va_up wb D (nI col), nI (D + 1)) := by unfold D_X8_readText_a11; rw [a5, hx]; exact e1
      have jj : D_X8_readText_j1 x0 bytes (holds, oneIn, fear, mutiny, nI T, nI M, nI P, nI B, nI D, goneTold, amongs, begun, fm, pm, nI p, nI q, so, tn, mn, kind, firstTen, nerve, friendsOf, fearTimes, weight, nI K, nI S, fav, drawer, wb, pair, ofPair) = (1, holds, oneIn, fear, mutiny, nI T, nI M, nI P, nI B, nI (D + 1), goneTold, amongs, begun, fm, pm, nI p2, nI q2, so2, tn, mn, kind, firstTen, nerve, friendsOf, fearTimes, weight, nI K, nI S, fav, va_up drawer D (nI m), va_up wb D (nI col), pair, ofPair) := by unfold D_X8_readText_j1; rw [a3, if_neg (show ¬ (5 : Int32) = 0 by decide), if_neg (show ¬ (5 : Int32) = 1 by decide), if_neg (show ¬ (5 : Int32) = 2 by decide), if_neg (show ¬ (5 : Int32) = 3 by decide), if_neg (show ¬ (5 : Int32) = 4 by decide), if_pos rfl, ay]
      have t5 : so2 = 3 → G_X10_step (nI p2) (nI q2) (nI N) bytes := fun c => by
        obtain ⟨_, _, _, _, _, _, _, _, _, _, _, _, s4, _⟩ := tk_step hN hT hR2 (by rw [c]; decide)
        exact s4
      obtain ⟨z1, z2⟩ := rl_5 (wh := wh) (en := en) (sz := nI N) (tape := tape) (fresh := fresh) (a0 := nI p) (ft := ft) (plc := plc) h0 h1 h2 h3 h4 (begins_ok h5 fc f1) e2 g2 gw
      refine ⟨_, z1, z2, Or.inr (Or.inr ⟨ha, _, _, _, _, _, _, _, _, _, _, _, _, _, _, _, _, _, _, _, _, _, _, _, _, _, _, _, _, p2, q2, so2, ns2, wh2, tk2, en2, le2, by omega, jj, rfl, hR2, hr⟩), ?_⟩
      unfold G_st_X8_readText_32
      rw [hx, a3, a5, jj]
      exact ⟨gs0, fun _ => t4, fun _ h => absurd h (show ¬ (5 : Int32) = 0 by decide), fun _ _ h => absurd h (show ¬ (5 : Int32) = 1 by decide), fun _ _ _ h => absurd h (show ¬ (5 : Int32) = 2 by decide), fun _ _ _ _ h => absurd h (show ¬ (5 : Int32) = 3 by decide), fun _ _ _ _ _ h => absurd h (show ¬ (5 : Int32) = 4 by decide), fun _ _ _ _ _ _ _ => g1, fun _ _ _ _ _ _ h _ => absurd rfl h, fun _ _ _ _ _ _ h _ => absurd rfl h, fun _ _ _ h => t5 h⟩
    · have ay : D_X8_readText_a11 x0 bytes (holds, oneIn, fear, mutiny, nI T, nI M, nI P, nI B, nI D, goneTold, amongs, begun, fm, pm, nI p, nI q, so, tn, mn, kind, firstTen, nerve, friendsOf, fearTimes, weight, nI K, nI S, fav, drawer, wb, pair, ofPair) = Y := by unfold D_X8_readText_a11; rw [a5, hx]; exact e1
      have jj : D_X8_readText_j1 x0 bytes (holds, oneIn, fear, mutiny, nI T, nI M, nI P, nI B, nI D, goneTold, amongs, begun, fm, pm, nI p, nI q, so, tn, mn, kind, firstTen, nerve, friendsOf, fearTimes, weight, nI K, nI S, fav, drawer, wb, pair, ofPair) = (Y.1, holds, oneIn, fear, mutiny, nI T, nI M, nI P, nI B, Y.2.2.2.2.2.2.2.2, goneTold, amongs, begun, Y.2.1, Y.2.2.1, Y.2.2.2.1, Y.2.2.2.2.1, Y.2.2.2.2.2.1, tn, mn, kind, firstTen, nerve, friendsOf, fearTimes, weight, nI K, nI S, fav, Y.2.2.2.2.2.2.1, Y.2.2.2.2.2.2.2.1, pair, ofPair) := by unfold D_X8_readText_j1; rw [a3, if_neg (show ¬ (5 : Int32) = 0 by decide), if_neg (show ¬ (5 : Int32) = 1 by decide), if_neg (show ¬ (5 : Int32) = 2 by decide), if_neg (show ¬ (5 : Int32) = 3 by decide), if_neg (show ¬ (5 : Int32) = 4 by decide), if_pos rfl, ay]
      have hJ0 : (Y.1, holds, oneIn, fear, mutiny, nI T, nI M, nI P, nI B, Y.2.2.2.2.2.2.2.2, goneTold, amongs, begun, Y.2.1, Y.2.2.1, Y.2.2.2.1, Y.2.2.2.2.1, Y.2.2.2.2.2.1, tn, mn, kind, firstTen, nerve, friendsOf, fearTimes, weight, nI K, nI S, fav, Y.2.2.2.2.2.2.1, Y.2.2.2.2.2.2.2.1, pair, ofPair).1 = 0 := y1
      obtain ⟨w1, w2⟩ := rl_5 (wh := wh) (en := en) (sz := nI N) (tape := tape) (fresh := fresh) (a0 := nI p) (ft := ft) (plc := plc) h0 h1 h2 h3 h4 (begins_ok h5 fc f1) e2 g2 gw
      refine ⟨_, w1, w2, Or.inr (Or.inl ⟨ha, _, jj, y1, z1, z2.trans y2.symm, z3.trans y3.symm⟩), ?_⟩
      unfold G_st_X8_readText_32
      rw [hx, a3, a5, jj]
      exact ⟨gs0, fun _ => t4, fun _ h => absurd h (show ¬ (5 : Int32) = 0 by decide), fun _ _ h => absurd h (show ¬ (5 : Int32) = 1 by decide), fun _ _ _ h => absurd h (show ¬ (5 : Int32) = 2 by decide), fun _ _ _ _ h => absurd h (show ¬ (5 : Int32) = 3 by decide), fun _ _ _ _ _ h => absurd h (show ¬ (5 : Int32) = 4 by decide), fun _ _ _ _ _ _ _ => g1, fun _ _ _ _ _ _ h _ => absurd rfl h, fun _ _ _ _ _ _ h _ => absurd rfl h, fun _ h => absurd hJ0 h⟩
  · have f6 : (6 : Int32) ≤ nI D := nI_le (a := 6) (by omega) (by omega)
    have fc : (if 6 ≤ fresh 7 then 0 else 1 : Int32) = 0 := by rw [v4, if_pos f6]
    have ha : D_X8_readText_a4 x0 bytes (holds, oneIn, fear, mutiny, nI T, nI M, nI P, nI B, nI D, goneTold, amongs, begun, fm, pm, nI p, nI q, so, tn, mn, kind, firstTen, nerve, friendsOf, fearTimes, weight, nI K, nI S, fav, drawer, wb, pair, ofPair) = 5 := by unfold D_X8_readText_a4; rw [a3]; exact (fol5 nz).trans (by unfold D_X8_behind; rw [if_neg f3, if_pos f6, if_pos rfl])
    have ha4 : ¬ D_X8_readText_a4 x0 bytes (holds, oneIn, fear, mutiny, nI T, nI M, nI P, nI B, nI D, goneTold, amongs, begun, fm, pm, nI p, nI q, so, tn, mn, kind, firstTen, nerve, friendsOf, fearTimes, weight, nI K, nI S, fav, drawer, wb, pair, ofPair) = 0 := by rw [ha]; decide
    obtain ⟨z1, z2⟩ := rl_5 (wh := wh) (en := en) (sz := nI N) (tape := tape) (fresh := fresh) (a0 := nI p) (ft := ft) (plc := plc) h0 h1 h2 h3 h4 (begins_many h5 fc f1) (drew_x (tk := tk) (ns := ns) (wh := wh) drew_f).1 (drew_x (tk := tk) (ns := ns) (wh := wh) drew_f).2 gw
    refine ⟨_, z1, z2, Or.inl ⟨5, by decide, ha, rfl, rfl, rfl⟩, ?_⟩
    unfold G_st_X8_readText_32
    rw [hx]
    exact ⟨gs0, fun h => absurd h ha4, fun h _ => absurd h ha4, fun h _ _ => absurd h ha4, fun h _ _ _ => absurd h ha4, fun h _ _ _ _ => absurd h ha4, fun h _ _ _ _ _ => absurd h ha4, fun h _ _ _ _ _ _ => absurd h ha4, fun h _ _ _ _ _ _ _ => absurd h ha4, fun h _ _ _ _ _ _ _ => absurd h ha4, fun h _ _ _ => absurd h ha4⟩
theorem ln_6 (hx : (D_X8_readText_a2 x0 bytes).1 = nI N) (hN : N ≤ 1000) (hT : TapR bytes tape) (hR : TokR N bytes p q so ns wh tk en le) (hD : RdR T M P holds oneIn fear mutiny beans draws goneTold amongs begun tn mn kind firstTen nerve friendsOf fearTimes weight black shaken fav drawer wb pair ofPair fresh) (h0 : D_X12_isWord 24 0 tk ns le = 0) (h1 : D_X12_isWord 29 0 tk ns le = 0) (h2 : D_X12_isWord 30 0 tk ns le = 0) (h3 : D_X12_isWord 31 0 tk ns le = 0) (h4 : D_X12_isWord 32 0 tk ns le = 0) (h5 : D_X12_isWord 33 0 tk ns le = 0) (h6 : ¬ D_X12_isWord 34 0 tk ns le = 0) : ∃ Z, D_X12_readLine 0 tk ns le fresh (nI p) ft plc en (nI N) tape wh = Z ∧ G_X12_readLine 0 tk ns le fresh (nI p) ft plc en (nI N) tape ∧ LnC x0 bytes (holds, oneIn, fear, mutiny, nI T, nI M, nI P, beans, draws, goneTold, amongs, begun, fm, pm, nI p, nI q, so, tn, mn, kind, firstTen, nerve, friendsOf, fearTimes, weight, black, shaken, fav, drawer, wb, pair, ofPair) Z N p fm pm ft plc ∧ G_st_X8_readText_32 x0 bytes k1 (holds, oneIn, fear, mutiny, nI T, nI M, nI P, beans, draws, goneTold, amongs, begun, fm, pm, nI p, nI q, so, tn, mn, kind, firstTen, nerve, friendsOf, fearTimes, weight, black, shaken, fav, drawer, wb, pair, ofPair) := by
  obtain ⟨r1, r2, r3, r4, r5, r6, r7, r8, r9, r10, r11⟩ := hD
  have hD : RdR T M P holds oneIn fear mutiny beans draws goneTold amongs begun tn mn kind firstTen nerve friendsOf fearTimes weight black shaken fav drawer wb pair ofPair fresh := ⟨r1, r2, r3, r4, r5, r6, r7, r8, r9, r10, r11⟩
  have h88 := r1.2.1
  have h33 := r1.1
  have gw : ∀ w, w < 47 → G_X12_isWord w 0 tk ns le := fun w hw => (isWord_eq (w := w) hN hR rfl hw).2.2.2
  have gs0 : G_X10_wordSort so (nI q) (nI p) (nI N) bytes := (G_sort hN hR).1
  have ht2 : tk = 2 := by have := word_so hR h6; obtain ⟨_, h'⟩ := hR; rcases h' with ⟨a, b⟩ | ⟨a, b, _⟩ | ⟨a, b, _⟩ | ⟨a, b, _⟩ | ⟨a, b, _⟩ <;> first | exact b | (rw [a] at this; exact absurd this (by decide))
  have hq1 : 1 ≤ q := by have := word_so hR h6; obtain ⟨_, h'⟩ := hR; rcases h' with ⟨a, b⟩ | ⟨a, b, _⟩ | ⟨a, b, _⟩ | ⟨a, b, c, _⟩ | ⟨a, b, _⟩ <;> first | exact c | (rw [a] at this; exact absurd this (by decide))
  have ws : D_X10_wordSort so (nI q) (nI p) (nI N) bytes = 6 := by rw [sort_eq hN hR, if_pos ht2, if_pos h0, if_pos h1, if_pos h2, if_pos h3, if_pos h4, if_pos h5, if_neg h6]
  have a3 : D_X8_readText_a3 x0 bytes (holds, oneIn, fear, mutiny, nI T, nI M, nI P, beans, draws, goneTold, amongs, begun, fm, pm, nI p, nI q, so, tn, mn, kind, firstTen, nerve, friendsOf, fearTimes, weight, black, shaken, fav, drawer, wb, pair, ofPair) = 6 := by unfold D_X8_readText_a3; rw [hx]; exact ws
  rcases r11 with ⟨c0, c1, c2, c3, c4, c5, c6⟩ | ⟨c0, b, c1, c2, c3, c4⟩
  · skip
    have ha : D_X8_readText_a4 x0 bytes (holds, oneIn, fear, mutiny, nI T, nI M, nI P, beans, draws, goneTold, amongs, begun, fm, pm, nI p, nI q, so, tn, mn, kind, firstTen, nerve, friendsOf, fearTimes, weight, black, shaken, fav, drawer, wb, pair, ofPair) = 6 := by unfold D_X8_readText_a4; rw [a3]; exact folL6 c0
    have ha4 : ¬ D_X8_readText_a4 x0 bytes (holds, oneIn, fear, mutiny, nI T, nI M, nI P, beans, draws, goneTold, amongs, begun, fm, pm, nI p, nI q, so, tn, mn, kind, firstTen, nerve, friendsOf, fearTimes, weight, black, shaken, fav, drawer, wb, pair, ofPair) = 0 := by rw [ha]; decide
    obtain ⟨z1, z2⟩ := rl_6 (wh := wh) (en := en) (sz := nI N) (tape := tape) (fresh := fresh) (a0 := nI p) (ft := ft) (plc := plc) h0 h1 h2 h3 h4 h5 (begins_lack h6 (by decide) c1) (gone_x (tk := tk) (ns := ns) (wh := wh) gone_f).1 (gone_x (tk := tk) (ns := ns) (wh := wh) gone_f).2 gw
    refine ⟨_, z1, z2, Or.inl ⟨6, by decide, ha, rfl, rfl, rfl⟩, ?_⟩
    unfold G_st_X8_readText_32
    rw [hx]
    exact ⟨gs0, fun h => absurd h ha4, fun h _ => absurd h ha4, fun h _ _ => absurd h ha4, fun h _ _ _ => absurd h ha4, fun h _ _ _ _ => absurd h ha4, fun h _ _ _ _ _ => absurd h ha4, fun h _ _ _ _ _ _ => absurd h ha4, fun h _ _ _ _ _ _ _ => absurd h ha4, fun h _ _ _ _ _ _ _ => absurd h ha4, fun h _ _ _ => absurd h ha4⟩
  have nz : ¬ begun = 0 := by rw [c0]; decide
  have f1 : ¬ fresh 1 = 0 := by rw [c3]; exact fun h => by have := (nI_eq (a := b) (b := 0) (by omega) (by decide)).mp h; omega
  have fc : ¬ (1 : Int32) = 0 := by decide
  obtain ⟨q9, A, A1, A2, A3, A4⟩ := r9
  rcases q9 with ⟨u1, u2⟩ | ⟨g, u1, u2, u3⟩
  · have f3 : D_X1_isTold goneTold = 0 := by rw [u2]; rfl
    have ha : D_X8_readText_a4 x0 bytes (holds, oneIn, fear, mutiny, nI T, nI M, nI P, beans, draws, goneTold, amongs, begun, fm, pm, nI p, nI q, so, tn, mn, kind, firstTen, nerve, friendsOf, fearTimes, weight, black, shaken, fav, drawer, wb, pair, ofPair) = 0 := by unfold D_X8_readText_a4; rw [a3]; exact (fol6 nz).trans (if_pos f3)
    obtain ⟨p1, q1, so1, ns1, wh1, tk1, en1, le1, l1, t1, t2, hR1, t4, t6⟩ := tk_step hN hT hR (by rw [word_so hR h6]; decide)
    have a5 : D_X8_readText_a5 x0 bytes (holds, oneIn, fear, mutiny, nI T, nI M, nI P, beans, draws, goneTold, amongs, begun, fm, pm, nI p, nI q, so, tn, mn, kind, firstTen, nerve, friendsOf, fearTimes, weight, black, shaken, fav, drawer, wb, pair, ofPair) = (nI p1, nI q1, so1) := by unfold D_X8_readText_a5; rw [hx]; exact t1
    obtain ⟨⟨v, p2, q2, so2, ns2, wh2, tk2, en2, le2, v1, l2, e1, e2, hR2⟩ | ⟨n, x, Y, Z, e1, y1, y2, y3, e2, z1, z2, z3⟩, g1, g2⟩ := line_gone (p := p) (ns := ns) (wh := wh) (tk := tk) (fm := fm) (pm := pm) (ft := ft) (plc := plc) hN hT hR1 t2 t6 r1 r6 u1
    · have hr := rd_gone hD nz v1
      have ay : D_X8_readText_a12 x0 bytes (holds, oneIn, fear, mutiny, nI T, nI M, nI P, beans, draws, goneTold, amongs, begun, fm, pm, nI p, nI q, so, tn, mn, kind, firstTen, nerve, friendsOf, fearTimes, weight, black, shaken, fav, drawer, wb, pair, ofPair) = (1, fm, pm, nI p2, nI q2, so2, nI v) := by unfold D_X8_readText_a12; rw [a5, hx]; exact e1
      have jj : D_X8_readText_j1 x0 bytes (holds, oneIn, fear, mutiny, nI T, nI M, nI P, beans, draws, goneTold, amongs, begun, fm, pm, nI p, nI q, so, tn, mn, kind, firstTen, nerve, friendsOf, fearTimes, weight, black, shaken, fav, drawer, wb, pair, ofPair) = (1, holds, oneIn, fear, mutiny, nI T, nI M, nI P, beans, draws, nI v, amongs, begun, fm, pm, nI p2, nI q2, so2, tn, mn, kind, firstTen, nerve, friendsOf, fearTimes, weight, black, shaken, fav, drawer, wb, pair, ofPair) := by unfold D_X8_readText_j1; rw [a3, if_neg (show ¬ (6 : Int32) = 0 by decide), if_neg (show ¬ (6 : Int32) = 1 by decide), if_neg (show ¬ (6 : Int32) = 2 by decide), if_neg (show ¬ (6 : Int32) = 3 by decide), if_neg (show ¬ (6 : Int32) = 4 by decide), if_neg (show ¬ (6 : Int32) = 5 by decide), if_pos rfl, ay]
      have t5 : so2 = 3 → G_X10_step (nI p2) (nI q2) (nI N) bytes := fun c => by
        obtain ⟨_, _, _, _, _, _, _, _, _, _, _, _, s4, _⟩ := tk_step hN hT hR2 (by rw [c]; decide)
        exact s4
      obtain ⟨z1, z2⟩ := rl_6 (wh := wh) (en := en) (sz := nI N) (tape := tape) (fresh := fresh) (a0 := nI p) (ft := ft) (plc := plc) h0 h1 h2 h3 h4 h5 (begins_ok h6 fc f1) e2 g2 gw
      refine ⟨_, z1, z2, Or.inr (Or.inr ⟨ha, _, _, _, _, _, _, _, _, _, _, _, _, _, _, _, _, _, _, _, _, _, _, _, _, _, _, _, _, p2, q2, so2, ns2, wh2, tk2, en2, le2, by omega, jj, rfl, hR2, hr⟩), ?_⟩
      unfold G_st_X8_readText_32
      rw [hx, a3, a5, jj]
      exact ⟨gs0, fun _ => t4, fun _ h => absurd h (show ¬ (6 : Int32) = 0 by decide), fun _ _ h => absurd h (show ¬ (6 : Int32) = 1 by decide), fun _ _ _ h => absurd h (show ¬ (6 : Int32) = 2 by decide), fun _ _ _ _ h => absurd h (show ¬ (6 : Int32) = 3 by decide), fun _ _ _ _ _ h => absurd h (show ¬ (6 : Int32) = 4 by decide), fun _ _ _ _ _ _ h => absurd h (show ¬ (6 : Int32) = 5 by decide), fun _ _ _ _ _ _ _ _ => g1, fun _ _ _ _ _ _ _ h => absurd rfl h, fun _ _ _ h => t5 h⟩
    · have ay : D_X8_readText_a12 x0 bytes (holds, oneIn, fear, mutiny, nI T, nI M, nI P, beans, draws, goneTold, amongs, begun, fm, pm, nI p, nI q, so, tn, mn, kind, firstTen, nerve, friendsOf, fearTimes, weight, black, shaken, fav, drawer, wb, pair, ofPair) = Y := by unfold D_X8_readText_a12; rw [a5, hx]; exact e1
      have jj : D_X8_readText_j1 x0 bytes (holds, oneIn, fear, mutiny, nI T, nI M, nI P, beans, draws, goneTold, amongs, begun, fm, pm, nI p, nI q, so, tn, mn, kind, firstTen, nerve, friendsOf, fearTimes, weight, black, shaken, fav, drawer, wb, pair, ofPair) = (Y.1, holds, oneIn, fear, mutiny, nI T, nI M, nI P, beans, draws, Y.2.2.2.2.2.2, amongs, begun, Y.2.1, Y.2.2.1, Y.2.2.2.1, Y.2.2.2.2.1, Y.2.2.2.2.2.1, tn, mn, kind, firstTen, nerve, friendsOf, fearTimes, weight, black, shaken, fav, drawer, wb, pair, ofPair) := by unfold D_X8_readText_j1; rw [a3, if_neg (show ¬ (6 : Int32) = 0 by decide), if_neg (show ¬ (6 : Int32) = 1 by decide), if_neg (show ¬ (6 : Int32) = 2 by decide), if_neg (show ¬ (6 : Int32) = 3 by decide), if_neg (show ¬ (6 : Int32) = 4 by decide), if_neg (show ¬ (6 : Int32) = 5 by decide), if_pos rfl, ay]
      have hJ0 : (Y.1, holds, oneIn, fear, mutiny, nI T, nI M, nI P, beans, draws, Y.2.2.2.2.2.2, amongs, begun, Y.2.1, Y.2.2.1, Y.2.2.2.1, Y.2.2.2.2.1, Y.2.2.2.2.2.1, tn, mn, kind, firstTen, nerve, friendsOf, fearTimes, weight, black, shaken, fav, drawer, wb, pair, ofPair).1 = 0 := y1
      obtain ⟨w1, w2⟩ := rl_6 (wh := wh) (en := en) (sz := nI N) (tape := tape) (fresh := fresh) (a0 := nI p) (ft := ft) (plc := plc) h0 h1 h2 h3 h4 h5 (begins_ok h6 fc f1) e2 g2 gw
      refine ⟨_, w1, w2, Or.inr (Or.inl ⟨ha, _, jj, y1, z1, z2.trans y2.symm, z3.trans y3.symm⟩), ?_⟩
      unfold G_st_X8_readText_32
      rw [hx, a3, a5, jj]
      exact ⟨gs0, fun _ => t4, fun _ h => absurd h (show ¬ (6 : Int32) = 0 by decide), fun _ _ h => absurd h (show ¬ (6 : Int32) = 1 by decide), fun _ _ _ h => absurd h (show ¬ (6 : Int32) = 2 by decide), fun _ _ _ _ h => absurd h (show ¬ (6 : Int32) = 3 by decide), fun _ _ _ _ _ h => absurd h (show ¬ (6 : Int32) = 4 by decide), fun _ _ _ _ _ _ h => absurd h (show ¬ (6 : Int32) = 5 by decide), fun _ _ _ _ _ _ _ _ => g1, fun _ _ _ _ _ _ _ h => absurd rfl h, fun _ h => absurd hJ0 h⟩
  · have f3 : ¬ D_X1_isTold goneTold = 0 := by rw [u3]; unfold D_X1_isTold; rw [if_neg (nm1 (by omega))]; decide
    have f41 : D_X12_goneLine_j1 fresh (nI p) 0 ft plc = (1, 3, nI p) := by unfold D_X12_goneLine_j1 D_X12_goneLine_a1; rw [u2, if_neg (nI_nle (by omega) (by omega)), bad_0]
    have ha : D_X8_readText_a4 x0 bytes (holds, oneIn, fear, mutiny, nI T, nI M, nI P, beans, draws, goneTold, amongs, begun, fm, pm, nI p, nI q, so, tn, mn, kind, firstTen, nerve, friendsOf, fearTimes, weight, black, shaken, fav, drawer, wb, pair, ofPair) = 3 := by unfold D_X8_readText_a4; rw [a3]; exact (fol6 nz).trans (if_neg f3)
    have ha4 : ¬ D_X8_readText_a4 x0 bytes (holds, oneIn, fear, mutiny, nI T, nI M, nI P, beans, draws, goneTold, amongs, begun, fm, pm, nI p, nI q, so, tn, mn, kind, firstTen, nerve, friendsOf, fearTimes, weight, black, shaken, fav, drawer, wb, pair, ofPair) = 0 := by rw [ha]; decide
    obtain ⟨z1, z2⟩ := rl_6 (wh := wh) (en := en) (sz := nI N) (tape := tape) (fresh := fresh) (a0 := nI p) (ft := ft) (plc := plc) h0 h1 h2 h3 h4 h5 (begins_ok h6 fc f1) (gone_x (tk := tk) (ns := ns) (wh := wh) f41).1 (gone_x (tk := tk) (ns := ns) (wh := wh) f41).2 gw
    refine ⟨_, z1, z2, Or.inl ⟨3, by decide, ha, rfl, rfl, rfl⟩, ?_⟩
    unfold G_st_X8_readText_32
    rw [hx]
    exact ⟨gs0, fun h => absurd h ha4, fun h _ => absurd h ha4, fun h _ _ => absurd h ha4, fun h _ _ _ => absurd h ha4, fun h _ _ _ _ => absurd h ha4, fun h _ _ _ _ _ => absurd h ha4, fun h _ _ _ _ _ _ => absurd h ha4, fun h _ _ _ _ _ _ _ => absurd h ha4, fun h _ _ _ _ _ _ _ => absurd h ha4, fun h _ _ _ => absurd h ha4⟩
theorem ln_7 (hx : (D_X8_readText_a2 x0 bytes).1 = nI N) (hN : N ≤ 1000) (hT : TapR bytes tape) (hR : TokR N bytes p q so ns wh tk en le) (hD : RdR T M P holds oneIn fear mutiny beans draws goneTold amongs begun tn mn kind firstTen nerve friendsOf fearTimes weight black shaken fav drawer wb pair ofPair fresh) (h0 : D_X12_isWord 24 0 tk ns le = 0) (h1 : D_X12_isWord 29 0 tk ns le = 0) (h2 : D_X12_isWord 30 0 tk ns le = 0) (h3 : D_X12_isWord 31 0 tk ns le = 0) (h4 : D_X12_isWord 32 0 tk ns le = 0) (h5 : D_X12_isWord 33 0 tk ns le = 0) (h6 : D_X12_isWord 34 0 tk ns le = 0) (h7 : ¬ D_X12_isWord 35 0 tk ns le = 0) : ∃ Z, D_X12_readLine 0 tk ns le fresh (nI p) ft plc en (nI N) tape wh = Z ∧ G_X12_readLine 0 tk ns le fresh (nI p) ft plc en (nI N) tape ∧ LnC x0 bytes (holds, oneIn, fear, mutiny, nI T, nI M, nI P, beans, draws, goneTold, amongs, begun, fm, pm, nI p, nI q, so, tn, mn, kind, firstTen, nerve, friendsOf, fearTimes, weight, black, shaken, fav, drawer, wb, pair, ofPair) Z N p fm pm ft plc ∧ G_st_X8_readText_32 x0 bytes k1 (holds, oneIn, fear, mutiny, nI T, nI M, nI P, beans, draws, goneTold, amongs, begun, fm, pm, nI p, nI q, so, tn, mn, kind, firstTen, nerve, friendsOf, fearTimes, weight, black, shaken, fav, drawer, wb, pair, ofPair) := by
  obtain ⟨r1, r2, r3, r4, r5, r6, r7, r8, r9, r10, r11⟩ := hD
  have hD : RdR T M P holds oneIn fear mutiny beans draws goneTold amongs begun tn mn kind firstTen nerve friendsOf fearTimes weight black shaken fav drawer wb pair ofPair fresh := ⟨r1, r2, r3, r4, r5, r6, r7, r8, r9, r10, r11⟩
  have h88 := r1.2.1
  have h33 := r1.1
  have gw : ∀ w, w < 47 → G_X12_isWord w 0 tk ns le := fun w hw => (isWord_eq (w := w) hN hR rfl hw).2.2.2
  have gs0 : G_X10_wordSort so (nI q) (nI p) (nI N) bytes := (G_sort hN hR).1
  have ht2 : tk = 2 := by have := word_so hR h7; obtain ⟨_, h'⟩ := hR; rcases h' with ⟨a, b⟩ | ⟨a, b, _⟩ | ⟨a, b, _⟩ | ⟨a, b, _⟩ | ⟨a, b, _⟩ <;> first | exact b | (rw [a] at this; exact absurd this (by decide))
  have hq1 : 1 ≤ q := by have := word_so hR h7; obtain ⟨_, h'⟩ := hR; rcases h' with ⟨a, b⟩ | ⟨a, b, _⟩ | ⟨a, b, _⟩ | ⟨a, b, c, _⟩ | ⟨a, b, _⟩ <;> first | exact c | (rw [a] at this; exact absurd this (by decide))
  have ws : D_X10_wordSort so (nI q) (nI p) (nI N) bytes = 7 := by rw [sort_eq hN hR, if_pos ht2, if_pos h0, if_pos h1, if_pos h2, if_pos h3, if_pos h4, if_pos h5, if_pos h6, if_neg h7]
  have a3 : D_X8_readText_a3 x0 bytes (holds, oneIn, fear, mutiny, nI T, nI M, nI P, beans, draws, goneTold, amongs, begun, fm, pm, nI p, nI q, so, tn, mn, kind, firstTen, nerve, friendsOf, fearTimes, weight, black, shaken, fav, drawer, wb, pair, ofPair) = 7 := by unfold D_X8_readText_a3; rw [hx]; exact ws
  rcases r11 with ⟨c0, c1, c2, c3, c4, c5, c6⟩ | ⟨c0, b, c1, c2, c3, c4⟩
  · skip
    have ha : D_X8_readText_a4 x0 bytes (holds, oneIn, fear, mutiny, nI T, nI M, nI P, beans, draws, goneTold, amongs, begun, fm, pm, nI p, nI q, so, tn, mn, kind, firstTen, nerve, friendsOf, fearTimes, weight, black, shaken, fav, drawer, wb, pair, ofPair) = 6 := by unfold D_X8_readText_a4; rw [a3]; exact folL7 c0
    have ha4 : ¬ D_X8_readText_a4 x0 bytes (holds, oneIn, fear, mutiny, nI T, nI M, nI P, beans, draws, goneTold, amongs, begun, fm, pm, nI p, nI q, so, tn, mn, kind, firstTen, nerve, friendsOf, fearTimes, weight, black, shaken, fav, drawer, wb, pair, ofPair) = 0 := by rw [ha]; decide
    obtain ⟨z1, z2⟩ := rl_7 (wh := wh) (en := en) (sz := nI N) (tape := tape) (fresh := fresh) (a0 := nI p) (ft := ft) (plc := plc) h0 h1 h2 h3 h4 h5 h6 (begins_lack h7 (by rw [r10 c6]; decide) c1) (among_x (tk := tk) (ns := ns) (wh := wh) among_f).1 (among_x (tk := tk) (ns := ns) (wh := wh) among_f).2 gw
    refine ⟨_, z1, z2, Or.inl ⟨6, by decide, ha, rfl, rfl, rfl⟩, ?_⟩
    unfold G_st_X8_readText_32
    rw [hx]
    exact ⟨gs0, fun h => absurd h ha4, fun h _ => absurd h ha4, fun h _ _ => absurd h ha4, fun h _ _ _ => absurd h ha4, fun h _ _ _ _ => absurd h ha4, fun h _ _ _ _ _ => absurd h ha4, fun h _ _ _ _ _ _ => absurd h ha4, fun h _ _ _ _ _ _ _ => absurd h ha4, fun h _ _ _ _ _ _ _ => absurd h ha4, fun h _ _ _ => absurd h ha4⟩
  have nz : ¬ begun = 0 := by rw [c0]; decide
  have f1 : ¬ fresh 1 = 0 := by rw [c3]; exact fun h => by have := (nI_eq (a := b) (b := 0) (by omega) (by decide)).mp h; omega
  obtain ⟨q9, A, A1, A2, A3, A4⟩ := r9
  subst A3
  rcases q9 with ⟨u1, u2⟩ | ⟨g, u1, u2, u3⟩
  · have f3 : D_X1_isTold goneTold = 0 := by rw [u2]; rfl
    have fc : ¬ (if 5 ≤ fresh 8 then 0 else 1 : Int32) = 0 := by rw [r10 u1]; decide
    have f41 : D_X12_amongLine_j1 0 fresh (nI p) ft plc = (1, 6, nI p) := by unfold D_X12_amongLine_j1 D_X12_amongLine_a1; rw [if_pos rfl, if_pos u1, bad_0]
    have ha : D_X8_readText_a4 x0 bytes (holds, oneIn, fear, mutiny, nI T, nI M, nI P, beans, draws, goneTold, nI A, begun, fm, pm, nI p, nI q, so, tn, mn, kind, firstTen, nerve, friendsOf, fearTimes, weight, black, shaken, fav, drawer, wb, pair, ofPair) = 6 := by unfold D_X8_readText_a4; rw [a3]; exact (fol7 nz).trans (by unfold D_X8_behind; rw [if_pos f3])
    have ha4 : ¬ D_X8_readText_a4 x0 bytes (holds, oneIn, fear, mutiny, nI T, nI M, nI P, beans, draws, goneTold, nI A, begun, fm, pm, nI p, nI q, so, tn, mn, kind, firstTen, nerve, friendsOf, fearTimes, weight, black, shaken, fav, drawer, wb, pair, ofPair) = 0 := by rw [ha]; decide
    obtain ⟨z1, z2⟩ := rl_7 (wh := wh) (en := en) (sz := nI N) (tape := tape) (fresh := fresh) (a0 := nI p) (ft := ft) (plc := plc) h0 h1 h2 h3 h4 h5 h6 (begins_ok h7 fc f1) (among_x (tk := tk) (ns := ns) (wh := wh) f41).1 (among_x (tk := tk) (ns := ns) (wh := wh) f41).2 gw
    refine ⟨_, z1, z2, Or.inl ⟨6, by decide, ha, rfl, rfl, rfl⟩, ?_⟩
    unfold G_st_X8_readText_32
    rw [hx]
    exact ⟨gs0, fun h => absurd h ha4, fun h _ => absurd h ha4, fun h _ _ => absurd h ha4, fun h _ _ _ => absurd h ha4, fun h _ _ _ _ => absurd h ha4, fun h _ _ _ _ _ => absurd h ha4, fun h _ _ _ _ _ _ => absurd h ha4, fun h _ _ _ _ _ _ _ => absurd h ha4, fun h _ _ _ _ _ _ _ => absurd h ha4, fun h _ _ _ => absurd h ha4⟩
  have f3 : ¬ D_X1_isTold goneTold = 0 := by rw [u3]; unfold D_X1_isTold; rw [if_neg (nm1 (by omega))]; decide
  have f57 : ¬ fresh 57 = 0 := by rw [u2]; exact fun h => by have := (nI_eq (a := g + 1) (b := 0) (by omega) (by decide)).mp h; omega
  by_cases f : A < 5
  · have f6 : ¬ (5 : Int32) ≤ nI A := nI_ge (b := 5) f (by decide)
    have fc : ¬ (if 5 ≤ fresh 8 then 0 else 1 : Int32) = 0 := by rw [A2, if_neg f6]; decide
    have ha : D_X8_readText_a4 x0 bytes (holds, oneIn, fear, mutiny, nI T, nI M, nI P, beans, draws, goneTold, nI A, begun, fm, pm, nI p, nI q, so, tn, mn, kind, firstTen, nerve, friendsOf, fearTimes, weight, black, shaken, fav, drawer, wb, pair, ofPair) = 0 := by unfold D_X8_readText_a4; rw [a3]; exact (fol7 nz).trans (by unfold D_X8_behind; rw [if_neg f3, if_neg f6, if_neg (by decide)])
    obtain ⟨p1, q1, so1, ns1, wh1, tk1, en1, le1, l1, t1, t2, hR1, t4, t6⟩ := tk_step hN hT hR (by rw [word_so hR h7]; decide)
    have a5 : D_X8_readText_a5 x0 bytes (holds, oneIn, fear, mutiny, nI T, nI M, nI P, beans, draws, goneTold, nI A, begun, fm, pm, nI p, nI q, so, tn, mn, kind, firstTen, nerve, friendsOf, fearTimes, weight, black, shaken, fav, drawer, wb, pair, ofPair) = (nI p1, nI q1, so1) := by unfold D_X8_readText_a5; rw [hx]; exact t1
    obtain ⟨⟨a, b, h, p2, q2, so2, ns2, wh2, tk2, en2, le2, v1, v2, v3, v4, l2, e1, e2, hR2⟩ | ⟨n, x, Y, Z, e1, y1, y2, y3, e2, z1, z2, z3⟩, g1, g2⟩ := line_among (p := p) (ns := ns) (wh := wh) (tk := tk) (A := A) (pair := pair) (ofPair := ofPair) (fm := fm) (pm := pm) (ft := ft) (plc := plc) hN hT hR1 t2 t6 r1 f57 f A2
    · have hr := rd_among hD nz f57 f A2 v1 v2 v3 v4
      have ay : D_X8_readText_a13 x0 bytes (holds, oneIn, fear, mutiny, nI T, nI M, nI P, beans, draws, goneTold, nI A, begun, fm, pm, nI p, nI q, so, tn, mn, kind, firstTen, nerve, friendsOf, fearTimes, weight, black, shaken, fav, drawer, wb, pair, ofPair) = (1, fm, pm, nI p2, nI q2, so2, va_up pair A (((1 : Int32) <<< (nI a &&& 31)) ||| ((1 : Int32) <<< (nI b &&& 31))), va_up ofPair A (nI h), nI (A + 1)) := by unfold D_X8_readText_a13; rw [a5, hx]; exact e1
      have jj : D_X8_readText_j1 x0 bytes (holds, oneIn, fear, mutiny, nI T, nI M, nI P, beans, draws, goneTold, nI A, begun, fm, pm, nI p, nI q, so, tn, mn, kind, firstTen, nerve, friendsOf, fearTimes, weight, black, shaken, fav, drawer, wb, pair, ofPair) = (1, holds, oneIn, fear, mutiny, nI T, nI M, nI P, beans, draws, goneTold, nI (A + 1), begun, fm, pm, nI p2, nI q2, so2, tn, mn, kind, firstTen, nerve, friendsOf, fearTimes, weight, black, shaken, fav, drawer, wb, va_up pair A (((1 : Int32) <<< (nI a &&& 31)) ||| ((1 : Int32) <<< (nI b &&& 31))), va_up ofPair A (nI h)) := by unfold D_X8_readText_j1; rw [a3, if_neg (show ¬ (7 : Int32) = 0 by decide), if_neg (show ¬ (7 : Int32) = 1 by decide), if_neg (show ¬ (7 : Int32) = 2 by decide), if_neg (show ¬ (7 : Int32) = 3 by decide), if_neg (show ¬ (7 : Int32) = 4 by decide), if_neg (show ¬ (7 : Int32) = 5 by decide), if_neg (show ¬ (7 : Int32) = 6 by decide), ay]
      have t5 : so2 = 3 → G_X10_step (nI p2) (nI q2) (nI N) bytes := fun c => by
        obtain ⟨_, _, _, _, _, _, _, _, _, _, _, _, s4, _⟩ := tk_step hN hT hR2 (by rw [c]; decide)
        exact s4
      obtain ⟨z1, z2⟩ := rl_7 (wh := wh) (en := en) (sz := nI N) (tape := tape) (fresh := fresh) (a0 := nI p) (ft := ft) (plc := plc) h0 h1 h2 h3 h4 h5 h6 (begins_ok h7 fc f1) e2 g2 gw
      refine ⟨_, z1, z2, Or.inr (Or.inr ⟨ha, _, _, _, _, _, _, _, _, _, _, _, _, _, _, _, _, _, _, _, _, _, _, _, _, _, _, _, _, p2, q2, so2, ns2, wh2, tk2, en2, le2, by omega, jj, rfl, hR2, hr⟩), ?_⟩
      unfold G_st_X8_readText_32
      rw [hx, a3, a5, jj]
      exact ⟨gs0, fun _ => t4, fun _ h => absurd h (show ¬ (7 : Int32) = 0 by decide), fun _ _ h => absurd h (show ¬ (7 : Int32) = 1 by decide), fun _ _ _ h => absurd h (show ¬ (7 : Int32) = 2 by decide), fun _ _ _ _ h => absurd h (show ¬ (7 : Int32) = 3 by decide), fun _ _ _ _ _ h => absurd h (show ¬ (7 : Int32) = 4 by decide), fun _ _ _ _ _ _ h => absurd h (show ¬ (7 : Int32) = 5 by decide), fun _ _ _ _ _ _ _ h => absurd h (show ¬ (7 : Int32) = 6 by decide), fun _ _ _ _ _ _ _ _ => g1, fun _ _ _ h => t5 h⟩
    · have ay : D_X8_readText_a13 x0 bytes (holds, oneIn, fear, mutiny, nI T, nI M, nI P, beans, draws, goneTold, nI A, begun, fm, pm, nI p, nI q, so, tn, mn, kind, firstTen, nerve, friendsOf, fearTimes, weight, black, shaken, fav, drawer, wb, pair, ofPair) = Y := by unfold D_X8_readText_a13; rw [a5, hx]; exact e1
      have jj : D_X8_readText_j1 x0 bytes (holds, oneIn, fear, mutiny, nI T, nI M, nI P, beans, draws, goneTold, nI A, begun, fm, pm, nI p, nI q, so, tn, mn, kind, firstTen, nerve, friendsOf, fearTimes, weight, black, shaken, fav, drawer, wb, pair, ofPair) = (Y.1, holds, oneIn, fear, mutiny, nI T, nI M, nI P, beans, draws, goneTold, Y.2.2.2.2.2.2.2.2, begun, Y.2.1, Y.2.2.1, Y.2.2.2.1, Y.2.2.2.2.1, Y.2.2.2.2.2.1, tn, mn, kind, firstTen, nerve, friendsOf, fearTimes, weight, black, shaken, fav, drawer, wb, Y.2.2.2.2.2.2.1, Y.2.2.2.2.2.2.2.1) := by unfold D_X8_readText_j1; rw [a3, if_neg (show ¬ (7 : Int32) = 0 by decide), if_neg (show ¬ (7 : Int32) = 1 by decide), if_neg (show ¬ (7 : Int32) = 2 by decide), if_neg (show ¬ (7 : Int32) = 3 by decide), if_neg (show ¬ (7 : Int32) = 4 by decide), if_neg (show ¬ (7 : Int32) = 5 by decide), if_neg (show ¬ (7 : Int32) = 6 by decide), ay]
      have hJ0 : (Y.1, holds, oneIn, fear, mutiny, nI T, nI M, nI P, beans, draws, goneTold, Y.2.2.2.2.2.2.2.2, begun, Y.2.1, Y.2.2.1, Y.2.2.2.1, Y.2.2.2.2.1, Y.2.2.2.2.2.1, tn, mn, kind, firstTen, nerve, friendsOf, fearTimes, weight, black, shaken, fav, drawer, wb, Y.2.2.2.2.2.2.1, Y.2.2.2.2.2.2.2.1).1 = 0 := y1
      obtain ⟨w1, w2⟩ := rl_7 (wh := wh) (en := en) (sz := nI N) (tape := tape) (fresh := fresh) (a0 := nI p) (ft := ft) (plc := plc) h0 h1 h2 h3 h4 h5 h6 (begins_ok h7 fc f1) e2 g2 gw
      refine ⟨_, w1, w2, Or.inr (Or.inl ⟨ha, _, jj, y1, z1, z2.trans y2.symm, z3.trans y3.symm⟩), ?_⟩
      unfold G_st_X8_readText_32
      rw [hx, a3, a5, jj]
      exact ⟨gs0, fun _ => t4, fun _ h => absurd h (show ¬ (7 : Int32) = 0 by decide), fun _ _ h => absurd h (show ¬ (7 : Int32) = 1 by decide), fun _ _ _ h => absurd h (show ¬ (7 : Int32) = 2 by decide), fun _ _ _ _ h => absurd h (show ¬ (7 : Int32) = 3 by decide), fun _ _ _ _ _ h => absurd h (show ¬ (7 : Int32) = 4 by decide), fun _ _ _ _ _ _ h => absurd h (show ¬ (7 : Int32) = 5 by decide), fun _ _ _ _ _ _ _ h => absurd h (show ¬ (7 : Int32) = 6 by decide), fun _ _ _ _ _ _ _ _ => g1, fun _ h => absurd hJ0 h⟩
  · have f6 : (5 : Int32) ≤ nI A := nI_le (a := 5) (by omega) (by omega)
    have fc : (if 5 ≤ fresh 8 then 0 else 1 : Int32) = 0 := by rw [A2, if_pos f6]
    have ha : D_X8_readText_a4 x0 bytes (holds, oneIn, fear, mutiny, nI T, nI M, nI P, beans, draws, goneTold, nI A, begun, fm, pm, nI p, nI q, so, tn, mn, kind, firstTen, nerve, friendsOf, fearTimes, weight, black, shaken, fav, drawer, wb, pair, ofPair) = 5 := by unfold D_X8_readText_a4; rw [a3]; exact (fol7 nz).trans (by unfold D_X8_behind; rw [if_neg f3, if_pos f6, if_pos rfl])
    have ha4 : ¬ D_X8_readText_a4 x0 bytes (holds, oneIn, fear, mutiny, nI T, nI M, nI P, beans, draws, goneTold, nI A, begun, fm, pm, nI p, nI q, so, tn, mn, kind, firstTen, nerve, friendsOf, fearTimes, weight, black, shaken, fav, drawer, wb, pair, ofPair) = 0 := by rw [ha]; decide
    obtain ⟨z1, z2⟩ := rl_7 (wh := wh) (en := en) (sz := nI N) (tape := tape) (fresh := fresh) (a0 := nI p) (ft := ft) (plc := plc) h0 h1 h2 h3 h4 h5 h6 (begins_many h7 fc f1) (among_x (tk := tk) (ns := ns) (wh := wh) among_f).1 (among_x (tk := tk) (ns := ns) (wh := wh) among_f).2 gw
    refine ⟨_, z1, z2, Or.inl ⟨5, by decide, ha, rfl, rfl, rfl⟩, ?_⟩
    unfold G_st_X8_readText_32
    rw [hx]
    exact ⟨gs0, fun h => absurd h ha4, fun h _ => absurd h ha4, fun h _ _ => absurd h ha4, fun h _ _ _ => absurd h ha4, fun h _ _ _ _ => absurd h ha4, fun h _ _ _ _ _ => absurd h ha4, fun h _ _ _ _ _ _ => absurd h ha4, fun h _ _ _ _ _ _ _ => absurd h ha4, fun h _ _ _ _ _ _ _ => absurd h ha4, fun h _ _ _ => absurd h ha4⟩
theorem ln_8 (hx : (D_X8_readText_a2 x0 bytes).1 = nI N) (hN : N ≤ 1000) (hT : TapR bytes tape) (hR : TokR N bytes p q so ns wh tk en le) (hD : RdR T M P holds oneIn fear mutiny beans draws goneTold amongs begun tn mn kind firstTen nerve friendsOf fearTimes weight black shaken fav drawer wb pair ofPair fresh) (h0 : D_X12_isWord 24 0 tk ns le = 0) (h1 : D_X12_isWord 29 0 tk ns le = 0) (h2 : D_X12_isWord 30 0 tk ns le = 0) (h3 : D_X12_isWord 31 0 tk ns le = 0) (h4 : D_X12_isWord 32 0 tk ns le = 0) (h5 : D_X12_isWord 33 0 tk ns le = 0) (h6 : D_X12_isWord 34 0 tk ns le = 0) (h7 : D_X12_isWord 35 0 tk ns le = 0) : ∃ Z, D_X12_readLine 0 tk ns le fresh (nI p) ft plc en (nI N) tape wh = Z ∧ G_X12_readLine 0 tk ns le fresh (nI p) ft plc en (nI N) tape ∧ LnC x0 bytes (holds, oneIn, fear, mutiny, nI T, nI M, nI P, beans, draws, goneTold, amongs, begun, fm, pm, nI p, nI q, so, tn, mn, kind, firstTen, nerve, friendsOf, fearTimes, weight, black, shaken, fav, drawer, wb, pair, ofPair) Z N p fm pm ft plc ∧ G_st_X8_readText_32 x0 bytes k1 (holds, oneIn, fear, mutiny, nI T, nI M, nI P, beans, draws, goneTold, amongs, begun, fm, pm, nI p, nI q, so, tn, mn, kind, firstTen, nerve, friendsOf, fearTimes, weight, black, shaken, fav, drawer, wb, pair, ofPair) := by
  obtain ⟨r1, r2, r3, r4, r5, r6, r7, r8, r9, r10, r11⟩ := hD
  have hD : RdR T M P holds oneIn fear mutiny beans draws goneTold amongs begun tn mn kind firstTen nerve friendsOf fearTimes weight black shaken fav drawer wb pair ofPair fresh := ⟨r1, r2, r3, r4, r5, r6, r7, r8, r9, r10, r11⟩
  have h88 := r1.2.1
  have h33 := r1.1
  have gw : ∀ w, w < 47 → G_X12_isWord w 0 tk ns le := fun w hw => (isWord_eq (w := w) hN hR rfl hw).2.2.2
  have gs0 : G_X10_wordSort so (nI q) (nI p) (nI N) bytes := (G_sort hN hR).1
  have ws : D_X10_wordSort so (nI q) (nI p) (nI N) bytes = 8 ∨ D_X10_wordSort so (nI q) (nI p) (nI N) bytes = -1 := by
    rw [sort_eq hN hR]
    by_cases c : tk = 2
    · rw [if_pos c, if_pos h0, if_pos h1, if_pos h2, if_pos h3, if_pos h4, if_pos h5, if_pos h6, if_pos h7]; exact Or.inl rfl
    · rw [if_neg c]; exact Or.inr rfl
  have ha : D_X8_readText_a4 x0 bytes (holds, oneIn, fear, mutiny, nI T, nI M, nI P, beans, draws, goneTold, amongs, begun, fm, pm, nI p, nI q, so, tn, mn, kind, firstTen, nerve, friendsOf, fearTimes, weight, black, shaken, fav, drawer, wb, pair, ofPair) = 1 := by
    unfold D_X8_readText_a4 D_X8_readText_a3; rw [hx]
    show D_X8_faultOfLine (D_X10_wordSort so (nI q) (nI p) (nI N) bytes) _ _ _ _ _ _ _ _ = 1
    unfold D_X8_faultOfLine
    rcases ws with h | h
    · rw [h, if_neg (by decide), if_pos rfl]
    · rw [h, if_pos rfl]
  have ha4 : ¬ D_X8_readText_a4 x0 bytes (holds, oneIn, fear, mutiny, nI T, nI M, nI P, beans, draws, goneTold, amongs, begun, fm, pm, nI p, nI q, so, tn, mn, kind, firstTen, nerve, friendsOf, fearTimes, weight, black, shaken, fav, drawer, wb, pair, ofPair) = 0 := by rw [ha]; decide
  obtain ⟨z1, z2⟩ := rl_8 (wh := wh) (en := en) (sz := nI N) (tape := tape) (fresh := fresh) (a0 := nI p) (ft := ft) (plc := plc) h0 h1 h2 h3 h4 h5 h6 h7 gw
  refine ⟨_, z1, z2, Or.inl ⟨1, by decide, ha, rfl, rfl, rfl⟩, ?_⟩
  unfold G_st_X8_readText_32
  rw [hx]
  exact ⟨gs0, fun h => absurd h ha4, fun h _ => absurd h ha4, fun h _ _ => absurd h ha4, fun h _ _ _ => absurd h ha4, fun h _ _ _ _ => absurd h ha4, fun h _ _ _ _ _ => absurd h ha4, fun h _ _ _ _ _ _ => absurd h ha4, fun h _ _ _ _ _ _ _ => absurd h ha4, fun h _ _ _ _ _ _ _ => absurd h ha4, fun h _ _ _ => absurd h ha4⟩
theorem ln_all (hx : (D_X8_readText_a2 x0 bytes).1 = nI N) (hN : N ≤ 1000) (hT : TapR bytes tape) (hR : TokR N bytes p q so ns wh tk en le) (hD : RdR T M P holds oneIn fear mutiny beans draws goneTold amongs begun tn mn kind firstTen nerve friendsOf fearTimes weight black shaken fav drawer wb pair ofPair fresh) : ∃ Z, D_X12_readLine 0 tk ns le fresh (nI p) ft plc en (nI N) tape wh = Z ∧ G_X12_readLine 0 tk ns le fresh (nI p) ft plc en (nI N) tape ∧ LnC x0 bytes (holds, oneIn, fear, mutiny, nI T, nI M, nI P, beans, draws, goneTold, amongs, begun, fm, pm, nI p, nI q, so, tn, mn, kind, firstTen, nerve, friendsOf, fearTimes, weight, black, shaken, fav, drawer, wb, pair, ofPair) Z N p fm pm ft plc ∧ G_st_X8_readText_32 x0 bytes k1 (holds, oneIn, fear, mutiny, nI T, nI M, nI P, beans, draws, goneTold, amongs, begun, fm, pm, nI p, nI q, so, tn, mn, kind, firstTen, nerve, friendsOf, fearTimes, weight, black, shaken, fav, drawer, wb, pair, ofPair) := by
  by_cases h0 : D_X12_isWord 24 0 tk ns le = 0
  rotate_left
  · exact ln_0 hx hN hT hR hD h0
  by_cases h1 : D_X12_isWord 29 0 tk ns le = 0
  rotate_left
  · exact ln_1 hx hN hT hR hD h0 h1
  by_cases h2 : D_X12_isWord 30 0 tk ns le = 0
  rotate_left
  · exact ln_2 hx hN hT hR hD h0 h1 h2
  by_cases h3 : D_X12_isWord 31 0 tk ns le = 0
  rotate_left
  · exact ln_3 hx hN hT hR hD h0 h1 h2 h3
  by_cases h4 : D_X12_isWord 32 0 tk ns le = 0
  rotate_left
  · exact ln_4 hx hN hT hR hD h0 h1 h2 h3 h4
  by_cases h5 : D_X12_isWord 33 0 tk ns le = 0
  rotate_left
  · exact ln_5 hx hN hT hR hD h0 h1 h2 h3 h4 h5
  by_cases h6 : D_X12_isWord 34 0 tk ns le = 0
  rotate_left
  · exact ln_6 hx hN hT hR hD h0 h1 h2 h3 h4 h5 h6
  by_cases h7 : D_X12_isWord 35 0 tk ns le = 0
  rotate_left
  · exact ln_7 hx hN hT hR hD h0 h1 h2 h3 h4 h5 h6 h7
  exact ln_8 hx hN hT hR hD h0 h1 h2 h3 h4 h5 h6 h7
end LINE
