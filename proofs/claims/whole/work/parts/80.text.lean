/-! THE READER: all lines of a text -/
abbrev Q10 : Type := Int32 × Int32 × (Nat → Int32) × Int32 × Int32 × Int32 × Int32 × Int32 × (Nat → Int32) × Int32
abbrev X4 : Type := (Int32 × S32) ⊕ (S32 ⊕ (S32 ⊕ S32))
def qZ (Z : Z10) : Q10 := (Z.2.1, Z.1, Z.2.2.2.2.2.2.2.2.2, Z.2.2.2.2.2.2.2.1, Z.2.2.2.1, Z.2.2.2.2.1, Z.2.2.2.2.2.1, Z.2.2.2.2.2.2.1, Z.2.2.2.2.2.2.2.2.1, Z.2.2.1)
section ST
variable {x0 : Int32} {bytes tape : Nat → Int32} {s s' : S32} {k : Nat}
theorem st32_fail {n : Int32} (h : D_X8_readText_a4 x0 bytes s = n) (hn : ¬ n = 0) : st_X8_readText_32 x0 bytes k s = .inr (.inl (n, s)) := by
  unfold st_X8_readText_32; rw [h, if_neg hn]
theorem st32_uns {J : Int32 × S32} (h : D_X8_readText_a4 x0 bytes s = 0) (hj : D_X8_readText_j1 x0 bytes s = J) (h0 : J.1 = 0) : st_X8_readText_32 x0 bytes k s = .inr (.inr (.inl J.2)) := by
  unfold st_X8_readText_32; rw [h, if_pos rfl, hj, if_pos h0]
theorem st32_end (h : D_X8_readText_a4 x0 bytes s = 0) (hj : D_X8_readText_j1 x0 bytes s = (1, s')) (h0 : s'.2.2.2.2.2.2.2.2.2.2.2.2.2.2.2.2.1 = 0) : st_X8_readText_32 x0 bytes k s = .inr (.inr (.inr (.inl s'))) := by
  unfold st_X8_readText_32; rw [h, if_pos rfl, hj, if_neg (show ¬ (1 : Int32) = 0 by decide), if_pos (show ((1 : Int32), s').2.2.2.2.2.2.2.2.2.2.2.2.2.2.2.2.2.1 = 0 from h0)]
theorem st32_oth (h : D_X8_readText_a4 x0 bytes s = 0) (hj : D_X8_readText_j1 x0 bytes s = (1, s')) (h0 : ¬ s'.2.2.2.2.2.2.2.2.2.2.2.2.2.2.2.2.1 = 0) (h3 : ¬ s'.2.2.2.2.2.2.2.2.2.2.2.2.2.2.2.2.1 = 3) : st_X8_readText_32 x0 bytes k s = .inr (.inr (.inr (.inr s'))) := by
  unfold st_X8_readText_32; rw [h, if_pos rfl, hj, if_neg (show ¬ (1 : Int32) = 0 by decide), if_neg (show ¬ ((1 : Int32), s').2.2.2.2.2.2.2.2.2.2.2.2.2.2.2.2.2.1 = 0 from h0), if_neg (show ¬ ((1 : Int32), s').2.2.2.2.2.2.2.2.2.2.2.2.2.2.2.2.2.1 = 3 from h3)]
theorem st32_semi {t : Int32 × Int32 × Int32} (h : D_X8_readText_a4 x0 bytes s = 0) (hj : D_X8_readText_j1 x0 bytes s = (1, s')) (h3 : s'.2.2.2.2.2.2.2.2.2.2.2.2.2.2.2.2.1 = 3) (ht : D_X10_step s'.2.2.2.2.2.2.2.2.2.2.2.2.2.2.1 s'.2.2.2.2.2.2.2.2.2.2.2.2.2.2.2.1 (D_X8_readText_a2 x0 bytes).1 bytes = t) : st_X8_readText_32 x0 bytes k s = .inl (s'.1, s'.2.1, s'.2.2.1, s'.2.2.2.1, s'.2.2.2.2.1, s'.2.2.2.2.2.1, s'.2.2.2.2.2.2.1, s'.2.2.2.2.2.2.2.1, s'.2.2.2.2.2.2.2.2.1, s'.2.2.2.2.2.2.2.2.2.1, s'.2.2.2.2.2.2.2.2.2.2.1, s'.2.2.2.2.2.2.2.2.2.2.2.1, s'.2.2.2.2.2.2.2.2.2.2.2.2.1, s'.2.2.2.2.2.2.2.2.2.2.2.2.2.1, t.1, t.2.1, t.2.2, s'.2.2.2.2.2.2.2.2.2.2.2.2.2.2.2.2.2.1, s'.2.2.2.2.2.2.2.2.2.2.2.2.2.2.2.2.2.2.1, s'.2.2.2.2.2.2.2.2.2.2.2.2.2.2.2.2.2.2.2.1, s'.2.2.2.2.2.2.2.2.2.2.2.2.2.2.2.2.2.2.2.2.1, s'.2.2.2.2.2.2.2.2.2.2.2.2.2.2.2.2.2.2.2.2.2.1, s'.2.2.2.2.2.2.2.2.2.2.2.2.2.2.2.2.2.2.2.2.2.2.1, s'.2.2.2.2.2.2.2.2.2.2.2.2.2.2.2.2.2.2.2.2.2.2.2.1, s'.2.2.2.2.2.2.2.2.2.2.2.2.2.2.2.2.2.2.2.2.2.2.2.2.1, s'.2.2.2.2.2.2.2.2.2.2.2.2.2.2.2.2.2.2.2.2.2.2.2.2.2.1, s'.2.2.2.2.2.2.2.2.2.2.2.2.2.2.2.2.2.2.2.2.2.2.2.2.2.2.1, s'.2.2.2.2.2.2.2.2.2.2.2.2.2.2.2.2.2.2.2.2.2.2.2.2.2.2.2.1, s'.2.2.2.2.2.2.2.2.2.2.2.2.2.2.2.2.2.2.2.2.2.2.2.2.2.2.2.2.1, s'.2.2.2.2.2.2.2.2.2.2.2.2.2.2.2.2.2.2.2.2.2.2.2.2.2.2.2.2.2.1, s'.2.2.2.2.2.2.2.2.2.2.2.2.2.2.2.2.2.2.2.2.2.2.2.2.2.2.2.2.2.2.1, s'.2.2.2.2.2.2.2.2.2.2.2.2.2.2.2.2.2.2.2.2.2.2.2.2.2.2.2.2.2.2.2) := by
  have a14 : D_X8_readText_a14 x0 bytes s = t := by unfold D_X8_readText_a14; rw [hj]; exact ht
  unfold st_X8_readText_32; rw [h, if_pos rfl, hj, if_neg (show ¬ (1 : Int32) = 0 by decide), if_neg (show ¬ ((1 : Int32), s').2.2.2.2.2.2.2.2.2.2.2.2.2.2.2.2.2.1 = 0 from fun e => by have h3' : ((1 : Int32), s').2.2.2.2.2.2.2.2.2.2.2.2.2.2.2.2.2.1 = 3 := h3; rw [h3'] at e; exact absurd e (by decide)), if_pos (show ((1 : Int32), s').2.2.2.2.2.2.2.2.2.2.2.2.2.2.2.2.2.1 = 3 from h3), a14]
theorem st77_f {sz : Int32} {Z : Z10} (h : Z.1 = 1) : st_X12_legion_77 sz tape k (qZ Z) = .inr (qZ Z) ∧ G_st_X12_legion_77 sz tape k (qZ Z) := by
  have h' : ¬ (qZ Z).2.1 = 0 := by show ¬ Z.1 = 0; rw [h]; decide
  unfold st_X12_legion_77 G_st_X12_legion_77; rw [if_neg h']
  exact ⟨rfl, fun e => absurd e h', fun e => absurd e h'⟩
theorem st77_n {sz : Int32} {Z : Z10} (h : ¬ Z.2.2.2.2.2.2.1 = 59) : st_X12_legion_77 sz tape k (qZ Z) = .inr (qZ Z) ∧ G_st_X12_legion_77 sz tape k (qZ Z) := by
  have h' : ¬ (qZ Z).2.2.2.2.2.2.2.1 = 59 := h
  unfold st_X12_legion_77 G_st_X12_legion_77
  by_cases c : (qZ Z).2.1 = 0
  · rw [if_pos c, if_neg h']; exact ⟨rfl, fun _ e => absurd e h', fun _ e => absurd e h'⟩
  · rw [if_neg c]; exact ⟨rfl, fun e => absurd e c, fun e => absurd e c⟩
theorem st77_s {sz en2 n2 w2 t2 a1 b1 c1 d1 e1 ft plc : Int32} {f2 le2 l1 : Nat → Int32} {Z' : Z10} (hg : D_X12_goOn en2 sz tape le2 = (a1, b1, c1, d1, e1, l1)) (gg : G_X12_goOn en2 sz tape le2) (hz : D_X12_readLine 0 d1 b1 l1 f2 a1 ft plc e1 sz tape c1 = Z') (gz : G_X12_readLine 0 d1 b1 l1 f2 a1 ft plc e1 sz tape) : st_X12_legion_77 sz tape k (qZ (0, ft, plc, n2, w2, t2, 59, en2, le2, f2)) = .inl (qZ Z') ∧ G_st_X12_legion_77 sz tape k (qZ (0, ft, plc, n2, w2, t2, 59, en2, le2, f2)) := by
  have a5 : D_X12_legion_a5 sz tape (qZ (0, ft, plc, n2, w2, t2, 59, en2, le2, f2)) = (a1, b1, c1, d1, e1, l1) := hg
  have a6 : D_X12_legion_a6 sz tape (qZ (0, ft, plc, n2, w2, t2, 59, en2, le2, f2)) = Z' := by unfold D_X12_legion_a6; rw [a5]; exact hz
  unfold st_X12_legion_77 G_st_X12_legion_77
  rw [if_pos (show (qZ (0, ft, plc, n2, w2, t2, 59, en2, le2, f2)).2.1 = 0 from rfl), if_pos (show (qZ (0, ft, plc, n2, w2, t2, 59, en2, le2, f2)).2.2.2.2.2.2.2.1 = 59 from rfl), a5, a6]
  exact ⟨rfl, fun _ _ => gg, fun _ _ => gz⟩
end ST
def PreR (N : Nat) (bytes : Nat → Int32) (p : Nat) (fm pm : Int32) (s : S32) (ns wh tk en : Int32) (le fresh : Nat → Int32) : Prop := ∃ T M P q so holds oneIn fear mutiny beans draws goneTold amongs begun tn mn kind firstTen nerve friendsOf fearTimes weight black shaken fav drawer wb pair ofPair, s = (holds, oneIn, fear, mutiny, nI T, nI M, nI P, beans, draws, goneTold, amongs, begun, fm, pm, nI p, nI q, so, tn, mn, kind, firstTen, nerve, friendsOf, fearTimes, weight, black, shaken, fav, drawer, wb, pair, ofPair) ∧ TokR N bytes p q so ns wh tk en le ∧ RdR T M P holds oneIn fear mutiny beans draws goneTold amongs begun tn mn kind firstTen nerve friendsOf fearTimes weight black shaken fav drawer wb pair ofPair fresh
def Outc (N : Nat) (bytes : Nat → Int32) (fm pm ft plc : Int32) (r : X4) (Z : Z10) : Prop := (Z.1 = 1 ∧ ((∃ n s, r = .inl (n, s) ∧ Z.2.1 = n ∧ Z.2.2.1 = s.2.2.2.2.2.2.2.2.2.2.2.2.2.2.1) ∨ (∃ s, r = .inr (.inl s) ∧ Z.2.1 = s.2.2.2.2.2.2.2.2.2.2.2.2.1 ∧ Z.2.2.1 = s.2.2.2.2.2.2.2.2.2.2.2.2.2.1))) ∨ (∃ p s ns wh tk en le fresh, Z = (0, ft, plc, nI p, ns, wh, tk, en, le, fresh) ∧ PreR N bytes p fm pm s ns wh tk en le fresh ∧ ((r = .inr (.inr (.inl s)) ∧ tk = 0) ∨ (r = .inr (.inr (.inr s)) ∧ ¬ tk = 0)))
def RunsT (x0 : Int32) (bytes tape : Nat → Int32) (N : Nat) (s : S32) (Z : Z10) (j : Nat) (r : X4) (Z' : Z10) : Prop := ∃ (S : Nat → S32) (Q : Nat → Z10), S 0 = s ∧ Q 0 = Z ∧ (∀ i, i < j → ∀ k, (st_X8_readText_32 x0 bytes k (S i) = .inl (S (i + 1)) ∧ G_st_X8_readText_32 x0 bytes k (S i)) ∧ st_X12_legion_77 (nI N) tape k (qZ (Q i)) = .inl (qZ (Q (i + 1))) ∧ G_st_X12_legion_77 (nI N) tape k (qZ (Q i))) ∧ (∀ k, (st_X8_readText_32 x0 bytes k (S j) = .inr r ∧ G_st_X8_readText_32 x0 bytes k (S j)) ∧ st_X12_legion_77 (nI N) tape k (qZ (Q j)) = .inr (qZ Z') ∧ G_st_X12_legion_77 (nI N) tape k (qZ (Q j)))
theorem RunsT_0 {x0 : Int32} {bytes tape : Nat → Int32} {N : Nat} {s : S32} {Z Z' : Z10} {r : X4} (h : ∀ k, (st_X8_readText_32 x0 bytes k s = .inr r ∧ G_st_X8_readText_32 x0 bytes k s) ∧ st_X12_legion_77 (nI N) tape k (qZ Z) = .inr (qZ Z') ∧ G_st_X12_legion_77 (nI N) tape k (qZ Z)) : RunsT x0 bytes tape N s Z 0 r Z' := ⟨fun _ => s, fun _ => Z, rfl, rfl, fun i hi => by omega, h⟩
theorem RunsT_s {x0 : Int32} {bytes tape : Nat → Int32} {N j : Nat} {s s1 : S32} {Z Z1 Z' : Z10} {r : X4} (h : ∀ k, (st_X8_readText_32 x0 bytes k s = .inl s1 ∧ G_st_X8_readText_32 x0 bytes k s) ∧ st_X12_legion_77 (nI N) tape k (qZ Z) = .inl (qZ Z1) ∧ G_st_X12_legion_77 (nI N) tape k (qZ Z)) (h1 : RunsT x0 bytes tape N s1 Z1 j r Z') : RunsT x0 bytes tape N s Z (j + 1) r Z' := by
  obtain ⟨S, Q, e1, e2, e3, e4⟩ := h1
  refine ⟨fun i => match i with | 0 => s | i + 1 => S i, fun i => match i with | 0 => Z | i + 1 => Q i, rfl, rfl, fun i hi => ?_, e4⟩
  cases i with
  | zero =>
    dsimp only
    rw [e1, e2]
    exact h
  | succ i => exact e3 i (by omega)
section TEXT
variable {x0 : Int32} {bytes tape : Nat → Int32} {N : Nat} {fm pm ft plc : Int32}
theorem text_loop (hx : (D_X8_readText_a2 x0 bytes).1 = nI N) (hN : N ≤ 1000) (hT : TapR bytes tape) : ∀ d p s ns wh tk en le fresh, N - p ≤ d → PreR N bytes p fm pm s ns wh tk en le fresh → ∀ Z, D_X12_readLine 0 tk ns le fresh (nI p) ft plc en (nI N) tape wh = Z → G_X12_readLine 0 tk ns le fresh (nI p) ft plc en (nI N) tape ∧ ∃ j r Z', j ≤ N - p ∧ (1 ≤ j → 2 * j ≤ N - p + 1) ∧ RunsT x0 bytes tape N s Z j r Z' ∧ Outc N bytes fm pm ft plc r Z' := by
  intro d
  induction d with
  | zero =>
    intro p s ns wh tk en le fresh hd hP Z hZ
    have hh := hP
    obtain ⟨T, M, P, q, so, holds, oneIn, fear, mutiny, beans, draws, goneTold, amongs, begun, tn, mn, kind, firstTen, nerve, friendsOf, fearTimes, weight, black, shaken, fav, drawer, wb, pair, ofPair, es, hR, hD⟩ := hh
    subst es
    obtain ⟨Z2, z1, z2, z3, z4⟩ := ln_all (k1 := 0) (ft := ft) (plc := plc) (fm := fm) (pm := pm) hx hN hT hR hD
    have z5 := fun k => (ln_all (k1 := k) (ft := ft) (plc := plc) (fm := fm) (pm := pm) hx hN hT hR hD)
    rw [hZ] at z1
    subst z1
    have hpq := hR.1
    have gst : ∀ k, G_st_X8_readText_32 x0 bytes k (holds, oneIn, fear, mutiny, nI T, nI M, nI P, beans, draws, goneTold, amongs, begun, fm, pm, nI p, nI q, so, tn, mn, kind, firstTen, nerve, friendsOf, fearTimes, weight, black, shaken, fav, drawer, wb, pair, ofPair) := fun k => by obtain ⟨_, _, _, _, h⟩ := z5 k; exact h
    refine ⟨z2, ?_⟩
    rcases z3 with ⟨n, n0, n1, n2, n3, n4⟩ | ⟨n1, J, n2, n3, n4, n5, n6⟩ | ⟨n1, h⟩
    · exact ⟨0, _, Z, by omega, by omega, RunsT_0 (fun k => ⟨⟨st32_fail n1 n0, gst k⟩, st77_f n2⟩), Or.inl ⟨n2, Or.inl ⟨n, _, rfl, n3, n4⟩⟩⟩
    · exact ⟨0, _, Z, by omega, by omega, RunsT_0 (fun k => ⟨⟨st32_uns n1 n2 n3, gst k⟩, st77_f n4⟩), Or.inl ⟨n4, Or.inr ⟨_, rfl, n5, n6⟩⟩⟩
    · exfalso
      obtain ⟨T', M', P', holds', oneIn', fear', mutiny', beans', draws', goneTold', amongs', begun', tn', mn', kind', firstTen', nerve', friendsOf', fearTimes', weight', black', shaken', fav', drawer', wb', pair', ofPair', fresh', p2, q2, so2, ns2, wh2, tk2, en2, le2, l2, jj, zz, hR2, hD2⟩ := h
      have := hR2.1
      omega
  | succ d ih =>
    intro p s ns wh tk en le fresh hd hP Z hZ
    have hh := hP
    obtain ⟨T, M, P, q, so, holds, oneIn, fear, mutiny, beans, draws, goneTold, amongs, begun, tn, mn, kind, firstTen, nerve, friendsOf, fearTimes, weight, black, shaken, fav, drawer, wb, pair, ofPair, es, hR, hD⟩ := hh
    subst es
    obtain ⟨Z2, z1, z2, z3, z4⟩ := ln_all (k1 := 0) (ft := ft) (plc := plc) (fm := fm) (pm := pm) hx hN hT hR hD
    have z5 := fun k => (ln_all (k1 := k) (ft := ft) (plc := plc) (fm := fm) (pm := pm) hx hN hT hR hD)
    rw [hZ] at z1
    subst z1
    have hpq := hR.1
    have gst : ∀ k, G_st_X8_readText_32 x0 bytes k (holds, oneIn, fear, mutiny, nI T, nI M, nI P, beans, draws, goneTold, amongs, begun, fm, pm, nI p, nI q, so, tn, mn, kind, firstTen, nerve, friendsOf, fearTimes, weight, black, shaken, fav, drawer, wb, pair, ofPair) := fun k => by obtain ⟨_, _, _, _, h⟩ := z5 k; exact h
    refine ⟨z2, ?_⟩
    rcases z3 with ⟨n, n0, n1, n2, n3, n4⟩ | ⟨n1, J, n2, n3, n4, n5, n6⟩ | ⟨n1, h⟩
    · exact ⟨0, _, Z, by omega, by omega, RunsT_0 (fun k => ⟨⟨st32_fail n1 n0, gst k⟩, st77_f n2⟩), Or.inl ⟨n2, Or.inl ⟨n, _, rfl, n3, n4⟩⟩⟩
    · exact ⟨0, _, Z, by omega, by omega, RunsT_0 (fun k => ⟨⟨st32_uns n1 n2 n3, gst k⟩, st77_f n4⟩), Or.inl ⟨n4, Or.inr ⟨_, rfl, n5, n6⟩⟩⟩
    · obtain ⟨T', M', P', holds', oneIn', fear', mutiny', beans', draws', goneTold', amongs', begun', tn', mn', kind', firstTen', nerve', friendsOf', fearTimes', weight', black', shaken', fav', drawer', wb', pair', ofPair', fresh', p2, q2, so2, ns2, wh2, tk2, en2, le2, l2, jj, zz, hR2, hD2⟩ := h
      subst zz
      have hpq2 := hR2.1
      have hP2 : PreR N bytes p2 fm pm (holds', oneIn', fear', mutiny', nI T', nI M', nI P', beans', draws', goneTold', amongs', begun', fm, pm, nI p2, nI q2, so2, tn', mn', kind', firstTen', nerve', friendsOf', fearTimes', weight', black', shaken', fav', drawer', wb', pair', ofPair') ns2 wh2 tk2 en2 le2 fresh' := ⟨T', M', P', q2, so2, holds', oneIn', fear', mutiny', beans', draws', goneTold', amongs', begun', tn', mn', kind', firstTen', nerve', friendsOf', fearTimes', weight', black', shaken', fav', drawer', wb', pair', ofPair', rfl, hR2, hD2⟩
      by_cases c3 : so2 = 3
      · have htk : tk2 = 59 ∧ 1 ≤ q2 := by
          obtain ⟨_, h'⟩ := hR2
          rcases h' with ⟨a, b⟩ | ⟨a, b, _⟩ | ⟨a, b, c, _⟩ | ⟨a, b, _⟩ | ⟨a, b, _⟩
          · rw [a] at c3; exact absurd c3 (by decide)
          · rw [a] at c3; exact absurd c3 (by decide)
          · exact ⟨b, c⟩
          · rw [a] at c3; exact absurd c3 (by decide)
          · rw [a] at c3; exact absurd c3 (by decide)
        obtain ⟨p3, q3, so3, ns3, wh3, tk3, en3, le3, l3, s1, s2, hR3, s4, s5⟩ := tk_step hN hT hR2 (by rw [c3]; decide)
        have hpq3 := hR3.1
        have hP3 : PreR N bytes p3 fm pm (holds', oneIn', fear', mutiny', nI T', nI M', nI P', beans', draws', goneTold', amongs', begun', fm, pm, nI p3, nI q3, so3, tn', mn', kind', firstTen', nerve', friendsOf', fearTimes', weight', black', shaken', fav', drawer', wb', pair', ofPair') ns3 wh3 tk3 en3 le3 fresh' := ⟨T', M', P', q3, so3, holds', oneIn', fear', mutiny', beans', draws', goneTold', amongs', begun', tn', mn', kind', firstTen', nerve', friendsOf', fearTimes', weight', black', shaken', fav', drawer', wb', pair', ofPair', rfl, hR3, hD2⟩
        obtain ⟨Z3, hZ3⟩ : ∃ Z3, D_X12_readLine 0 tk3 ns3 le3 fresh' (nI p3) ft plc en3 (nI N) tape wh3 = Z3 := ⟨_, rfl⟩
        obtain ⟨gz, j, r, Z', j1, j2, j3, j4⟩ := ih p3 _ ns3 wh3 tk3 en3 le3 fresh' (by omega) hP3 Z3 hZ3
        obtain ⟨tk59, q2a⟩ := htk
        subst tk59
        refine ⟨j + 1, r, Z', by omega, fun _ => ?_, RunsT_s (fun k => ⟨⟨st32_semi (t := (nI p3, nI q3, so3)) n1 jj c3 (by rw [hx]; exact s1), gst k⟩, st77_s s2 s5 hZ3 gz⟩) j3, j4⟩
        by_cases c : j = 0
        · omega
        · have := j2 (by omega)
          omega
      · by_cases c0 : so2 = 0
        · have htk : tk2 = 0 := by
            obtain ⟨_, h'⟩ := hR2
            rcases h' with ⟨a, b⟩ | ⟨a, b, _⟩ | ⟨a, b, c, _⟩ | ⟨a, b, _⟩ | ⟨a, b, _⟩
            · rw [a] at c0; exact absurd c0 (by decide)
            · exact b
            · rw [a] at c0; exact absurd c0 (by decide)
            · rw [a] at c0; exact absurd c0 (by decide)
            · rw [a] at c0; exact absurd c0 (by decide)
          exact ⟨0, _, _, by omega, by omega, RunsT_0 (fun k => ⟨⟨st32_end n1 jj c0, gst k⟩, st77_n (show ¬ tk2 = 59 by rw [htk]; decide)⟩), Or.inr ⟨p2, _, ns2, wh2, tk2, en2, le2, fresh', rfl, hP2, Or.inl ⟨rfl, htk⟩⟩⟩
        · have htk : ¬ tk2 = 59 ∧ ¬ tk2 = 0 := by
            obtain ⟨_, h'⟩ := hR2
            rcases h' with ⟨a, b⟩ | ⟨a, b, _⟩ | ⟨a, b, c, _⟩ | ⟨a, b, _⟩ | ⟨a, b, _⟩
            · rw [b]; decide
            · exact absurd a c0
            · exact absurd a c3
            · rw [b]; decide
            · rw [b]; decide
          exact ⟨0, _, _, by omega, by omega, RunsT_0 (fun k => ⟨⟨st32_oth n1 jj c0 c3, gst k⟩, st77_n htk.1⟩), Or.inr ⟨p2, _, ns2, wh2, tk2, en2, le2, fresh', rfl, hP2, Or.inr ⟨rfl, htk.2⟩⟩⟩
end TEXT
