/-! ACTS: what they answer, and what they make of the state -/
section ACTS
variable {M : Nat} {holds oneIn fear mutiny tens present braced seed x0 hl a b c : Int32} {kind nerve friendsOf fearTimes weight rr tenOf feared angerOf lotsOf st : Nat → Int32}
variable {ptr : Option Nat} {p2 b2 s2 : Int32} {t2 f2 an2 l2 : Nat → Int32} {l : Nat}
variable {x1 men top acts undos dr images : Int32} {undone kept : Nat → Int32} {q : Nat}
theorem act_lot (hL : LegR M holds oneIn fear mutiny tens kind nerve friendsOf fearTimes weight rr) (hN : NowR M 0 present braced seed tenOf feared angerOf lotsOf st) (hs : sub_men present M) (hh : hl = 0 ↔ tens = 0) (hsd : seed = nI q) (hq : q < 65537) : (∃ w, ¬ w = 0 ∧ (D_X11_lot x0 tens present angerOf mutiny tenOf top ptr p2 braced b2 seed s2 t2 feared f2 an2 lotsOf l2 acts oneIn friendsOf l) = ((-1), w, p2, b2, s2, t2, f2, an2, l2, top, acts, ptr, seed, present, lotsOf, feared, angerOf) ∧ (D_X12_lot x0 hl rr st undos undone dr) = ((-1), 0, w, undone, undos, dr, st)) ∨ (∃ n black q' st', ∃ Y : Int32 × (Nat → Int32) × (Nat → Int32) × (Nat → Int32), n < 3 ∧ x0 = nI n ∧ q' < 65537 ∧ (D_X11_lot x0 tens present angerOf mutiny tenOf top ptr p2 braced b2 seed s2 t2 feared f2 an2 lotsOf l2 acts oneIn friendsOf l) = (black, 0, present, braced, seed, va_cpy tenOf t2 0 0 8, va_cpy feared f2 0 0 8, va_cpy angerOf an2 0 0 8, va_cpy lotsOf l2 0 0 3, jrm (top + 1) 16, (if 16 < acts + 1 then 16 else acts + 1), some l, nI q', Y.1, Y.2.1, Y.2.2.1, Y.2.2.2) ∧ (D_X12_lot x0 hl rr st undos undone dr) = (black, 0, 0, (D_X12_note undos undone st).1, (D_X12_note undos undone st).2, nI q', st') ∧ NowR M 0 Y.1 braced (nI q') tenOf Y.2.2.1 Y.2.2.2 Y.2.1 st' ∧ sub_men Y.1 M) := by
  have hM := hL.M8
  obtain ⟨T, hT, hT4⟩ := hL.T3
  have hz : hl = 0 → T = 0 := fun h => by
    have := hh.mp h
    rw [hL.h4, hT4] at this
    exact (nI_eq (b := 0) (by omega) (by omega)).mp this
  have htt : D_X11_troubleOfTen x0 tens = D_X11_troubleOfTen x0 (nI T) := by rw [hL.h4, hT4]
  unfold D_X11_lot D_X12_lot D_X11_lot_a3 D_X11_lot_a2 D_X11_lot_a1
  rw [mutiny_eq hM hL.r5 hN.1 hs hN.2.2.2.2.2.1 hL.h3, htt]
  rcases isTen_spec (x0 := x0) hT hT4 hz with ⟨h1, h2⟩ | ⟨h1, h2, h3, n, h4, h5⟩
  · rw [h1, h2, if_pos rfl, if_neg (show ¬ (1 : Int32) = 0 by decide), firstOfN (t := 1) (by decide), firstOfN (t := 1) (by decide), if_neg (fun g => absurd ((refused1 _).mp g) (by decide)), refused2]
    exact Or.inl ⟨1, by decide, rfl, rfl⟩
  · have h40 : ¬ rr 4 = 0 := fun h => h3 (hh.mpr (by rw [hL.h4]; exact h))
    rw [h1, h2, if_neg (show ¬ (1 : Int32) = 0 by decide), if_pos rfl, firstOf0]
    by_cases cm : D_X12_isMutiny 0 rr st = 0
    · rw [if_pos cm, if_pos cm, firstOf0]
      unfold D_X11_troubleOfLot D_X11_troubleOfLot_j1
      rw [htt, h2, if_pos rfl, men_rel hL hN hs]
      by_cases c0 : D_X12_inTen 0 x0 rr st = 0
      · rw [if_pos c0, if_pos c0, if_neg (fun g => absurd ((refused1 _).mp g) (by decide)), refused2]
        exact Or.inl ⟨6, by decide, rfl, rfl⟩
      · rw [if_neg c0, if_neg c0, if_pos ((refused1 _).mpr rfl), refused2]
        refine Or.inr ?_
        have hmen : ¬ D_X6_menOf (nI n) present tenOf = 0 := by rw [men_rel hL hN hs, ← h5]; exact c0
        obtain ⟨m, b', m1, m2, c1, c2, c3, e1, e2, e3, e4⟩ := lot_facts_o hL hN hs h40 hmen
        obtain ⟨black, q', d1, d2, d3, d4, d5, d6, -⟩ := lot_draw m1 c2 c3 hq e1 e2 e3 e4
        obtain ⟨Y, hY⟩ : ∃ Y, D_X6_takeAway n black present lotsOf feared tenOf angerOf friendsOf = Y := ⟨_, rfl⟩
        obtain ⟨y1, y2, y3⟩ := draws_rel hM hL.r5 hs (fun m hm => hL.fr hm) hL.fsm (show n < 3 by omega) hN hY
        have h29 : st 29 = nI q := by rw [← hsd]; exact hN.2.2.1.symm
        refine ⟨n, black, q', va_up (D_X12_draws 0 n black st rr) 29 (nI q'), Y, by omega, h5, d6, ?_, ?_, ?_, fun i hi h => ?_⟩
        · unfold D_X11_lot_a5 D_X6_drawLot D_X6_drawLot_a2
          rw [h5, nI_clamp (by omega), hsd, d1]
          dsimp only
          rw [hY]
          rfl
        · unfold D_X12_lot_a5 D_X12_lot_a4
          rw [h29, h5, nI_clamp (by omega), d2]
          rfl
        · obtain ⟨z1, z2, z3, z4, z5, z6, z7⟩ := y1
          refine ⟨?_, ?_, ?_, fun m hm => ?_, fun m hm => ?_, fun m hm => ?_, fun t ht => ?_⟩
          · rw [va_up_ne _ _ (by omega)]; exact z1
          · rw [va_up_ne _ _ (by omega)]; exact z2
          · exact (va_up_self _ _ _).symm
          · rw [va_up_ne _ _ (by omega)]; exact z4 m hm
          · rw [va_up_ne _ _ (by omega)]; exact z5 m hm
          · rw [va_up_ne _ _ (by omega)]; exact z6 m hm
          · rw [va_up_ne _ _ (by omega)]; exact z7 t ht
        · rw [y3, b_and, Bool.and_eq_true] at h
          exact hs i hi h.1
    · rw [if_neg cm, if_neg cm, firstOfN (t := 5) (by decide), if_neg (fun g => absurd ((refused1 _).mp g) (by decide)), refused2]
      exact Or.inl ⟨5, by decide, rfl, rfl⟩
theorem act_braces (hL : LegR M holds oneIn fear mutiny tens kind nerve friendsOf fearTimes weight rr) (hN : NowR M 0 present braced seed tenOf feared angerOf lotsOf st) (hs : sub_men present M) (hh : hl = 0 ↔ tens = 0) (hm : men = nI M) (hz : hl = 0 → M = 0) (hx1 : x1 = 0 ∨ x1 = 1) : (∃ w, ¬ w = 0 ∧ (D_X11_braces x0 x1 men present braced top ptr p2 b2 seed s2 tenOf t2 feared f2 angerOf an2 lotsOf l2 acts l) = (0, w, p2, b2, s2, t2, f2, an2, l2, top, acts, ptr, braced) ∧ (D_X12_braces x0 x1 hl rr st undos undone) = (0, 0, w, undone, undos, st)) ∨ (∃ b' st', (D_X11_braces x0 x1 men present braced top ptr p2 b2 seed s2 tenOf t2 feared f2 angerOf an2 lotsOf l2 acts l) = (1, 0, present, braced, seed, va_cpy tenOf t2 0 0 8, va_cpy feared f2 0 0 8, va_cpy angerOf an2 0 0 8, va_cpy lotsOf l2 0 0 3, jrm (top + 1) 16, (if 16 < acts + 1 then 16 else acts + 1), some l, b') ∧ (D_X12_braces x0 x1 hl rr st undos undone) = (1, 0, 0, (D_X12_note undos undone st).1, (D_X12_note undos undone st).2, st') ∧ NowR M 0 present b' seed tenOf feared angerOf lotsOf st') := by
  have hM := hL.M8
  unfold D_X11_braces D_X12_braces D_X11_braces_a1 D_X11_braces_j1
  rw [hm, ← show present = st 27 from hN.1, ← show braced = st 28 from hN.2.1]
  rcases isMan_spec (x0 := x0) hM hL.r5 hz with ⟨h1, h2⟩ | ⟨h1, h2, h3, m, h4, h5⟩
  · rw [h1, h2, if_pos rfl, if_neg (show ¬ (1 : Int32) = 0 by decide), if_neg (fun g => absurd ((refused1 _).mp g) (by decide)), refused2]
    exact Or.inl ⟨1, by decide, rfl, rfl⟩
  · rw [h1, h2, if_neg (show ¬ (1 : Int32) = 0 by decide), if_pos rfl, h5, has_eq present (by omega), has_eq braced (by omega)]
    by_cases c0 : D_X12_hasBit present (nI m) = 0
    · rw [if_pos c0, if_pos c0, if_neg (fun g => absurd ((refused1 _).mp g) (by decide)), refused2]
      exact Or.inl ⟨5, by decide, rfl, rfl⟩
    · rw [if_neg c0, if_neg c0]
      by_cases c1 : D_X12_hasBit braced (nI m) = x1
      · rw [if_pos c1, if_pos c1, if_neg (fun g => absurd ((refused1 _).mp g) (by decide)), refused2]
        exact Or.inl ⟨5, by decide, rfl, rfl⟩
      · rw [if_neg c1, if_neg c1, if_pos ((refused1 _).mpr rfl), refused2]
        have hb : (if x1 = 0 then braced &&& (((1 : Int32) <<< (nI m &&& 31)) ^^^ (-1)) else braced ||| ((1 : Int32) <<< (nI m &&& 31))) = braced ^^^ ((1 : Int32) <<< (nI m &&& 31)) := by
          rw [hasBit_bt _ (by omega)] at c1
          rcases hx1 with e | e
          · rw [if_pos e]
            have hb : bt braced m = true := by
              cases g : bt braced m with
              | true => rfl
              | false => rw [g, e] at c1; exact absurd rfl c1
            refine b_ext fun i hi => ?_
            rw [b_and, b_not _ hi, b_xor, b_one (by omega) hi]
            by_cases ei : i = m
            · rw [ei, hb, decide_eq_true rfl]; rfl
            · rw [decide_eq_false ei]; cases bt braced i <;> rfl
          · rw [if_neg (show ¬ x1 = 0 by rw [e]; decide)]
            have hb : bt braced m = false := by
              cases g : bt braced m with
              | false => rfl
              | true => rw [g, e] at c1; exact absurd rfl c1
            refine b_ext fun i hi => ?_
            rw [b_or, b_xor, b_one (by omega) hi]
            by_cases ei : i = m
            · rw [ei, hb, decide_eq_true rfl]; rfl
            · rw [decide_eq_false ei]; cases bt braced i <;> rfl
        rw [hb]
        refine Or.inr ⟨_, _, rfl, rfl, ?_⟩
        obtain ⟨z1, z2, z3, z4, z5, z6, z7⟩ := hN
        refine ⟨?_, ?_, ?_, fun m hm => ?_, fun m hm => ?_, fun m hm => ?_, fun t ht => ?_⟩
        · rw [va_up_ne _ _ (by omega)]; exact z1
        · exact (va_up_self _ _ _).symm
        · rw [va_up_ne _ _ (by omega)]; exact z3
        · rw [va_up_ne _ _ (by omega)]; exact z4 m hm
        · rw [va_up_ne _ _ (by omega)]; exact z5 m hm
        · rw [va_up_ne _ _ (by omega)]; exact z6 m hm
        · rw [va_up_ne _ _ (by omega)]; exact z7 t ht
theorem act_move (hL : LegR M holds oneIn fear mutiny tens kind nerve friendsOf fearTimes weight rr) (hN : NowR M 0 present braced seed tenOf feared angerOf lotsOf st) (hs : sub_men present M) (hh : hl = 0 ↔ tens = 0) (hm : men = nI M) (hz : hl = 0 → M = 0) : (∃ w, ¬ w = 0 ∧ (D_X11_move x0 x1 men tens present tenOf top ptr p2 braced b2 seed s2 t2 feared f2 angerOf an2 lotsOf l2 acts l) = (0, w, p2, b2, s2, t2, f2, an2, l2, top, acts, ptr, tenOf, feared) ∧ (D_X12_move x0 x1 hl rr st undos undone) = (0, 0, w, undone, undos, st)) ∨ (∃ m st', m < M ∧ x0 = nI m ∧ (D_X11_move x0 x1 men tens present tenOf top ptr p2 braced b2 seed s2 t2 feared f2 angerOf an2 lotsOf l2 acts l) = (1, 0, present, braced, seed, va_cpy tenOf t2 0 0 8, va_cpy feared f2 0 0 8, va_cpy angerOf an2 0 0 8, va_cpy lotsOf l2 0 0 3, jrm (top + 1) 16, (if 16 < acts + 1 then 16 else acts + 1), some l, va_up tenOf m x1, va_up feared m 0) ∧ (D_X12_move x0 x1 hl rr st undos undone) = (1, 0, 0, (D_X12_note undos undone st).1, (D_X12_note undos undone st).2, st') ∧ NowR M 0 present braced seed (va_up tenOf m x1) (va_up feared m 0) angerOf lotsOf st') := by
  have hM := hL.M8
  obtain ⟨T, hT, hT4⟩ := hL.T3
  have hzT : hl = 0 → T = 0 := fun h => by
    have := hh.mp h
    rw [hL.h4, hT4] at this
    exact (nI_eq (b := 0) (by omega) (by omega)).mp this
  unfold D_X11_move D_X12_move D_X11_move_a1 D_X11_move_j1
  rw [hm, show D_X11_troubleOfTen x1 tens = D_X11_troubleOfTen x1 (nI T) by rw [hL.h4, hT4], ← show present = st 27 from hN.1]
  rcases isMan_spec (x0 := x0) hM hL.r5 hz with ⟨h1, h2⟩ | ⟨h1, h2, h3, m, h4, h5⟩
  · rw [h1, h2, if_pos rfl, firstOfN (by decide), if_neg (show ¬ (1 : Int32) = 0 by decide), if_neg (fun g => absurd ((refused1 _).mp g) (by decide)), refused2]
    exact Or.inl ⟨1, by decide, rfl, rfl⟩
  · rw [h1, h2, if_neg (show ¬ (1 : Int32) = 0 by decide), firstOf0]
    rcases isTen_spec (x0 := x1) hT hT4 hzT with ⟨g1, g2⟩ | ⟨g1, g2, -, n, g4, g5⟩
    · rw [g1, g2, if_pos rfl, if_neg (show ¬ (1 : Int32) = 0 by decide), if_neg (fun g => absurd ((refused1 _).mp g) (by decide)), refused2]
      exact Or.inl ⟨1, by decide, rfl, rfl⟩
    · have ht : tenOf m = st m := by have := hN.2.2.2.1 m h4; rw [Nat.zero_add] at this; exact this
      rw [g1, g2, if_neg (show ¬ (1 : Int32) = 0 by decide), if_pos rfl, h5, nI_clamp (by omega), has_eq present (by omega), ht]
      by_cases c0 : D_X12_hasBit present (nI m) = 0
      · rw [if_pos c0, if_pos c0, if_neg (fun g => absurd ((refused1 _).mp g) (by decide)), refused2]
        exact Or.inl ⟨5, by decide, rfl, rfl⟩
      · rw [if_neg c0, if_neg c0]
        by_cases c1 : st m = x1
        · rw [if_pos c1, if_pos c1, if_neg (fun g => absurd ((refused1 _).mp g) (by decide)), refused2]
          exact Or.inl ⟨5, by decide, rfl, rfl⟩
        · rw [if_neg c1, if_neg c1, if_pos ((refused1 _).mpr rfl), refused2]
          refine Or.inr ⟨m, _, h4, rfl, rfl, rfl, ?_⟩
          obtain ⟨z1, z2, z3, z4, z5, z6, z7⟩ := hN
          refine ⟨?_, ?_, ?_, fun k hk => ?_, fun k hk => ?_, fun k hk => ?_, fun t ht => ?_⟩
          · rw [va_up_ne _ _ (by omega), va_up_ne _ _ (by omega)]; exact z1
          · rw [va_up_ne _ _ (by omega), va_up_ne _ _ (by omega)]; exact z2
          · rw [va_up_ne _ _ (by omega), va_up_ne _ _ (by omega)]; exact z3
          · rw [va_up_ne _ _ (show 0 + k ≠ 8 + m by omega), Nat.zero_add]
            by_cases e : k = m
            · rw [e, va_up_self, va_up_self]
            · rw [va_up_ne _ _ e, va_up_ne _ _ e]; have := z4 k hk; rw [Nat.zero_add] at this; exact this
          · rw [Nat.zero_add]
            by_cases e : k = m
            · rw [e, va_up_self, va_up_self]
            · rw [va_up_ne _ _ e, va_up_ne _ _ (show 8 + k ≠ 8 + m by omega), va_up_ne _ _ (by omega)]; have := z5 k hk; rw [Nat.zero_add] at this; exact this
          · rw [va_up_ne _ _ (by omega), va_up_ne _ _ (by omega)]; exact z6 k hk
          · rw [va_up_ne _ _ (by omega), va_up_ne _ _ (by omega)]; exact z7 t ht
theorem act_seed (hM8 : M ≤ 8) (hN : NowR M 0 present braced seed tenOf feared angerOf lotsOf st) (hh : hl = 0 ↔ tens = 0) : (∃ w, ¬ w = 0 ∧ D_X11_seed x0 tens seed = (0, w, seed) ∧ D_X12_seed x0 hl st = (0, 0, w, st)) ∨ (∃ q', q' < 65537 ∧ x0 = nI q' ∧ D_X11_seed x0 tens seed = (1, 0, x0) ∧ D_X12_seed x0 hl st = (1, 0, 0, va_up st 29 x0) ∧ NowR M 0 present braced x0 tenOf feared angerOf lotsOf (va_up st 29 x0)) := by
  unfold D_X11_seed D_X12_seed D_X11_seed_a1 D_X11_troubleOfLegion
  by_cases h0 : hl = 0
  · rw [if_pos h0, if_pos (hh.mp h0), firstOfN (t := 1) (by decide), if_neg (fun g => absurd ((refused1 _).mp g) (by decide)), refused2]
    exact Or.inl ⟨1, by decide, rfl, rfl⟩
  · rw [if_neg h0, if_neg (fun g => h0 (hh.mpr g)), firstOf0]
    rcases seed_why (x := x0) with ⟨h1, h2⟩ | ⟨h1, h2, q', q1, q2⟩
    · rw [h1, h2, if_pos rfl, if_neg (fun g => absurd ((refused1 _).mp g) (by decide)), refused2]
      exact Or.inl ⟨2, by decide, rfl, rfl⟩
    · rw [h1, h2, if_neg (show ¬ (1 : Int32) = 0 by decide), if_pos ((refused1 _).mpr rfl), refused2]
      refine Or.inr ⟨q', q1, q2, rfl, rfl, ?_⟩
      obtain ⟨z1, z2, z3, z4, z5, z6, z7⟩ := hN
      by_cases hM : M ≤ 8
      · refine ⟨?_, ?_, (va_up_self _ _ _).symm, fun m hm => ?_, fun m hm => ?_, fun m hm => ?_, fun t ht => ?_⟩
        · rw [va_up_ne _ _ (by omega)]; exact z1
        · rw [va_up_ne _ _ (by omega)]; exact z2
        · rw [va_up_ne _ _ (by omega)]; exact z4 m hm
        · rw [va_up_ne _ _ (by omega)]; exact z5 m hm
        · rw [va_up_ne _ _ (by omega)]; exact z6 m hm
        · rw [va_up_ne _ _ (by omega)]; exact z7 t ht
      · exact absurd hM8 hM
end ACTS
