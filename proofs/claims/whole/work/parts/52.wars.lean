/-! A LOT by SEED; WARS -/
theorem ct_part {x y : Int32} (h : inc y x) : ct x = ct (x &&& (y ^^^ (-1))) + ct y := by
  rw [ct_sN, ct_sN, ct_sN]
  refine sN_add fun k hk => ?_
  rw [b_and, b_not y (by omega)]
  cases hy : bt y k with
  | false => cases bt x k <;> rfl
  | true => rw [h k hk hy]; rfl
theorem ct_add {x : Int32} {m : Nat} (hm : m < 8) (h : bt x m = false) : ct (x ||| ((1 : Int32) <<< (nI m &&& 31))) = ct x + 1 := by
  rw [ct_sN, ct_sN]
  refine sN_dec (j := m) hm ?_ fun k hk e => ?_
  · rw [b_or, b_one (by omega) (by omega), decide_eq_true rfl, Bool.or_true, h]; rfl
  · rw [b_or, b_one (by omega) (by omega), decide_eq_false e, Bool.or_false]
section LOT
variable {M : Nat} {holds oneIn fear mutiny tens present braced seed x0 hl a b c : Int32} {kind nerve friendsOf fearTimes weight rr tenOf feared angerOf lotsOf st : Nat → Int32}
variable {T n q : Nat} {row : Nat → Int32}
theorem lot_draw {m b : Nat} (hm : m < 256) (hb : b < 5) (hbc : b ≤ ct (nI m)) (hq : q < 65537) (e1 : D_X6_menOf (nI n) present tenOf = nI m) (e2 : D_X6_beansOf (nI n) present tenOf oneIn = nI b) (e3 : D_X12_inTen 0 (nI n) rr row = nI m) (e4 : D_X12_beansOf 0 (nI n) rr row = nI b) : ∃ black q', D_X6_drawLot_l1 n present tenOf oneIn (nI q) = (black, nI q') ∧ D_X12_lotOf (nI n) rr row (nI q) = (black, nI q') ∧ sm black ∧ inc black (nI m) ∧ ct black = b ∧ q' < 65537 ∧ am_ir (D_X12_lotOf_l1 (nI n) rr row (nI q)) = true ∧ (∀ k s, am_fe (st_X12_lotOf_20 (nI n) rr row) k (0, nI b, nI q) = .inl s → ¬ s.2.1 ≤ 0 → sm (nI m &&& (s.1 ^^^ (-1))) ∧ 0 < ct (nI m &&& (s.1 ^^^ (-1))) ∧ ∃ q', q' < 65537 ∧ s.2.2 = nI q') := by
  have hsm := nat_sm hm
  have hct := ct_le hsm
  have key : ∀ k, k ≤ b → ∃ black q', am_fo (st_X6_drawLot_18 n present tenOf) k (0, nI q) = (black, nI q') ∧ am_fe (st_X12_lotOf_20 (nI n) rr row) k (0, nI b, nI q) = .inl (black, nI (b - k), nI q') ∧ sm black ∧ inc black (nI m) ∧ ct black = k ∧ q' < 65537 := by
    intro k
    induction k with
    | zero => intro _; exact ⟨0, q, rfl, rfl, sm_0, fun k hk h => (by rw [b_0] at h; cases h), by decide, hq⟩
    | succ k ih =>
      intro hk
      obtain ⟨black, q', f1, f2, f3, f4, f5, f6⟩ := ih (by omega)
      have hpart := ct_part f4
      have hsd : sm (nI m &&& (black ^^^ (-1))) := sm_and _ hsm
      obtain ⟨i, i1, i2, i3, i4, i5, i6⟩ := draw_one hsd (by omega) f6
      have hbi : bt (nI m) i = true ∧ bt black i = false := by
        rw [b_and, b_not black (by omega), Bool.and_eq_true] at i2
        refine ⟨i2.1, ?_⟩
        cases e : bt black i with
        | false => rfl
        | true => rw [e] at i2; exact absurd i2.2 (by decide)
      refine ⟨black ||| ((1 : Int32) <<< (nI i &&& 31)), nxS q', ?_, ?_, sm_or f3 (sm_one i1), fun j hj h => ?_, by rw [ct_add i1 hbi.2, f5], nxS_lt q'⟩
      · show st_X6_drawLot_18 n present tenOf k (am_fo (st_X6_drawLot_18 n present tenOf) k (0, nI q)) = _
        rw [f1]
        unfold st_X6_drawLot_18 D_X6_drawLot_a1
        dsimp only
        rw [e1, i3]
      · rw [am_fe_s, am_sel_l f2]
        unfold st_X12_lotOf_20 D_X12_lotOf_a1
        dsimp only
        obtain ⟨d, hd⟩ : ∃ d, b - k = d + 1 := ⟨b - k - 1, by omega⟩
        rw [if_neg (nI_nle (by omega) (by omega)), e3, i4, i5, hd, show b - (k + 1) = d by omega, nI_succ, Int32.add_assoc, show (1 : Int32) + (-1) = 0 by decide, Int32.add_zero]
      · rw [b_or, b_one (by omega) (by omega), Bool.or_eq_true, decide_eq_true_eq] at h
        rcases h with h | h
        · exact f4 j hj h
        · rw [h]; exact hbi.1
  obtain ⟨black, q', f1, f2, f3, f4, f5, f6⟩ := key b (Nat.le_refl b)
  have hend : am_fe (st_X12_lotOf_20 (nI n) rr row) (b + 1) (0, nI b, nI q) = .inr (black, nI q') := by
    rw [am_fe_s, am_sel_l f2]
    unfold st_X12_lotOf_20
    rw [if_pos (show nI (b - b) ≤ 0 by rw [Nat.sub_self]; decide)]
  have h10 := am_fe_stay hend (show b + 1 ≤ 10 by omega)
  refine ⟨black, q', ?_, ?_, f3, f4, f5, f6, ?_, fun k s hs hn => ?_⟩
  · unfold D_X6_drawLot_l1
    rw [e2, be_nI (by omega)]; exact f1
  · unfold D_X12_lotOf D_X12_lotOf_m1 D_X12_lotOf_l1
    rw [e4, h10]; rfl
  · unfold D_X12_lotOf_l1
    rw [e4, h10]; rfl
  · rcases Nat.lt_or_ge k (b + 1) with h | h
    · obtain ⟨bl, qq, g1, g2, g3, g4, g5, g6⟩ := key k (by omega)
      rw [g2] at hs
      have := Sum.inl.inj hs
      subst this
      dsimp only at hn ⊢
      have hkb : k < b := by
        rcases Nat.lt_or_ge k b with h | h
        · exact h
        · exact absurd (show nI (b - k) ≤ 0 by rw [show b - k = 0 by omega]; decide) hn
      have := ct_part g4
      exact ⟨sm_and _ hsm, by omega, qq, g6, rfl⟩
    · rw [am_fe_stay hend h] at hs; cases hs
theorem note_eq {x y : Int32} {d d' : Nat → Int32} (h : ∀ j, j < 8 → d j = d' j) {j : Nat} (hj : j < 8) : D_X0_note x y d j = am_fo (fun k3 s3 => (if D_X12_hasBit x (nI k3) = 0 then s3 else va_up s3 k3 y : Nat → Int32)) 8 d' j := by
  unfold D_X0_note D_X0_note_l1
  have := am_fo_rel (f := st_X0_note_2 x y) (g := fun k3 s3 => (if D_X12_hasBit x (nI k3) = 0 then s3 else va_up s3 k3 y : Nat → Int32)) (R := fun s t => ∀ j, j < 8 → s j = t j) (n := 8) (s := d) (t := d') h (fun k s t hk hR j hj => ?_)
  · exact this j hj
  · unfold st_X0_note_2
    rw [has_eq x (by omega)]
    by_cases c : D_X12_hasBit x (nI k) = 0
    · rw [if_pos c, if_pos c]; exact hR j hj
    · rw [if_neg c, if_neg c]
      by_cases e : j = k
      · rw [e, va_up_self, va_up_self]
      · rw [va_up_ne _ _ e, va_up_ne _ _ e]; exact hR j hj
theorem note_0 {y : Int32} {d : Nat → Int32} {j : Nat} (hj : j < 8) : D_X0_note 0 y d j = d j := by
  rw [note_eq (fun _ _ => rfl) hj]
  have : am_fo (fun k3 s3 => (if D_X12_hasBit 0 (nI k3) = 0 then s3 else va_up s3 k3 y : Nat → Int32)) 8 d = d := am_fo_inv (P := fun s => s = d) rfl (fun k s hk h => by rw [if_pos ((hasBit0 (by omega)).mpr (b_0 k))]; exact h)
  rw [this]
def wa_R (M : Nat) (braced : Int32) (tenOf st : Nat → Int32) (c : Int32 × Int32 × (Nat → Int32) × (Nat → Int32) × (Nat → Int32) × Int32 × (Nat → Int32)) (r : (Nat → Int32) × (Nat → Int32) × Int32 × Int32) : Prop := (∃ sd, NowR M 0 c.1 braced sd tenOf c.2.2.1 c.2.2.2.1 c.2.2.2.2.1 r.1) ∧ sub_men c.1 M ∧ (∃ q, q < 65537 ∧ c.2.1 = nI q ∧ r.2.2.2 = nI q) ∧ c.2.2.2.2.2.1 = r.2.2.1 ∧ ∀ j, j < 8 → c.2.2.2.2.2.2 j = r.2.1 j
variable {t2 f2 an2 l2 war drawnIn drawnR : Nat → Int32} {x1 x2 : Int32}
theorem wars_step (hL : LegR M holds oneIn fear mutiny tens kind nerve friendsOf fearTimes weight rr) (hN : NowR M 0 present braced seed tenOf feared angerOf lotsOf st) (hs : sub_men present M) (h4 : rr 4 = nI (T + 1)) (hT : T < 3) {k : Nat} (hk : k < 60) {c : Int32 × Int32 × (Nat → Int32) × (Nat → Int32) × (Nat → Int32) × Int32 × (Nat → Int32)} {r : (Nat → Int32) × (Nat → Int32) × Int32 × Int32} (hR : wa_R M braced (va_cpy tenOf t2 0 0 8) st c r) : ∃ c', st_X0_fight_57 present braced seed tenOf t2 feared f2 angerOf an2 lotsOf l2 (nI (T + 1)) mutiny oneIn friendsOf fear weight nerve fearTimes holds k c = .inl c' ∧ wa_R M braced (va_cpy tenOf t2 0 0 8) st c' (st_X12_warsWhy_85 rr k r) := by
  have hM := hL.M8
  obtain ⟨⟨sd, n1⟩, s1, ⟨q, q1, q2, q3⟩, h5, h6⟩ := hR
  have hpos : ¬ nI (T + 1) ≤ 0 := nI_nle (by omega) (by omega)
  have hjr : jrm (nI k) (nI (T + 1)) = nI (k % (T + 1)) := i_rem (by omega) (by omega)
  have htl : k % (T + 1) < 3 := Nat.lt_of_lt_of_le (Nat.mod_lt k (by omega)) (by omega)
  have h40 : ¬ rr 4 = 0 := by rw [h4]; exact nI_ne0 (by omega) (by omega)
  have hmut := mutiny_eq hM hL.r5 n1.1 s1 n1.2.2.2.2.2.1 hL.h3
  -- what the LOT does
  have key : ∃ Y : Int32 × Int32 × (Nat → Int32) × (Nat → Int32) × (Nat → Int32) × (Nat → Int32), D_X0_fight_j1 present braced seed tenOf t2 feared f2 angerOf an2 lotsOf l2 (nI (T + 1)) mutiny oneIn friendsOf k c = Y ∧ ∃ Z : (Nat → Int32) × (Nat → Int32) × Int32, D_X12_warsWhy_j1 rr k r = Z ∧ (∃ sd, NowR M 0 Y.1 braced sd (va_cpy tenOf t2 0 0 8) Y.2.2.1 Y.2.2.2.1 Y.2.2.2.2.1 Z.1) ∧ sub_men Y.1 M ∧ (∃ q, q < 65537 ∧ Y.2.1 = nI q ∧ Z.2.2 = nI q) ∧ ∀ j, j < 8 → Y.2.2.2.2.2 j = Z.2.1 j := by
    refine ⟨_, rfl, _, rfl, ?_⟩
    unfold D_X0_fight_j1 D_X12_warsWhy_j1
    rw [hmut, h4, hjr]
    by_cases cm : D_X12_isMutiny 0 rr r.1 = 0
    · rw [if_pos cm]
      unfold D_X0_fight_a3 D_X0_fight_a2 D_X0_fight_a1 D_X6_copyFrom D_X0_drawWar D_X0_drawWar_j1 D_X0_drawWar_a1 D_X12_warsWhy_l2 st_X12_warsWhy_156 D_X12_warsWhy_a2
      dsimp only
      rw [h4, hjr, nI_clamp (by omega), men_rel hL n1 s1]
      by_cases c0 : D_X12_inTen 0 (nI (k % (T + 1))) rr r.1 = 0
      · rw [if_pos c0, if_pos c0]
        dsimp only
        exact ⟨⟨sd, n1⟩, s1, ⟨q, q1, q2, q3⟩, fun j hj => by rw [note_0 hj]; exact h6 j hj⟩
      · have hmen : ¬ D_X6_menOf (nI (k % (T + 1))) c.1 (va_cpy tenOf t2 0 0 8) = 0 := by rw [men_rel hL n1 s1]; exact c0
        obtain ⟨m, b', m1, m2, c1, c2, c3, e1, e2, e3, e4⟩ := lot_facts_o hL n1 s1 h40 hmen
        obtain ⟨black, q', d1, d2, d3, d4, d5, d6, -⟩ := lot_draw m1 c2 c3 q1 e1 e2 e3 e4
        rw [if_neg c0, if_neg c0, if_pos cm]
        unfold D_X6_drawLot D_X6_drawLot_a2
        dsimp only
        rw [q2, q3, d1, d2]
        dsimp only
        obtain ⟨Y, hY⟩ : ∃ Y, D_X6_takeAway (k % (T + 1)) black c.1 c.2.2.2.2.1 c.2.2.1 (va_cpy tenOf t2 0 0 8) c.2.2.2.1 friendsOf = Y := ⟨_, rfl⟩
        rw [hY]
        obtain ⟨y1, y2, y3⟩ := draws_rel hM hL.r5 s1 (fun m hm => hL.fr hm) hL.fsm htl n1 hY
        refine ⟨⟨sd, y1⟩, fun i hi h => ?_, ⟨q', d6, rfl, rfl⟩, fun j hj => note_eq h6 hj⟩
        rw [y3, b_and, Bool.and_eq_true] at h
        exact s1 i hi h.1
    · rw [if_neg cm]
      dsimp only
      by_cases c0 : D_X12_inTen 0 (nI (k % (T + 1))) rr r.1 = 0
      · rw [if_pos c0]; exact ⟨⟨sd, n1⟩, s1, ⟨q, q1, q2, q3⟩, h6⟩
      · rw [if_neg c0, if_neg cm]; exact ⟨⟨sd, n1⟩, s1, ⟨q, q1, q2, q3⟩, h6⟩
  obtain ⟨Y, hY, Z, hZ, ⟨sd', y1⟩, y2, ⟨q', p1, p2, p3⟩, y4⟩ := key
  unfold st_X0_fight_57
  rw [if_neg hpos]
  refine ⟨_, rfl, ?_⟩
  unfold st_X12_warsWhy_85 D_X12_warsWhy_a4 D_X12_warsWhy_j2 D_X12_warsWhy_a3 D_X0_fight_j2 D_X0_fight_a6 D_X0_fight_a5 D_X0_fight_a4 D_X0_fight_a1 D_X6_copyFrom D_X12_warsWhy_a1 D_X12_asItIs
  rw [hY, hZ]
  have h27 : Z.1 27 = Y.1 := y1.1.symm
  dsimp only
  rw [h27]
  have hsY := sub_sm hM y2
  by_cases c0 : Y.1 = 0
  · have hd : D_X6_drawOne Y.1 Y.2.1 = (0, Y.2.1) := by
      unfold D_X6_drawOne
      rw [c0, if_pos (by decide)]
    have hx : (0 : Int32) &&& (Y.1 ^^^ (-1)) = 0 := Int32.zero_and
    rw [hd, if_pos c0]
    dsimp only
    rw [holdFrom_rel hL y1 y2 hx]
    refine ⟨⟨sd', y1⟩, y2, ⟨q', p1, p2, p3⟩, ?_, y4⟩
    dsimp only
    rw [h5]
  · have hct : 0 < ct Y.1 := by
      rcases Nat.eq_zero_or_pos (ct Y.1) with h | h
      · exact absurd (ct_0 hsY h) c0
      · exact h
    obtain ⟨i, i1, i2, i3, i4, i5, i6⟩ := draw_one hsY hct p1
    have hx := one_part (k := i) i1 i2
    rw [p2, p3, i3, if_neg c0, i4]
    dsimp only
    rw [i5, holdFrom_rel hL y1 y2 hx]
    refine ⟨⟨sd', y1⟩, y2, ⟨nxS q', nxS_lt q', rfl, rfl⟩, ?_, y4⟩
    dsimp only
    rw [h5]
theorem zero8 {f : Nat → (Nat → Int32) → Nat → Int32} (hf : ∀ k s, f k s = va_up s k 0) (d : Nat → Int32) {j : Nat} (hj : j < 8) : am_fo f 8 d j = 0 := by
  have : ∀ n, n ≤ 8 → ∀ j, j < n → am_fo f n d j = 0 := by
    intro n
    induction n with
    | zero => intro _ j hj; exact absurd hj (Nat.not_lt_zero j)
    | succ n ih =>
      intro hn j hj
      show f n (am_fo f n d) j = 0
      rw [hf]
      by_cases e : j = n
      · rw [e, va_up_self]
      · rw [va_up_ne _ _ e]; exact ih (by omega) j (by omega)
  exact this 8 (Nat.le_refl 8) j hj
theorem wars_l (hL : LegR M holds oneIn fear mutiny tens kind nerve friendsOf fearTimes weight rr) (hN : NowR M 0 present braced seed tenOf feared angerOf lotsOf st) (hs : sub_men present M) (h4 : rr 4 = nI (T + 1)) (hT : T < 3) {qs n : Nat} (hq : qs < 65537) (hn : n ≤ 60) : wa_R M braced (va_cpy tenOf t2 0 0 8) st (D_X0_fight_m1 (nI qs) (nI n) present braced seed tenOf t2 feared f2 angerOf an2 lotsOf l2 drawnIn (nI (T + 1)) mutiny oneIn friendsOf fear weight nerve fearTimes holds) (D_X12_warsWhy_l3 (nI qs) (nI n) rr st war drawnR) := by
  have hM := hL.M8
  have hlev : ∀ i, i < 30 → D_X12_copy_ne 0 0 30 st war i = st i := fun i hi => by rw [copy_ne_v (by omega), if_pos (by omega), Nat.zero_add, Nat.sub_zero]
  unfold D_X0_fight_m1 D_X0_fight_l2 D_X12_warsWhy_l3
  rw [be_nI (by omega)]
  have : ∀ k, k ≤ n → ∃ c, am_fe (st_X0_fight_57 present braced seed tenOf t2 feared f2 angerOf an2 lotsOf l2 (nI (T + 1)) mutiny oneIn friendsOf fear weight nerve fearTimes holds) k ((D_X0_fight_a1 present braced seed tenOf t2 feared f2 angerOf an2 lotsOf l2).1, nI qs, (D_X0_fight_a1 present braced seed tenOf t2 feared f2 angerOf an2 lotsOf l2).2.2.2.2.1, (D_X0_fight_a1 present braced seed tenOf t2 feared f2 angerOf an2 lotsOf l2).2.2.2.2.2.1, (D_X0_fight_a1 present braced seed tenOf t2 feared f2 angerOf an2 lotsOf l2).2.2.2.2.2.2, 0, D_X0_fight_l1 drawnIn) = .inl c ∧ wa_R M braced (va_cpy tenOf t2 0 0 8) st c (am_fo (st_X12_warsWhy_85 rr) k (D_X12_copy_ne 0 0 30 st war, D_X12_warsWhy_l1 drawnR, 0, nI qs)) := by
    intro k
    induction k with
    | zero =>
      intro _
      refine ⟨_, rfl, ⟨seed, ?_⟩, hs, ⟨qs, hq, rfl, rfl⟩, rfl, fun j hj => ?_⟩
      · exact NowR_cpy hM (NowR_row (o := 0) (row := st) (o' := 0) (row' := D_X12_copy_ne 0 0 30 st war) hM hN fun i hi => by rw [Nat.zero_add]; exact hlev i hi)
      · show D_X0_fight_l1 drawnIn j = D_X12_warsWhy_l1 drawnR j
        unfold D_X0_fight_l1 D_X12_warsWhy_l1
        rw [zero8 (f := st_X0_fight_24) (fun _ _ => rfl) _ hj, zero8 (f := st_X12_warsWhy_51) (fun _ _ => rfl) _ hj]
    | succ k ih =>
      intro hk
      obtain ⟨c, e1, e2⟩ := ih (by omega)
      obtain ⟨c', g1, g2⟩ := wars_step (T := T) hL hN hs h4 hT (k := k) (by omega) e2
      exact ⟨c', by rw [am_fe_s, am_sel_l e1]; exact g1, g2⟩
  obtain ⟨c, e1, e2⟩ := this n (Nat.le_refl n)
  rw [am_sel_l e1]
  exact e2
end LOT
