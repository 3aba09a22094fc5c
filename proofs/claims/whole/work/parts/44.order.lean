/-! ORDER: drawFrom beside tryLots, level by level -/
theorem menOf_mono {t p q : Int32} {tenOf tenOf' : Nat → Int32} (h : ∀ k, k < 8 → bt p k = true → bt q k = true) (ht : ∀ k, k < 8 → tenOf' k = tenOf k) : ct (D_X6_menOf t p tenOf') ≤ ct (D_X6_menOf t q tenOf) := ct_mono fun k hk hb => by
  rw [menOf_bt hk, Bool.and_eq_true] at hb
  rw [menOf_bt hk, h k hk hb.1, ← ht k hk, hb.2]; rfl
def po2 (p : Int32) (tenOf : Nat → Int32) : Nat := ct (D_X6_menOf 2 p tenOf)
def po1 (p : Int32) (tenOf : Nat → Int32) : Nat := ct (D_X6_menOf 1 p tenOf) + po2 p tenOf
def po0 (p : Int32) (tenOf : Nat → Int32) : Nat := ct (D_X6_menOf 0 p tenOf) + po1 p tenOf
def po3 (p : Int32) (tenOf : Nat → Int32) : Nat := 0
theorem po0_8 (p : Int32) (tenOf : Nat → Int32) : po0 p tenOf ≤ 8 := by
  unfold po0 po1 po2
  rw [ct_sN, ct_sN, ct_sN, ← sN_add (h := fun k => (if bt (D_X6_menOf 1 p tenOf) k then 1 else 0) + (if bt (D_X6_menOf 2 p tenOf) k then 1 else 0)) (fun k _ => rfl), ← sN_add (h := fun k => (if bt (D_X6_menOf 0 p tenOf) k then 1 else 0) + ((if bt (D_X6_menOf 1 p tenOf) k then 1 else 0) + (if bt (D_X6_menOf 2 p tenOf) k then 1 else 0))) (fun k _ => rfl)]
  refine Nat.le_trans (sN_bound (c := 1) fun k hk => ?_) (by decide)
  rw [menOf_bt hk, menOf_bt hk, menOf_bt hk]
  by_cases h0 : tenOf k = 0
  · rw [h0]; cases bt p k <;> decide
  · by_cases h1 : tenOf k = 1
    · rw [h1]; cases bt p k <;> decide
    · rw [decide_eq_false h0, decide_eq_false h1, Bool.and_false]
      cases (bt p k && decide (tenOf k = 2)) <;> decide
theorem chN_2 : ∀ c, c < 9 → ∀ b, b < 5 → chN c b ≤ 2 ^ c := by decide +kernel
abbrev RT := (Nat → Int32) × Int64 × Int64 × Int64 × Int64 × Int64 × Int32 × Int32
def LR {τ : Type} (L : Nat) (lev : Nat → Int32) (A Gd : Nat) (s : Int32 × Int32 × τ) (t : RT) : Prop := Gd ≤ A ∧ s.1 = nI A ∧ s.2.1 = nI Gd ∧ t.2.1 = lN A ∧ t.2.2.2.2.1 = lN Gd ∧ ∀ i, i < L → t.1 i = lev i
theorem lots_loop {τ : Type} {m b B A0 Gd0 L : Nat} {lev : Nat → Int32} (hm : m < 256) (hb : 0 < b) (hb8 : b < 9) {f F : Nat → Int32 × Int32 × τ → Int32 × Int32 × τ} {g Gf : Nat → RT → RT} (hf : ∀ k s, f k s = if D_X11_isPart (nI (k + 1)) (nI m) = 0 then s else if D_J6_bitCount_0f7a4 (nI (k + 1)) = nI b then F k s else s) (hg : ∀ k t, g k t = if nI k &&& (nI m ^^^ (-1)) = 0 then if D_X12_ones (nI k) = nI b then Gf k t else t else t) (hF : ∀ k s t A Gd, k < m → LR L lev A Gd s t → ∃ A' Gd', A + 1 ≤ A' ∧ A' ≤ A + B ∧ LR L lev A' Gd' (F k s) (Gf (k + 1) t)) {s : Int32 × Int32 × τ} {t : RT} (h0 : LR L lev A0 Gd0 s t) : ∃ A' Gd', A0 + sc m b (m + 1) ≤ A' ∧ A' ≤ A0 + sc m b (m + 1) * B ∧ LR L lev A' Gd' (am_fo f m s) (am_fo g (m + 1) t) := by
  rw [am_fo_shift]
  have hok0 : okS m b 0 = false := by
    cases h : okS m b 0 with
    | false => rfl
    | true =>
      have := ((okS_iff (by omega) hm).mp h).2
      rw [show ct (nI 0) = 0 by decide] at this
      omega
  have hsc0 : sc m b (0 + 1) = 0 := by rw [sc_s, hok0]; rfl
  have h00 : ¬ D_X12_ones (nI 0) = nI b := fun h => by
    rw [show D_X12_ones (nI 0) = nI 0 by decide, nI_eq (by omega) (by omega)] at h
    omega
  have e0 : g 0 t = t := by rw [hg, if_pos (by rw [show nI 0 = 0 from rfl, Int32.zero_and]), if_neg h00]
  rw [e0]
  refine am_fo_relI (R := fun k s t => ∃ A' Gd', A0 + sc m b (k + 1) ≤ A' ∧ A' ≤ A0 + sc m b (k + 1) * B ∧ LR L lev A' Gd' s t) ⟨A0, Gd0, by rw [hsc0]; exact Nat.le_refl _, by rw [hsc0, Nat.zero_mul]; exact Nat.le_refl _, h0⟩ fun k s t hk hR => ?_
  obtain ⟨A, Gd, h1, h2, h3⟩ := hR
  show ∃ A' Gd', A0 + sc m b (k + 1 + 1) ≤ A' ∧ A' ≤ A0 + sc m b (k + 1 + 1) * B ∧ LR L lev A' Gd' (f k s) (g (k + 1) t)
  rw [hf, hg]
  have hsk : sm (nI (k + 1)) := nat_sm (by omega)
  have hck := ct_le hsk
  rw [bc_ct hsk, on_ct hsk]
  by_cases hp : nI (k + 1) &&& (nI m ^^^ (-1)) = 0
  · rw [if_neg (fun g => isPart0.mp g hp), if_pos hp]
    by_cases hc : nI (ct (nI (k + 1))) = nI b
    · have hcb : ct (nI (k + 1)) = b := (nI_eq (by omega) (by omega)).mp hc
      have hok : okS m b (k + 1) = true := (okS_iff (by omega) hm).mpr ⟨hp, hcb⟩
      have hsc : sc m b (k + 1 + 1) = sc m b (k + 1) + 1 := by rw [sc_s, hok]; rfl
      rw [if_pos hc, if_pos hc, hsc]
      obtain ⟨A', Gd', g1, g2, g3⟩ := hF k s t A Gd hk h3
      refine ⟨A', Gd', by omega, ?_, g3⟩
      rw [Nat.succ_mul]
      omega
    · have hok : okS m b (k + 1) = false := by
        cases h : okS m b (k + 1) with
        | false => rfl
        | true => exact absurd (by rw [((okS_iff (by omega) hm).mp h).2]) hc
      have hsc : sc m b (k + 1 + 1) = sc m b (k + 1) := by rw [sc_s, hok]; rfl
      rw [if_neg hc, if_neg hc, hsc]
      exact ⟨A, Gd, h1, h2, h3⟩
  · have hok : okS m b (k + 1) = false := by
      cases h : okS m b (k + 1) with
      | false => rfl
      | true => exact absurd ((okS_iff (by omega) hm).mp h).1 hp
    have hsc : sc m b (k + 1 + 1) = sc m b (k + 1) := by rw [sc_s, hok]; rfl
    rw [if_pos (isPart0.mpr hp), if_neg hp, hsc]
    exact ⟨A, Gd, h1, h2, h3⟩
section ORDER
variable {M : Nat} {holds oneIn fear mutiny tens present braced seed x0 hl a b c : Int32} {kind nerve friendsOf fearTimes weight rr tenOf feared angerOf lotsOf st : Nat → Int32}
variable {o n2 A Gd T : Nat} {levels row : Nat → Int32} {x1 x2 x3 ways good mR wO : Int32} {sM dM mM gM rS : Int64} {l : Nat}
theorem lot_facts_o (hL : LegR M holds oneIn fear mutiny tens kind nerve friendsOf fearTimes weight rr) (hN : NowR M o present braced seed tenOf feared angerOf lotsOf row) (hs : sub_men present M) (h4 : ¬ rr 4 = 0) {t : Int32} (hm : ¬ D_X6_menOf t present tenOf = 0) : ∃ m b, m < 256 ∧ 0 < m ∧ 0 < b ∧ b < 5 ∧ b ≤ ct (nI m) ∧ D_X6_menOf t present tenOf = nI m ∧ D_X6_beansOf t present tenOf oneIn = nI b ∧ D_X12_inTen o t rr row = nI m ∧ D_X12_beansOf o t rr row = nI b := by
  have hM := hL.M8
  have hsm := sub_sm hM (menOf_sub (tenOf := tenOf) (t := t) hM hs)
  obtain ⟨m, hm1, hm2⟩ := sm_nat hsm
  have hm0 : 0 < m := by
    rcases Nat.eq_zero_or_pos m with h | h
    · rw [h] at hm2; exact absurd hm2 hm
    · exact h
  obtain ⟨n, n1, n2, n3⟩ := hL.one.resolve_left h4
  have hc := ct_le hsm
  have hc1 : 1 ≤ ct (D_X6_menOf t present tenOf) := by
    rcases Nat.eq_zero_or_pos (ct (D_X6_menOf t present tenOf)) with h | h
    · exact absurd (ct_0 hsm h) hm
    · exact h
  obtain ⟨b1, b2, b3, b4⟩ := beansN_all (Nat.lt_succ_of_le hc) n2 hc1 n1
  generalize beN (ct (D_X6_menOf t present tenOf)) n = b at b1 b2 b3 b4
  have hbe : D_X6_beansOf t present tenOf oneIn = nI b := by
    unfold D_X6_beansOf
    rw [bc_ct hsm, hL.h1, n3]
    exact b4
  exact ⟨m, b, hm1, hm0, b2, b1, by rw [← hm2]; exact b3, hm2, hbe, by rw [← men_rel hL hN hs, hm2], by rw [← beans_rel hL hN hs h4, hbe]⟩
theorem cw_rel (hL : LegR M holds oneIn fear mutiny tens kind nerve friendsOf fearTimes weight rr) (hN : NowR M o present braced seed tenOf feared angerOf lotsOf row) (hs : sub_men present M) (hw : ways = nI A) (hg : good = nI Gd) (hG : Gd ≤ A) (h1 : sM = lN A) (h2 : gM = lN Gd) : ∃ Gd', Gd' ≤ A + 1 ∧ D_X5_countWay x3 ways present angerOf mutiny braced fear weight nerve fearTimes feared holds good = (nI (A + 1), nI Gd') ∧ (D_X12_countsAt o 0 x3 row rr 0 (rr 2) (-1) sM dM mM gM rS mR wO).1 = lN (A + 1) ∧ (D_X12_countsAt o 0 x3 row rr 0 (rr 2) (-1) sM dM mM gM rS mR wO).2.2.2.1 = lN Gd' := by
  have hp : x3 &&& present &&& (present ^^^ (-1)) = 0 := of_inc fun k hk h => by
    rw [b_and, Bool.and_eq_true] at h
    exact h.2
  unfold D_X5_countWay D_X5_countWay_j1 D_X5_countWay_a1 D_X12_countsAt D_X12_countsAt_j1
  dsimp only
  rw [holdFrom_rel hL hN hs hp, mutiny_eq hL.M8 hL.r5 hN.1 hs hN.2.2.2.2.2.1 hL.h3, ← show present = row (o + 27) from hN.1, hw, hg, h1, h2, nI_1, lN_1]
  by_cases c1 : D_X12_isMutiny o rr row = 0
  · rw [if_pos c1, if_pos c1]
    by_cases c2 : D_X12_doesHold o (x3 &&& present) row rr 0 (rr 2) (-1) = 0
    · rw [if_pos c2, if_pos c2]; exact ⟨Gd, by omega, rfl, rfl, lN_add Gd 0⟩
    · rw [if_neg c2, if_neg c2]; exact ⟨Gd + 1, by omega, by rw [nI_1], rfl, lN_1 Gd⟩
  · rw [if_neg c1, if_neg c1]
    refine ⟨Gd, by omega, rfl, rfl, ?_⟩
    by_cases c2 : D_X12_doesHold o (x3 &&& present) row rr 0 (rr 2) (-1) = 0
    · rw [if_pos c2]; exact lN_add Gd 0
    · rw [if_neg c2]; exact lN_add Gd 0
theorem DF_0 (hL : LegR M holds oneIn fear mutiny tens kind nerve friendsOf fearTimes weight rr) (hN : NowR M (30 * n2) present braced seed tenOf feared angerOf lotsOf levels) (hs : sub_men present M) (h4 : rr 4 = nI T) (hT : 3 ≤ T) (hT3 : T ≤ 3) (hw : ways = nI A) (hg : good = nI Gd) (hG : Gd ≤ A) (h1 : sM = lN A) (h2 : gM = lN Gd) : ∃ A' Gd', A + 1 ≤ A' ∧ A' ≤ A + 2 ^ po3 present tenOf ∧ Gd' ≤ A' ∧ (D_X5_drawFrom_0 (nI T) x3 ways present angerOf mutiny braced fear weight nerve fearTimes feared holds good).1 = nI A' ∧ (D_X5_drawFrom_0 (nI T) x3 ways present angerOf mutiny braced fear weight nerve fearTimes feared holds good).2 = nI Gd' ∧ (D_X12_tryLots_0 x2 n2 rr x3 levels 0 (rr 2) (-1) sM dM mM gM rS mR wO).2.2.1 = lN A' ∧ (D_X12_tryLots_0 x2 n2 rr x3 levels 0 (rr 2) (-1) sM dM mM gM rS mR wO).2.2.2.2.2.1 = lN Gd' ∧ ∀ i, i < 30 * (n2 + 1) → (D_X12_tryLots_0 x2 n2 rr x3 levels 0 (rr 2) (-1) sM dM mM gM rS mR wO).2.2.2.2.2.2.2 i = levels i := by
  obtain ⟨Gd', g1, g2, g3, g4⟩ := cw_rel (x3 := x3) (dM := dM) (mM := mM) (rS := rS) (mR := mR) (wO := wO) hL hN hs hw hg hG h1 h2
  have e : T = 3 := by omega
  unfold D_X5_drawFrom_0 D_X12_tryLots_0 D_X5_drawFrom_0_a1 D_X12_tryLots_0_a1
  rw [h4, e, if_pos (show (3 : Int32) = nI 3 from rfl), if_pos (show (3 : Int32) = nI 3 from rfl), g2]
  exact ⟨A + 1, Gd', Nat.le_refl _, by unfold po3; omega, g1, rfl, rfl, g3, g4, fun _ _ => rfl⟩
theorem DF_1 {q1 : Option Nat} {p2 b2 s2 : Int32} {t2 f2 a2 l2 : Nat → Int32} (hL : LegR M holds oneIn fear mutiny tens kind nerve friendsOf fearTimes weight rr) (hN : NowR M (30 * n2) present braced seed tenOf feared angerOf lotsOf levels) (hs : sub_men present M) (h4 : rr 4 = nI T) (hT : 2 ≤ T) (hT3 : T ≤ 3) (hw : ways = nI A) (hg : good = nI Gd) (hG : Gd ≤ A) (h1 : sM = lN A) (h2 : gM = lN Gd) : ∃ A' Gd', A + 1 ≤ A' ∧ A' ≤ A + 2 ^ po2 present tenOf ∧ Gd' ≤ A' ∧ (D_X5_drawFrom_1 (nI T) x2 x3 ways present angerOf mutiny braced fear weight nerve fearTimes feared holds good tenOf q1 p2 b2 seed s2 t2 f2 a2 lotsOf l2 oneIn friendsOf l).1 = nI A' ∧ (D_X5_drawFrom_1 (nI T) x2 x3 ways present angerOf mutiny braced fear weight nerve fearTimes feared holds good tenOf q1 p2 b2 seed s2 t2 f2 a2 lotsOf l2 oneIn friendsOf l).2.1 = nI Gd' ∧ (D_X12_tryLots_1 x2 n2 rr x3 levels 0 (rr 2) (-1) sM dM mM gM rS mR wO).2.2.1 = lN A' ∧ (D_X12_tryLots_1 x2 n2 rr x3 levels 0 (rr 2) (-1) sM dM mM gM rS mR wO).2.2.2.2.2.1 = lN Gd' ∧ ∀ i, i < 30 * (n2 + 1) → (D_X12_tryLots_1 x2 n2 rr x3 levels 0 (rr 2) (-1) sM dM mM gM rS mR wO).2.2.2.2.2.2.2 i = levels i := by
  have hM := hL.M8
  by_cases hTt : T = 2
  · obtain ⟨Gd', g1, g2, g3, g4⟩ := cw_rel (x3 := x3) (dM := dM) (mM := mM) (rS := rS) (mR := mR) (wO := wO) hL hN hs hw hg hG h1 h2
    unfold D_X5_drawFrom_1 D_X12_tryLots_1 D_X5_drawFrom_1_a1 D_X12_tryLots_1_a1
    rw [h4, hTt, if_pos (show (2 : Int32) = nI 2 from rfl), if_pos (show (2 : Int32) = nI 2 from rfl), g2]
    exact ⟨A + 1, Gd', Nat.le_refl _, Nat.add_le_add_left (Nat.one_le_two_pow) A, g1, rfl, rfl, g3, g4, fun _ _ => rfl⟩
  · have hne : ¬ (2 : Int32) = nI T := fun h => by
      have := (nI_eq (a := 2) (b := T) (by omega) (by omega)).mp h
      omega
    have h40 : ¬ rr 4 = 0 := fun h => by
      rw [h4] at h
      have := (nI_eq (b := 0) (by omega) (by omega)).mp h
      omega
    have hpon : po3 present tenOf ≤ po2 present tenOf := by
      unfold po3; exact Nat.zero_le _
    unfold D_X5_drawFrom_1 D_X12_tryLots_1
    rw [if_neg hne, h4, if_neg hne, ← show D_X11_has x2 2 = D_X12_hasBit x2 2 from has_eq x2 (k := 2) (by omega)]
    by_cases hmen : (if D_X11_has x2 2 = 0 then 0 else D_X6_menOf 2 present tenOf : Int32) = 0
    · -- no LOT of this ten
      rw [if_pos hmen]
      unfold D_X5_drawFrom_1_a3 D_X5_drawFrom_1_a2 D_X6_copyFrom D_X12_tryLots_1_a2 D_X12_tryLots_1_a3
      dsimp only
      have hsame : ∀ k, k < 8 → va_cpy tenOf t2 0 0 8 k = tenOf k := fun k hk => cpy_v _ _ hk
      obtain ⟨A', Gd', q1, q2, q3, q4, q5, q6, q7, q8⟩ := DF_0 (x2 := x2) (x3 := x3) (dM := dM) (mM := mM) (rS := rS) (mR := mR) (wO := wO) hL (NowR_cpy (t2 := t2) (f2 := f2) (an2 := a2) (l2 := l2) hM hN) hs h4 (by omega) hT3 hw hg hG h1 h2
      have hle : po3 present (va_cpy tenOf t2 0 0 8) ≤ po3 present tenOf := by
        unfold po3; exact Nat.le_refl _
      have hb : A' ≤ A + 2 ^ po2 present tenOf := Nat.le_trans q2 (Nat.add_le_add_left (Nat.pow_le_pow_right (by decide) (by omega)) A)
      by_cases hh : D_X11_has x2 2 = 0
      · rw [if_pos hh]
        exact ⟨A', Gd', q1, hb, q3, q4, q5, q6, q7, q8⟩
      · have hm0 : D_X12_inTen (30 * n2) 2 rr levels = 0 := by
          rw [if_neg (show ¬ D_X11_has x2 2 = 0 from hh), men_rel hL hN hs] at hmen
          exact hmen
        rw [if_neg hh, if_pos hm0]
        exact ⟨A', Gd', q1, hb, q3, q4, q5, q6, q7, q8⟩
    · have hh : ¬ D_X11_has x2 2 = 0 := fun h => hmen (by rw [if_pos (show D_X11_has x2 2 = 0 from h)])
      rw [if_neg hmen, if_neg hh]
      rw [if_neg (show ¬ D_X11_has x2 2 = 0 from hh)] at hmen
      obtain ⟨m, b', m1, m2, c1, c2, c3, e1, e2, e3, e4⟩ := lot_facts_o hL hN hs h40 hmen
      rw [if_neg (show ¬ D_X12_inTen (30 * n2) 2 rr levels = 0 by rw [e3]; exact nI_ne0 m2 (by omega))]
      have hA : sc m b' (m + 1) = chN (ct (D_X6_menOf 2 present tenOf)) b' := by rw [e1, pcn_all m m1]; exact sc_all m m1 b' c2
      have hcc : ct (D_X6_menOf 2 present tenOf) ≤ 8 := by rw [e1]; exact ct_le (nat_sm m1)
      have hA1 : 1 ≤ sc m b' (m + 1) := by rw [hA]; exact (chN_all _ (by omega) b' c2 (by rw [e1]; exact c3)).2
      have hA2 : sc m b' (m + 1) ≤ 2 ^ ct (D_X6_menOf 2 present tenOf) := by rw [hA]; exact chN_2 _ (by omega) b' c2
      have key := lots_loop (m := m) (b := b') (B := 2 ^ po3 present tenOf) (A0 := A) (Gd0 := Gd) (L := 30 * (n2 + 1)) (lev := levels) m1 c1 (by omega) (f := st_X5_drawFrom_1_110 (nI T) x2 x3 present angerOf mutiny braced fear weight nerve fearTimes feared holds tenOf seed lotsOf oneIn friendsOf l) (F := fun k s => ((D_X5_drawFrom_1_a6 (nI T) x3 present angerOf mutiny braced fear weight nerve fearTimes feared holds tenOf seed lotsOf friendsOf k s).1, (D_X5_drawFrom_1_a6 (nI T) x3 present angerOf mutiny braced fear weight nerve fearTimes feared holds tenOf seed lotsOf friendsOf k s).2, some l, (D_X5_drawFrom_1_a5 present angerOf braced feared tenOf seed lotsOf friendsOf k s).1, (D_X5_drawFrom_1_a4 present angerOf braced feared tenOf seed lotsOf s).2.1, (D_X5_drawFrom_1_a4 present angerOf braced feared tenOf seed lotsOf s).2.2.1, (D_X5_drawFrom_1_a4 present angerOf braced feared tenOf seed lotsOf s).2.2.2.1, (D_X5_drawFrom_1_a5 present angerOf braced feared tenOf seed lotsOf friendsOf k s).2.2.1, (D_X5_drawFrom_1_a5 present angerOf braced feared tenOf seed lotsOf friendsOf k s).2.2.2, (D_X5_drawFrom_1_a5 present angerOf braced feared tenOf seed lotsOf friendsOf k s).2.1)) (g := st_X12_tryLots_1_76 x2 n2 rr x3 levels 0 (rr 2) (-1)) (Gf := fun k s => ((D_X12_tryLots_1_a4 x2 n2 rr x3 0 (rr 2) (-1) k s).2.2.2.2.2.2.2, (D_X12_tryLots_1_a4 x2 n2 rr x3 0 (rr 2) (-1) k s).2.2.1, (D_X12_tryLots_1_a4 x2 n2 rr x3 0 (rr 2) (-1) k s).2.2.2.1, (D_X12_tryLots_1_a4 x2 n2 rr x3 0 (rr 2) (-1) k s).2.2.2.2.1, (D_X12_tryLots_1_a4 x2 n2 rr x3 0 (rr 2) (-1) k s).2.2.2.2.2.1, (D_X12_tryLots_1_a4 x2 n2 rr x3 0 (rr 2) (-1) k s).2.2.2.2.2.2.1, (D_X12_tryLots_1_a4 x2 n2 rr x3 0 (rr 2) (-1) k s).1, (D_X12_tryLots_1_a4 x2 n2 rr x3 0 (rr 2) (-1) k s).2.1)) (fun k s => ?_) (fun k t => ?_) (fun k s t A Gd hk hR => ?_) (s := (ways, good, q1, p2, b2, s2, t2, f2, a2, l2)) (t := (levels, sM, dM, mM, gM, rS, mR, wO)) ⟨hG, hw, hg, h1, h2, fun _ _ => rfl⟩
      · obtain ⟨A', Gd', k1, k2, k3, k4, k5, k6, k7, k8⟩ := key
        unfold D_X5_drawFrom_1_l1 D_X12_tryLots_1_l1
        rw [if_neg (show ¬ D_X11_has x2 2 = 0 from hh), e1, e3, to_nI (by omega), show am_to (nI m) 1 = m by unfold am_to; rw [nI_toInt (by omega)]; omega]
        refine ⟨A', Gd', by omega, ?_, k3, k4, k5, k6, k7, k8⟩
        have hmul : sc m b' (m + 1) * 2 ^ po3 present tenOf ≤ 2 ^ po2 present tenOf := by
          have : 2 ^ po2 present tenOf = 2 ^ ct (D_X6_menOf 2 present tenOf) * 2 ^ po3 present tenOf := by rw [← Nat.pow_add]; rfl
          rw [this]
          exact Nat.mul_le_mul_right _ hA2
        omega
      · show D_X5_drawFrom_1_j1 (nI T) x2 x3 present angerOf mutiny braced fear weight nerve fearTimes feared holds tenOf seed lotsOf oneIn friendsOf l k s = _
        unfold D_X5_drawFrom_1_j1
        rw [if_neg (show ¬ D_X11_has x2 2 = 0 from hh), e1, e2]
      · show D_X12_tryLots_1_j1 x2 n2 rr x3 levels 0 (rr 2) (-1) k t = _
        unfold D_X12_tryLots_1_j1
        rw [e3, e4]
      · obtain ⟨r1, r2, r3, r4, r5, r6⟩ := hR
        obtain ⟨Y, hY⟩ : ∃ Y, D_X6_takeAway 2 (nI (k + 1)) present (va_cpy lotsOf s.2.2.2.2.2.2.2.2.2 0 0 3) (va_cpy feared s.2.2.2.2.2.2.2.1 0 0 8) (va_cpy tenOf s.2.2.2.2.2.2.1 0 0 8) (va_cpy angerOf s.2.2.2.2.2.2.2.2.1 0 0 8) friendsOf = Y := ⟨_, rfl⟩
        have hN2 : NowR M (30 * n2 + 30) present braced seed (va_cpy tenOf s.2.2.2.2.2.2.1 0 0 8) (va_cpy feared s.2.2.2.2.2.2.2.1 0 0 8) (va_cpy angerOf s.2.2.2.2.2.2.2.2.1 0 0 8) (va_cpy lotsOf s.2.2.2.2.2.2.2.2.2 0 0 3) (D_X12_copy_eq (30 * n2) (30 * n2 + 30) 30 t.1) := NowR_cpy hM (NowR_row (o := 30 * n2) (row := levels) hM hN fun i hi => by
          rw [copy_eq_v (by omega) (by omega), if_pos (by omega), show 30 * n2 + (30 * n2 + 30 + i - (30 * n2 + 30)) = 30 * n2 + i by omega]
          exact r6 _ (by omega))
        obtain ⟨row2, hrow⟩ : ∃ z, D_X12_draws (30 * n2 + 30) 2 (nI (k + 1)) (D_X12_copy_eq (30 * n2) (30 * n2 + 30) 30 t.1) rr = z := ⟨_, rfl⟩
        obtain ⟨y1, y2, y3, -, -, -, -, y8⟩ := sv_step hL hN2 hs (by omega) 0 hY hrow
        have hYp : Y.1 = present &&& (nI (k + 1) ^^^ (-1)) := (draws_rel hM hL.r5 hs (fun m hm => hL.fr hm) hL.fsm (by omega) hN2 hY).2.2
        unfold D_X5_drawFrom_1_a6 D_X5_drawFrom_1_a5 D_X5_drawFrom_1_a4 D_X6_copyFrom D_X12_tryLots_1_a4
        dsimp only
        rw [hY, hrow]
        obtain ⟨A', Gd', q1, q2, q3, q4, q5, q6, q7, q8⟩ := DF_0 (n2 := n2 + 1) (x2 := x2) (x3 := x3) (dM := t.2.2.1) (mM := t.2.2.2.1) (rS := t.2.2.2.2.2.1) (mR := t.2.2.2.2.2.2.1) (wO := t.2.2.2.2.2.2.2) hL (show NowR M (30 * (n2 + 1)) Y.1 braced seed _ Y.2.2.1 Y.2.2.2 Y.2.1 row2 from y1) y2 h4 (by omega) hT3 r2 r3 r1 r4 r5
        have hle : po3 Y.1 (va_cpy tenOf s.2.2.2.2.2.2.1 0 0 8) ≤ po3 present tenOf := by
          have hsame : ∀ k, k < 8 → va_cpy tenOf s.2.2.2.2.2.2.1 0 0 8 k = tenOf k := fun k hk => cpy_v _ _ hk
          have hsub : ∀ k, k < 8 → bt Y.1 k = true → bt present k = true := fun k hk h => by
            rw [hYp, b_and, Bool.and_eq_true] at h
            exact h.1
          unfold po3; exact Nat.le_refl _
        exact ⟨A', Gd', q1, Nat.le_trans q2 (Nat.add_le_add_left (Nat.pow_le_pow_right (by decide) hle) A), q3, q4, q5, q6, q7, fun i hi => Eq.trans (q8 i (by omega)) (by
          rw [y8 i (Or.inl (by omega)), copy_eq_v (by omega) (by omega), if_neg (by omega)]
          exact r6 i hi)⟩
theorem DF_2 {q1 : Option Nat} {p2 b2 s2 : Int32} {t2 f2 a2 l2 : Nat → Int32} {q2 : Option Nat} {p3 b3 s3 : Int32} {t3 f3 a3 l3 : Nat → Int32} (hL : LegR M holds oneIn fear mutiny tens kind nerve friendsOf fearTimes weight rr) (hN : NowR M (30 * n2) present braced seed tenOf feared angerOf lotsOf levels) (hs : sub_men present M) (h4 : rr 4 = nI T) (hT : 1 ≤ T) (hT3 : T ≤ 3) (hw : ways = nI A) (hg : good = nI Gd) (hG : Gd ≤ A) (h1 : sM = lN A) (h2 : gM = lN Gd) : ∃ A' Gd', A + 1 ≤ A' ∧ A' ≤ A + 2 ^ po1 present tenOf ∧ Gd' ≤ A' ∧ (D_X5_drawFrom_2 (nI T) x2 x3 ways present angerOf mutiny braced fear weight nerve fearTimes feared holds good tenOf q1 p2 b2 seed s2 t2 f2 a2 lotsOf l2 q2 p3 b3 s3 t3 f3 a3 l3 oneIn friendsOf l).1 = nI A' ∧ (D_X5_drawFrom_2 (nI T) x2 x3 ways present angerOf mutiny braced fear weight nerve fearTimes feared holds good tenOf q1 p2 b2 seed s2 t2 f2 a2 lotsOf l2 q2 p3 b3 s3 t3 f3 a3 l3 oneIn friendsOf l).2.1 = nI Gd' ∧ (D_X12_tryLots_2 x2 n2 rr x3 levels 0 (rr 2) (-1) sM dM mM gM rS mR wO).2.2.1 = lN A' ∧ (D_X12_tryLots_2 x2 n2 rr x3 levels 0 (rr 2) (-1) sM dM mM gM rS mR wO).2.2.2.2.2.1 = lN Gd' ∧ ∀ i, i < 30 * (n2 + 1) → (D_X12_tryLots_2 x2 n2 rr x3 levels 0 (rr 2) (-1) sM dM mM gM rS mR wO).2.2.2.2.2.2.2 i = levels i := by
  have hM := hL.M8
  by_cases hTt : T = 1
  · obtain ⟨Gd', g1, g2, g3, g4⟩ := cw_rel (x3 := x3) (dM := dM) (mM := mM) (rS := rS) (mR := mR) (wO := wO) hL hN hs hw hg hG h1 h2
    unfold D_X5_drawFrom_2 D_X12_tryLots_2 D_X5_drawFrom_2_a1 D_X12_tryLots_2_a1
    rw [h4, hTt, if_pos (show (1 : Int32) = nI 1 from rfl), if_pos (show (1 : Int32) = nI 1 from rfl), g2]
    exact ⟨A + 1, Gd', Nat.le_refl _, Nat.add_le_add_left (Nat.one_le_two_pow) A, g1, rfl, rfl, g3, g4, fun _ _ => rfl⟩
  · have hne : ¬ (1 : Int32) = nI T := fun h => by
      have := (nI_eq (a := 1) (b := T) (by omega) (by omega)).mp h
      omega
    have h40 : ¬ rr 4 = 0 := fun h => by
      rw [h4] at h
      have := (nI_eq (b := 0) (by omega) (by omega)).mp h
      omega
    have hpon : po2 present tenOf ≤ po1 present tenOf := by
      unfold po1; omega
    unfold D_X5_drawFrom_2 D_X12_tryLots_2
    rw [if_neg hne, h4, if_neg hne, ← show D_X11_has x2 1 = D_X12_hasBit x2 1 from has_eq x2 (k := 1) (by omega)]
    by_cases hmen : (if D_X11_has x2 1 = 0 then 0 else D_X6_menOf 1 present tenOf : Int32) = 0
    · -- no LOT of this ten
      rw [if_pos hmen]
      unfold D_X5_drawFrom_2_a3 D_X5_drawFrom_2_a2 D_X6_copyFrom D_X12_tryLots_2_a2 D_X12_tryLots_2_a3
      dsimp only
      have hsame : ∀ k, k < 8 → va_cpy tenOf t2 0 0 8 k = tenOf k := fun k hk => cpy_v _ _ hk
      obtain ⟨A', Gd', q1, q2, q3, q4, q5, q6, q7, q8⟩ := DF_1 (x2 := x2) (x3 := x3) (dM := dM) (mM := mM) (rS := rS) (mR := mR) (wO := wO) hL (NowR_cpy (t2 := t2) (f2 := f2) (an2 := a2) (l2 := l2) hM hN) hs h4 (by omega) hT3 hw hg hG h1 h2
      have hle : po2 present (va_cpy tenOf t2 0 0 8) ≤ po2 present tenOf := by
        exact menOf_mono (fun _ _ h => h) hsame
      have hb : A' ≤ A + 2 ^ po1 present tenOf := Nat.le_trans q2 (Nat.add_le_add_left (Nat.pow_le_pow_right (by decide) (by omega)) A)
      by_cases hh : D_X11_has x2 1 = 0
      · rw [if_pos hh]
        exact ⟨A', Gd', q1, hb, q3, q4, q5, q6, q7, q8⟩
      · have hm0 : D_X12_inTen (30 * n2) 1 rr levels = 0 := by
          rw [if_neg (show ¬ D_X11_has x2 1 = 0 from hh), men_rel hL hN hs] at hmen
          exact hmen
        rw [if_neg hh, if_pos hm0]
        exact ⟨A', Gd', q1, hb, q3, q4, q5, q6, q7, q8⟩
    · have hh : ¬ D_X11_has x2 1 = 0 := fun h => hmen (by rw [if_pos (show D_X11_has x2 1 = 0 from h)])
      rw [if_neg hmen, if_neg hh]
      rw [if_neg (show ¬ D_X11_has x2 1 = 0 from hh)] at hmen
      obtain ⟨m, b', m1, m2, c1, c2, c3, e1, e2, e3, e4⟩ := lot_facts_o hL hN hs h40 hmen
      rw [if_neg (show ¬ D_X12_inTen (30 * n2) 1 rr levels = 0 by rw [e3]; exact nI_ne0 m2 (by omega))]
      have hA : sc m b' (m + 1) = chN (ct (D_X6_menOf 1 present tenOf)) b' := by rw [e1, pcn_all m m1]; exact sc_all m m1 b' c2
      have hcc : ct (D_X6_menOf 1 present tenOf) ≤ 8 := by rw [e1]; exact ct_le (nat_sm m1)
      have hA1 : 1 ≤ sc m b' (m + 1) := by rw [hA]; exact (chN_all _ (by omega) b' c2 (by rw [e1]; exact c3)).2
      have hA2 : sc m b' (m + 1) ≤ 2 ^ ct (D_X6_menOf 1 present tenOf) := by rw [hA]; exact chN_2 _ (by omega) b' c2
      have key := lots_loop (m := m) (b := b') (B := 2 ^ po2 present tenOf) (A0 := A) (Gd0 := Gd) (L := 30 * (n2 + 1)) (lev := levels) m1 c1 (by omega) (f := st_X5_drawFrom_2_110 (nI T) x2 x3 present angerOf mutiny braced fear weight nerve fearTimes feared holds tenOf seed lotsOf oneIn friendsOf l) (F := fun k s => ((D_X5_drawFrom_2_a6 (nI T) x2 x3 present angerOf mutiny braced fear weight nerve fearTimes feared holds tenOf seed lotsOf oneIn friendsOf l k s).1, (D_X5_drawFrom_2_a6 (nI T) x2 x3 present angerOf mutiny braced fear weight nerve fearTimes feared holds tenOf seed lotsOf oneIn friendsOf l k s).2.1, some l, (D_X5_drawFrom_2_a5 present angerOf braced feared tenOf seed lotsOf friendsOf k s).1, (D_X5_drawFrom_2_a4 present angerOf braced feared tenOf seed lotsOf s).2.1, (D_X5_drawFrom_2_a4 present angerOf braced feared tenOf seed lotsOf s).2.2.1, (D_X5_drawFrom_2_a4 present angerOf braced feared tenOf seed lotsOf s).2.2.2.1, (D_X5_drawFrom_2_a5 present angerOf braced feared tenOf seed lotsOf friendsOf k s).2.2.1, (D_X5_drawFrom_2_a5 present angerOf braced feared tenOf seed lotsOf friendsOf k s).2.2.2, (D_X5_drawFrom_2_a5 present angerOf braced feared tenOf seed lotsOf friendsOf k s).2.1, (D_X5_drawFrom_2_a6 (nI T) x2 x3 present angerOf mutiny braced fear weight nerve fearTimes feared holds tenOf seed lotsOf oneIn friendsOf l k s).2.2.2.2.2.2.2.2.2, (D_X5_drawFrom_2_a6 (nI T) x2 x3 present angerOf mutiny braced fear weight nerve fearTimes feared holds tenOf seed lotsOf oneIn friendsOf l k s).2.2.1, (D_X5_drawFrom_2_a6 (nI T) x2 x3 present angerOf mutiny braced fear weight nerve fearTimes feared holds tenOf seed lotsOf oneIn friendsOf l k s).2.2.2.1, (D_X5_drawFrom_2_a6 (nI T) x2 x3 present angerOf mutiny braced fear weight nerve fearTimes feared holds tenOf seed lotsOf oneIn friendsOf l k s).2.2.2.2.1, (D_X5_drawFrom_2_a6 (nI T) x2 x3 present angerOf mutiny braced fear weight nerve fearTimes feared holds tenOf seed lotsOf oneIn friendsOf l k s).2.2.2.2.2.1, (D_X5_drawFrom_2_a6 (nI T) x2 x3 present angerOf mutiny braced fear weight nerve fearTimes feared holds tenOf seed lotsOf oneIn friendsOf l k s).2.2.2.2.2.2.1, (D_X5_drawFrom_2_a6 (nI T) x2 x3 present angerOf mutiny braced fear weight nerve fearTimes feared holds tenOf seed lotsOf oneIn friendsOf l k s).2.2.2.2.2.2.2.1, (D_X5_drawFrom_2_a6 (nI T) x2 x3 present angerOf mutiny braced fear weight nerve fearTimes feared holds tenOf seed lotsOf oneIn friendsOf l k s).2.2.2.2.2.2.2.2.1)) (g := st_X12_tryLots_2_76 x2 n2 rr x3 levels 0 (rr 2) (-1)) (Gf := fun k s => ((D_X12_tryLots_2_a4 x2 n2 rr x3 0 (rr 2) (-1) k s).2.2.2.2.2.2.2, (D_X12_tryLots_2_a4 x2 n2 rr x3 0 (rr 2) (-1) k s).2.2.1, (D_X12_tryLots_2_a4 x2 n2 rr x3 0 (rr 2) (-1) k s).2.2.2.1, (D_X12_tryLots_2_a4 x2 n2 rr x3 0 (rr 2) (-1) k s).2.2.2.2.1, (D_X12_tryLots_2_a4 x2 n2 rr x3 0 (rr 2) (-1) k s).2.2.2.2.2.1, (D_X12_tryLots_2_a4 x2 n2 rr x3 0 (rr 2) (-1) k s).2.2.2.2.2.2.1, (D_X12_tryLots_2_a4 x2 n2 rr x3 0 (rr 2) (-1) k s).1, (D_X12_tryLots_2_a4 x2 n2 rr x3 0 (rr 2) (-1) k s).2.1)) (fun k s => ?_) (fun k t => ?_) (fun k s t A Gd hk hR => ?_) (s := (ways, good, q1, p2, b2, s2, t2, f2, a2, l2, q2, p3, b3, s3, t3, f3, a3, l3)) (t := (levels, sM, dM, mM, gM, rS, mR, wO)) ⟨hG, hw, hg, h1, h2, fun _ _ => rfl⟩
      · obtain ⟨A', Gd', k1, k2, k3, k4, k5, k6, k7, k8⟩ := key
        unfold D_X5_drawFrom_2_l1 D_X12_tryLots_2_l1
        rw [if_neg (show ¬ D_X11_has x2 1 = 0 from hh), e1, e3, to_nI (by omega), show am_to (nI m) 1 = m by unfold am_to; rw [nI_toInt (by omega)]; omega]
        refine ⟨A', Gd', by omega, ?_, k3, k4, k5, k6, k7, k8⟩
        have hmul : sc m b' (m + 1) * 2 ^ po2 present tenOf ≤ 2 ^ po1 present tenOf := by
          have : 2 ^ po1 present tenOf = 2 ^ ct (D_X6_menOf 1 present tenOf) * 2 ^ po2 present tenOf := by rw [← Nat.pow_add]; rfl
          rw [this]
          exact Nat.mul_le_mul_right _ hA2
        omega
      · show D_X5_drawFrom_2_j1 (nI T) x2 x3 present angerOf mutiny braced fear weight nerve fearTimes feared holds tenOf seed lotsOf oneIn friendsOf l k s = _
        unfold D_X5_drawFrom_2_j1
        rw [if_neg (show ¬ D_X11_has x2 1 = 0 from hh), e1, e2]
      · show D_X12_tryLots_2_j1 x2 n2 rr x3 levels 0 (rr 2) (-1) k t = _
        unfold D_X12_tryLots_2_j1
        rw [e3, e4]
      · obtain ⟨r1, r2, r3, r4, r5, r6⟩ := hR
        obtain ⟨Y, hY⟩ : ∃ Y, D_X6_takeAway 1 (nI (k + 1)) present (va_cpy lotsOf s.2.2.2.2.2.2.2.2.2.1 0 0 3) (va_cpy feared s.2.2.2.2.2.2.2.1 0 0 8) (va_cpy tenOf s.2.2.2.2.2.2.1 0 0 8) (va_cpy angerOf s.2.2.2.2.2.2.2.2.1 0 0 8) friendsOf = Y := ⟨_, rfl⟩
        have hN2 : NowR M (30 * n2 + 30) present braced seed (va_cpy tenOf s.2.2.2.2.2.2.1 0 0 8) (va_cpy feared s.2.2.2.2.2.2.2.1 0 0 8) (va_cpy angerOf s.2.2.2.2.2.2.2.2.1 0 0 8) (va_cpy lotsOf s.2.2.2.2.2.2.2.2.2.1 0 0 3) (D_X12_copy_eq (30 * n2) (30 * n2 + 30) 30 t.1) := NowR_cpy hM (NowR_row (o := 30 * n2) (row := levels) hM hN fun i hi => by
          rw [copy_eq_v (by omega) (by omega), if_pos (by omega), show 30 * n2 + (30 * n2 + 30 + i - (30 * n2 + 30)) = 30 * n2 + i by omega]
          exact r6 _ (by omega))
        obtain ⟨row2, hrow⟩ : ∃ z, D_X12_draws (30 * n2 + 30) 1 (nI (k + 1)) (D_X12_copy_eq (30 * n2) (30 * n2 + 30) 30 t.1) rr = z := ⟨_, rfl⟩
        obtain ⟨y1, y2, y3, -, -, -, -, y8⟩ := sv_step hL hN2 hs (by omega) 0 hY hrow
        have hYp : Y.1 = present &&& (nI (k + 1) ^^^ (-1)) := (draws_rel hM hL.r5 hs (fun m hm => hL.fr hm) hL.fsm (by omega) hN2 hY).2.2
        unfold D_X5_drawFrom_2_a6 D_X5_drawFrom_2_a5 D_X5_drawFrom_2_a4 D_X6_copyFrom D_X12_tryLots_2_a4
        dsimp only
        rw [hY, hrow]
        obtain ⟨A', Gd', q1, q2, q3, q4, q5, q6, q7, q8⟩ := DF_1 (n2 := n2 + 1) (x2 := x2) (x3 := x3) (dM := t.2.2.1) (mM := t.2.2.2.1) (rS := t.2.2.2.2.2.1) (mR := t.2.2.2.2.2.2.1) (wO := t.2.2.2.2.2.2.2) hL (show NowR M (30 * (n2 + 1)) Y.1 braced seed _ Y.2.2.1 Y.2.2.2 Y.2.1 row2 from y1) y2 h4 (by omega) hT3 r2 r3 r1 r4 r5
        have hle : po2 Y.1 (va_cpy tenOf s.2.2.2.2.2.2.1 0 0 8) ≤ po2 present tenOf := by
          have hsame : ∀ k, k < 8 → va_cpy tenOf s.2.2.2.2.2.2.1 0 0 8 k = tenOf k := fun k hk => cpy_v _ _ hk
          have hsub : ∀ k, k < 8 → bt Y.1 k = true → bt present k = true := fun k hk h => by
            rw [hYp, b_and, Bool.and_eq_true] at h
            exact h.1
          exact menOf_mono hsub hsame
        exact ⟨A', Gd', q1, Nat.le_trans q2 (Nat.add_le_add_left (Nat.pow_le_pow_right (by decide) hle) A), q3, q4, q5, q6, q7, fun i hi => Eq.trans (q8 i (by omega)) (by
          rw [y8 i (Or.inl (by omega)), copy_eq_v (by omega) (by omega), if_neg (by omega)]
          exact r6 i hi)⟩
theorem DF_3 {q1 : Option Nat} {p2 b2 s2 : Int32} {t2 f2 a2 l2 : Nat → Int32} {q2 : Option Nat} {p3 b3 s3 : Int32} {t3 f3 a3 l3 : Nat → Int32} {q3 : Option Nat} {p4 b4 s4 : Int32} {t4 f4 a4 l4 : Nat → Int32} (hL : LegR M holds oneIn fear mutiny tens kind nerve friendsOf fearTimes weight rr) (hN : NowR M (30 * n2) present braced seed tenOf feared angerOf lotsOf levels) (hs : sub_men present M) (h4 : rr 4 = nI T) (hT : 0 ≤ T) (hT3 : T ≤ 3) (hw : ways = nI A) (hg : good = nI Gd) (hG : Gd ≤ A) (h1 : sM = lN A) (h2 : gM = lN Gd) : ∃ A' Gd', A + 1 ≤ A' ∧ A' ≤ A + 2 ^ po0 present tenOf ∧ Gd' ≤ A' ∧ (D_X5_drawFrom_3 (nI T) x2 x3 ways present angerOf mutiny braced fear weight nerve fearTimes feared holds good tenOf q1 p2 b2 seed s2 t2 f2 a2 lotsOf l2 q2 p3 b3 s3 t3 f3 a3 l3 q3 p4 b4 s4 t4 f4 a4 l4 oneIn friendsOf l).1 = nI A' ∧ (D_X5_drawFrom_3 (nI T) x2 x3 ways present angerOf mutiny braced fear weight nerve fearTimes feared holds good tenOf q1 p2 b2 seed s2 t2 f2 a2 lotsOf l2 q2 p3 b3 s3 t3 f3 a3 l3 q3 p4 b4 s4 t4 f4 a4 l4 oneIn friendsOf l).2.1 = nI Gd' ∧ (D_X12_tryLots_3 x2 n2 rr x3 levels 0 (rr 2) (-1) sM dM mM gM rS mR wO).2.2.1 = lN A' ∧ (D_X12_tryLots_3 x2 n2 rr x3 levels 0 (rr 2) (-1) sM dM mM gM rS mR wO).2.2.2.2.2.1 = lN Gd' ∧ ∀ i, i < 30 * (n2 + 1) → (D_X12_tryLots_3 x2 n2 rr x3 levels 0 (rr 2) (-1) sM dM mM gM rS mR wO).2.2.2.2.2.2.2 i = levels i := by
  have hM := hL.M8
  by_cases hTt : T = 0
  · obtain ⟨Gd', g1, g2, g3, g4⟩ := cw_rel (x3 := x3) (dM := dM) (mM := mM) (rS := rS) (mR := mR) (wO := wO) hL hN hs hw hg hG h1 h2
    unfold D_X5_drawFrom_3 D_X12_tryLots_3 D_X5_drawFrom_3_a1 D_X12_tryLots_3_a1
    rw [h4, hTt, if_pos (show (0 : Int32) = nI 0 from rfl), if_pos (show (0 : Int32) = nI 0 from rfl), g2]
    exact ⟨A + 1, Gd', Nat.le_refl _, Nat.add_le_add_left (Nat.one_le_two_pow) A, g1, rfl, rfl, g3, g4, fun _ _ => rfl⟩
  · have hne : ¬ (0 : Int32) = nI T := fun h => by
      have := (nI_eq (a := 0) (b := T) (by omega) (by omega)).mp h
      omega
    have h40 : ¬ rr 4 = 0 := fun h => by
      rw [h4] at h
      have := (nI_eq (b := 0) (by omega) (by omega)).mp h
      omega
    have hpon : po1 present tenOf ≤ po0 present tenOf := by
      unfold po0; omega
    unfold D_X5_drawFrom_3 D_X12_tryLots_3
    rw [if_neg hne, h4, if_neg hne, ← show D_X11_has x2 0 = D_X12_hasBit x2 0 from has_eq x2 (k := 0) (by omega)]
    by_cases hmen : (if D_X11_has x2 0 = 0 then 0 else D_X6_menOf 0 present tenOf : Int32) = 0
    · -- no LOT of this ten
      rw [if_pos hmen]
      unfold D_X5_drawFrom_3_a3 D_X5_drawFrom_3_a2 D_X6_copyFrom D_X12_tryLots_3_a2 D_X12_tryLots_3_a3
      dsimp only
      have hsame : ∀ k, k < 8 → va_cpy tenOf t2 0 0 8 k = tenOf k := fun k hk => cpy_v _ _ hk
      obtain ⟨A', Gd', q1, q2, q3, q4, q5, q6, q7, q8⟩ := DF_2 (x2 := x2) (x3 := x3) (dM := dM) (mM := mM) (rS := rS) (mR := mR) (wO := wO) hL (NowR_cpy (t2 := t2) (f2 := f2) (an2 := a2) (l2 := l2) hM hN) hs h4 (by omega) hT3 hw hg hG h1 h2
      have hle : po1 present (va_cpy tenOf t2 0 0 8) ≤ po1 present tenOf := by
        exact Nat.add_le_add (menOf_mono (fun _ _ h => h) hsame) (menOf_mono (fun _ _ h => h) hsame)
      have hb : A' ≤ A + 2 ^ po0 present tenOf := Nat.le_trans q2 (Nat.add_le_add_left (Nat.pow_le_pow_right (by decide) (by omega)) A)
      by_cases hh : D_X11_has x2 0 = 0
      · rw [if_pos hh]
        exact ⟨A', Gd', q1, hb, q3, q4, q5, q6, q7, q8⟩
      · have hm0 : D_X12_inTen (30 * n2) 0 rr levels = 0 := by
          rw [if_neg (show ¬ D_X11_has x2 0 = 0 from hh), men_rel hL hN hs] at hmen
          exact hmen
        rw [if_neg hh, if_pos hm0]
        exact ⟨A', Gd', q1, hb, q3, q4, q5, q6, q7, q8⟩
    · have hh : ¬ D_X11_has x2 0 = 0 := fun h => hmen (by rw [if_pos (show D_X11_has x2 0 = 0 from h)])
      rw [if_neg hmen, if_neg hh]
      rw [if_neg (show ¬ D_X11_has x2 0 = 0 from hh)] at hmen
      obtain ⟨m, b', m1, m2, c1, c2, c3, e1, e2, e3, e4⟩ := lot_facts_o hL hN hs h40 hmen
      rw [if_neg (show ¬ D_X12_inTen (30 * n2) 0 rr levels = 0 by rw [e3]; exact nI_ne0 m2 (by omega))]
      have hA : sc m b' (m + 1) = chN (ct (D_X6_menOf 0 present tenOf)) b' := by rw [e1, pcn_all m m1]; exact sc_all m m1 b' c2
      have hcc : ct (D_X6_menOf 0 present tenOf) ≤ 8 := by rw [e1]; exact ct_le (nat_sm m1)
      have hA1 : 1 ≤ sc m b' (m + 1) := by rw [hA]; exact (chN_all _ (by omega) b' c2 (by rw [e1]; exact c3)).2
      have hA2 : sc m b' (m + 1) ≤ 2 ^ ct (D_X6_menOf 0 present tenOf) := by rw [hA]; exact chN_2 _ (by omega) b' c2
      have key := lots_loop (m := m) (b := b') (B := 2 ^ po1 present tenOf) (A0 := A) (Gd0 := Gd) (L := 30 * (n2 + 1)) (lev := levels) m1 c1 (by omega) (f := st_X5_drawFrom_3_110 (nI T) x2 x3 present angerOf mutiny braced fear weight nerve fearTimes feared holds tenOf seed lotsOf oneIn friendsOf l) (F := fun k s => ((D_X5_drawFrom_3_a6 (nI T) x2 x3 present angerOf mutiny braced fear weight nerve fearTimes feared holds tenOf seed lotsOf oneIn friendsOf l k s).1, (D_X5_drawFrom_3_a6 (nI T) x2 x3 present angerOf mutiny braced fear weight nerve fearTimes feared holds tenOf seed lotsOf oneIn friendsOf l k s).2.1, some l, (D_X5_drawFrom_3_a5 present angerOf braced feared tenOf seed lotsOf friendsOf k s).1, (D_X5_drawFrom_3_a4 present angerOf braced feared tenOf seed lotsOf s).2.1, (D_X5_drawFrom_3_a4 present angerOf braced feared tenOf seed lotsOf s).2.2.1, (D_X5_drawFrom_3_a4 present angerOf braced feared tenOf seed lotsOf s).2.2.2.1, (D_X5_drawFrom_3_a5 present angerOf braced feared tenOf seed lotsOf friendsOf k s).2.2.1, (D_X5_drawFrom_3_a5 present angerOf braced feared tenOf seed lotsOf friendsOf k s).2.2.2, (D_X5_drawFrom_3_a5 present angerOf braced feared tenOf seed lotsOf friendsOf k s).2.1, (D_X5_drawFrom_3_a6 (nI T) x2 x3 present angerOf mutiny braced fear weight nerve fearTimes feared holds tenOf seed lotsOf oneIn friendsOf l k s).2.2.2.2.2.2.2.2.2.1, (D_X5_drawFrom_3_a6 (nI T) x2 x3 present angerOf mutiny braced fear weight nerve fearTimes feared holds tenOf seed lotsOf oneIn friendsOf l k s).2.2.1, (D_X5_drawFrom_3_a6 (nI T) x2 x3 present angerOf mutiny braced fear weight nerve fearTimes feared holds tenOf seed lotsOf oneIn friendsOf l k s).2.2.2.1, (D_X5_drawFrom_3_a6 (nI T) x2 x3 present angerOf mutiny braced fear weight nerve fearTimes feared holds tenOf seed lotsOf oneIn friendsOf l k s).2.2.2.2.1, (D_X5_drawFrom_3_a6 (nI T) x2 x3 present angerOf mutiny braced fear weight nerve fearTimes feared holds tenOf seed lotsOf oneIn friendsOf l k s).2.2.2.2.2.1, (D_X5_drawFrom_3_a6 (nI T) x2 x3 present angerOf mutiny braced fear weight nerve fearTimes feared holds tenOf seed lotsOf oneIn friendsOf l k s).2.2.2.2.2.2.1, (D_X5_drawFrom_3_a6 (nI T) x2 x3 present angerOf mutiny braced fear weight nerve fearTimes feared holds tenOf seed lotsOf oneIn friendsOf l k s).2.2.2.2.2.2.2.1, (D_X5_drawFrom_3_a6 (nI T) x2 x3 present angerOf mutiny braced fear weight nerve fearTimes feared holds tenOf seed lotsOf oneIn friendsOf l k s).2.2.2.2.2.2.2.2.1, (D_X5_drawFrom_3_a6 (nI T) x2 x3 present angerOf mutiny braced fear weight nerve fearTimes feared holds tenOf seed lotsOf oneIn friendsOf l k s).2.2.2.2.2.2.2.2.2.2.2.2.2.2.2.2.2, (D_X5_drawFrom_3_a6 (nI T) x2 x3 present angerOf mutiny braced fear weight nerve fearTimes feared holds tenOf seed lotsOf oneIn friendsOf l k s).2.2.2.2.2.2.2.2.2.2.1, (D_X5_drawFrom_3_a6 (nI T) x2 x3 present angerOf mutiny braced fear weight nerve fearTimes feared holds tenOf seed lotsOf oneIn friendsOf l k s).2.2.2.2.2.2.2.2.2.2.2.1, (D_X5_drawFrom_3_a6 (nI T) x2 x3 present angerOf mutiny braced fear weight nerve fearTimes feared holds tenOf seed lotsOf oneIn friendsOf l k s).2.2.2.2.2.2.2.2.2.2.2.2.1, (D_X5_drawFrom_3_a6 (nI T) x2 x3 present angerOf mutiny braced fear weight nerve fearTimes feared holds tenOf seed lotsOf oneIn friendsOf l k s).2.2.2.2.2.2.2.2.2.2.2.2.2.1, (D_X5_drawFrom_3_a6 (nI T) x2 x3 present angerOf mutiny braced fear weight nerve fearTimes feared holds tenOf seed lotsOf oneIn friendsOf l k s).2.2.2.2.2.2.2.2.2.2.2.2.2.2.1, (D_X5_drawFrom_3_a6 (nI T) x2 x3 present angerOf mutiny braced fear weight nerve fearTimes feared holds tenOf seed lotsOf oneIn friendsOf l k s).2.2.2.2.2.2.2.2.2.2.2.2.2.2.2.1, (D_X5_drawFrom_3_a6 (nI T) x2 x3 present angerOf mutiny braced fear weight nerve fearTimes feared holds tenOf seed lotsOf oneIn friendsOf l k s).2.2.2.2.2.2.2.2.2.2.2.2.2.2.2.2.1)) (g := st_X12_tryLots_3_76 x2 n2 rr x3 levels 0 (rr 2) (-1)) (Gf := fun k s => ((D_X12_tryLots_3_a4 x2 n2 rr x3 0 (rr 2) (-1) k s).2.2.2.2.2.2.2, (D_X12_tryLots_3_a4 x2 n2 rr x3 0 (rr 2) (-1) k s).2.2.1, (D_X12_tryLots_3_a4 x2 n2 rr x3 0 (rr 2) (-1) k s).2.2.2.1, (D_X12_tryLots_3_a4 x2 n2 rr x3 0 (rr 2) (-1) k s).2.2.2.2.1, (D_X12_tryLots_3_a4 x2 n2 rr x3 0 (rr 2) (-1) k s).2.2.2.2.2.1, (D_X12_tryLots_3_a4 x2 n2 rr x3 0 (rr 2) (-1) k s).2.2.2.2.2.2.1, (D_X12_tryLots_3_a4 x2 n2 rr x3 0 (rr 2) (-1) k s).1, (D_X12_tryLots_3_a4 x2 n2 rr x3 0 (rr 2) (-1) k s).2.1)) (fun k s => ?_) (fun k t => ?_) (fun k s t A Gd hk hR => ?_) (s := (ways, good, q1, p2, b2, s2, t2, f2, a2, l2, q2, p3, b3, s3, t3, f3, a3, l3, q3, p4, b4, s4, t4, f4, a4, l4)) (t := (levels, sM, dM, mM, gM, rS, mR, wO)) ⟨hG, hw, hg, h1, h2, fun _ _ => rfl⟩
      · obtain ⟨A', Gd', k1, k2, k3, k4, k5, k6, k7, k8⟩ := key
        unfold D_X5_drawFrom_3_l1 D_X12_tryLots_3_l1
        rw [if_neg (show ¬ D_X11_has x2 0 = 0 from hh), e1, e3, to_nI (by omega), show am_to (nI m) 1 = m by unfold am_to; rw [nI_toInt (by omega)]; omega]
        refine ⟨A', Gd', by omega, ?_, k3, k4, k5, k6, k7, k8⟩
        have hmul : sc m b' (m + 1) * 2 ^ po1 present tenOf ≤ 2 ^ po0 present tenOf := by
          have : 2 ^ po0 present tenOf = 2 ^ ct (D_X6_menOf 0 present tenOf) * 2 ^ po1 present tenOf := by rw [← Nat.pow_add]; rfl
          rw [this]
          exact Nat.mul_le_mul_right _ hA2
        omega
      · show D_X5_drawFrom_3_j1 (nI T) x2 x3 present angerOf mutiny braced fear weight nerve fearTimes feared holds tenOf seed lotsOf oneIn friendsOf l k s = _
        unfold D_X5_drawFrom_3_j1
        rw [if_neg (show ¬ D_X11_has x2 0 = 0 from hh), e1, e2]
      · show D_X12_tryLots_3_j1 x2 n2 rr x3 levels 0 (rr 2) (-1) k t = _
        unfold D_X12_tryLots_3_j1
        rw [e3, e4]
      · obtain ⟨r1, r2, r3, r4, r5, r6⟩ := hR
        obtain ⟨Y, hY⟩ : ∃ Y, D_X6_takeAway 0 (nI (k + 1)) present (va_cpy lotsOf s.2.2.2.2.2.2.2.2.2.1 0 0 3) (va_cpy feared s.2.2.2.2.2.2.2.1 0 0 8) (va_cpy tenOf s.2.2.2.2.2.2.1 0 0 8) (va_cpy angerOf s.2.2.2.2.2.2.2.2.1 0 0 8) friendsOf = Y := ⟨_, rfl⟩
        have hN2 : NowR M (30 * n2 + 30) present braced seed (va_cpy tenOf s.2.2.2.2.2.2.1 0 0 8) (va_cpy feared s.2.2.2.2.2.2.2.1 0 0 8) (va_cpy angerOf s.2.2.2.2.2.2.2.2.1 0 0 8) (va_cpy lotsOf s.2.2.2.2.2.2.2.2.2.1 0 0 3) (D_X12_copy_eq (30 * n2) (30 * n2 + 30) 30 t.1) := NowR_cpy hM (NowR_row (o := 30 * n2) (row := levels) hM hN fun i hi => by
          rw [copy_eq_v (by omega) (by omega), if_pos (by omega), show 30 * n2 + (30 * n2 + 30 + i - (30 * n2 + 30)) = 30 * n2 + i by omega]
          exact r6 _ (by omega))
        obtain ⟨row2, hrow⟩ : ∃ z, D_X12_draws (30 * n2 + 30) 0 (nI (k + 1)) (D_X12_copy_eq (30 * n2) (30 * n2 + 30) 30 t.1) rr = z := ⟨_, rfl⟩
        obtain ⟨y1, y2, y3, -, -, -, -, y8⟩ := sv_step hL hN2 hs (by omega) 0 hY hrow
        have hYp : Y.1 = present &&& (nI (k + 1) ^^^ (-1)) := (draws_rel hM hL.r5 hs (fun m hm => hL.fr hm) hL.fsm (by omega) hN2 hY).2.2
        unfold D_X5_drawFrom_3_a6 D_X5_drawFrom_3_a5 D_X5_drawFrom_3_a4 D_X6_copyFrom D_X12_tryLots_3_a4
        dsimp only
        rw [hY, hrow]
        obtain ⟨A', Gd', q1, q2, q3, q4, q5, q6, q7, q8⟩ := DF_2 (n2 := n2 + 1) (x2 := x2) (x3 := x3) (dM := t.2.2.1) (mM := t.2.2.2.1) (rS := t.2.2.2.2.2.1) (mR := t.2.2.2.2.2.2.1) (wO := t.2.2.2.2.2.2.2) hL (show NowR M (30 * (n2 + 1)) Y.1 braced seed _ Y.2.2.1 Y.2.2.2 Y.2.1 row2 from y1) y2 h4 (by omega) hT3 r2 r3 r1 r4 r5
        have hle : po1 Y.1 (va_cpy tenOf s.2.2.2.2.2.2.1 0 0 8) ≤ po1 present tenOf := by
          have hsame : ∀ k, k < 8 → va_cpy tenOf s.2.2.2.2.2.2.1 0 0 8 k = tenOf k := fun k hk => cpy_v _ _ hk
          have hsub : ∀ k, k < 8 → bt Y.1 k = true → bt present k = true := fun k hk h => by
            rw [hYp, b_and, Bool.and_eq_true] at h
            exact h.1
          exact Nat.add_le_add (menOf_mono hsub hsame) (menOf_mono hsub hsame)
        exact ⟨A', Gd', q1, Nat.le_trans q2 (Nat.add_le_add_left (Nat.pow_le_pow_right (by decide) hle) A), q3, q4, q5, q6, q7, fun i hi => Eq.trans (q8 i (by omega)) (by
          rw [y8 i (Or.inl (by omega)), copy_eq_v (by omega) (by omega), if_neg (by omega)]
          exact r6 i hi)⟩
end ORDER
