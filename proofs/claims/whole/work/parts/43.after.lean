/-! SETS, DRAWN, HOLDSAFTER, MUTINYAFTER, RUNSAFTER, WORSTSET -/
def beN (c n : Nat) : Nat := if c / n = 0 then 1 else c / n
theorem beansN_1 : ∀ c, c < 8 → ∀ n, n < 5 → beN (c + 1) (n + 2) < 5 ∧ 1 ≤ beN (c + 1) (n + 2) ∧ beN (c + 1) (n + 2) ≤ c + 1 := by decide +kernel
theorem beansN_2 : ∀ c, c < 8 → ∀ n, n < 5 → (if nI (c + 1) = 0 then (0 : Int32) else if 1 ≤ nI (n + 2) then (if 1 < nI (c + 1) / nI (n + 2) then nI (c + 1) / nI (n + 2) else 1) else 0) = nI (beN (c + 1) (n + 2)) := by decide +kernel
theorem beansN_all {c n : Nat} (hc : c < 9) (hn : n < 7) (h1 : 1 ≤ c) (h2 : 2 ≤ n) : beN c n < 5 ∧ 1 ≤ beN c n ∧ beN c n ≤ c ∧ (if nI c = 0 then (0 : Int32) else if 1 ≤ nI n then (if 1 < nI c / nI n then nI c / nI n else 1) else 0) = nI (beN c n) := by
  obtain ⟨c, rfl⟩ : ∃ m, c = m + 1 := ⟨c - 1, by omega⟩
  obtain ⟨n, rfl⟩ : ∃ m, n = m + 2 := ⟨n - 2, by omega⟩
  obtain ⟨a1, a2, a3⟩ := beansN_1 c (by omega) n (by omega)
  exact ⟨a1, a2, a3, beansN_2 c (by omega) n (by omega)⟩
theorem menOf_bt {t present : Int32} {tenOf : Nat → Int32} {k : Nat} (hk : k < 8) : bt (D_X6_menOf t present tenOf) k = (bt present k && decide (tenOf k = t)) := by
  unfold D_X6_menOf D_X6_menOf_l1
  refine (set_fo (c := fun k => bt present k && decide (tenOf k = t)) (f := st_X6_menOf_4 t present tenOf) (fun k s hk => ?_)).2 k hk
  unfold st_X6_menOf_4
  cases hb : bt present k with
  | false => rw [if_pos ((has0 (by omega)).mpr hb)]; rfl
  | true =>
    rw [if_neg (fun h => by rw [has0 (by omega), hb] at h; cases h)]
    by_cases h2 : tenOf k = t
    · rw [if_pos h2, decide_eq_true h2]; rfl
    · rw [if_neg h2, decide_eq_false h2]; rfl
section AFTER
variable {M : Nat} {holds oneIn fear mutiny tens present braced seed x0 hl a b c : Int32} {kind nerve friendsOf fearTimes weight rr tenOf feared angerOf lotsOf st : Nat → Int32}
variable {ptr : Option Nat} {p2 b2 s2 : Int32} {t2 f2 an2 l2 : Nat → Int32} {l : Nat}
variable {x1 x2 all held mutinous running worst sT mR wO men : Int32} {upper lower sM dM mM gM rS : Int64} {levels : Nat → Int32}
theorem lot_facts (hL : LegR M holds oneIn fear mutiny tens kind nerve friendsOf fearTimes weight rr) (hN : NowR M 0 present braced seed tenOf feared angerOf lotsOf st) (hs : sub_men present M) (h4 : ¬ rr 4 = 0) {t : Int32} (hm : ¬ D_X6_menOf t present tenOf = 0) : ∃ m b, m < 256 ∧ 0 < m ∧ 0 < b ∧ b < 5 ∧ b ≤ ct (nI m) ∧ D_X6_menOf t present tenOf = nI m ∧ D_X6_beansOf t present tenOf oneIn = nI b ∧ (∀ row : Nat → Int32, (∀ i, i < 30 → row i = st i) → D_X12_inTen 0 t rr row = nI m) ∧ (∀ row : Nat → Int32, (∀ i, i < 30 → row i = st i) → D_X12_beansOf 0 t rr row = nI b) := by
  have hM := hL.M8
  have hsm := sub_sm hM (menOf_sub (tenOf := tenOf) (t := t) hM hs)
  obtain ⟨m, hm1, hm2⟩ := sm_nat hsm
  have hm0 : 0 < m := by
    rcases Nat.eq_zero_or_pos m with h | h
    · rw [h] at hm2; exact absurd hm2 hm
    · exact h
  obtain ⟨n, n1, n2, n3⟩ := hL.one.resolve_left h4
  have hc := ct_le hsm
  have hc1 : 1 ≤ ct (D_X6_menOf t present tenOf) := by
    rcases Nat.eq_zero_or_pos (ct (D_X6_menOf t present tenOf)) with h | h
    · exact absurd (ct_0 hsm h) hm
    · exact h
  obtain ⟨b1, b2, b3, b4⟩ := beansN_all (Nat.lt_succ_of_le hc) n2 hc1 n1
  generalize beN (ct (D_X6_menOf t present tenOf)) n = b at b1 b2 b3 b4
  have hbe : D_X6_beansOf t present tenOf oneIn = nI b := by
    unfold D_X6_beansOf
    rw [bc_ct hsm, hL.h1, n3]
    exact b4
  refine ⟨m, b, hm1, hm0, b2, b1, by rw [← hm2]; exact b3, hm2, hbe, fun row hrow => ?_, fun row hrow => ?_⟩
  · rw [← men_rel hL (NowR_row (o := 0) (row := st) (o' := 0) (row' := row) hM hN fun i hi => by rw [Nat.zero_add]; exact hrow i hi) hs, hm2]
  · rw [← beans_rel hL (NowR_row (o := 0) (row := st) (o' := 0) (row' := row) hM hN fun i hi => by rw [Nat.zero_add]; exact hrow i hi) hs h4, hbe]
theorem lot_why (hL : LegR M holds oneIn fear mutiny tens kind nerve friendsOf fearTimes weight rr) (hN : NowR M 0 present braced seed tenOf feared angerOf lotsOf st) (hs : sub_men present M) (hh : hl = 0 ↔ tens = 0) : (D_X12_lotWhy x0 x1 hl rr a b c st levels sT sM dM mM gM rS mR wO).1 = D_X11_troubleOfLotFrom x0 x1 tens present tenOf ∧ (D_X11_troubleOfLotFrom x0 x1 tens present tenOf = 0 → ∃ n, n < 3 ∧ x0 = nI n ∧ ¬ hl = 0 ∧ ¬ rr 4 = 0 ∧ ¬ D_X6_menOf (nI n) present tenOf = 0 ∧ x1 &&& (present ^^^ (-1)) = 0 ∧ D_X12_lotWhy x0 x1 hl rr a b c st levels sT sM dM mM gM rS mR wO = (0, (D_X12_tryOne n x1 st levels rr).2.1, (D_X12_tryOne n x1 st levels rr).2.2.1, (D_X12_tryOne n x1 st levels rr).2.2.2.1, (D_X12_tryOne n x1 st levels rr).1, (D_X12_tryOne n x1 st levels rr).2.2.2.2.1, (D_X12_tryOne n x1 st levels rr).2.2.2.2.2.1, (D_X12_tryOne n x1 st levels rr).2.2.2.2.2.2.1, (D_X12_tryOne n x1 st levels rr).2.2.2.2.2.2.2)) := by
  obtain ⟨T, hT, hT4⟩ := hL.T3
  have hz : hl = 0 → T = 0 := fun h => by
    have := hh.mp h
    rw [hL.h4, hT4] at this
    exact (nI_eq (b := 0) (by omega) (by omega)).mp this
  obtain ⟨w1, w2⟩ := start_why (x0 := x1) (rr := rr) (a := a) (b := b) (c := c) hL.M8 hh hN.1 hs
  unfold D_X12_lotWhy D_X12_lotWhy_a3 D_X12_lotWhy_a1 D_X11_troubleOfLotFrom D_X11_troubleOfLotFrom_a1
  have htt : D_X11_troubleOfTen x0 tens = D_X11_troubleOfTen x0 (nI T) := by rw [hL.h4, hT4]
  rw [htt, w1]
  rcases isTen_spec (x0 := x0) hT hT4 hz with ⟨h1, h2⟩ | ⟨h1, h2, h3, m, h4, h5⟩
  · rw [h1, h2, if_pos rfl, firstOfN (t := 1) (by decide), firstOfN (t := 1) (by decide)]
    exact ⟨rfl, fun h => absurd h (by decide)⟩
  · have h40 : ¬ rr 4 = 0 := fun h => h3 (hh.mpr (by rw [hL.h4]; exact h))
    rw [h1, h2, if_neg (show ¬ (1 : Int32) = 0 by decide), firstOf0]
    by_cases h0 : D_X11_troubleOfStart x1 tens present = 0
    · obtain ⟨e, hx, -⟩ := w2 h0
      rw [if_pos h0, h0, firstOf0]
      have hl1 : D_X11_troubleOfLot x0 tens present tenOf = if D_X6_menOf x0 present tenOf = 0 then 6 else 0 := by
        unfold D_X11_troubleOfLot D_X11_troubleOfLot_j1
        rw [htt, h2, if_pos rfl]
      have ht1 : D_X12_tenWhy x0 hl rr st = if D_X6_menOf x0 present tenOf = 0 then 6 else 0 := by
        unfold D_X12_tenWhy
        rw [h1, if_neg (show ¬ (1 : Int32) = 0 by decide), men_rel hL hN hs]
      rw [hl1, ht1]
      by_cases hm : D_X6_menOf x0 present tenOf = 0
      · rw [if_pos hm, if_neg (show ¬ (6 : Int32) = 0 by decide)]
        exact ⟨rfl, fun h => absurd h (by decide)⟩
      · rw [if_neg hm, if_pos rfl]
        refine ⟨rfl, fun _ => ⟨m, by omega, h5, h3, h40, by rw [← h5]; exact hm, hx, ?_⟩⟩
        unfold D_X12_lotWhy_a2
        rw [h5, nI_clamp (by omega)]
    · rw [if_neg h0, firstOfN h0]
      obtain ⟨w3, -⟩ := start_why (x0 := x1) (rr := rr) (a := (D_X12_startWhy x1 hl rr a b c st).2.1) (b := (D_X12_startWhy x1 hl rr a b c st).2.2.1) (c := (D_X12_startWhy x1 hl rr a b c st).2.2.2) hL.M8 hh hN.1 hs
      exact ⟨w3, fun h => absurd h h0⟩
theorem lot_main (hL : LegR M holds oneIn fear mutiny tens kind nerve friendsOf fearTimes weight rr) (hN : NowR M 0 present braced seed tenOf feared angerOf lotsOf st) (hs : sub_men present M) (hh : hl = 0 ↔ tens = 0) (h : D_X11_troubleOfLotFrom x0 x1 tens present tenOf = 0) {S : Int32 × Int32 × Int32 × Int32 × Int32 × Int32 × Int32 × Int32 × (Nat → Int32) × (Nat → Int32) × (Nat → Int32) × (Nat → Int32) × Option Nat} (hS : D_X5_survey x0.toNatClampNeg x1 present tenOf oneIn ptr p2 braced b2 seed s2 t2 feared f2 angerOf an2 lotsOf l2 friendsOf fear weight nerve fearTimes holds mutiny l = S) {Q : Int32 × Int32 × Int32 × Int32 × (Nat → Int32) × Int32 × Int32 × Int32 × Int64 × Int64 × Int64 × Int64 × Int64} (hQ : D_X12_lotWhy x0 x1 hl rr a b c st levels sT sM dM mM gM rS mR wO = Q) : ∃ A H U W, 0 < A ∧ A ≤ 256 ∧ H ≤ A ∧ U ≤ A ∧ W ≤ 8 * A ∧ S.1 = nI A ∧ S.2.1 = nI H ∧ S.2.2.1 = nI U ∧ S.2.2.2.1 = nI W ∧ S.2.2.2.2.1 = Q.2.2.2.2.2.2.2.1 ∧ Q.2.2.2.2.2.2.2.2.1 = lN A ∧ Q.2.2.2.2.2.2.2.2.2.1 = lN H ∧ Q.2.2.2.2.2.2.2.2.2.2.1 = lN U ∧ Q.2.2.2.2.2.2.2.2.2.2.2.2 = lN W := by
  obtain ⟨n, n3, hx, hl0, h4, hm, hp, hq⟩ := (lot_why (x0 := x0) (x1 := x1) (a := a) (b := b) (c := c) (levels := levels) (sT := sT) (sM := sM) (dM := dM) (mM := mM) (gM := gM) (rS := rS) (mR := mR) (wO := wO) hL hN hs hh).2 h
  obtain ⟨m, b', m1, m2, c1, c2, c3, e1, e2, e3, e4⟩ := lot_facts hL hN hs h4 hm
  rw [hQ] at hq
  rw [hx, nI_clamp (by omega)] at hS
  have key := survey_l (n := n) (ptr := ptr) (p2 := p2) (b2 := b2) (s2 := s2) (t2 := t2) (f2 := f2) (an2 := an2) (l2 := l2) (l := l) (levels := levels) x1 hL hN hs n3 m1 m2 e1 c1 (by omega) e2 e3 e4
  rw [hq, ← hS]
  obtain ⟨r1, r2, ⟨H, rH, r3, r4⟩, ⟨U, rU, r5, r6⟩, ⟨W, rW, r7, r8⟩, r9, r10, r11⟩ := key
  have hA : sc m b' (m + 1) = chN (pcn m) b' := sc_all m m1 b' c2
  have hA1 : 1 ≤ chN (pcn m) b' := by
    rw [pcn_all m m1] at c3
    have := ct_le (nat_sm m1)
    rw [pcn_all m m1] at this
    exact (chN_all _ (by omega) b' c2 c3).2
  refine ⟨sc m b' (m + 1), H, U, W, by omega, by have := sc_le m b' (m + 1); omega, rH, rU, rW, r1, r3, r5, r7, ?_, r2, r4, r6, r8⟩
  rcases r10 with ⟨g, -⟩ | g
  · omega
  · exact g
theorem pub_holdsAfter (hL : LegR M holds oneIn fear mutiny tens kind nerve friendsOf fearTimes weight rr) (hN : NowR M 0 present braced seed tenOf feared angerOf lotsOf st) (hs : sub_men present M) (hh : hl = 0 ↔ tens = 0) : (D_X11_holdsAfter x0 x1 x2 tens present tenOf all held mutinous running worst oneIn ptr p2 braced b2 seed s2 t2 feared f2 angerOf an2 lotsOf l2 friendsOf fear weight nerve fearTimes holds mutiny upper lower l).1 = (D_X12_holdsAfter x0 x1 x2 hl rr a b c st levels sT sM dM mM gM rS mR wO).1 ∧ (D_X11_holdsAfter x0 x1 x2 tens present tenOf all held mutinous running worst oneIn ptr p2 braced b2 seed s2 t2 feared f2 angerOf an2 lotsOf l2 friendsOf fear weight nerve fearTimes holds mutiny upper lower l).2.1 = (D_X12_holdsAfter x0 x1 x2 hl rr a b c st levels sT sM dM mM gM rS mR wO).2.2.1 := by
  obtain ⟨w1, -⟩ := lot_why (x0 := x0) (x1 := x1) (a := a) (b := b) (c := c) (levels := levels) (sT := sT) (sM := sM) (dM := dM) (mM := mM) (gM := gM) (rS := rS) (mR := mR) (wO := wO) hL hN hs hh
  obtain ⟨S, hS⟩ : ∃ S, D_X5_survey x0.toNatClampNeg x1 present tenOf oneIn ptr p2 braced b2 seed s2 t2 feared f2 angerOf an2 lotsOf l2 friendsOf fear weight nerve fearTimes holds mutiny l = S := ⟨_, rfl⟩
  obtain ⟨Q, hQ⟩ : ∃ Q, D_X12_lotWhy x0 x1 hl rr a b c st levels sT sM dM mM gM rS mR wO = Q := ⟨_, rfl⟩
  unfold D_X11_holdsAfter D_X12_holdsAfter D_X11_holdsAfter_a4 D_X11_holdsAfter_a3 D_X11_holdsAfter_a2 D_X11_holdsAfter_a1 D_X12_holdsAfter_j1 D_X12_holdsAfter_a4 D_X12_holdsAfter_a3 D_X12_holdsAfter_a2
  rw [hS, hQ]
  rw [hQ] at w1
  dsimp only
  rw [w1]
  by_cases h0 : D_X11_troubleOfLotFrom x0 x1 tens present tenOf = 0
  · obtain ⟨A, H, U, W, a1, a2, a3, a4, a5, s1, s2, s3, s4, s5, q1, q2, q3, q4⟩ := lot_main hL hN hs hh h0 hS hQ
    rw [if_pos ((refused1 _).mpr h0), if_pos h0, refused2, h0]
    dsimp only
    rw [s1, s2, q1, q2, nI_l (by omega), nI_l (by omega), put_fr (by omega) (by omega) a1, lowest_fr (by omega) (by omega) a1]
    exact ⟨rfl, rfl⟩
  · rw [if_neg (fun g => h0 ((refused1 _).mp g)), if_neg h0, refused2]
    exact ⟨rfl, rfl⟩
theorem pub_runsAfter (hL : LegR M holds oneIn fear mutiny tens kind nerve friendsOf fearTimes weight rr) (hN : NowR M 0 present braced seed tenOf feared angerOf lotsOf st) (hs : sub_men present M) (hh : hl = 0 ↔ tens = 0) : (D_X11_runsAfter x0 x1 x2 tens present tenOf all held mutinous running worst oneIn ptr p2 braced b2 seed s2 t2 feared f2 angerOf an2 lotsOf l2 friendsOf fear weight nerve fearTimes holds mutiny upper lower l).1 = (D_X12_runsAfter x0 x1 x2 hl rr a b c st levels sT sM dM mM gM rS mR wO).1 ∧ (D_X11_runsAfter x0 x1 x2 tens present tenOf all held mutinous running worst oneIn ptr p2 braced b2 seed s2 t2 feared f2 angerOf an2 lotsOf l2 friendsOf fear weight nerve fearTimes holds mutiny upper lower l).2.1 = (D_X12_runsAfter x0 x1 x2 hl rr a b c st levels sT sM dM mM gM rS mR wO).2.2.1 := by
  obtain ⟨w1, -⟩ := lot_why (x0 := x0) (x1 := x1) (a := a) (b := b) (c := c) (levels := levels) (sT := sT) (sM := sM) (dM := dM) (mM := mM) (gM := gM) (rS := rS) (mR := mR) (wO := wO) hL hN hs hh
  obtain ⟨S, hS⟩ : ∃ S, D_X5_survey x0.toNatClampNeg x1 present tenOf oneIn ptr p2 braced b2 seed s2 t2 feared f2 angerOf an2 lotsOf l2 friendsOf fear weight nerve fearTimes holds mutiny l = S := ⟨_, rfl⟩
  obtain ⟨Q, hQ⟩ : ∃ Q, D_X12_lotWhy x0 x1 hl rr a b c st levels sT sM dM mM gM rS mR wO = Q := ⟨_, rfl⟩
  unfold D_X11_runsAfter D_X12_runsAfter D_X11_runsAfter_a4 D_X11_runsAfter_a3 D_X11_runsAfter_a2 D_X11_runsAfter_a1 D_X12_runsAfter_j1 D_X12_runsAfter_a4 D_X12_runsAfter_a3 D_X12_runsAfter_a2
  rw [hS, hQ]
  rw [hQ] at w1
  dsimp only
  rw [w1]
  by_cases h0 : D_X11_troubleOfLotFrom x0 x1 tens present tenOf = 0
  · obtain ⟨A, H, U, W, a1, a2, a3, a4, a5, s1, s2, s3, s4, s5, q1, q2, q3, q4⟩ := lot_main hL hN hs hh h0 hS hQ
    rw [if_pos ((refused1 _).mpr h0), if_pos h0, refused2, h0]
    dsimp only
    rw [s1, s4, q1, q4, nI_l (by omega), nI_l (by omega), put_fr (by omega) (by omega) a1, lowest_fr (by omega) (by omega) a1]
    exact ⟨rfl, rfl⟩
  · rw [if_neg (fun g => h0 ((refused1 _).mp g)), if_neg h0, refused2]
    exact ⟨rfl, rfl⟩
theorem pub_worstSet (hL : LegR M holds oneIn fear mutiny tens kind nerve friendsOf fearTimes weight rr) (hN : NowR M 0 present braced seed tenOf feared angerOf lotsOf st) (hs : sub_men present M) (hh : hl = 0 ↔ tens = 0) : (D_X11_worstSet x0 x1 tens present tenOf all held mutinous running worst oneIn ptr p2 braced b2 seed s2 t2 feared f2 angerOf an2 lotsOf l2 friendsOf fear weight nerve fearTimes holds mutiny l).1 = (D_X12_worstSet x0 x1 hl rr a b c st levels sT sM dM mM gM rS mR wO).1 ∧ (D_X11_worstSet x0 x1 tens present tenOf all held mutinous running worst oneIn ptr p2 braced b2 seed s2 t2 feared f2 angerOf an2 lotsOf l2 friendsOf fear weight nerve fearTimes holds mutiny l).2.1 = (D_X12_worstSet x0 x1 hl rr a b c st levels sT sM dM mM gM rS mR wO).2.2.1 := by
  obtain ⟨w1, -⟩ := lot_why (x0 := x0) (x1 := x1) (a := a) (b := b) (c := c) (levels := levels) (sT := sT) (sM := sM) (dM := dM) (mM := mM) (gM := gM) (rS := rS) (mR := mR) (wO := wO) hL hN hs hh
  obtain ⟨S, hS⟩ : ∃ S, D_X5_survey x0.toNatClampNeg x1 present tenOf oneIn ptr p2 braced b2 seed s2 t2 feared f2 angerOf an2 lotsOf l2 friendsOf fear weight nerve fearTimes holds mutiny l = S := ⟨_, rfl⟩
  obtain ⟨Q, hQ⟩ : ∃ Q, D_X12_lotWhy x0 x1 hl rr a b c st levels sT sM dM mM gM rS mR wO = Q := ⟨_, rfl⟩
  unfold D_X11_worstSet D_X12_worstSet D_X11_worstSet_a2 D_X11_worstSet_a1 D_X12_worstSet_j1 D_X12_worstSet_a3 D_X12_worstSet_a2
  rw [hS, hQ]
  rw [hQ] at w1
  dsimp only
  rw [w1]
  by_cases h0 : D_X11_troubleOfLotFrom x0 x1 tens present tenOf = 0
  · obtain ⟨A, H, U, W, a1, a2, a3, a4, a5, s1, s2, s3, s4, s5, q1, q2, q3, q4⟩ := lot_main hL hN hs hh h0 hS hQ
    rw [if_pos ((refused1 _).mpr h0), if_pos h0, refused2, h0]
    dsimp only
    rw [s5]
    exact ⟨rfl, rfl⟩
  · rw [if_neg (fun g => h0 ((refused1 _).mp g)), if_neg h0, refused2]
    exact ⟨rfl, rfl⟩
theorem lotFrom_0 (hL : LegR M holds oneIn fear mutiny tens kind nerve friendsOf fearTimes weight rr) (hN : NowR M 0 present braced seed tenOf feared angerOf lotsOf st) (hs : sub_men present M) (hh : hl = 0 ↔ tens = 0) : D_X11_troubleOfLotFrom x0 0 tens present tenOf = D_X11_troubleOfLot x0 tens present tenOf := by
  obtain ⟨T, hT, hT4⟩ := hL.T3
  unfold D_X11_troubleOfLotFrom D_X11_troubleOfLotFrom_a1 D_X11_troubleOfLot D_X11_troubleOfLot_j1
  rw [start_0]
  by_cases h : D_X11_troubleOfTen x0 tens = 0
  · rw [h, firstOf0, if_pos rfl]
    have : D_X11_troubleOfLegion tens = 0 := by
      unfold D_X11_troubleOfLegion
      rw [if_neg]
      intro h0
      unfold D_X11_troubleOfTen at h
      by_cases h1 : x0 < 0
      · rw [if_pos h1] at h; exact absurd h (by decide)
      · rw [if_neg h1, h0, if_neg h1] at h; exact absurd h (by decide)
    rw [this, firstOf0]
  · rw [firstOfN h, firstOfN h, if_neg h]
theorem pub_mutinyAfter (hL : LegR M holds oneIn fear mutiny tens kind nerve friendsOf fearTimes weight rr) (hN : NowR M 0 present braced seed tenOf feared angerOf lotsOf st) (hs : sub_men present M) (hh : hl = 0 ↔ tens = 0) : (D_X11_mutinyAfter x0 x2 tens present tenOf all held mutinous running worst oneIn ptr p2 braced b2 seed s2 t2 feared f2 angerOf an2 lotsOf l2 friendsOf fear weight nerve fearTimes holds mutiny upper lower l).1 = (D_X12_mutinyAfter x0 x2 hl rr a b c st levels sT sM dM mM gM rS mR wO).1 ∧ (D_X11_mutinyAfter x0 x2 tens present tenOf all held mutinous running worst oneIn ptr p2 braced b2 seed s2 t2 feared f2 angerOf an2 lotsOf l2 friendsOf fear weight nerve fearTimes holds mutiny upper lower l).2.1 = (D_X12_mutinyAfter x0 x2 hl rr a b c st levels sT sM dM mM gM rS mR wO).2.2.1 := by
  obtain ⟨w1, -⟩ := lot_why (x0 := x0) (x1 := 0) (a := a) (b := b) (c := c) (levels := levels) (sT := sT) (sM := sM) (dM := dM) (mM := mM) (gM := gM) (rS := rS) (mR := mR) (wO := wO) hL hN hs hh
  obtain ⟨S, hS⟩ : ∃ S, D_X5_survey x0.toNatClampNeg 0 present tenOf oneIn ptr p2 braced b2 seed s2 t2 feared f2 angerOf an2 lotsOf l2 friendsOf fear weight nerve fearTimes holds mutiny l = S := ⟨_, rfl⟩
  obtain ⟨Q, hQ⟩ : ∃ Q, D_X12_lotWhy x0 0 hl rr a b c st levels sT sM dM mM gM rS mR wO = Q := ⟨_, rfl⟩
  unfold D_X11_mutinyAfter D_X12_mutinyAfter D_X11_mutinyAfter_a4 D_X11_mutinyAfter_a3 D_X11_mutinyAfter_a2 D_X11_mutinyAfter_a1 D_X12_mutinyAfter_j1 D_X12_mutinyAfter_a4 D_X12_mutinyAfter_a3 D_X12_mutinyAfter_a2
  rw [hS, hQ]
  rw [hQ] at w1
  dsimp only
  rw [w1, ← lotFrom_0 hL hN hs hh]
  by_cases h0 : D_X11_troubleOfLotFrom x0 0 tens present tenOf = 0
  · obtain ⟨A, H, U, W, a1, a2, a3, a4, a5, s1, s2, s3, s4, s5, q1, q2, q3, q4⟩ := lot_main hL hN hs hh h0 hS hQ
    rw [if_pos ((refused1 _).mpr h0), if_pos h0, refused2, h0]
    dsimp only
    rw [s1, s3, q1, q3, nI_l (by omega), nI_l (by omega), put_fr (by omega) (by omega) a1, lowest_fr (by omega) (by omega) a1]
    exact ⟨rfl, rfl⟩
  · rw [if_neg (fun g => h0 ((refused1 _).mp g)), if_neg h0, refused2]
    exact ⟨rfl, rfl⟩
theorem tenWhy_eq (hL : LegR M holds oneIn fear mutiny tens kind nerve friendsOf fearTimes weight rr) (hN : NowR M 0 present braced seed tenOf feared angerOf lotsOf st) (hs : sub_men present M) (hh : hl = 0 ↔ tens = 0) : D_X12_tenWhy x0 hl rr st = D_X11_troubleOfLot x0 tens present tenOf ∧ (D_X11_troubleOfLot x0 tens present tenOf = 0 → ∃ n, n < 3 ∧ x0 = nI n ∧ ¬ hl = 0 ∧ ¬ rr 4 = 0 ∧ ¬ D_X6_menOf (nI n) present tenOf = 0) := by
  obtain ⟨T, hT, hT4⟩ := hL.T3
  have hz : hl = 0 → T = 0 := fun h => by
    have := hh.mp h
    rw [hL.h4, hT4] at this
    exact (nI_eq (b := 0) (by omega) (by omega)).mp this
  have htt : D_X11_troubleOfTen x0 tens = D_X11_troubleOfTen x0 (nI T) := by rw [hL.h4, hT4]
  unfold D_X12_tenWhy D_X11_troubleOfLot D_X11_troubleOfLot_j1
  rw [htt]
  rcases isTen_spec (x0 := x0) hT hT4 hz with ⟨h1, h2⟩ | ⟨h1, h2, h3, m, h4, h5⟩
  · rw [h1, h2, if_pos rfl, if_neg (by decide)]
    exact ⟨rfl, fun h => absurd h (by decide)⟩
  · have h40 : ¬ rr 4 = 0 := fun h => h3 (hh.mpr (by rw [hL.h4]; exact h))
    rw [h1, h2, if_neg (show ¬ (1 : Int32) = 0 by decide), if_pos rfl, men_rel hL hN hs]
    by_cases hm : D_X12_inTen 0 x0 rr st = 0
    · rw [if_pos hm]; exact ⟨rfl, fun h => absurd h (by decide)⟩
    · rw [if_neg hm]; exact ⟨rfl, fun _ => ⟨m, by omega, h5, h3, h40, by rw [men_rel hL hN hs, ← h5]; exact hm⟩⟩
theorem pub_sets (hL : LegR M holds oneIn fear mutiny tens kind nerve friendsOf fearTimes weight rr) (hN : NowR M 0 present braced seed tenOf feared angerOf lotsOf st) (hs : sub_men present M) (hh : hl = 0 ↔ tens = 0) : D_X11_sets x0 tens present tenOf oneIn = ((D_X12_sets x0 hl rr st levels a b c sT sM dM mM gM rS mR wO).1, (D_X12_sets x0 hl rr st levels a b c sT sM dM mM gM rS mR wO).2.2.1) := by
  obtain ⟨w1, w2⟩ := tenWhy_eq (x0 := x0) hL hN hs hh
  unfold D_X11_sets D_X12_sets D_X11_sets_a1 D_X11_sets_a2 D_X12_sets_a2 D_X12_sets_a3
  rw [w1]
  by_cases h0 : D_X11_troubleOfLot x0 tens present tenOf = 0
  · rw [if_pos ((refused1 _).mpr h0), if_pos h0, refused2, h0]
    obtain ⟨n, n3, hx, hl0, h4, hm⟩ := w2 h0
    obtain ⟨m, b', m1, m2, b1, b2, b3, e1, e2, e3, e4⟩ := lot_facts hL hN hs h4 hm
    have key := survey_l (n := n) (ptr := none) (p2 := 0) (b2 := 0) (s2 := 0) (t2 := st) (f2 := st) (an2 := st) (l2 := st) (l := 0) (levels := levels) 0 hL hN hs n3 m1 m2 e1 b1 (by omega) e2 e3 e4
    obtain ⟨r1, r2, -⟩ := key
    rw [hx, nI_clamp (by omega), e1, e2]
    unfold D_X12_tryOne
    dsimp only
    rw [r2, sc_all m m1 b' b2, lN_i, bc_ct (nat_sm m1)]
    have := ct_le (nat_sm m1)
    rw [pcn_all m m1] at b3 this ⊢
    rw [(chN_all _ (by omega) b' b2 b3).1]
    rfl
  · rw [if_neg (fun g => h0 ((refused1 _).mp g)), if_neg h0, refused2]
    rfl
theorem present_why (hM : M ≤ 8) (hr : rr 5 = nI M) (hz : hl = 0 → M = 0) (hp : present = st (0 + 27)) : (D_X11_troubleOfPresent x0 (nI M) present = 1 ∧ (D_X12_isMan x0 hl rr = 0 ∨ (¬ D_X12_isMan x0 hl rr = 0 ∧ D_X12_hasBit (st 27) x0 = 0))) ∨ (D_X11_troubleOfPresent x0 (nI M) present = 0 ∧ ¬ D_X12_isMan x0 hl rr = 0 ∧ ¬ D_X12_hasBit (st 27) x0 = 0 ∧ ¬ hl = 0 ∧ ∃ m, m < M ∧ x0 = nI m ∧ bt present m = true) := by
  unfold D_X11_troubleOfPresent
  rw [← show present = st 27 from hp]
  rcases isMan_spec (x0 := x0) hM hr hz with ⟨h1, h2⟩ | ⟨h1, h2, h3, m, h4, h5⟩
  · rw [h1, h2, if_neg (by decide)]; exact Or.inl ⟨rfl, Or.inl rfl⟩
  · rw [h1, h2, if_pos rfl, h5, has_eq present (by omega)]
    have h10 : ¬ (1 : Int32) = 0 := by decide
    by_cases hb : D_X12_hasBit present (nI m) = 0
    · rw [if_pos hb]; exact Or.inl ⟨rfl, Or.inr ⟨h10, hb⟩⟩
    · rw [if_neg hb]
      refine Or.inr ⟨rfl, h10, hb, h3, m, h4, rfl, ?_⟩
      cases e : bt present m with
      | true => rfl
      | false => exact absurd ((hasBit0 (by omega)).mpr e) hb
theorem pub_drawn (hL : LegR M holds oneIn fear mutiny tens kind nerve friendsOf fearTimes weight rr) (hN : NowR M 0 present braced seed tenOf feared angerOf lotsOf st) (hs : sub_men present M) (hh : hl = 0 ↔ tens = 0) (hm : men = nI M) (hz : hl = 0 → M = 0) : (D_X11_drawn x0 x1 men present tenOf oneIn upper lower).1 = (D_X12_drawn x0 x1 hl rr st).1 ∧ (D_X11_drawn x0 x1 men present tenOf oneIn upper lower).2.1 = (D_X12_drawn x0 x1 hl rr st).2.2 := by
  have hM := hL.M8
  unfold D_X11_drawn D_X12_drawn D_X11_drawn_a1
  rw [hm]
  rcases present_why (x0 := x0) hM hL.r5 hz hN.1 with ⟨e1, e2⟩ | ⟨e1, e2, e3, e4, m, m1, m2, m3⟩
  · rw [e1, if_neg (fun g => absurd ((refused1 _).mp g) (by decide)), refused2]
    rcases e2 with e2 | ⟨e2, e3⟩
    · rw [if_pos e2]; exact ⟨rfl, rfl⟩
    · rw [if_neg e2, if_pos e3]; exact ⟨rfl, rfl⟩
  · rw [e1, if_pos ((refused1 _).mpr rfl), refused2, if_neg e2, if_neg e3]
    refine ⟨?_, rfl⟩
    show D_X11_drawn_a3 x0 x1 present tenOf oneIn = D_X12_drawn_a4 x0 x1 rr st
    unfold D_X11_drawn_a3 D_X11_drawn_a2 D_X12_drawn_a4
    have ht : tenOf m = st m := by have := hN.2.2.2.1 m m1; rw [Nat.zero_add] at this; exact this
    rw [m2, nI_clamp (by omega), ← ht]
    have hmen : ¬ D_X6_menOf (tenOf m) present tenOf = 0 := fun h => by
      have hb := menOf_bt (t := tenOf m) (tenOf := tenOf) (present := present) (k := m) (by omega)
      rw [h, b_0, m3] at hb
      simp at hb
    obtain ⟨mm, b', q1, q2, b1, b2, b3, g1, g2, g3, g4⟩ := lot_facts hL hN hs (fun h => e4 (hh.mpr (by rw [hL.h4]; exact h))) hmen
    rw [g2, g1, g3 st (fun _ _ => rfl), g4 st (fun _ _ => rfl), bc_on (nat_sm q1), on_ct (nat_sm q1)]
    have hc := ct_le (nat_sm q1)
    rw [nI_l (by omega), nI_l (by omega), put_fr (by omega) (by omega) (by omega), lowest_fr (by omega) (by omega) (by omega)]
end AFTER
