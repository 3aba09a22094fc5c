/-! ORDER and ORDERODDS -/
theorem pow_all : ∀ T, T < 4 → (1 : Int32) <<< (nI T &&& 31) = nI (2 ^ T) := by decide +kernel
theorem sub_pos {x y : Nat} (hx : x < 2 ^ 30) (hy : y < 2 ^ 30) : (0 < nI x - nI y ↔ y < x) ∧ (nI x - nI y = 0 ↔ x = y) := by
  have h : (nI x - nI y).toInt = (x : Int) - y := by
    rw [Int32.toInt_sub, nI_toInt (by omega), nI_toInt (by omega)]
    exact Int.bmod_eq_of_le (by omega) (by omega)
  constructor
  · rw [Int32.lt_iff_toInt_lt, h, show (0 : Int32).toInt = 0 by decide]; omega
  · rw [← Int32.toInt_inj, h, show (0 : Int32).toInt = 0 by decide]; omega
theorem lsub_cmp {x y : Nat} (hx : x < 2 ^ 30) (hy : y < 2 ^ 30) : (lg_cmp (lN x - lN y) 0 < 0 ↔ x < y) ∧ (lg_cmp (lN x - lN y) 0 = 0 ↔ x = y) := by
  have h : (lN x - lN y).toInt = (x : Int) - y := by
    rw [Int64.toInt_sub, lT (by omega), lT (by omega)]
    exact Int.bmod_eq_of_le (by omega) (by omega)
  constructor
  · rw [lg_cmp_lt, Int64.lt_iff_toInt_lt, h, show (0 : Int64).toInt = 0 by decide]; omega
  · rw [lg_cmp_eq, ← Int64.toInt_inj, h, show (0 : Int64).toInt = 0 by decide]; omega
theorem nI_mul (a b : Nat) : nI a * nI b = nI (a * b) := (Int32.ofNat_mul a b).symm
section CHOOSE
variable {M : Nat} {holds oneIn fear mutiny tens present braced seed x0 hl a b c : Int32} {kind nerve friendsOf fearTimes weight rr tenOf feared angerOf lotsOf st : Nat → Int32}
variable {T : Nat} {levels : Nat → Int32} {x1 good ways mR wO sT fN hE mB p1 b1 s1 p3 b3 s3 p4 b4 s4 p5 b5 s5 bT bG bA : Int32} {sM dM mM gM rS gU gD upper lower : Int64} {l : Nat} {q0 q2 q3 q4 : Option Nat} {t1 f1 a1 l1 t3 f3 a3 l3 t4 f4 a4 l4 t5 f5 a5 l5 : Nat → Int32}
def ch_R (c1 c2 c3 : Int32) (r1 : Int32) (r2 r3 : Int64) : Prop := ∃ G A, G ≤ A ∧ 0 < A ∧ A ≤ 256 ∧ sm r1 ∧ c1 = r1 ∧ c2 = nI G ∧ c3 = nI A ∧ r2 = lN G ∧ r3 = lN A
theorem choose_l (hL : LegR M holds oneIn fear mutiny tens kind nerve friendsOf fearTimes weight rr) (hN : NowR M 0 present braced seed tenOf feared angerOf lotsOf st) (hs : sub_men present M) (h4 : rr 4 = nI T) (hT3 : T ≤ 3) : ch_R (D_X5_chooseTens_l1 x1 tens good ways q0 present p1 braced b1 seed s1 tenOf t1 feared f1 angerOf a1 lotsOf l1 mutiny fear weight nerve fearTimes holds q2 p3 b3 s3 t3 f3 a3 l3 q3 p4 b4 s4 t4 f4 a4 l4 q4 p5 b5 s5 t5 f5 a5 l5 oneIn friendsOf l).1 (D_X5_chooseTens_l1 x1 tens good ways q0 present p1 braced b1 seed s1 tenOf t1 feared f1 angerOf a1 lotsOf l1 mutiny fear weight nerve fearTimes holds q2 p3 b3 s3 t3 f3 a3 l3 q3 p4 b4 s4 t4 f4 a4 l4 q4 p5 b5 s5 t5 f5 a5 l5 oneIn friendsOf l).2.1 (D_X5_chooseTens_l1 x1 tens good ways q0 present p1 braced b1 seed s1 tenOf t1 feared f1 angerOf a1 lotsOf l1 mutiny fear weight nerve fearTimes holds q2 p3 b3 s3 t3 f3 a3 l3 q3 p4 b4 s4 t4 f4 a4 l4 q4 p5 b5 s5 t5 f5 a5 l5 oneIn friendsOf l).2.2.1 (D_X12_orderOf_l1 x1 rr st levels fN hE mB sT sM dM mM gM rS mR wO).1 (D_X12_orderOf_l1 x1 rr st levels fN hE mB sT sM dM mM gM rS mR wO).2.1 (D_X12_orderOf_l1 x1 rr st levels fN hE mB sT sM dM mM gM rS mR wO).2.2.1 := by
  have hM := hL.M8
  have htens : tens = nI T := by rw [hL.h4]; exact h4
  unfold D_X5_chooseTens_l1 D_X12_orderOf_l1
  rw [htens, h4, pow_all T (by omega), be_nI (Nat.lt_of_le_of_lt (Nat.pow_le_pow_right (by decide) hT3) (by decide))]
  have hp8 : 2 ^ T ≤ 8 := Nat.pow_le_pow_right (by decide) hT3
  have hp1 : 0 < 2 ^ T := Nat.pow_pos (by decide)
  generalize 2 ^ T = N at hp8 hp1
  have key := am_fo_relI (f := st_X5_chooseTens_26 x1 (nI T) present braced seed tenOf feared angerOf lotsOf mutiny fear weight nerve fearTimes holds oneIn friendsOf l) (g := st_X12_orderOf_15 x1 rr st) (R := fun k c r => (k = 0 ∧ c.1 = 0 ∧ c.2.1 = -1 ∧ c.2.2.1 = 1 ∧ r.1 = -2) ∨ ch_R c.1 c.2.1 c.2.2.1 r.1 r.2.1 r.2.2.1) (n := N) (s := (0, (-1), 1, good, ways, q0, p1, b1, s1, t1, f1, a1, l1, q2, p3, b3, s3, t3, f3, a3, l3, q3, p4, b4, s4, t4, f4, a4, l4, q4, p5, b5, s5, t5, f5, a5, l5)) (t := ((-2), 0, 1, levels, fN, hE, mB, sT, sM, dM, mM, gM, rS, mR, wO)) (Or.inl ⟨rfl, rfl, rfl, rfl, rfl⟩) fun k s t hk hR => ?_
  · rcases key with ⟨h, -⟩ | h
    · omega
    · exact h
  · refine Or.inr ?_
    show ch_R (D_X5_chooseTens_j1 x1 (nI T) present braced seed tenOf feared angerOf lotsOf mutiny fear weight nerve fearTimes holds oneIn friendsOf l k s).1 (D_X5_chooseTens_j1 x1 (nI T) present braced seed tenOf feared angerOf lotsOf mutiny fear weight nerve fearTimes holds oneIn friendsOf l k s).2.1 (D_X5_chooseTens_j1 x1 (nI T) present braced seed tenOf feared angerOf lotsOf mutiny fear weight nerve fearTimes holds oneIn friendsOf l k s).2.2 (D_X12_orderOf_j1 x1 rr st k t).1 (D_X12_orderOf_j1 x1 rr st k t).2.1 (D_X12_orderOf_j1 x1 rr st k t).2.2
    have hlev : ∀ i, i < 30 → D_X12_copy_ne 0 0 30 st t.2.2.2.1 i = st i := fun i hi => by rw [copy_ne_v (by omega), if_pos (by omega), Nat.zero_add, Nat.sub_zero]
    have ha1 : D_X12_orderOf_a1 x1 rr st t = (D_X12_copy_ne 0 0 30 st t.2.2.2.1, rr 2, (-1), 0, x1, 0, 0, 0, 0, 0, (-1), (-2)) := rfl
    obtain ⟨A, G, q1, q2, q3, q4, q5, q6, q7, -⟩ := DF_3 (n2 := 0) (A := 0) (Gd := 0) (ways := 0) (good := 0) (sM := 0) (gM := 0) (dM := 0) (mM := 0) (rS := 0) (mR := (-1)) (wO := (-2)) (x2 := nI k) (x3 := x1) (levels := D_X12_copy_ne 0 0 30 st t.2.2.2.1) (l := l) (q1 := s.2.2.2.2.2.2.2.2.2.2.2.2.2.1) (p2 := s.2.2.2.2.2.2.2.2.2.2.2.2.2.2.1) (b2 := s.2.2.2.2.2.2.2.2.2.2.2.2.2.2.2.1) (s2 := s.2.2.2.2.2.2.2.2.2.2.2.2.2.2.2.2.1) (t2 := s.2.2.2.2.2.2.2.2.2.2.2.2.2.2.2.2.2.1) (f2 := s.2.2.2.2.2.2.2.2.2.2.2.2.2.2.2.2.2.2.1) (a2 := s.2.2.2.2.2.2.2.2.2.2.2.2.2.2.2.2.2.2.2.1) (l2 := s.2.2.2.2.2.2.2.2.2.2.2.2.2.2.2.2.2.2.2.2.1) (q2 := s.2.2.2.2.2.2.2.2.2.2.2.2.2.2.2.2.2.2.2.2.2.1) (p3 := s.2.2.2.2.2.2.2.2.2.2.2.2.2.2.2.2.2.2.2.2.2.2.1) (b3 := s.2.2.2.2.2.2.2.2.2.2.2.2.2.2.2.2.2.2.2.2.2.2.2.1) (s3 := s.2.2.2.2.2.2.2.2.2.2.2.2.2.2.2.2.2.2.2.2.2.2.2.2.1) (t3 := s.2.2.2.2.2.2.2.2.2.2.2.2.2.2.2.2.2.2.2.2.2.2.2.2.2.1) (f3 := s.2.2.2.2.2.2.2.2.2.2.2.2.2.2.2.2.2.2.2.2.2.2.2.2.2.2.1) (a3 := s.2.2.2.2.2.2.2.2.2.2.2.2.2.2.2.2.2.2.2.2.2.2.2.2.2.2.2.1) (l3 := s.2.2.2.2.2.2.2.2.2.2.2.2.2.2.2.2.2.2.2.2.2.2.2.2.2.2.2.2.1) (q3 := s.2.2.2.2.2.2.2.2.2.2.2.2.2.2.2.2.2.2.2.2.2.2.2.2.2.2.2.2.2.1) (p4 := s.2.2.2.2.2.2.2.2.2.2.2.2.2.2.2.2.2.2.2.2.2.2.2.2.2.2.2.2.2.2.1) (b4 := s.2.2.2.2.2.2.2.2.2.2.2.2.2.2.2.2.2.2.2.2.2.2.2.2.2.2.2.2.2.2.2.1) (s4 := s.2.2.2.2.2.2.2.2.2.2.2.2.2.2.2.2.2.2.2.2.2.2.2.2.2.2.2.2.2.2.2.2.1) (t4 := s.2.2.2.2.2.2.2.2.2.2.2.2.2.2.2.2.2.2.2.2.2.2.2.2.2.2.2.2.2.2.2.2.2.1) (f4 := s.2.2.2.2.2.2.2.2.2.2.2.2.2.2.2.2.2.2.2.2.2.2.2.2.2.2.2.2.2.2.2.2.2.2.1) (a4 := s.2.2.2.2.2.2.2.2.2.2.2.2.2.2.2.2.2.2.2.2.2.2.2.2.2.2.2.2.2.2.2.2.2.2.2.1) (l4 := s.2.2.2.2.2.2.2.2.2.2.2.2.2.2.2.2.2.2.2.2.2.2.2.2.2.2.2.2.2.2.2.2.2.2.2.2) hL (NowR_cpy (t2 := s.2.2.2.2.2.2.2.2.2.1) (f2 := s.2.2.2.2.2.2.2.2.2.2.1) (an2 := s.2.2.2.2.2.2.2.2.2.2.2.1) (l2 := s.2.2.2.2.2.2.2.2.2.2.2.2.1) hM (NowR_row (o := 0) (row := st) (o' := 30 * 0) (row' := D_X12_copy_ne 0 0 30 st t.2.2.2.1) hM hN fun i hi => by rw [Nat.mul_zero, Nat.zero_add]; exact hlev i hi)) hs h4 (Nat.zero_le T) hT3 rfl rfl (Nat.le_refl 0) rfl rfl
    have hA : A ≤ 256 := by
      have := Nat.pow_le_pow_right (n := 2) (by decide) (po0_8 present (va_cpy tenOf s.2.2.2.2.2.2.2.2.2.1 0 0 8))
      rw [show 2 ^ 8 = 256 by rfl] at this
      omega
    unfold D_X5_chooseTens_j1 D_X12_orderOf_j1 D_X5_chooseTens_a2 D_X5_chooseTens_a1 D_X6_copyFrom D_X12_orderOf_a2
    rw [ha1]
    dsimp only
    rw [q4, q5, q6, q7]
    have hsk : sm (nI k) := nat_sm (by omega)
    have hnew : ch_R (nI k) (nI G) (nI A) (nI k) (lN G) (lN A) := ⟨G, A, q3, by omega, hA, hsk, rfl, rfl, rfl, rfl, rfl⟩
    rcases hR with ⟨e0, e1, e2, e3, e4⟩ | ⟨G0, A0, g1, g2, g3, g4, g5, g6, g7, g8, g9⟩
    · rw [e2, e3, if_pos (show t.1 < 0 by rw [e4]; decide), if_pos]
      · exact hnew
      · rw [Int32.mul_one, Int32.neg_mul, Int32.one_mul, Int32.sub_neg, nI_add, show (0 : Int32) = nI 0 from rfl]
        exact nI_lt (by omega) (by omega)
    · have hx : G * A0 < 2 ^ 30 := Nat.lt_of_le_of_lt (Nat.mul_le_mul (Nat.le_trans q3 hA) g3) (by decide)
      have hy : G0 * A < 2 ^ 30 := Nat.lt_of_le_of_lt (Nat.mul_le_mul (Nat.le_trans g1 g3) hA) (by decide)
      rw [g6, g7, g8, g9, nI_mul, nI_mul, lN_mul, lN_mul, if_neg (sm_pos g4), g5]
      obtain ⟨s1, s2⟩ := sub_pos hx hy
      obtain ⟨l1, l2⟩ := lsub_cmp hx hy
      have hold : ch_R t.1 (nI G0) (nI A0) t.1 (lN G0) (lN A0) := ⟨G0, A0, g1, g2, g3, g4, rfl, rfl, rfl, rfl, rfl⟩
      rcases Nat.lt_trichotomy (G * A0) (G0 * A) with h | h | h
      · rw [if_neg (fun g => by have := s1.mp g; omega), if_neg (fun g => by have := s2.mp g; omega), if_pos (l1.mpr h)]
        exact hold
      · have n0 : ¬ 0 < nI (G * A0) - nI (G0 * A) := fun g => by have := s1.mp g; omega
        have n1 : ¬ lg_cmp (lN (G * A0) - lN (G0 * A)) 0 < 0 := fun g => by have := l1.mp g; omega
        rw [if_neg n0, if_pos (s2.mpr h), if_neg n1, if_pos (l2.mpr h), bc_on g4, bc_on hsk]
        by_cases c : D_X12_ones t.1 ≤ D_X12_ones (nI k)
        · rw [if_pos c, if_neg (Int32.not_lt.mpr c)]; exact hold
        · rw [if_neg c, if_pos (Int32.not_le.mp c)]; exact hnew
      · have n1 : ¬ lg_cmp (lN (G * A0) - lN (G0 * A)) 0 < 0 := fun g => by have := l1.mp g; omega
        have n2 : ¬ lg_cmp (lN (G * A0) - lN (G0 * A)) 0 = 0 := fun g => by have := l2.mp g; omega
        rw [if_pos (s1.mpr h), if_neg n1, if_neg n2]
        exact hnew
theorem pub_order (hL : LegR M holds oneIn fear mutiny tens kind nerve friendsOf fearTimes weight rr) (hN : NowR M 0 present braced seed tenOf feared angerOf lotsOf st) (hs : sub_men present M) (hh : hl = 0 ↔ tens = 0) : (D_X11_order x0 tens present bT bG bA good ways q0 p1 braced b1 seed s1 tenOf t1 feared f1 angerOf a1 lotsOf l1 mutiny fear weight nerve fearTimes holds q2 p3 b3 s3 t3 f3 a3 l3 q3 p4 b4 s4 t4 f4 a4 l4 q4 p5 b5 s5 t5 f5 a5 l5 oneIn friendsOf l).1 = (D_X12_order x0 hl rr a b c st gU gD levels sT sM dM mM gM rS mR wO).1 ∧ (D_X11_order x0 tens present bT bG bA good ways q0 p1 braced b1 seed s1 tenOf t1 feared f1 angerOf a1 lotsOf l1 mutiny fear weight nerve fearTimes holds q2 p3 b3 s3 t3 f3 a3 l3 q3 p4 b4 s4 t4 f4 a4 l4 q4 p5 b5 s5 t5 f5 a5 l5 oneIn friendsOf l).2.1 = (D_X12_order x0 hl rr a b c st gU gD levels sT sM dM mM gM rS mR wO).2.2.1 := by
  obtain ⟨T, hT, hT4⟩ := hL.T3
  obtain ⟨w1, w2⟩ := start_why (x0 := x0) (rr := rr) (a := a) (b := b) (c := c) hL.M8 hh hN.1 hs
  unfold D_X11_order D_X12_order D_X12_order_j1 D_X11_order_a1 D_X11_order_a2 D_X12_order_a4 D_X12_order_a3 D_X12_order_a2
  rw [w1, refused2]
  by_cases h0 : D_X11_troubleOfStart x0 tens present = 0
  · rw [if_pos ((refused1 _).mpr h0), if_pos h0, h0]
    dsimp only
    obtain ⟨G, A, g1, g2, g3, g4, g5, g6, g7, g8, g9⟩ := choose_l (x1 := x0) (levels := levels) (good := good) (ways := ways) (sT := sT) (sM := sM) (dM := dM) (mM := mM) (gM := gM) (rS := rS) (mR := mR) (wO := wO) (fN := (D_X12_startWhy x0 hl rr a b c st).2.1) (hE := (D_X12_startWhy x0 hl rr a b c st).2.2.1) (mB := (D_X12_startWhy x0 hl rr a b c st).2.2.2) (q0 := q0) (p1 := p1) (b1 := b1) (s1 := s1) (t1 := t1) (f1 := f1) (a1 := a1) (l1 := l1) (q2 := q2) (p3 := p3) (b3 := b3) (s3 := s3) (t3 := t3) (f3 := f3) (a3 := a3) (l3 := l3) (q3 := q3) (p4 := p4) (b4 := b4) (s4 := s4) (t4 := t4) (f4 := f4) (a4 := a4) (l4 := l4) (q4 := q4) (p5 := p5) (b5 := b5) (s5 := s5) (t5 := t5) (f5 := f5) (a5 := a5) (l5 := l5) (l := l) hL hN hs hT4 hT
    exact ⟨g5, rfl⟩
  · rw [if_neg (fun g => h0 ((refused1 _).mp g)), if_neg h0]
    exact ⟨rfl, rfl⟩
theorem pub_orderOdds (hL : LegR M holds oneIn fear mutiny tens kind nerve friendsOf fearTimes weight rr) (hN : NowR M 0 present braced seed tenOf feared angerOf lotsOf st) (hs : sub_men present M) (hh : hl = 0 ↔ tens = 0) : (D_X11_orderOdds x0 x1 tens present bT bG bA good ways q0 p1 braced b1 seed s1 tenOf t1 feared f1 angerOf a1 lotsOf l1 mutiny fear weight nerve fearTimes holds q2 p3 b3 s3 t3 f3 a3 l3 q3 p4 b4 s4 t4 f4 a4 l4 q4 p5 b5 s5 t5 f5 a5 l5 oneIn friendsOf upper lower l).1 = (D_X12_orderOdds x0 x1 hl rr a b c st gU gD levels sT sM dM mM gM rS mR wO).1 ∧ (D_X11_orderOdds x0 x1 tens present bT bG bA good ways q0 p1 braced b1 seed s1 tenOf t1 feared f1 angerOf a1 lotsOf l1 mutiny fear weight nerve fearTimes holds q2 p3 b3 s3 t3 f3 a3 l3 q3 p4 b4 s4 t4 f4 a4 l4 q4 p5 b5 s5 t5 f5 a5 l5 oneIn friendsOf upper lower l).2.1 = (D_X12_orderOdds x0 x1 hl rr a b c st gU gD levels sT sM dM mM gM rS mR wO).2.2.1 := by
  obtain ⟨T, hT, hT4⟩ := hL.T3
  obtain ⟨w1, w2⟩ := start_why (x0 := x0) (rr := rr) (a := a) (b := b) (c := c) hL.M8 hh hN.1 hs
  unfold D_X11_orderOdds D_X12_orderOdds D_X11_orderOdds_a1 D_X11_orderOdds_a4 D_X11_orderOdds_a3 D_X11_orderOdds_a2 D_X12_orderOdds_a5 D_X12_orderOdds_a4 D_X12_orderOdds_a3 D_X12_orderOdds_a2
  rw [w1, refused2]
  by_cases h0 : D_X11_troubleOfStart x0 tens present = 0
  · rw [if_pos ((refused1 _).mpr h0), if_pos h0, h0]
    dsimp only
    obtain ⟨G, A, g1, g2, g3, g4, g5, g6, g7, g8, g9⟩ := choose_l (x1 := x0) (levels := levels) (good := good) (ways := ways) (sT := sT) (sM := sM) (dM := dM) (mM := mM) (gM := gM) (rS := rS) (mR := mR) (wO := wO) (fN := (D_X12_startWhy x0 hl rr a b c st).2.1) (hE := (D_X12_startWhy x0 hl rr a b c st).2.2.1) (mB := (D_X12_startWhy x0 hl rr a b c st).2.2.2) (q0 := q0) (p1 := p1) (b1 := b1) (s1 := s1) (t1 := t1) (f1 := f1) (a1 := a1) (l1 := l1) (q2 := q2) (p3 := p3) (b3 := b3) (s3 := s3) (t3 := t3) (f3 := f3) (a3 := a3) (l3 := l3) (q3 := q3) (p4 := p4) (b4 := b4) (s4 := s4) (t4 := t4) (f4 := f4) (a4 := a4) (l4 := l4) (q4 := q4) (p5 := p5) (b5 := b5) (s5 := s5) (t5 := t5) (f5 := f5) (a5 := a5) (l5 := l5) (l := l) hL hN hs hT4 hT
    unfold D_X5_chooseTens D_X12_orderOf
    dsimp only
    rw [g6, g7, g8, g9, nI_l (by omega), nI_l (by omega), put_fr (by omega) (by omega) g2, lowest_fr (by omega) (by omega) g2]
    exact ⟨rfl, rfl⟩
  · rw [if_neg (fun g => h0 ((refused1 _).mp g)), if_neg h0]
    exact ⟨rfl, rfl⟩
end CHOOSE
