/-! GUARDS of the class's methods, second half -/
theorem common_ne {x y : Int64} : ¬ D_X7_common x y = 0 := by
  unfold D_X7_common
  by_cases h : 0 ≤ lg_cmp (D_X7_common_m1 x y) 1
  · rw [if_pos h]
    rw [lg_cmp_ge, Int64.le_iff_toInt_le, show (1 : Int64).toInt = 1 by decide] at h
    intro e
    rw [e, show (0 : Int64).toInt = 0 by decide] at h
    omega
  · rw [if_neg h]; decide
theorem G_put {x y : Int64} : G_X7_put x y := ⟨fun _ _ => G_eu, fun _ _ => common_ne⟩
theorem G_times {x y u l : Int64} : G_X7_times x y u l := G_put
theorem G_divide {a b c d : Int64} : G_X7_divideBy a b c d := ⟨G_eu, G_eu, common_ne, common_ne, G_put⟩
theorem menOf_sm (t p : Int32) (tenOf : Nat → Int32) : sm (D_X6_menOf t p tenOf) := by
  unfold D_X6_menOf D_X6_menOf_l1
  refine (set_fo (c := fun k => bt p k && decide (tenOf k = t)) (f := st_X6_menOf_4 t p tenOf) (fun k s hk => ?_)).1
  unfold st_X6_menOf_4
  cases hb : bt p k with
  | false => rw [if_pos ((has0 (by omega)).mpr hb)]; rfl
  | true =>
    rw [if_neg (fun h => by rw [has0 (by omega), hb] at h; cases h)]
    by_cases h2 : tenOf k = t
    · rw [if_pos h2, decide_eq_true h2]; rfl
    · rw [if_neg h2, decide_eq_false h2]; rfl
theorem to1_sm {x : Int32} (h : sm x) : am_to x 1 + 1 < 2 ^ 31 := by
  obtain ⟨n, n1, n2⟩ := sm_nat h
  rw [n2]; unfold am_to; rw [nI_toInt (by omega)]; omega
theorem sel_sm {c t p : Int32} {tenOf : Nat → Int32} : sm (if c = 0 then 0 else D_X6_menOf t p tenOf : Int32) := by
  by_cases h : c = 0
  · rw [if_pos h]; exact sm_0
  · rw [if_neg h]; exact menOf_sm _ _ _
theorem be_lt (x : Int32) : am_be x 0 < 2 ^ 31 := by
  unfold am_be
  exact Nat.lt_of_le_of_lt (Nat.sub_le _ _) (am_cl_lt x)
theorem lt3 {k : Nat} (hk : k < 2 ^ 31) (h : ¬ (3 : Int32) ≤ nI k) : k < 3 := by
  rcases Nat.lt_or_ge k 3 with g | g
  · exact g
  · exact absurd (nI_le (a := 3) g hk) h
section GC2
variable {M : Nat} {holds oneIn fear mutiny tens present braced seed x0 hl a b c : Int32} {kind nerve friendsOf fearTimes weight rr tenOf feared angerOf lotsOf st : Nat → Int32}
variable {x1 x2 x3 ways good men top acts images shaken beans black fav draws most : Int32} {drawer wb mt ten best bytes : Nat → Int32} {l : Nat} {u1 l1 u2 l2 : Int64}
theorem gc_countWay {x : Int32} : G_X5_countWay x present angerOf mutiny braced fear weight nerve fearTimes feared := fun _ => G_runFrom
theorem gd_0 : G_X5_drawFrom_0 x1 x3 present angerOf mutiny braced fear weight nerve fearTimes feared := ⟨fun _ => gc_countWay, fun _ => gc_countWay⟩
theorem gd_1 {q1 : Option Nat} {p2 b2 s2 : Int32} {t2 f2 a2 l2 : Nat → Int32} : G_X5_drawFrom_1 x1 x2 x3 ways present angerOf mutiny braced fear weight nerve fearTimes feared holds good tenOf q1 p2 b2 seed s2 t2 f2 a2 lotsOf l2 oneIn friendsOf l := ⟨fun _ => gc_countWay, fun _ _ => gd_0, fun _ _ => gc_beans, fun _ _ => to1_sm sel_sm, fun _ _ _ _ _ _ => ⟨fun _ _ => G_take (by decide), fun _ _ => gd_0⟩⟩
theorem gd_2 {q1 : Option Nat} {p2 b2 s2 : Int32} {t2 f2 a2 l2 : Nat → Int32} {q2 : Option Nat} {p3 b3 s3 : Int32} {t3 f3 a3 l3 : Nat → Int32} : G_X5_drawFrom_2 x1 x2 x3 ways present angerOf mutiny braced fear weight nerve fearTimes feared holds good tenOf q1 p2 b2 seed s2 t2 f2 a2 lotsOf l2 q2 p3 b3 s3 t3 f3 a3 l3 oneIn friendsOf l := ⟨fun _ => gc_countWay, fun _ _ => gd_1, fun _ _ => gc_beans, fun _ _ => to1_sm sel_sm, fun _ _ _ _ _ _ => ⟨fun _ _ => G_take (by decide), fun _ _ => gd_1⟩⟩
theorem gd_3 {q1 : Option Nat} {p2 b2 s2 : Int32} {t2 f2 a2 l2 : Nat → Int32} {q2 : Option Nat} {p3 b3 s3 : Int32} {t3 f3 a3 l3 : Nat → Int32} {q3 : Option Nat} {p4 b4 s4 : Int32} {t4 f4 a4 l4 : Nat → Int32} : G_X5_drawFrom_3 x1 x2 x3 ways present angerOf mutiny braced fear weight nerve fearTimes feared holds good tenOf q1 p2 b2 seed s2 t2 f2 a2 lotsOf l2 q2 p3 b3 s3 t3 f3 a3 l3 q3 p4 b4 s4 t4 f4 a4 l4 oneIn friendsOf l := ⟨fun _ => gc_countWay, fun _ _ => gd_2, fun _ _ => gc_beans, fun _ _ => to1_sm sel_sm, fun _ _ _ _ _ _ => ⟨fun _ _ => G_take (by decide), fun _ _ => gd_2⟩⟩
theorem gc_choose {q0 q2 q3 q4 : Option Nat} {p1 b1 s1 p3 b3 s3 p4 b4 s4 p5 b5 s5 : Int32} {t1 f1 a1 l1 t3 f3 a3 l3 t4 f4 a4 l4 t5 f5 a5 l5 : Nat → Int32} : G_X5_chooseTens x1 tens good ways q0 present p1 braced b1 seed s1 tenOf t1 feared f1 angerOf a1 lotsOf l1 mutiny fear weight nerve fearTimes holds q2 p3 b3 s3 t3 f3 a3 l3 q3 p4 b4 s4 t4 f4 a4 l4 q4 p5 b5 s5 t5 f5 a5 l5 oneIn friendsOf l := fun _ _ _ _ => gd_3
theorem gc_order {q0 q2 q3 q4 : Option Nat} {p1 b1 s1 p3 b3 s3 p4 b4 s4 p5 b5 s5 : Int32} {t1 f1 a1 l1 t3 f3 a3 l3 t4 f4 a4 l4 t5 f5 a5 l5 : Nat → Int32} : G_X11_order x0 tens present good ways q0 p1 braced b1 seed s1 tenOf t1 feared f1 angerOf a1 lotsOf l1 mutiny fear weight nerve fearTimes holds q2 p3 b3 s3 t3 f3 a3 l3 q3 p4 b4 s4 t4 f4 a4 l4 q4 p5 b5 s5 t5 f5 a5 l5 oneIn friendsOf l := fun _ => gc_choose
theorem gc_orderOdds {q0 q2 q3 q4 : Option Nat} {p1 b1 s1 p3 b3 s3 p4 b4 s4 p5 b5 s5 : Int32} {t1 f1 a1 l1 t3 f3 a3 l3 t4 f4 a4 l4 t5 f5 a5 l5 : Nat → Int32} : G_X11_orderOdds x0 tens present good ways q0 p1 braced b1 seed s1 tenOf t1 feared f1 angerOf a1 lotsOf l1 mutiny fear weight nerve fearTimes holds q2 p3 b3 s3 t3 f3 a3 l3 q3 p4 b4 s4 t4 f4 a4 l4 q4 p5 b5 s5 t5 f5 a5 l5 oneIn friendsOf l := ⟨fun _ => gc_choose, fun _ => G_put⟩
theorem ga_1 {x few : Int32} {ten best mt : Nat → Int32} : G_X9_assignFrom_1 x few present ten best tens mt most friendsOf := fun _ _ k _ hk _ => ⟨fun h => lt3 (Nat.lt_trans hk (be_lt _)) h, fun h _ => lt3 (Nat.lt_trans hk (be_lt _)) h⟩
theorem ga_2 {x few : Int32} {ten best mt : Nat → Int32} : G_X9_assignFrom_2 x few present ten best tens mt most friendsOf := ⟨fun _ _ => ga_1, fun _ _ k _ hk _ => ⟨fun h => lt3 (Nat.lt_trans hk (be_lt _)) h, fun h _ => lt3 (Nat.lt_trans hk (be_lt _)) h, fun _ _ => ga_1⟩⟩
theorem ga_3 {x few : Int32} {ten best mt : Nat → Int32} : G_X9_assignFrom_3 x few present ten best tens mt most friendsOf := ⟨fun _ _ => ga_2, fun _ _ k _ hk _ => ⟨fun h => lt3 (Nat.lt_trans hk (be_lt _)) h, fun h _ => lt3 (Nat.lt_trans hk (be_lt _)) h, fun _ _ => ga_2⟩⟩
theorem ga_4 {x few : Int32} {ten best mt : Nat → Int32} : G_X9_assignFrom_4 x few present ten best tens mt most friendsOf := ⟨fun _ _ => ga_3, fun _ _ k _ hk _ => ⟨fun h => lt3 (Nat.lt_trans hk (be_lt _)) h, fun h _ => lt3 (Nat.lt_trans hk (be_lt _)) h, fun _ _ => ga_3⟩⟩
theorem ga_5 {x few : Int32} {ten best mt : Nat → Int32} : G_X9_assignFrom_5 x few present ten best tens mt most friendsOf := ⟨fun _ _ => ga_4, fun _ _ k _ hk _ => ⟨fun h => lt3 (Nat.lt_trans hk (be_lt _)) h, fun h _ => lt3 (Nat.lt_trans hk (be_lt _)) h, fun _ _ => ga_4⟩⟩
theorem ga_6 {x few : Int32} {ten best mt : Nat → Int32} : G_X9_assignFrom_6 x few present ten best tens mt most friendsOf := ⟨fun _ _ => ga_5, fun _ _ k _ hk _ => ⟨fun h => lt3 (Nat.lt_trans hk (be_lt _)) h, fun h _ => lt3 (Nat.lt_trans hk (be_lt _)) h, fun _ _ => ga_5⟩⟩
theorem ga_7 {x few : Int32} {ten best mt : Nat → Int32} : G_X9_assignFrom_7 x few present ten best tens mt most friendsOf := ⟨fun _ _ => ga_6, fun _ _ k _ hk _ => ⟨fun h => lt3 (Nat.lt_trans hk (be_lt _)) h, fun h _ => lt3 (Nat.lt_trans hk (be_lt _)) h, fun _ _ => ga_6⟩⟩
theorem ga_8 {x few : Int32} {ten best mt : Nat → Int32} : G_X9_assignFrom_8 x few present ten best tens mt most friendsOf := ⟨fun _ _ => ga_7, fun _ _ k _ hk _ => ⟨fun h => lt3 (Nat.lt_trans hk (be_lt _)) h, fun h _ => lt3 (Nat.lt_trans hk (be_lt _)) h, fun _ _ => ga_7⟩⟩
theorem gc_solve : G_X9_solve tens present mt ten best friendsOf := ⟨fun h => fun e => h (by rw [e]; decide), fun _ => ga_8⟩
theorem gc_friends : G_X11_friends tens present mt ten best friendsOf := fun _ => gc_solve
theorem gc_newTen (hM : M ≤ 8) (hm : men = nI M) : G_X11_newTen x0 men present tens mt ten best friendsOf := by
  have key : (D_X11_newTen_a1 x0 men present).1 = 0 → ¬ x0 < 0 ∧ x0.toNatClampNeg < 8 := fun h => by
    have h1 := (refused1 _).mp h
    unfold D_X11_troubleOfPresent at h1
    rw [hm] at h1
    by_cases h0 : D_X11_troubleOfMan x0 (nI M) = 0
    · obtain ⟨m, m1, m2⟩ := tm_0 h0
      exact clamp_lt (n := 8) (by omega) (by omega) m2
    · rw [if_neg h0] at h1; exact absurd h1 (by decide)
  exact ⟨fun _ => gc_solve, fun h => (key h).1, fun h => (key h).2⟩
theorem gc_weigh {m k a b c : Int32} : G_X2_weighDraw m k a b u1 l1 c u2 l2 fav := ⟨G_times, fun _ => G_times, fun _ _ => G_times, fun _ _ => G_times⟩
theorem gc_drawAll (hE : HelR rr beans black shaken fav draws drawer wb) : G_X2_drawAll beans black draws drawer wb fav := by
  refine ⟨G_put, fun k s hk _ => ⟨?_, gc_weigh⟩⟩
  rcases hE with ⟨-, -, -, e4⟩ | ⟨B, K, S, D, -, -, -, -, d6, -, -, -, -, -, -, -, -, e8, -⟩
  · rw [e4, show am_be 0 0 = 0 by decide] at hk; exact absurd hk (Nat.not_lt_zero k)
  · rw [e8, be_nI (by omega)] at hk; omega
theorem gc_hasDrawn (hE : HelR rr beans black shaken fav draws drawer wb) : G_X2_hasDrawn x0 draws drawer := by
  intro k s hk _
  show k < 6
  rcases hE with ⟨-, -, -, e4⟩ | ⟨B, K, S, D, -, -, -, -, d6, -, -, -, -, -, -, -, -, e8, -⟩
  · rw [e4, show am_be 0 0 = 0 by decide] at hk; exact absurd hk (Nat.not_lt_zero k)
  · rw [e8, be_nI (by omega)] at hk; omega
theorem gc_doubt (hE : HelR rr beans black shaken fav draws drawer wb) : G_X11_doubt tens beans black draws drawer wb fav shaken := ⟨fun _ => gc_drawAll hE, fun _ => G_put⟩
theorem gc_honest (hE : HelR rr beans black shaken fav draws drawer wb) : G_X11_honest tens beans black draws drawer wb fav := fun _ => gc_drawAll hE
theorem gc_doubtIf (hE : HelR rr beans black shaken fav draws drawer wb) : G_X11_doubtIf x0 x1 men draws drawer tens beans black wb fav shaken := ⟨fun _ => gc_hasDrawn hE, fun _ => gc_drawAll hE, fun _ => gc_weigh, fun _ => G_put⟩
theorem gc_next (hE : HelR rr beans black shaken fav draws drawer wb) : G_X11_next x0 men draws drawer tens beans black wb fav shaken := ⟨fun _ => gc_hasDrawn hE, fun _ => ⟨gc_drawAll hE, G_put, gc_weigh, G_put, G_divide⟩⟩
theorem take_n {n : Nat} (hn : n < 2 ^ 31) : G_X6_takeAway n := fun _ h => (nI_ltI (b := 3) hn (by omega)).mp h
theorem gc_drawOne {x : Int32} : G_X6_drawOne x := fun h => h
theorem gc_drawLot {n : Nat} {s : Int32} {p : Int32} {tn : Nat → Int32} (hn : n < 2 ^ 31) : G_X6_drawLot n p tn oneIn s := ⟨gc_beans, fun _ _ _ _ => gc_drawOne, take_n hn⟩
theorem gc_fight {t2 f2 a2 l2 d2 : Nat → Int32} {x y : Int32} {T : Nat} (hT : T ≤ 3) (ht : tens = nI T) : G_X0_fight x y present braced seed tenOf t2 feared f2 angerOf a2 lotsOf l2 d2 tens mutiny oneIn friendsOf fear weight nerve fearTimes holds := by
  intro k s hk _
  have hkl : k < 2 ^ 31 := Nat.lt_trans hk (be_lt _)
  have hj : ¬ tens ≤ 0 → jrm (nI k) tens = nI (k % T) ∧ k % T < 2 ^ 31 := fun h => by
    rw [ht]
    exact ⟨i_rem hkl (by omega), Nat.lt_of_le_of_lt (Nat.mod_le k T) hkl⟩
  refine ⟨fun h _ => fun e => h (by rw [e]; decide), fun h _ => ?_, fun h _ => ?_, fun _ => gc_drawOne, fun _ => G_runFrom⟩
  · rw [(hj h).1]; exact nI_pos (hj h).2
  · rw [(hj h).1, nI_clamp (hj h).2]
    exact fun _ => gc_drawLot (hj h).2
theorem gc_wars {t2 f2 a2 l2 d2 : Nat → Int32} {x y : Int32} {T : Nat} (hT : T ≤ 3) (ht : tens = nI T) : G_X11_wars x y tens present braced seed tenOf t2 feared f2 angerOf a2 lotsOf l2 d2 mutiny oneIn friendsOf fear weight nerve fearTimes holds := fun _ => gc_fight hT ht
theorem gc_warsLeft {t2 f2 a2 l2 d2 : Nat → Int32} {x y : Int32} {T : Nat} (hT : T ≤ 3) (ht : tens = nI T) : G_X11_warsLeft x y tens present braced seed tenOf t2 feared f2 angerOf a2 lotsOf l2 d2 mutiny oneIn friendsOf fear weight nerve fearTimes holds := fun _ => gc_fight hT ht
theorem gc_warsOf {t2 f2 a2 l2 d2 : Nat → Int32} {x y : Int32} {T : Nat} (hM : M ≤ 8) (hm : men = nI M) (hT : T ≤ 3) (ht : tens = nI T) : G_X11_warsOf x0 x y men present braced seed tenOf t2 feared f2 angerOf a2 lotsOf l2 d2 tens mutiny oneIn friendsOf fear weight nerve fearTimes holds := by
  have key : (D_X11_warsOf_a1 x0 x y men).1 = 0 → ¬ x0 < 0 ∧ x0.toNatClampNeg < 8 := fun h => by
    have h1 := (fo_0 ((refused1 _).mp h)).1
    rw [hm] at h1
    obtain ⟨m, m1, m2⟩ := tm_0 h1
    exact clamp_lt (n := 8) (by omega) (by omega) m2
  exact ⟨fun _ => gc_fight hT ht, fun h => (key h).1, fun h => (key h).2⟩
theorem gc_keep {P : Nat} (hP : P < 16) (h : top = nI P) : G_X3_keep top := clamp_lt hP (by omega) h
theorem gc_lot {P T : Nat} (hP : P < 16) (h : top = nI P) (hT : T ≤ 3) (ht : tens = nI T) : G_X11_lot x0 tens present angerOf mutiny tenOf top seed oneIn := by
  have k := gc_keep hP h
  have key : (D_X11_lot_a3 x0 tens present angerOf mutiny tenOf).1 = 0 → ∃ n, n < T ∧ x0 = nI n := fun h => by
    have h1 := (refused1 _).mp h
    unfold D_X11_lot_a2 D_X11_lot_a1 at h1
    have h2 := (fo_0 (fo_0 h1).1).1
    rw [ht] at h2
    exact tt_0 h2
  refine ⟨k.2, fun _ => k.2, fun _ => k, fun _ => k.2, fun h => ?_, fun h => ?_⟩
  · obtain ⟨n, n1, n2⟩ := key h; exact (clamp_lt n1 (by omega) n2).1
  · obtain ⟨n, n1, n2⟩ := key h; exact gc_drawLot (Nat.lt_of_lt_of_le (clamp_lt n1 (by omega) n2).2 (by omega))
theorem gc_braces {P : Nat} (hP : P < 16) (h : top = nI P) : G_X11_braces x0 x1 men present braced top := by
  have k := gc_keep hP h
  exact ⟨k.2, fun _ => k.2, fun _ _ => k.2, fun _ => k, fun _ => k.2⟩
theorem gc_move {P : Nat} (hP : P < 16) (h : top = nI P) (hM : M ≤ 8) (hm : men = nI M) : G_X11_move x0 x1 men tens present tenOf top := by
  have k := gc_keep hP h
  have key : D_X11_firstOf (D_X11_troubleOfMan x0 men) (D_X11_troubleOfTen x1 tens) = 0 → ¬ x0 < 0 ∧ x0.toNatClampNeg < 8 := fun h => by
    have h1 := (fo_0 h).1
    rw [hm] at h1
    obtain ⟨m, m1, m2⟩ := tm_0 h1
    exact clamp_lt (n := 8) (by omega) (by omega) m2
  have key2 : (D_X11_move_a1 x0 x1 men tens present tenOf).1 = 0 → ¬ x0 < 0 ∧ x0.toNatClampNeg < 8 := fun h => by
    have h1 := (refused1 _).mp h
    unfold D_X11_move_j1 at h1
    by_cases h0 : D_X11_firstOf (D_X11_troubleOfMan x0 men) (D_X11_troubleOfTen x1 tens) = 0
    · exact key h0
    · rw [if_neg h0] at h1; exact absurd h1 h0
  exact ⟨k.2, fun _ => k.2, fun h _ => (key h).1, fun h _ => (key h).2, fun _ => k, fun _ => k.2, fun h => (key2 h).1, fun h => (key2 h).2⟩
theorem gc_undo {P : Nat} (hP : P < 16) (h : top = nI P) : G_X11_undo acts top := by
  have e : jrm (top + 16 - 1) 16 = nI ((P + 15) % 16) := by
    rw [h, show (16 : Int32) = nI 16 from rfl, nI_add, show P + 16 = P + 15 + 1 by omega, nI_prd, i_rem (by omega) (by omega)]
  have k := clamp_lt (n := 16) (Nat.mod_lt (P + 15) (by omega)) (by omega) e
  exact ⟨fun _ => k.1, fun _ => k.2⟩
theorem gc_back {I : Nat} (hI : I ≤ 3) (h : images = nI I) : G_X11_back x0 images := by
  refine ⟨fun h0 _ => h0, fun h0 h1 => ?_⟩
  obtain ⟨j, j1, j2⟩ := nI_of h0
  rw [h, j2] at h1
  rw [j2, nI_clamp j1]
  have := (nI_ltI j1 (by omega)).mp h1
  omega
theorem gc_image {I : Nat} (hI : I < 3) (h : images = nI I) : G_X11_image tens images := by
  have k := clamp_lt hI (by omega) h
  exact ⟨k.2, fun _ => ⟨fun _ => k.1, fun _ => k.2⟩, fun _ => k.2⟩
theorem gc_put {n : Nat} {x : Int32} (hn : n ≤ 996) : G_X11_putBytes x (nI n) bytes := by
  have h : ∀ m, m < 1000 → ¬ (1000 : Int32) ≤ nI m := fun m hm => nI_ge (b := 1000) hm (by omega)
  have j1 : (D_X11_putBytes_j1 x (nI n) bytes).1 = nI (n + 1) := by
    unfold D_X11_putBytes_j1; rw [if_neg (h n (by omega)), nI_1]
  have j2 : (D_X11_putBytes_j2 x (nI n) bytes).1 = nI (n + 2) := by
    unfold D_X11_putBytes_j2; rw [j1, if_neg (h (n + 1) (by omega)), nI_1]
  have j3 : (D_X11_putBytes_j3 x (nI n) bytes).1 = nI (n + 3) := by
    unfold D_X11_putBytes_j3; rw [j2, if_neg (h (n + 2) (by omega)), nI_1]
  unfold G_X11_putBytes
  rw [j1, j2, j3]
  refine ⟨fun _ => nI_pos (by omega), fun _ => ?_, fun _ => nI_pos (by omega), fun _ => ?_, fun _ => nI_pos (by omega), fun _ => ?_, fun _ => nI_pos (by omega), fun _ => ?_⟩
  · rw [nI_clamp (by omega)]; omega
  · rw [nI_clamp (by omega)]; omega
  · rw [nI_clamp (by omega)]; omega
  · rw [nI_clamp (by omega)]; omega
theorem gc_feed {n : Nat} {x0 x1 x2 x3 x4 : Int32} (hn : n ≤ 1000) : G_X11_feed x0 x1 x2 x3 x4 (nI n) bytes := by
  have h980 : nI n ≤ 980 → n ≤ 980 := fun h => (nI_leI (b := 980) (by omega) (by omega)).mp h
  refine ⟨fun h => gc_put (by have := h980 h; omega), fun h => ?_, fun h => ?_, fun h => ?_, fun h => ?_⟩
  · have := h980 h
    unfold D_X11_feed_a1
    rw [put_v x0 (by omega)]
    exact gc_put (by omega)
  · have := h980 h
    unfold D_X11_feed_a2 D_X11_feed_a1
    rw [put_v x0 (by omega)]
    dsimp only
    rw [put_v x1 (by omega)]
    exact gc_put (by omega)
  · have := h980 h
    unfold D_X11_feed_a3 D_X11_feed_a2 D_X11_feed_a1
    rw [put_v x0 (by omega)]
    dsimp only
    rw [put_v x1 (by omega)]
    dsimp only
    rw [put_v x2 (by omega)]
    exact gc_put (by omega)
  · have := h980 h
    unfold D_X11_feed_a4 D_X11_feed_a3 D_X11_feed_a2 D_X11_feed_a1
    rw [put_v x0 (by omega)]
    dsimp only
    rw [put_v x1 (by omega)]
    dsimp only
    rw [put_v x2 (by omega)]
    dsimp only
    rw [put_v x3 (by omega)]
    exact gc_put (by omega)
end GC2
