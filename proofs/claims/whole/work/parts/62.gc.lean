/-! GUARDS of the class's methods -/
section GC
variable {M : Nat} {holds oneIn fear mutiny tens present braced seed x0 hl a b c : Int32} {kind nerve friendsOf fearTimes weight rr tenOf feared angerOf lotsOf st : Nat → Int32}
variable {ptr : Option Nat} {p2 b2 s2 : Int32} {t2 f2 an2 l2 : Nat → Int32} {l : Nat}
variable {x1 x2 men top acts images goneTold amongs : Int32} {pair ofPair with_ : Nat → Int32}
theorem G_runFrom {s : Int32} : G_X6_runFrom s braced fear weight present nerve fearTimes feared := G_run_class
theorem gc_runs : G_X11_runs x0 tens present braced fear weight nerve fearTimes feared := fun _ => G_runFrom
theorem gc_holds : G_X11_holds x0 tens present braced fear weight nerve fearTimes feared := fun _ => G_runFrom
theorem gc_worst : G_X11_worst tens present braced fear weight nerve fearTimes feared := fun _ _ _ _ _ _ => G_runFrom
theorem gc_breaks (hM : M ≤ 8) (hs : sub_men present M) : G_X11_breaks tens present braced fear weight nerve fearTimes feared holds := by
  obtain ⟨p, hp1, hp2, hp⟩ := sub_nat hM hs
  exact ⟨fun _ => by rw [hp, to_nI (by omega)]; omega, fun _ _ _ _ _ _ _ => G_runFrom⟩
theorem gc_brace (hM : M ≤ 8) (hs : sub_men present M) : G_X11_brace x0 tens present braced fear weight nerve fearTimes feared holds := by
  have hsU : sub_men (present &&& (x0 ^^^ (-1)) &&& (braced ^^^ (-1))) M := fun k hk h => by
    rw [b_and, b_and, Bool.and_eq_true, Bool.and_eq_true] at h
    exact hs k hk h.1.1
  obtain ⟨p, hp1, hp2, hp⟩ := sub_nat hM hsU
  exact ⟨fun _ => by rw [hp, to_nI (by omega)]; omega, fun _ _ _ _ _ _ _ => G_run_class⟩
theorem gc_toHearten : G_X11_toHearten x0 tens present braced fear weight nerve fearTimes feared := ⟨fun _ => G_runFrom, fun _ _ _ _ _ _ => G_run_class⟩
theorem gc_fearFor : G_X11_fearFor x0 tens present braced weight nerve fearTimes feared holds := fun _ _ _ _ _ => G_run_class
theorem gc_beans {t : Int32} : G_X6_beansOf t present tenOf oneIn := fun _ h => fun e => by rw [e] at h; exact absurd h (by decide)
theorem tm_0 {M : Nat} {x : Int32} (h : D_X11_troubleOfMan x (nI M) = 0) : ∃ m, m < M ∧ x = nI m := by
  unfold D_X11_troubleOfMan at h
  by_cases h0 : x < 0
  · rw [if_pos h0] at h; exact absurd h (by decide)
  · rw [if_neg h0] at h
    by_cases h1 : x < nI M
    · obtain ⟨j, j1, j2⟩ := nI_of h0
      rw [j2] at h1 ⊢
      by_cases hb : M < 2 ^ 31
      · exact ⟨j, (nI_ltI j1 hb).mp h1, rfl⟩
      · exact ⟨j, by omega, rfl⟩
    · rw [if_neg h1] at h; exact absurd h (by decide)
theorem tt_0 {T : Nat} {x : Int32} (h : D_X11_troubleOfTen x (nI T) = 0) : ∃ m, m < T ∧ x = nI m := tm_0 (M := T) h
theorem fo_0 {a b : Int32} (h : D_X11_firstOf a b = 0) : a = 0 ∧ b = 0 := by
  by_cases h0 : a = 0
  · rw [h0, firstOf0] at h; exact ⟨h0, h⟩
  · rw [firstOfN h0] at h; exact absurd h h0
theorem clamp_lt {x : Int32} {m n : Nat} (h : m < n) (hn : n < 2 ^ 31) (e : x = nI m) : ¬ x < 0 ∧ x.toNatClampNeg < n := by
  rw [e, nI_clamp (by omega)]; exact ⟨nI_pos (by omega), h⟩
theorem in_7 (h : (if x1 < 0 then 1 else if x1 ≤ 7 then D_X11_troubleOfMan x0 men else 1 : Int32) = 0) : D_X11_troubleOfMan x0 men = 0 := by
  by_cases h0 : x1 < 0
  · rw [if_pos h0] at h; exact absurd h (by decide)
  · rw [if_neg h0] at h
    by_cases h1 : x1 ≤ 7
    · rw [if_pos h1] at h; exact h
    · rw [if_neg h1] at h; exact absurd h (by decide)
theorem gc_man (hM : M ≤ 8) (hm : men = nI M) : G_X11_man x0 x1 men := by
  have key : (D_X11_man_a1 x0 x1 men).1 = 0 → ¬ x0 < 0 ∧ x0.toNatClampNeg < 8 := fun h => by
    have h1 := in_7 ((refused1 _).mp h)
    rw [hm] at h1
    obtain ⟨m, m1, m2⟩ := tm_0 h1
    exact clamp_lt (n := 8) (by omega) (by omega) m2
  exact ⟨fun h _ => (key h).1, fun h _ => (key h).2, fun h _ _ => (key h).1, fun h _ _ => (key h).2, fun h _ _ _ => (key h).1, fun h _ _ _ => (key h).2, fun h _ _ _ _ => (key h).1, fun h _ _ _ _ => (key h).2, fun h _ _ _ _ _ => (key h).1, fun h _ _ _ _ _ => (key h).2, fun h _ _ _ _ _ _ => (key h).1, fun h _ _ _ _ _ _ => (key h).2⟩
theorem gc_ten {T : Nat} (hT : T ≤ 3) (ht : tens = nI T) : G_X11_ten x0 x1 tens present tenOf oneIn := by
  have key : (D_X11_ten_a1 x0 x1 tens).1 = 0 → ¬ x0 < 0 ∧ x0.toNatClampNeg < 3 := fun h => by
    have h1 := (refused1 _).mp h
    have h2 : D_X11_troubleOfTen x0 tens = 0 := by
      by_cases c0 : x1 < 0
      · rw [if_pos c0] at h1; exact absurd h1 (by decide)
      · rw [if_neg c0] at h1
        by_cases c1 : x1 ≤ 2
        · rw [if_pos c1] at h1; exact h1
        · rw [if_neg c1] at h1; exact absurd h1 (by decide)
    rw [ht] at h2
    obtain ⟨m, m1, m2⟩ := tt_0 h2
    exact clamp_lt (n := 3) (by omega) (by omega) m2
  exact ⟨fun _ _ _ => gc_beans, fun h _ _ => (key h).1, fun h _ _ => (key h).2⟩
theorem tl_0 (hM : M ≤ 8) {T : Nat} (hT : T ≤ 3) (ht : tens = nI T) (h : D_X11_troubleOfLot x0 tens present tenOf = 0) : ∃ n, n < 3 ∧ x0 = nI n := by
  unfold D_X11_troubleOfLot D_X11_troubleOfLot_j1 at h
  by_cases h0 : D_X11_troubleOfTen x0 tens = 0
  · rw [ht] at h0
    obtain ⟨m, m1, m2⟩ := tt_0 h0
    exact ⟨m, by omega, m2⟩
  · rw [if_neg h0] at h; exact absurd h h0
theorem gc_choices {x y : Int32} (hy : am_be y 0 < 100) : G_X11_choices x y := fun k _ hk _ => nI_ne0 (by omega) (by omega)
theorem beans_lt (hL : LegR M holds oneIn fear mutiny tens kind nerve friendsOf fearTimes weight rr) (hN : NowR M 0 present braced seed tenOf feared angerOf lotsOf st) (hs : sub_men present M) {t : Int32} : am_be (D_X6_beansOf t present tenOf oneIn) 0 < 100 := by
  by_cases hm : D_X6_menOf t present tenOf = 0
  · unfold D_X6_beansOf; rw [hm, if_pos (by decide)]; decide
  · by_cases h4 : rr 4 = 0
    · -- no legion: nobody is there
      have hsm := sub_sm hL.M8 (menOf_sub (tenOf := tenOf) (t := t) hL.M8 hs)
      have hc := ct_le hsm
      unfold D_X6_beansOf
      rw [bc_ct hsm]
      by_cases c1 : nI (ct (D_X6_menOf t present tenOf)) = 0
      · rw [if_pos c1]; decide
      · rw [if_neg c1]
        by_cases c2 : 1 ≤ oneIn
        · rw [if_pos c2]
          obtain ⟨j, j1, j2⟩ := nI_of (x := oneIn) (fun h => by
            rw [Int32.lt_iff_toInt_lt, show (0 : Int32).toInt = 0 by decide] at h
            rw [Int32.le_iff_toInt_le, show (1 : Int32).toInt = 1 by decide] at c2
            omega)
          rw [j2, i_div (by omega) j1]
          by_cases c3 : 1 < nI (ct (D_X6_menOf t present tenOf) / j)
          · rw [if_pos c3, be_nI (Nat.lt_of_le_of_lt (Nat.div_le_self _ _) (by omega))]
            exact Nat.lt_of_le_of_lt (Nat.div_le_self _ _) (by omega)
          · rw [if_neg c3]; decide
        · rw [if_neg c2]; decide
    · obtain ⟨m, b, m1, m2, b1, b2, b3, e1, e2, -⟩ := lot_facts hL hN hs h4 hm
      rw [e2, be_nI (by omega)]; omega
theorem gc_sets (hL : LegR M holds oneIn fear mutiny tens kind nerve friendsOf fearTimes weight rr) (hN : NowR M 0 present braced seed tenOf feared angerOf lotsOf st) (hs : sub_men present M) : G_X11_sets x0 tens present tenOf oneIn := ⟨fun _ => gc_beans, fun _ => gc_choices (beans_lt hL hN hs)⟩
theorem gc_survey (hL : LegR M holds oneIn fear mutiny tens kind nerve friendsOf fearTimes weight rr) (hN : NowR M 0 present braced seed tenOf feared angerOf lotsOf st) (hs : sub_men present M) {n : Nat} (hn : n < 3) : G_X5_survey n x1 present tenOf oneIn ptr p2 braced b2 seed s2 t2 feared f2 angerOf an2 lotsOf l2 friendsOf fear weight nerve fearTimes holds mutiny l := by
  obtain ⟨m, m1, m2⟩ := sm_nat (sub_sm hL.M8 (menOf_sub (tenOf := tenOf) (t := nI n) hL.M8 hs))
  refine ⟨gc_beans, ?_, fun _ _ _ _ => ⟨fun _ _ => G_take hn, fun _ _ => G_run_class⟩⟩
  rw [m2]
  unfold am_to
  rw [nI_toInt (by omega)]
  omega
theorem tlf_0 (hM : M ≤ 8) {T : Nat} (hT : T ≤ 3) (ht : tens = nI T) (h : D_X11_troubleOfLotFrom x0 x1 tens present tenOf = 0) : ∃ n, n < 3 ∧ x0 = nI n := by
  unfold D_X11_troubleOfLotFrom D_X11_troubleOfLotFrom_a1 at h
  exact tl_0 (present := present) (tenOf := tenOf) hM hT ht (fo_0 h).2
theorem gc_worstSet (hL : LegR M holds oneIn fear mutiny tens kind nerve friendsOf fearTimes weight rr) (hN : NowR M 0 present braced seed tenOf feared angerOf lotsOf st) (hs : sub_men present M) : G_X11_worstSet x0 x1 tens present tenOf oneIn ptr p2 braced b2 seed s2 t2 feared f2 angerOf an2 lotsOf l2 friendsOf fear weight nerve fearTimes holds mutiny l := by
  obtain ⟨T, hT, hT4⟩ := hL.T3
  have key : (D_X11_worstSet_a1 x0 x1 tens present tenOf).1 = 0 → ∃ n, n < 3 ∧ x0 = nI n := fun h => tlf_0 hL.M8 hT (by rw [hL.h4, hT4]) ((refused1 _).mp h)
  refine ⟨fun h => ?_, fun h => ?_⟩
  · obtain ⟨n, n1, n2⟩ := key h; exact (clamp_lt n1 (by omega) n2).1
  · obtain ⟨n, n1, n2⟩ := key h; exact gc_survey hL hN hs (clamp_lt n1 (by omega) n2).2
theorem gc_holdsAfter (hL : LegR M holds oneIn fear mutiny tens kind nerve friendsOf fearTimes weight rr) (hN : NowR M 0 present braced seed tenOf feared angerOf lotsOf st) (hs : sub_men present M) (hh : hl = 0 ↔ tens = 0) : G_X11_holdsAfter x0 x1 tens present tenOf oneIn ptr p2 braced b2 seed s2 t2 feared f2 angerOf an2 lotsOf l2 friendsOf fear weight nerve fearTimes holds mutiny l := by
  obtain ⟨T, hT, hT4⟩ := hL.T3
  have key : (D_X11_holdsAfter_a1 x0 x1 tens present tenOf).1 = 0 → ∃ n, n < 3 ∧ x0 = nI n := fun h => tlf_0 hL.M8 hT (by rw [hL.h4, hT4]) ((refused1 _).mp h)
  refine ⟨fun h => ?_, fun h => ?_, fun h => ?_⟩
  · obtain ⟨n, n1, n2⟩ := key h; exact (clamp_lt n1 (by omega) n2).1
  · obtain ⟨n, n1, n2⟩ := key h; exact gc_survey hL hN hs (clamp_lt n1 (by omega) n2).2
  · obtain ⟨A, H, U, W, a1, a2, a3, a4, a5, s1, s2, s3, s4, -⟩ := lot_main (a := 0) (b := 0) (c := 0) (levels := st) (sT := 0) (sM := 0) (dM := 0) (mM := 0) (gM := 0) (rS := 0) (mR := 0) (wO := 0) (ptr := ptr) (p2 := p2) (b2 := b2) (s2 := s2) (t2 := t2) (f2 := f2) (an2 := an2) (l2 := l2) (l := l) hL hN hs hh ((refused1 _).mp h) rfl rfl
    unfold D_X11_holdsAfter_a2
    rw [s1, s2, nI_l (by omega), nI_l (by omega)]
    exact G_put_n (by omega) (by omega)
theorem gc_runsAfter (hL : LegR M holds oneIn fear mutiny tens kind nerve friendsOf fearTimes weight rr) (hN : NowR M 0 present braced seed tenOf feared angerOf lotsOf st) (hs : sub_men present M) (hh : hl = 0 ↔ tens = 0) : G_X11_runsAfter x0 x1 tens present tenOf oneIn ptr p2 braced b2 seed s2 t2 feared f2 angerOf an2 lotsOf l2 friendsOf fear weight nerve fearTimes holds mutiny l := by
  obtain ⟨T, hT, hT4⟩ := hL.T3
  have key : (D_X11_runsAfter_a1 x0 x1 tens present tenOf).1 = 0 → ∃ n, n < 3 ∧ x0 = nI n := fun h => tlf_0 hL.M8 hT (by rw [hL.h4, hT4]) ((refused1 _).mp h)
  refine ⟨fun h => ?_, fun h => ?_, fun h => ?_⟩
  · obtain ⟨n, n1, n2⟩ := key h; exact (clamp_lt n1 (by omega) n2).1
  · obtain ⟨n, n1, n2⟩ := key h; exact gc_survey hL hN hs (clamp_lt n1 (by omega) n2).2
  · obtain ⟨A, H, U, W, a1, a2, a3, a4, a5, s1, s2, s3, s4, -⟩ := lot_main (a := 0) (b := 0) (c := 0) (levels := st) (sT := 0) (sM := 0) (dM := 0) (mM := 0) (gM := 0) (rS := 0) (mR := 0) (wO := 0) (ptr := ptr) (p2 := p2) (b2 := b2) (s2 := s2) (t2 := t2) (f2 := f2) (an2 := an2) (l2 := l2) (l := l) hL hN hs hh ((refused1 _).mp h) rfl rfl
    unfold D_X11_runsAfter_a2
    rw [s1, s4, nI_l (by omega), nI_l (by omega)]
    exact G_put_n (by omega) (by omega)
theorem gc_mutinyAfter (hL : LegR M holds oneIn fear mutiny tens kind nerve friendsOf fearTimes weight rr) (hN : NowR M 0 present braced seed tenOf feared angerOf lotsOf st) (hs : sub_men present M) (hh : hl = 0 ↔ tens = 0) : G_X11_mutinyAfter x0 tens present tenOf oneIn ptr p2 braced b2 seed s2 t2 feared f2 angerOf an2 lotsOf l2 friendsOf fear weight nerve fearTimes holds mutiny l := by
  obtain ⟨T, hT, hT4⟩ := hL.T3
  have key : (D_X11_mutinyAfter_a1 x0 tens present tenOf).1 = 0 → ∃ n, n < 3 ∧ x0 = nI n := fun h => tl_0 hL.M8 hT (by rw [hL.h4, hT4]) ((refused1 _).mp h)
  refine ⟨fun h => ?_, fun h => ?_, fun h => ?_⟩
  · obtain ⟨n, n1, n2⟩ := key h; exact (clamp_lt n1 (by omega) n2).1
  · obtain ⟨n, n1, n2⟩ := key h; exact gc_survey hL hN hs (clamp_lt n1 (by omega) n2).2
  · obtain ⟨A, H, U, W, a1, a2, a3, a4, a5, s1, s2, s3, s4, -⟩ := lot_main (x1 := 0) (a := 0) (b := 0) (c := 0) (levels := st) (sT := 0) (sM := 0) (dM := 0) (mM := 0) (gM := 0) (rS := 0) (mR := 0) (wO := 0) (ptr := ptr) (p2 := p2) (b2 := b2) (s2 := s2) (t2 := t2) (f2 := f2) (an2 := an2) (l2 := l2) (l := l) hL hN hs hh (by rw [lotFrom_0 hL hN hs hh]; exact (refused1 _).mp h) rfl rfl
    unfold D_X11_mutinyAfter_a2
    rw [s1, s3, nI_l (by omega), nI_l (by omega)]
    exact G_put_n (by omega) (by omega)
theorem gc_fits (hE : EarR rr goneTold amongs pair ofPair) {x : Int32} : G_X1_fits x goneTold amongs pair ofPair := by
  obtain ⟨-, A, hA, e1, e2, -⟩ := hE
  intro _ k s hk _
  rw [e2, be_nI (by omega)] at hk
  show k < 5
  omega
theorem gc_count (hE : EarR rr goneTold amongs pair ofPair) {x : Int32} : G_X1_count x with_ goneTold amongs pair ofPair := fun _ _ _ _ => gc_fits hE
theorem gc_gone (hE : EarR rr goneTold amongs pair ofPair) : G_X11_gone tens goneTold men with_ amongs pair ofPair := fun _ => gc_count hE
theorem gc_surelyGone (hE : EarR rr goneTold amongs pair ofPair) : G_X11_surelyGone tens goneTold men with_ amongs pair ofPair := fun _ => gc_count hE
theorem gc_goneAt (hE : EarR rr goneTold amongs pair ofPair) : G_X11_goneAt x0 tens goneTold men amongs pair ofPair := fun _ _ _ _ _ => gc_fits hE
theorem gc_goneOf (hM : M ≤ 8) (hm : men = nI M) (hE : EarR rr goneTold amongs pair ofPair) : G_X11_goneOf x0 men tens goneTold with_ amongs pair ofPair := by
  have key : (D_X11_goneOf_a1 x0 men tens goneTold).1 = 0 → ¬ x0 < 0 ∧ x0.toNatClampNeg < 8 := fun h => by
    have h1 := (fo_0 ((refused1 _).mp h)).1
    rw [hm] at h1
    obtain ⟨m, m1, m2⟩ := tm_0 h1
    exact clamp_lt (n := 8) (by omega) (by omega) m2
  exact ⟨fun _ => gc_count hE, fun h => (key h).1, fun h => (key h).2⟩
theorem gc_best (hM : M ≤ 8) {f : Int32} {w : Nat → Int32} : G_X1_bestToAsk (nI M) f w := by
  intro _ k s hk hsx
  rw [be_nI (by omega)] at hk
  have hinv : ∀ n, n ≤ M → am_fo (st_X1_bestToAsk_15 f w) n (-2) = -2 ∨ ∃ m, m < M ∧ am_fo (st_X1_bestToAsk_15 f w) n (-2) = nI m := by
    intro n
    induction n with
    | zero => intro _; exact Or.inl rfl
    | succ n ih =>
      intro hn
      show st_X1_bestToAsk_15 f w n (am_fo (st_X1_bestToAsk_15 f w) n (-2)) = -2 ∨ ∃ m, m < M ∧ st_X1_bestToAsk_15 f w n (am_fo (st_X1_bestToAsk_15 f w) n (-2)) = nI m
      have ih' := ih (by omega)
      generalize am_fo (st_X1_bestToAsk_15 f w) n (-2) = z at ih'
      unfold st_X1_bestToAsk_15
      by_cases c : z = -2
      · rw [if_pos c]; exact Or.inr ⟨n, by omega, rfl⟩
      · rw [if_neg c]
        by_cases c2 : D_X1_leftBy z.toNatClampNeg f w ≤ D_X1_leftBy n f w
        · rw [if_pos c2]; exact Or.inr (ih'.resolve_left c)
        · rw [if_neg c2]; exact Or.inr ⟨n, by omega, rfl⟩
  have h1 := hinv k (by omega)
  rw [← hsx] at h1
  have hz : ¬ s = -2 → ∃ m, m < M ∧ s = nI m := fun h => h1.resolve_left h
  refine ⟨fun _ _ _ => by omega, fun h => ?_, fun h => ?_⟩
  · obtain ⟨m, m1, m2⟩ := hz h; rw [m2]; exact nI_pos (by omega)
  · obtain ⟨m, m1, m2⟩ := hz h
    rw [m2, nI_clamp (by omega)]
    exact fun _ _ => by omega
theorem gc_ask (hM : M ≤ 8) (hm : men = nI M) (hE : EarR rr goneTold amongs pair ofPair) : G_X11_ask tens goneTold men with_ amongs pair ofPair := ⟨fun _ => gc_count hE, fun _ => by rw [hm]; exact gc_best hM⟩
theorem gc_askLeaves (hM : M ≤ 8) (hr : rr 5 = nI M) (hm : men = nI M) (hh : hl = 0 ↔ tens = 0) (hE : EarR rr goneTold amongs pair ofPair) : G_X11_askLeaves tens goneTold men with_ amongs pair ofPair := by
  have key : (D_X11_askLeaves_a1 tens goneTold).1 = 0 → ¬ D_X11_askLeaves_a3 goneTold men with_ amongs pair ofPair = -2 → ∃ m, m < M ∧ D_X11_askLeaves_a3 goneTold men with_ amongs pair ofPair = nI m := fun h h2 => by
    have h0 := (refused1 _).mp h
    obtain ⟨w1, w2⟩ := gone_why hh hE
    obtain ⟨r1, -, r3⟩ := count_l (with_ := with_) hM hE (w2 h0)
    unfold D_X11_askLeaves_a3 D_X11_askLeaves_a2 D_X1_count at h2 ⊢
    rw [hm] at h2 ⊢
    dsimp only at h2 ⊢
    generalize D_X1_count_l2 (nI M) with_ goneTold amongs pair ofPair = Z at r1 r3 h2 ⊢
    rw [r1, (ask_eq hM hr r3).1] at h2 ⊢
    exact (ask_eq hM hr r3).2.resolve_left h2
  refine ⟨fun _ => gc_count hE, fun _ => by rw [hm]; exact gc_best hM, fun h h2 => ?_, fun h h2 => ?_⟩
  · obtain ⟨m, m1, m2⟩ := key h h2; rw [m2]; exact nI_pos (by omega)
  · obtain ⟨m, m1, m2⟩ := key h h2
    rw [m2, nI_clamp (by omega)]
    exact fun _ _ => by omega
theorem gc_drawn (hL : LegR M holds oneIn fear mutiny tens kind nerve friendsOf fearTimes weight rr) (hN : NowR M 0 present braced seed tenOf feared angerOf lotsOf st) (hs : sub_men present M) (hm : men = nI M) : G_X11_drawn x0 men present tenOf oneIn := by
  have hM := hL.M8
  have key : (D_X11_drawn_a1 x0 men present).1 = 0 → ∃ m, m < M ∧ x0 = nI m := fun h => by
    have h1 := (refused1 _).mp h
    unfold D_X11_troubleOfPresent at h1
    rw [hm] at h1
    by_cases h0 : D_X11_troubleOfMan x0 (nI M) = 0
    · exact tm_0 h0
    · rw [if_neg h0] at h1; exact absurd h1 (by decide)
  refine ⟨fun h => ?_, fun h => ?_, fun _ => gc_beans, fun h => ?_⟩
  · obtain ⟨m, m1, m2⟩ := key h; exact (clamp_lt (n := 8) (by omega) (by omega) m2).1
  · obtain ⟨m, m1, m2⟩ := key h; exact (clamp_lt (n := 8) (by omega) (by omega) m2).2
  · have hb := beans_lt (t := tenOf x0.toNatClampNeg) hL hN hs
    have hsm := sub_sm hM (menOf_sub (tenOf := tenOf) (t := tenOf x0.toNatClampNeg) hM hs)
    have hc := ct_le hsm
    rw [bc_ct hsm, nI_l (by omega)]
    refine ⟨fun _ _ => G_eu, fun h1 h2 => ?_⟩
    have h0 : 0 < ct (D_X6_menOf (tenOf x0.toNatClampNeg) present tenOf) := by
      rw [lg_cmp_gt, Int64.lt_iff_toInt_lt, lT (by omega), show (0 : Int64).toInt = 0 by decide] at h2; omega
    rw [lg_cmp_le] at h1
    have hpos : ¬ D_X6_beansOf (tenOf x0.toNatClampNeg) present tenOf oneIn < 0 := fun hneg => h1 (by
      rw [Int64.le_iff_toInt_le, Int32.toInt_toInt64, show (0 : Int64).toInt = 0 by decide]
      rw [Int32.lt_iff_toInt_lt, show (0 : Int32).toInt = 0 by decide] at hneg
      omega)
    obtain ⟨j, j1, j2⟩ := nI_of hpos
    rw [j2, nI_l j1, common_gcd (by omega) (by omega) (Or.inr h0), l_0 (Nat.lt_of_le_of_lt (Nat.gcd_le_right _ h0) (by omega))]
    exact Nat.ne_of_gt (Nat.gcd_pos_of_pos_right _ h0)
end GC
