/-! GUARDS of the reference's methods -/
def RO (M o : Nat) (row : Nat → Int32) : Prop := ∃ (present braced seed : Int32) (tenOf feared angerOf lotsOf : Nat → Int32), NowR M o present braced seed tenOf feared angerOf lotsOf row ∧ sub_men present M
section GR
variable {M : Nat} {holds oneIn fear mutiny tens present braced seed x0 hl a b c : Int32} {kind nerve friendsOf fearTimes weight rr tenOf feared angerOf lotsOf st : Nat → Int32}
variable {x1 x2 men sT mR wO : Int32} {sM dM mM gM rS : Int64} {o n : Nat} {row levels : Nat → Int32}
theorem RO_row {o' : Nat} {row' : Nat → Int32} (hM : M ≤ 8) (h : RO M o row) (e : ∀ i, i < 30 → row' (o' + i) = row (o + i)) : RO M o' row' := by
  obtain ⟨a, b, c, d, f, g, k, h1, h2⟩ := h
  exact ⟨a, b, c, d, f, g, k, NowR_row hM h1 e, h2⟩
theorem RO_draws (hL : LegR M holds oneIn fear mutiny tens kind nerve friendsOf fearTimes weight rr) (h : RO M o row) (hn : n < 3) (black : Int32) : RO M o (D_X12_draws o n black row rr) ∧ ∀ i, (i < o ∨ o + 30 ≤ i) → D_X12_draws o n black row rr i = row i := by
  obtain ⟨p, b, s, tn, fd, an, lo, h1, h2⟩ := h
  obtain ⟨y1, y2, -, -, -, -, -, y8⟩ := sv_step hL h1 h2 hn 0 rfl rfl
  exact ⟨⟨_, _, _, _, _, _, _, y1, y2⟩, y8⟩
theorem RO_copy {o' : Nat} (hM : M ≤ 8) (h : RO M o row) (ho : o + 30 ≤ o') : RO M o' (D_X12_copy_eq o o' 30 row) := RO_row hM h fun i hi => by
  rw [copy_eq_v (by omega) ho, if_pos (by omega), show o + (o' + i - o') = o + i by omega]
theorem RO_run (hL : LegR M holds oneIn fear mutiny tens kind nerve friendsOf fearTimes weight rr) (h : RO M o row) {start more f2 he : Int32} (hp : start &&& (row (o + 27) ^^^ (-1)) = 0) (ho : o + 30 ≤ n) : G_X12_runOf o start rr row more f2 he n := by
  obtain ⟨p, b, s, tn, fd, an, lo, h1, h2⟩ := h
  rw [← h1.1] at hp
  exact run_relG hL h1 h2 hp ho
theorem RO_holds (hL : LegR M holds oneIn fear mutiny tens kind nerve friendsOf fearTimes weight rr) (h : RO M o row) {start more f2 he : Int32} (hp : start &&& (row (o + 27) ^^^ (-1)) = 0) (ho : o + 30 ≤ n) : G_X12_doesHold o start row rr more f2 he n := ⟨by omega, RO_run hL h hp ho⟩
theorem G_inTen (hM : M ≤ 8) (hr : rr 5 = nI M) {t : Int32} (ho : o + 30 ≤ n) : G_X12_inTen o t rr row n := fun k _ hk _ => by
  rw [hr, be_nI (by omega)] at hk
  exact ⟨by omega, fun _ => by omega⟩
theorem G_anger (hM : M ≤ 8) (hr : rr 5 = nI M) (ho : o + 30 ≤ n) : G_X12_angerOf o rr row n := fun k _ hk _ => by
  rw [hr, be_nI (by omega)] at hk
  exact ⟨by omega, fun _ => by omega⟩
theorem G_beans (hL : LegR M holds oneIn fear mutiny tens kind nerve friendsOf fearTimes weight rr) (h4 : ¬ rr 4 = 0) {t : Int32} (ho : o + 30 ≤ n) : G_X12_beansOf o t rr row n := ⟨G_inTen hL.M8 hL.r5 ho, fun _ _ => by
  obtain ⟨q, q1, q2, q3⟩ := hL.one.resolve_left h4
  rw [q3]; exact nI_ne0 (by omega) (by omega)⟩
theorem G_copyne {n1 n3 n4 m1 m2 : Nat} {a b : Nat → Int32} (h4 : n4 < 2 ^ 31) (h1 : n1 + n4 ≤ m1) (h2 : n3 + n4 ≤ m2) : G_X12_copy_ne n1 n3 n4 a b m1 m2 := fun k _ hk _ => by
  rw [be_nI h4] at hk
  exact ⟨by omega, by omega⟩
theorem G_copyeq {n1 n3 n4 m1 : Nat} {a : Nat → Int32} (h4 : n4 < 2 ^ 31) (h1 : n1 + n4 ≤ m1) (h2 : n3 + n4 ≤ m1) : G_X12_copy_eq n1 n3 n4 a m1 := fun k _ hk _ => by
  rw [be_nI h4] at hk
  exact ⟨by omega, by omega⟩
theorem and_part (x y : Int32) : x &&& y &&& (y ^^^ (-1)) = 0 := of_inc fun k hk h => by
  rw [b_and, Bool.and_eq_true] at h
  exact h.2
theorem G_counts (hL : LegR M holds oneIn fear mutiny tens kind nerve friendsOf fearTimes weight rr) (h : RO M o row) (ho : o + 30 ≤ 120) {x m f2 he : Int32} : G_X12_countsAt o x row rr m f2 he := ⟨by omega, RO_run hL h (and_part _ _) ho, RO_holds hL h (and_part _ _) ho, G_anger hL.M8 hL.r5 ho⟩
theorem RO_st (hL : LegR M holds oneIn fear mutiny tens kind nerve friendsOf fearTimes weight rr) (hN : NowR M 0 present braced seed tenOf feared angerOf lotsOf st) (hs : sub_men present M) : RO M 0 st := ⟨_, _, _, _, _, _, _, hN, hs⟩
theorem gr_anger (hM : M ≤ 8) (hr : rr 5 = nI M) : G_X12_anger hl rr st := fun _ => G_anger hM hr (by omega)
theorem gr_mutiny (hM : M ≤ 8) (hr : rr 5 = nI M) : G_X12_mutiny hl rr st := fun _ => G_anger hM hr (by omega)
theorem sw_part (hL : LegR M holds oneIn fear mutiny tens kind nerve friendsOf fearTimes weight rr) (hN : NowR M 0 present braced seed tenOf feared angerOf lotsOf st) (hs : sub_men present M) (hh : hl = 0 ↔ tens = 0) (h : (D_X12_startWhy x0 hl rr a b c st).1 = 0) : x0 &&& (st (0 + 27) ^^^ (-1)) = 0 ∧ ¬ hl = 0 := by
  obtain ⟨w1, w2⟩ := start_why (x0 := x0) (rr := rr) (a := a) (b := b) (c := c) hL.M8 hh hN.1 hs
  rw [w1] at h
  obtain ⟨-, g2, g3⟩ := w2 h
  exact ⟨by rw [← hN.1]; exact g2, g3⟩
theorem gr_runs (hL : LegR M holds oneIn fear mutiny tens kind nerve friendsOf fearTimes weight rr) (hN : NowR M 0 present braced seed tenOf feared angerOf lotsOf st) (hs : sub_men present M) (hh : hl = 0 ↔ tens = 0) : G_X12_runs x0 hl rr a b c st := fun h => RO_run hL (RO_st hL hN hs) (sw_part hL hN hs hh h).1 (by omega)
theorem gr_holds (hL : LegR M holds oneIn fear mutiny tens kind nerve friendsOf fearTimes weight rr) (hN : NowR M 0 present braced seed tenOf feared angerOf lotsOf st) (hs : sub_men present M) (hh : hl = 0 ↔ tens = 0) : G_X12_holds x0 hl rr a b c st := fun h => RO_holds hL (RO_st hL hN hs) (sw_part hL hN hs hh h).1 (by omega)
theorem gr_worst (hL : LegR M holds oneIn fear mutiny tens kind nerve friendsOf fearTimes weight rr) (hN : NowR M 0 present braced seed tenOf feared angerOf lotsOf st) (hs : sub_men present M) (hh : hl = 0 ↔ tens = 0) : G_X12_worst hl rr a b c st := fun h k s hk _ hb => by
  have hM := hL.M8
  rw [hL.r5, be_nI (by omega)] at hk
  refine RO_run hL (RO_st hL hN hs) ?_ (by omega)
  refine of_inc fun j hj hjb => ?_
  rw [b_one (by omega) hj, decide_eq_true_eq] at hjb
  rw [hjb]
  cases e : bt (st (0 + 27)) k with
  | true => rfl
  | false => exact absurd ((hasBit0 (by omega)).mpr e) hb
theorem to_all (hM : M ≤ 8) (hr : rr 5 = nI M) : am_to (D_X12_allMen rr) 0 < 2 ^ 31 := by
  have := pow_256 hM
  rw [allMen_eq hM hr, to_nI (by omega)]; omega
theorem gr_breaks (hL : LegR M holds oneIn fear mutiny tens kind nerve friendsOf fearTimes weight rr) (hN : NowR M 0 present braced seed tenOf feared angerOf lotsOf st) (hs : sub_men present M) (hh : hl = 0 ↔ tens = 0) : G_X12_breaks hl rr a b c st := ⟨fun _ => to_all hL.M8 hL.r5, fun _ _ _ _ _ => ⟨fun hp _ => RO_holds hL (RO_st hL hN hs) hp (by omega), fun hp _ _ => RO_holds hL (RO_st hL hN hs) hp (by omega)⟩⟩
theorem gr_brace (hL : LegR M holds oneIn fear mutiny tens kind nerve friendsOf fearTimes weight rr) (hN : NowR M 0 present braced seed tenOf feared angerOf lotsOf st) (hs : sub_men present M) (hh : hl = 0 ↔ tens = 0) : G_X12_brace x0 hl rr a b c st := ⟨fun _ => to_all hL.M8 hL.r5, fun h _ _ _ _ => ⟨fun _ _ _ => RO_holds hL (RO_st hL hN hs) (sw_part hL hN hs hh h).1 (by omega), fun _ _ _ _ => RO_holds hL (RO_st hL hN hs) (sw_part hL hN hs hh h).1 (by omega)⟩⟩
theorem gr_toHearten (hL : LegR M holds oneIn fear mutiny tens kind nerve friendsOf fearTimes weight rr) (hN : NowR M 0 present braced seed tenOf feared angerOf lotsOf st) (hs : sub_men present M) (hh : hl = 0 ↔ tens = 0) : G_X12_toHearten x0 hl rr a b c st := ⟨fun h => RO_run hL (RO_st hL hN hs) (sw_part hL hN hs hh h).1 (by omega), fun h _ _ _ _ _ => RO_run hL (RO_st hL hN hs) (sw_part hL hN hs hh h).1 (by omega)⟩
theorem gr_fearFor (hL : LegR M holds oneIn fear mutiny tens kind nerve friendsOf fearTimes weight rr) (hN : NowR M 0 present braced seed tenOf feared angerOf lotsOf st) (hs : sub_men present M) (hh : hl = 0 ↔ tens = 0) : G_X12_fearFor x0 hl rr a b c st := fun h _ _ _ _ => RO_holds hL (RO_st hL hN hs) (sw_part hL hN hs hh h).1 (by omega)
theorem gr_man (hM : M ≤ 8) (hr : rr 5 = nI M) (hz : hl = 0 → M = 0) : G_X12_man x0 x1 hl rr := by
  have key : ¬ D_X12_isMan x0 hl rr = 0 → ∃ m, m < M ∧ x0 = nI m := fun h => by
    rcases isMan_spec (x0 := x0) hM hr hz with ⟨h1, -⟩ | ⟨-, -, -, m, h4, h5⟩
    · exact absurd h1 h
    · exact ⟨m, h4, h5⟩
  have k2 : ¬ D_X12_isMan x0 hl rr = 0 → ¬ x0 < 0 ∧ x0.toNatClampNeg < 8 := fun h => by
    obtain ⟨m, m1, m2⟩ := key h; exact clamp_lt (n := 8) (by omega) (by omega) m2
  have kk : ∀ n : Nat, n < 8 → G_X12_kindOf n := fun n hn => by show 9 + 3 * n < 172; omega
  refine ⟨fun h _ _ => (k2 h).1, fun h _ _ => kk _ (k2 h).2, fun h _ _ _ => (k2 h).1, fun h _ _ _ => by have := (k2 h).2; omega, fun h _ _ _ _ => (k2 h).1, fun h _ _ _ _ => by have := (k2 h).2; omega, fun h _ _ _ _ _ => (k2 h).1, fun h _ _ _ _ _ => G_nerve (k2 h).2 (by omega), fun h _ _ _ _ _ _ => (k2 h).1, fun h _ _ _ _ _ _ => by have := (k2 h).2; omega, fun h _ _ _ _ _ _ _ => (k2 h).1, fun h _ _ _ _ _ _ _ => by have := (k2 h).2; omega⟩
theorem isTen_n (hL : LegR M holds oneIn fear mutiny tens kind nerve friendsOf fearTimes weight rr) (hh : hl = 0 ↔ tens = 0) (h : ¬ D_X12_isTen x0 hl rr = 0) : ∃ n, n < 3 ∧ x0 = nI n ∧ ¬ hl = 0 ∧ ¬ rr 4 = 0 := by
  obtain ⟨T, hT, hT4⟩ := hL.T3
  have hz : hl = 0 → T = 0 := fun h => by
    have := hh.mp h
    rw [hL.h4, hT4] at this
    exact (nI_eq (b := 0) (by omega) (by omega)).mp this
  rcases isTen_spec (x0 := x0) hT hT4 hz with ⟨h1, -⟩ | ⟨-, -, h3, m, h4, h5⟩
  · exact absurd h1 h
  · exact ⟨m, by omega, h5, h3, fun g => h3 (hh.mpr (by rw [hL.h4]; exact g))⟩
theorem gr_ten (hL : LegR M holds oneIn fear mutiny tens kind nerve friendsOf fearTimes weight rr) (hh : hl = 0 ↔ tens = 0) : G_X12_ten x0 x1 hl rr st := by
  refine ⟨fun _ _ _ => G_inTen hL.M8 hL.r5 (by omega), fun h _ _ _ => ?_, fun h _ _ _ => ?_, fun h _ _ _ => ?_⟩
  · obtain ⟨n, -, -, -, h4⟩ := isTen_n hL hh h; exact G_beans hL h4 (by omega)
  · obtain ⟨n, n1, n2, -⟩ := isTen_n hL hh h; exact (clamp_lt n1 (by omega) n2).1
  · obtain ⟨n, n1, n2, -⟩ := isTen_n hL hh h; have := (clamp_lt n1 (by omega) n2).2; omega
theorem gr_tenWhy (hM : M ≤ 8) (hr : rr 5 = nI M) : G_X12_tenWhy x0 hl rr st := fun _ => G_inTen hM hr (by omega)
theorem inTen_sm (hL : LegR M holds oneIn fear mutiny tens kind nerve friendsOf fearTimes weight rr) (hN : NowR M 0 present braced seed tenOf feared angerOf lotsOf st) (hs : sub_men present M) {t : Int32} (row : Nat → Int32) (e : ∀ i, i < 30 → row i = st i) : ∃ m, m < 256 ∧ D_X12_inTen 0 t rr row = nI m := by
  rw [← men_rel hL (NowR_row (o := 0) (row := st) (o' := 0) (row' := row) hL.M8 hN fun i hi => by rw [Nat.zero_add]; exact e i hi) hs]
  exact sm_nat (menOf_sm _ _ _)
theorem gr_tryOne (hL : LegR M holds oneIn fear mutiny tens kind nerve friendsOf fearTimes weight rr) (hN : NowR M 0 present braced seed tenOf feared angerOf lotsOf st) (hs : sub_men present M) (h4 : ¬ rr 4 = 0) (hn : n < 3) : G_X12_tryOne n x1 st levels rr := by
  have hM := hL.M8
  have hlev : ∀ i, i < 30 → D_X12_copy_ne 0 0 30 st levels i = st i := fun i hi => by rw [copy_ne_v (by omega), if_pos (by omega), Nat.zero_add, Nat.sub_zero]
  have ha1 : D_X12_tryOne_a1 x1 st levels rr = (D_X12_copy_ne 0 0 30 st levels, rr 2, (-1), 0, x1, 0, 0, 0, 0, 0, (-1), (-2)) := rfl
  have hinv : ∀ k, ∀ i, i < 30 → (am_fo (st_X12_tryOne_31 n x1 st levels rr) k ((D_X12_tryOne_a1 x1 st levels rr).1, (D_X12_tryOne_a1 x1 st levels rr).2.2.2.2.2.1, (D_X12_tryOne_a1 x1 st levels rr).2.2.2.2.2.2.1, (D_X12_tryOne_a1 x1 st levels rr).2.2.2.2.2.2.2.1, (D_X12_tryOne_a1 x1 st levels rr).2.2.2.2.2.2.2.2.1, (D_X12_tryOne_a1 x1 st levels rr).2.2.2.2.2.2.2.2.2.1, (D_X12_tryOne_a1 x1 st levels rr).2.2.2.2.2.2.2.2.2.2.1, (D_X12_tryOne_a1 x1 st levels rr).2.2.2.2.2.2.2.2.2.2.2)).1 i = st i := by
    intro k
    refine am_fo_inv (P := fun (s : RT) => ∀ i, i < 30 → s.1 i = st i) hlev fun k s _ hP => ?_
    show ∀ i, i < 30 → (D_X12_tryOne_j1 n x1 st levels rr k s).1 i = st i
    unfold D_X12_tryOne_j1
    by_cases c1 : nI k &&& (D_X12_inTen 0 (nI n) rr (D_X12_tryOne_a1 x1 st levels rr).1 ^^^ (-1)) = 0
    · rw [if_pos c1]
      by_cases c2 : D_X12_ones (nI k) = D_X12_beansOf 0 (nI n) rr (D_X12_tryOne_a1 x1 st levels rr).1
      · rw [if_pos c2]
        intro i hi
        have h30 : RO M 30 (D_X12_copy_eq 0 30 30 s.1) := RO_copy hM (RO_row hM (RO_st hL hN hs) (o' := 0) fun i hi => by rw [Nat.zero_add]; exact hP i hi) (by omega)
        dsimp only
        rw [(RO_draws hL h30 hn (nI k)).2 i (Or.inl hi), copy_eq_v (by omega) (by omega), if_neg (by omega)]
        exact hP i hi
      · rw [if_neg c2]; exact hP
    · rw [if_neg c1]; exact hP
  obtain ⟨m, m1, m2⟩ := inTen_sm (t := nI n) hL hN hs (D_X12_tryOne_a1 x1 st levels rr).1 hlev
  refine ⟨G_copyne (by omega) (by omega) (by omega), G_inTen hM hL.r5 (by omega), G_beans hL h4 (by omega), ?_, fun k s hk hsx => ?_⟩
  · rw [m2, to_nI (by omega)]; omega
  · have hP := hinv k
    rw [← hsx] at hP
    have h30 : RO M 30 (D_X12_copy_eq 0 30 30 s.1) := RO_copy hM (RO_row hM (RO_st hL hN hs) (o' := 0) fun i hi => by rw [Nat.zero_add]; exact hP i hi) (by omega)
    exact ⟨fun _ _ => G_copyeq (by omega) (by omega) (by omega), fun _ _ => G_draws hM hL.r5 hn (by omega), fun _ _ => G_counts hL (RO_draws hL h30 hn (nI k)).1 (by omega)⟩
theorem gr_lotWhy (hL : LegR M holds oneIn fear mutiny tens kind nerve friendsOf fearTimes weight rr) (hN : NowR M 0 present braced seed tenOf feared angerOf lotsOf st) (hs : sub_men present M) (hh : hl = 0 ↔ tens = 0) : G_X12_lotWhy x0 x1 hl rr a b c st levels := by
  refine ⟨fun _ _ => gr_tenWhy hL.M8 hL.r5, fun h _ _ => ?_, fun h _ _ => ?_, fun _ _ _ => gr_tenWhy hL.M8 hL.r5⟩
  · obtain ⟨n, n1, n2, -⟩ := isTen_n hL hh h; exact (clamp_lt n1 (by omega) n2).1
  · obtain ⟨n, n1, n2, -, h4⟩ := isTen_n hL hh h; exact gr_tryOne hL hN hs h4 (clamp_lt n1 (by omega) n2).2
theorem tw_ten (h : D_X12_tenWhy x0 hl rr st = 0) : ¬ D_X12_isTen x0 hl rr = 0 := fun e => by
  unfold D_X12_tenWhy at h; rw [if_pos e] at h; exact absurd h (by decide)
theorem gr_sets (hL : LegR M holds oneIn fear mutiny tens kind nerve friendsOf fearTimes weight rr) (hN : NowR M 0 present braced seed tenOf feared angerOf lotsOf st) (hs : sub_men present M) (hh : hl = 0 ↔ tens = 0) : G_X12_sets x0 hl rr st levels := by
  refine ⟨gr_tenWhy hL.M8 hL.r5, fun h => ?_, fun h => ?_, fun _ => gr_tenWhy hL.M8 hL.r5⟩
  · obtain ⟨n, n1, n2, -⟩ := isTen_n hL hh (tw_ten h); exact (clamp_lt n1 (by omega) n2).1
  · obtain ⟨n, n1, n2, -, h4⟩ := isTen_n hL hh (tw_ten h); exact gr_tryOne hL hN hs h4 (clamp_lt n1 (by omega) n2).2
theorem gr_worstSet (hL : LegR M holds oneIn fear mutiny tens kind nerve friendsOf fearTimes weight rr) (hN : NowR M 0 present braced seed tenOf feared angerOf lotsOf st) (hs : sub_men present M) (hh : hl = 0 ↔ tens = 0) : G_X12_worstSet x0 x1 hl rr a b c st levels := gr_lotWhy hL hN hs hh
theorem gr_holdsAfter (hL : LegR M holds oneIn fear mutiny tens kind nerve friendsOf fearTimes weight rr) (hN : NowR M 0 present braced seed tenOf feared angerOf lotsOf st) (hs : sub_men present M) (hh : hl = 0 ↔ tens = 0) : G_X12_holdsAfter x0 x1 hl rr a b c st levels sT sM dM mM gM rS mR wO := by
  refine ⟨gr_lotWhy hL hN hs hh, fun h => ?_⟩
  obtain ⟨w1, -⟩ := lot_why (x0 := x0) (x1 := x1) (a := a) (b := b) (c := c) (levels := levels) (sT := sT) (sM := sM) (dM := dM) (mM := mM) (gM := gM) (rS := rS) (mR := mR) (wO := wO) hL hN hs hh
  unfold D_X12_holdsAfter_a2 at h ⊢
  rw [w1] at h
  obtain ⟨A, H, U, W, a1, a2, a3, a4, a5, s1, s2, s3, s4, s5, q1, q2, q3, q4⟩ := lot_main (ptr := none) (p2 := 0) (b2 := 0) (s2 := 0) (t2 := st) (f2 := st) (an2 := st) (l2 := st) (l := 0) hL hN hs hh h rfl (Q := D_X12_lotWhy x0 x1 hl rr a b c st levels sT sM dM mM gM rS mR wO) rfl
  rw [q1, q2]
  exact G_lowest_n (by omega) (by omega) a1
theorem gr_runsAfter (hL : LegR M holds oneIn fear mutiny tens kind nerve friendsOf fearTimes weight rr) (hN : NowR M 0 present braced seed tenOf feared angerOf lotsOf st) (hs : sub_men present M) (hh : hl = 0 ↔ tens = 0) : G_X12_runsAfter x0 x1 hl rr a b c st levels sT sM dM mM gM rS mR wO := by
  refine ⟨gr_lotWhy hL hN hs hh, fun h => ?_⟩
  obtain ⟨w1, -⟩ := lot_why (x0 := x0) (x1 := x1) (a := a) (b := b) (c := c) (levels := levels) (sT := sT) (sM := sM) (dM := dM) (mM := mM) (gM := gM) (rS := rS) (mR := mR) (wO := wO) hL hN hs hh
  unfold D_X12_runsAfter_a2 at h ⊢
  rw [w1] at h
  obtain ⟨A, H, U, W, a1, a2, a3, a4, a5, s1, s2, s3, s4, s5, q1, q2, q3, q4⟩ := lot_main (ptr := none) (p2 := 0) (b2 := 0) (s2 := 0) (t2 := st) (f2 := st) (an2 := st) (l2 := st) (l := 0) hL hN hs hh h rfl (Q := D_X12_lotWhy x0 x1 hl rr a b c st levels sT sM dM mM gM rS mR wO) rfl
  rw [q1, q4]
  exact G_lowest_n (by omega) (by omega) a1
theorem gr_mutinyAfter (hL : LegR M holds oneIn fear mutiny tens kind nerve friendsOf fearTimes weight rr) (hN : NowR M 0 present braced seed tenOf feared angerOf lotsOf st) (hs : sub_men present M) (hh : hl = 0 ↔ tens = 0) : G_X12_mutinyAfter x0 hl rr a b c st levels sT sM dM mM gM rS mR wO := by
  refine ⟨gr_lotWhy hL hN hs hh, fun h => ?_⟩
  obtain ⟨w1, -⟩ := lot_why (x0 := x0) (x1 := 0) (a := a) (b := b) (c := c) (levels := levels) (sT := sT) (sM := sM) (dM := dM) (mM := mM) (gM := gM) (rS := rS) (mR := mR) (wO := wO) hL hN hs hh
  unfold D_X12_mutinyAfter_a2 at h ⊢
  rw [w1] at h
  obtain ⟨A, H, U, W, a1, a2, a3, a4, a5, s1, s2, s3, s4, s5, q1, q2, q3, q4⟩ := lot_main (ptr := none) (p2 := 0) (b2 := 0) (s2 := 0) (t2 := st) (f2 := st) (an2 := st) (l2 := st) (l := 0) hL hN hs hh h rfl (Q := D_X12_lotWhy x0 0 hl rr a b c st levels sT sM dM mM gM rS mR wO) rfl
  rw [q1, q3]
  exact G_lowest_n (by omega) (by omega) a1
theorem gr_drawn (hL : LegR M holds oneIn fear mutiny tens kind nerve friendsOf fearTimes weight rr) (hN : NowR M 0 present braced seed tenOf feared angerOf lotsOf st) (hs : sub_men present M) (hh : hl = 0 ↔ tens = 0) (hz : hl = 0 → M = 0) : G_X12_drawn x0 hl rr st := by
  have hM := hL.M8
  have key : ¬ D_X12_isMan x0 hl rr = 0 → ∃ m, m < M ∧ x0 = nI m ∧ ¬ hl = 0 := fun h => by
    rcases isMan_spec (x0 := x0) hM hL.r5 hz with ⟨h1, -⟩ | ⟨-, -, h3, m, h4, h5⟩
    · exact absurd h1 h
    · exact ⟨m, h4, h5, h3⟩
  have k4 : ¬ hl = 0 → ¬ rr 4 = 0 := fun h g => h (hh.mpr (by rw [hL.h4]; exact g))
  refine ⟨fun h _ => ?_, fun h _ => ?_, fun h _ => ?_, fun _ _ => G_inTen hM hL.r5 (by omega), fun h hb => ?_⟩
  · obtain ⟨m, m1, m2, -⟩ := key h; exact (clamp_lt (n := 8) (by omega) (by omega) m2).1
  · obtain ⟨m, m1, m2, -⟩ := key h; have := (clamp_lt (n := 8) (by omega) (by omega) m2).2; omega
  · obtain ⟨m, m1, m2, m3⟩ := key h; exact G_beans hL (k4 m3) (by omega)
  · obtain ⟨m, m1, m2, m3⟩ := key h
    have hb2 : bt present m = true := by
      rw [← show present = st 27 from hN.1, m2] at hb
      cases e : bt present m with
      | true => rfl
      | false => exact absurd ((hasBit0 (by omega)).mpr e) hb
    have ht : tenOf m = st m := by have := hN.2.2.2.1 m m1; rw [Nat.zero_add] at this; exact this
    rw [m2, nI_clamp (by omega), ← ht]
    have hmen : ¬ D_X6_menOf (tenOf m) present tenOf = 0 := fun h => by
      have hb := menOf_bt (t := tenOf m) (tenOf := tenOf) (present := present) (k := m) (by omega)
      rw [h, b_0, hb2] at hb
      simp at hb
    obtain ⟨mm, b', q1, q2, b1, b2, b3, g1, g2, g3, g4⟩ := lot_facts hL hN hs (k4 m3) hmen
    have hc := ct_le (nat_sm q1)
    rw [g3 st (fun _ _ => rfl), g4 st (fun _ _ => rfl), on_ct (nat_sm q1), nI_l (by omega), nI_l (by omega)]
    exact G_lowest_n (by omega) (by omega) (by omega)
theorem tl0 (hL : LegR M holds oneIn fear mutiny tens kind nerve friendsOf fearTimes weight rr) (h : RO M (30 * n) levels) (hn : n ≤ 3) (h4 : rr 4 = nI 3) {ch x : Int32} : G_X12_tryLots_0 ch n rr x levels 0 (rr 2) (-1) ∧ ∀ i, i < 30 * (n + 1) → (D_X12_tryLots_0 ch n rr x levels 0 (rr 2) (-1) sM dM mM gM rS mR wO).2.2.2.2.2.2.2 i = levels i := by
  have e3 : (3 : Int32) = rr 4 := by rw [h4]; rfl
  refine ⟨⟨fun _ => G_counts hL h (by omega), fun g => absurd e3 g, fun g => absurd e3 g, fun g => absurd e3 g, fun g => absurd e3 g, fun g => absurd e3 g, fun g => absurd e3 g⟩, fun i hi => ?_⟩
  unfold D_X12_tryLots_0
  rw [if_pos e3]
theorem tl1 {T : Nat} (hL : LegR M holds oneIn fear mutiny tens kind nerve friendsOf fearTimes weight rr) (h : RO M (30 * n) levels) (hn : n ≤ 2) (h4 : rr 4 = nI T) (hT : 2 ≤ T) (hT3 : T ≤ 3) {ch x : Int32} {sM dM mM gM rS : Int64} {mR wO : Int32} : G_X12_tryLots_1 ch n rr x levels 0 (rr 2) (-1) sM dM mM gM rS mR wO ∧ ∀ i, i < 30 * (n + 1) → (D_X12_tryLots_1 ch n rr x levels 0 (rr 2) (-1) sM dM mM gM rS mR wO).2.2.2.2.2.2.2 i = levels i := by
  have hM := hL.M8
  by_cases hTt : T = 2
  · have e3 : (2 : Int32) = rr 4 := by rw [h4, hTt]; rfl
    refine ⟨⟨fun _ => G_counts hL h (by omega), fun g => absurd e3 g, fun g => absurd e3 g, fun g => absurd e3 g, fun g => absurd e3 g, fun g => absurd e3 g, fun g => absurd e3 g⟩, fun i hi => ?_⟩
    unfold D_X12_tryLots_1
    rw [if_pos e3]
  · have hne : ¬ (2 : Int32) = rr 4 := fun g => by
      rw [h4] at g
      have := (nI_eq (a := 2) (b := T) (by omega) (by omega)).mp g
      omega
    have h40 : ¬ rr 4 = 0 := fun g => by
      rw [h4] at g
      have := (nI_eq (b := 0) (by omega) (by omega)).mp g
      omega
    obtain ⟨m, m1, m2⟩ : ∃ m, m < 256 ∧ D_X12_inTen (30 * n) 2 rr levels = nI m := by
      obtain ⟨p, b, s, tn, fd, an, lo, g1, g2⟩ := h
      rw [← men_rel hL g1 g2]
      exact sm_nat (menOf_sm _ _ _)
    have hsub : ∀ (lv : Nat → Int32) (k : Nat), (∀ i, i < 30 * (n + 1) → lv i = levels i) → RO M (30 * (n + 1)) (D_X12_draws (30 * n + 30) 2 (nI k) (D_X12_copy_eq (30 * n) (30 * n + 30) 30 lv) rr) ∧ ∀ i, i < 30 * (n + 1) → D_X12_draws (30 * n + 30) 2 (nI k) (D_X12_copy_eq (30 * n) (30 * n + 30) 30 lv) rr i = levels i := fun lv k hP => by
      have h30 : RO M (30 * n + 30) (D_X12_copy_eq (30 * n) (30 * n + 30) 30 lv) := RO_copy hM (RO_row hM h (o' := 30 * n) fun i hi => hP _ (by omega)) (by omega)
      obtain ⟨d1, d2⟩ := RO_draws hL h30 (show 2 < 3 by omega) (nI k)
      refine ⟨d1, fun i hi => ?_⟩
      rw [d2 i (Or.inl (by omega)), copy_eq_v (by omega) (by omega), if_neg (by omega)]
      exact hP i hi
    have hinv : ∀ k, ∀ i, i < 30 * (n + 1) → (am_fo (st_X12_tryLots_1_76 ch n rr x levels 0 (rr 2) (-1)) k (levels, sM, dM, mM, gM, rS, mR, wO)).1 i = levels i := by
      intro k
      refine am_fo_inv (P := fun (s : RT) => ∀ i, i < 30 * (n + 1) → s.1 i = levels i) (fun _ _ => rfl) fun k s _ hP => ?_
      show ∀ i, i < 30 * (n + 1) → (D_X12_tryLots_1_j1 ch n rr x levels 0 (rr 2) (-1) k s).1 i = levels i
      unfold D_X12_tryLots_1_j1 D_X12_tryLots_1_a4
      by_cases c1 : nI k &&& (D_X12_inTen (30 * n) 2 rr levels ^^^ (-1)) = 0
      · rw [if_pos c1]
        by_cases c2 : D_X12_ones (nI k) = D_X12_beansOf (30 * n) 2 rr levels
        · rw [if_pos c2]
          intro i hi
          obtain ⟨d1, d2⟩ := hsub s.1 k hP
          exact Eq.trans ((tl0 (n := n + 1) hL d1 (by omega) (by rw [h4, show T = 3 by omega])).2 i (by omega)) (d2 i hi)
        · rw [if_neg c2]; exact hP
      · rw [if_neg c1]; exact hP
    refine ⟨⟨fun g => absurd g hne, fun _ => G_inTen hM hL.r5 (by omega), fun _ _ => (tl0 (sM := 0) (dM := 0) (mM := 0) (gM := 0) (rS := 0) (mR := 0) (wO := 0) hL h (by omega) (by rw [h4, show T = 3 by omega])).1, fun _ _ _ => (tl0 (sM := 0) (dM := 0) (mM := 0) (gM := 0) (rS := 0) (mR := 0) (wO := 0) hL h (by omega) (by rw [h4, show T = 3 by omega])).1, fun _ _ _ => G_beans hL h40 (by omega), fun _ _ _ => by rw [m2, to_nI (by omega)]; omega, fun _ _ _ k s hk hsx => ?_⟩, fun i hi => ?_⟩
    · have hP := hinv k
      rw [← hsx] at hP
      obtain ⟨d1, -⟩ := hsub s.1 k hP
      exact ⟨fun _ _ => G_copyeq (by omega) (by omega) (by omega), fun _ _ => G_draws hM hL.r5 (by omega) (by omega), fun _ _ => (tl0 (n := n + 1) (sM := 0) (dM := 0) (mM := 0) (gM := 0) (rS := 0) (mR := 0) (wO := 0) hL d1 (by omega) (by rw [h4, show T = 3 by omega])).1⟩
    · unfold D_X12_tryLots_1
      rw [if_neg hne]
      by_cases c1 : D_X12_hasBit ch 2 = 0
      · rw [if_pos c1]
        exact (tl0 hL h (by omega) (by rw [h4, show T = 3 by omega])).2 i (by omega)
      · rw [if_neg c1]
        by_cases c2 : D_X12_inTen (30 * n) 2 rr levels = 0
        · rw [if_pos c2]
          exact (tl0 hL h (by omega) (by rw [h4, show T = 3 by omega])).2 i (by omega)
        · rw [if_neg c2]
          exact hinv _ i hi
theorem tl2 {T : Nat} (hL : LegR M holds oneIn fear mutiny tens kind nerve friendsOf fearTimes weight rr) (h : RO M (30 * n) levels) (hn : n ≤ 1) (h4 : rr 4 = nI T) (hT : 1 ≤ T) (hT3 : T ≤ 3) {ch x : Int32} {sM dM mM gM rS : Int64} {mR wO : Int32} : G_X12_tryLots_2 ch n rr x levels 0 (rr 2) (-1) sM dM mM gM rS mR wO ∧ ∀ i, i < 30 * (n + 1) → (D_X12_tryLots_2 ch n rr x levels 0 (rr 2) (-1) sM dM mM gM rS mR wO).2.2.2.2.2.2.2 i = levels i := by
  have hM := hL.M8
  by_cases hTt : T = 1
  · have e3 : (1 : Int32) = rr 4 := by rw [h4, hTt]; rfl
    refine ⟨⟨fun _ => G_counts hL h (by omega), fun g => absurd e3 g, fun g => absurd e3 g, fun g => absurd e3 g, fun g => absurd e3 g, fun g => absurd e3 g, fun g => absurd e3 g⟩, fun i hi => ?_⟩
    unfold D_X12_tryLots_2
    rw [if_pos e3]
  · have hne : ¬ (1 : Int32) = rr 4 := fun g => by
      rw [h4] at g
      have := (nI_eq (a := 1) (b := T) (by omega) (by omega)).mp g
      omega
    have h40 : ¬ rr 4 = 0 := fun g => by
      rw [h4] at g
      have := (nI_eq (b := 0) (by omega) (by omega)).mp g
      omega
    obtain ⟨m, m1, m2⟩ : ∃ m, m < 256 ∧ D_X12_inTen (30 * n) 1 rr levels = nI m := by
      obtain ⟨p, b, s, tn, fd, an, lo, g1, g2⟩ := h
      rw [← men_rel hL g1 g2]
      exact sm_nat (menOf_sm _ _ _)
    have hsub : ∀ (lv : Nat → Int32) (k : Nat), (∀ i, i < 30 * (n + 1) → lv i = levels i) → RO M (30 * (n + 1)) (D_X12_draws (30 * n + 30) 1 (nI k) (D_X12_copy_eq (30 * n) (30 * n + 30) 30 lv) rr) ∧ ∀ i, i < 30 * (n + 1) → D_X12_draws (30 * n + 30) 1 (nI k) (D_X12_copy_eq (30 * n) (30 * n + 30) 30 lv) rr i = levels i := fun lv k hP => by
      have h30 : RO M (30 * n + 30) (D_X12_copy_eq (30 * n) (30 * n + 30) 30 lv) := RO_copy hM (RO_row hM h (o' := 30 * n) fun i hi => hP _ (by omega)) (by omega)
      obtain ⟨d1, d2⟩ := RO_draws hL h30 (show 1 < 3 by omega) (nI k)
      refine ⟨d1, fun i hi => ?_⟩
      rw [d2 i (Or.inl (by omega)), copy_eq_v (by omega) (by omega), if_neg (by omega)]
      exact hP i hi
    have hinv : ∀ k, ∀ i, i < 30 * (n + 1) → (am_fo (st_X12_tryLots_2_76 ch n rr x levels 0 (rr 2) (-1)) k (levels, sM, dM, mM, gM, rS, mR, wO)).1 i = levels i := by
      intro k
      refine am_fo_inv (P := fun (s : RT) => ∀ i, i < 30 * (n + 1) → s.1 i = levels i) (fun _ _ => rfl) fun k s _ hP => ?_
      show ∀ i, i < 30 * (n + 1) → (D_X12_tryLots_2_j1 ch n rr x levels 0 (rr 2) (-1) k s).1 i = levels i
      unfold D_X12_tryLots_2_j1 D_X12_tryLots_2_a4
      by_cases c1 : nI k &&& (D_X12_inTen (30 * n) 1 rr levels ^^^ (-1)) = 0
      · rw [if_pos c1]
        by_cases c2 : D_X12_ones (nI k) = D_X12_beansOf (30 * n) 1 rr levels
        · rw [if_pos c2]
          intro i hi
          obtain ⟨d1, d2⟩ := hsub s.1 k hP
          exact Eq.trans ((tl1 (n := n + 1) hL d1 (by omega) h4 (by omega) hT3).2 i (by omega)) (d2 i hi)
        · rw [if_neg c2]; exact hP
      · rw [if_neg c1]; exact hP
    refine ⟨⟨fun g => absurd g hne, fun _ => G_inTen hM hL.r5 (by omega), fun _ _ => (tl1 hL h (by omega) h4 (by omega) hT3).1, fun _ _ _ => (tl1 hL h (by omega) h4 (by omega) hT3).1, fun _ _ _ => G_beans hL h40 (by omega), fun _ _ _ => by rw [m2, to_nI (by omega)]; omega, fun _ _ _ k s hk hsx => ?_⟩, fun i hi => ?_⟩
    · have hP := hinv k
      rw [← hsx] at hP
      obtain ⟨d1, -⟩ := hsub s.1 k hP
      exact ⟨fun _ _ => G_copyeq (by omega) (by omega) (by omega), fun _ _ => G_draws hM hL.r5 (by omega) (by omega), fun _ _ => (tl1 (n := n + 1) hL d1 (by omega) h4 (by omega) hT3).1⟩
    · unfold D_X12_tryLots_2
      rw [if_neg hne]
      by_cases c1 : D_X12_hasBit ch 1 = 0
      · rw [if_pos c1]
        exact (tl1 hL h (by omega) h4 (by omega) hT3).2 i (by omega)
      · rw [if_neg c1]
        by_cases c2 : D_X12_inTen (30 * n) 1 rr levels = 0
        · rw [if_pos c2]
          exact (tl1 hL h (by omega) h4 (by omega) hT3).2 i (by omega)
        · rw [if_neg c2]
          exact hinv _ i hi
theorem tl3 {T : Nat} (hL : LegR M holds oneIn fear mutiny tens kind nerve friendsOf fearTimes weight rr) (h : RO M (30 * n) levels) (hn : n ≤ 0) (h4 : rr 4 = nI T) (hT : 0 ≤ T) (hT3 : T ≤ 3) {ch x : Int32} {sM dM mM gM rS : Int64} {mR wO : Int32} : G_X12_tryLots_3 ch n rr x levels 0 (rr 2) (-1) sM dM mM gM rS mR wO ∧ ∀ i, i < 30 * (n + 1) → (D_X12_tryLots_3 ch n rr x levels 0 (rr 2) (-1) sM dM mM gM rS mR wO).2.2.2.2.2.2.2 i = levels i := by
  have hM := hL.M8
  by_cases hTt : T = 0
  · have e3 : (0 : Int32) = rr 4 := by rw [h4, hTt]; rfl
    refine ⟨⟨fun _ => G_counts hL h (by omega), fun g => absurd e3 g, fun g => absurd e3 g, fun g => absurd e3 g, fun g => absurd e3 g, fun g => absurd e3 g, fun g => absurd e3 g⟩, fun i hi => ?_⟩
    unfold D_X12_tryLots_3
    rw [if_pos e3]
  · have hne : ¬ (0 : Int32) = rr 4 := fun g => by
      rw [h4] at g
      have := (nI_eq (a := 0) (b := T) (by omega) (by omega)).mp g
      omega
    have h40 : ¬ rr 4 = 0 := fun g => by
      rw [h4] at g
      have := (nI_eq (b := 0) (by omega) (by omega)).mp g
      omega
    obtain ⟨m, m1, m2⟩ : ∃ m, m < 256 ∧ D_X12_inTen (30 * n) 0 rr levels = nI m := by
      obtain ⟨p, b, s, tn, fd, an, lo, g1, g2⟩ := h
      rw [← men_rel hL g1 g2]
      exact sm_nat (menOf_sm _ _ _)
    have hsub : ∀ (lv : Nat → Int32) (k : Nat), (∀ i, i < 30 * (n + 1) → lv i = levels i) → RO M (30 * (n + 1)) (D_X12_draws (30 * n + 30) 0 (nI k) (D_X12_copy_eq (30 * n) (30 * n + 30) 30 lv) rr) ∧ ∀ i, i < 30 * (n + 1) → D_X12_draws (30 * n + 30) 0 (nI k) (D_X12_copy_eq (30 * n) (30 * n + 30) 30 lv) rr i = levels i := fun lv k hP => by
      have h30 : RO M (30 * n + 30) (D_X12_copy_eq (30 * n) (30 * n + 30) 30 lv) := RO_copy hM (RO_row hM h (o' := 30 * n) fun i hi => hP _ (by omega)) (by omega)
      obtain ⟨d1, d2⟩ := RO_draws hL h30 (show 0 < 3 by omega) (nI k)
      refine ⟨d1, fun i hi => ?_⟩
      rw [d2 i (Or.inl (by omega)), copy_eq_v (by omega) (by omega), if_neg (by omega)]
      exact hP i hi
    have hinv : ∀ k, ∀ i, i < 30 * (n + 1) → (am_fo (st_X12_tryLots_3_76 ch n rr x levels 0 (rr 2) (-1)) k (levels, sM, dM, mM, gM, rS, mR, wO)).1 i = levels i := by
      intro k
      refine am_fo_inv (P := fun (s : RT) => ∀ i, i < 30 * (n + 1) → s.1 i = levels i) (fun _ _ => rfl) fun k s _ hP => ?_
      show ∀ i, i < 30 * (n + 1) → (D_X12_tryLots_3_j1 ch n rr x levels 0 (rr 2) (-1) k s).1 i = levels i
      unfold D_X12_tryLots_3_j1 D_X12_tryLots_3_a4
      by_cases c1 : nI k &&& (D_X12_inTen (30 * n) 0 rr levels ^^^ (-1)) = 0
      · rw [if_pos c1]
        by_cases c2 : D_X12_ones (nI k) = D_X12_beansOf (30 * n) 0 rr levels
        · rw [if_pos c2]
          intro i hi
          obtain ⟨d1, d2⟩ := hsub s.1 k hP
          exact Eq.trans ((tl2 (n := n + 1) hL d1 (by omega) h4 (by omega) hT3).2 i (by omega)) (d2 i hi)
        · rw [if_neg c2]; exact hP
      · rw [if_neg c1]; exact hP
    refine ⟨⟨fun g => absurd g hne, fun _ => G_inTen hM hL.r5 (by omega), fun _ _ => (tl2 hL h (by omega) h4 (by omega) hT3).1, fun _ _ _ => (tl2 hL h (by omega) h4 (by omega) hT3).1, fun _ _ _ => G_beans hL h40 (by omega), fun _ _ _ => by rw [m2, to_nI (by omega)]; omega, fun _ _ _ k s hk hsx => ?_⟩, fun i hi => ?_⟩
    · have hP := hinv k
      rw [← hsx] at hP
      obtain ⟨d1, -⟩ := hsub s.1 k hP
      exact ⟨fun _ _ => G_copyeq (by omega) (by omega) (by omega), fun _ _ => G_draws hM hL.r5 (by omega) (by omega), fun _ _ => (tl2 (n := n + 1) hL d1 (by omega) h4 (by omega) hT3).1⟩
    · unfold D_X12_tryLots_3
      rw [if_neg hne]
      by_cases c1 : D_X12_hasBit ch 0 = 0
      · rw [if_pos c1]
        exact (tl2 hL h (by omega) h4 (by omega) hT3).2 i (by omega)
      · rw [if_neg c1]
        by_cases c2 : D_X12_inTen (30 * n) 0 rr levels = 0
        · rw [if_pos c2]
          exact (tl2 hL h (by omega) h4 (by omega) hT3).2 i (by omega)
        · rw [if_neg c2]
          exact hinv _ i hi
theorem gr_orderOf (hL : LegR M holds oneIn fear mutiny tens kind nerve friendsOf fearTimes weight rr) (hN : NowR M 0 present braced seed tenOf feared angerOf lotsOf st) (hs : sub_men present M) {fN hE mB : Int32} : G_X12_orderOf x0 rr st levels fN hE mB sT sM dM mM gM rS mR wO := by
  obtain ⟨T, hT, hT4⟩ := hL.T3
  have hM := hL.M8
  intro k s hk _
  refine ⟨G_copyne (by omega) (by omega) (by omega), ?_⟩
  have hlev : ∀ i, i < 30 → D_X12_copy_ne 0 0 30 st s.2.2.2.1 i = st i := fun i hi => by rw [copy_ne_v (by omega), if_pos (by omega), Nat.zero_add, Nat.sub_zero]
  exact (tl3 (n := 0) (T := T) hL (RO_row hM (RO_st hL hN hs) (o' := 30 * 0) fun i hi => by rw [Nat.mul_zero, Nat.zero_add]; exact hlev i hi) (by omega) hT4 (by omega) hT).1
theorem gr_order (hL : LegR M holds oneIn fear mutiny tens kind nerve friendsOf fearTimes weight rr) (hN : NowR M 0 present braced seed tenOf feared angerOf lotsOf st) (hs : sub_men present M) : G_X12_order x0 hl rr a b c st levels sT sM dM mM gM rS mR wO := fun _ => gr_orderOf hL hN hs
theorem gr_orderOdds (hL : LegR M holds oneIn fear mutiny tens kind nerve friendsOf fearTimes weight rr) (hN : NowR M 0 present braced seed tenOf feared angerOf lotsOf st) (hs : sub_men present M) : G_X12_orderOdds x0 hl rr a b c st levels sT sM dM mM gM rS mR wO := by
  obtain ⟨T, hT, hT4⟩ := hL.T3
  refine ⟨fun _ => gr_orderOf hL hN hs, fun _ => ?_⟩
  obtain ⟨G, A, g1, g2, g3, g4, g5, g6, g7, g8, g9⟩ := choose_l (x1 := x0) (levels := levels) (good := 0) (ways := 0) (sT := sT) (sM := sM) (dM := dM) (mM := mM) (gM := gM) (rS := rS) (mR := mR) (wO := wO) (fN := (D_X12_startWhy x0 hl rr a b c st).2.1) (hE := (D_X12_startWhy x0 hl rr a b c st).2.2.1) (mB := (D_X12_startWhy x0 hl rr a b c st).2.2.2) (q0 := none) (p1 := 0) (b1 := 0) (s1 := 0) (t1 := st) (f1 := st) (a1 := st) (l1 := st) (q2 := none) (p3 := 0) (b3 := 0) (s3 := 0) (t3 := st) (f3 := st) (a3 := st) (l3 := st) (q3 := none) (p4 := 0) (b4 := 0) (s4 := 0) (t4 := st) (f4 := st) (a4 := st) (l4 := st) (q4 := none) (p5 := 0) (b5 := 0) (s5 := 0) (t5 := st) (f5 := st) (a5 := st) (l5 := st) (l := 0) hL hN hs hT4 hT
  unfold D_X12_orderOdds_a3 D_X12_orderOdds_a2 D_X12_orderOf
  dsimp only
  rw [g8, g9]
  exact G_lowest_n (by omega) (by omega) g2
end GR
