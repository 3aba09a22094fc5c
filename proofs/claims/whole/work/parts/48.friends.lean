theorem solve0 {mt : RW} {t : Nat} (ht : t < 3) : D_X9_solve_l1 mt t = 0 := by
  have h := (by omega : t = 0 ∨ t = 1 ∨ t = 2)
  rcases h with rfl | rfl | rfl <;> rfl
theorem seek0 {st rr room : RW} {t : Nat} (ht : t < 3) : D_X12_seekTens_l1 st rr room t = (D_X12_ones (st 27) + rr 4 - 1) / rr 4 := by
  have h := (by omega : t = 0 ∨ t = 1 ∨ t = 2)
  rcases h with rfl | rfl | rfl <;> rfl
section FRIENDS
variable {M : Nat} {holds oneIn fear mutiny tens present braced seed x0 hl a b c : Int32} {kind nerve friendsOf fearTimes weight rr tenOf feared angerOf lotsOf st : Nat → Int32}
variable {men most0 fewest : Int32} {T : Nat} {mt0 ten0 best0 room0 put0 bestP0 : Nat → Int32} {fewF : Int32}
def C_0 (x few : Int32) (ten best mt : RW) : T4 := ((D_X9_assignFrom_0 x few ten best).1, (D_X9_assignFrom_0 x few ten best).2, ten, mt)
def R_0 (rr st : RW) (x few : Int32) (put best room : RW) : T4 := ((D_X12_tryTens_0 x few rr put best st room).1, (D_X12_tryTens_0 x few rr put best st room).2.1, put, (D_X12_tryTens_0 x few rr put best st room).2.2)
def C_1 (present tens most : Int32) (friendsOf : RW) (x few : Int32) (ten best mt : RW) : T4 := D_X9_assignFrom_1 x few present ten best tens mt most friendsOf
def R_1 (rr st : RW) (x few : Int32) (put best room : RW) : T4 := D_X12_tryTens_1 x few rr put best st room
def C_2 (present tens most : Int32) (friendsOf : RW) (x few : Int32) (ten best mt : RW) : T4 := D_X9_assignFrom_2 x few present ten best tens mt most friendsOf
def R_2 (rr st : RW) (x few : Int32) (put best room : RW) : T4 := D_X12_tryTens_2 x few rr put best st room
def C_3 (present tens most : Int32) (friendsOf : RW) (x few : Int32) (ten best mt : RW) : T4 := D_X9_assignFrom_3 x few present ten best tens mt most friendsOf
def R_3 (rr st : RW) (x few : Int32) (put best room : RW) : T4 := D_X12_tryTens_3 x few rr put best st room
def C_4 (present tens most : Int32) (friendsOf : RW) (x few : Int32) (ten best mt : RW) : T4 := D_X9_assignFrom_4 x few present ten best tens mt most friendsOf
def R_4 (rr st : RW) (x few : Int32) (put best room : RW) : T4 := D_X12_tryTens_4 x few rr put best st room
def C_5 (present tens most : Int32) (friendsOf : RW) (x few : Int32) (ten best mt : RW) : T4 := D_X9_assignFrom_5 x few present ten best tens mt most friendsOf
def R_5 (rr st : RW) (x few : Int32) (put best room : RW) : T4 := D_X12_tryTens_5 x few rr put best st room
def C_6 (present tens most : Int32) (friendsOf : RW) (x few : Int32) (ten best mt : RW) : T4 := D_X9_assignFrom_6 x few present ten best tens mt most friendsOf
def R_6 (rr st : RW) (x few : Int32) (put best room : RW) : T4 := D_X12_tryTens_6 x few rr put best st room
def C_7 (present tens most : Int32) (friendsOf : RW) (x few : Int32) (ten best mt : RW) : T4 := D_X9_assignFrom_7 x few present ten best tens mt most friendsOf
def R_7 (rr st : RW) (x few : Int32) (put best room : RW) : T4 := D_X12_tryTens_7 x few rr put best st room
def C_8 (present tens most : Int32) (friendsOf : RW) (x few : Int32) (ten best mt : RW) : T4 := D_X9_assignFrom_8 x few present ten best tens mt most friendsOf
def R_8 (rr st : RW) (x few : Int32) (put best room : RW) : T4 := D_X12_tryTens_8 x few rr put best st room
theorem eC_1 (present tens most : Int32) (friendsOf : RW) : C_1 present tens most friendsOf = gC 7 7 present tens most friendsOf C_0 := rfl
theorem eR_1 (rr st : RW) : R_1 rr st = gR 7 7 (rr 40) rr st (R_0 rr st) := rfl
theorem eC_2 (present tens most : Int32) (friendsOf : RW) : C_2 present tens most friendsOf = gC 6 6 present tens most friendsOf (C_1 present tens most friendsOf) := rfl
theorem eR_2 (rr st : RW) : R_2 rr st = gR 6 6 (rr 39) rr st (R_1 rr st) := rfl
theorem eC_3 (present tens most : Int32) (friendsOf : RW) : C_3 present tens most friendsOf = gC 5 5 present tens most friendsOf (C_2 present tens most friendsOf) := rfl
theorem eR_3 (rr st : RW) : R_3 rr st = gR 5 5 (rr 38) rr st (R_2 rr st) := rfl
theorem eC_4 (present tens most : Int32) (friendsOf : RW) : C_4 present tens most friendsOf = gC 4 4 present tens most friendsOf (C_3 present tens most friendsOf) := rfl
theorem eR_4 (rr st : RW) : R_4 rr st = gR 4 4 (rr 37) rr st (R_3 rr st) := rfl
theorem eC_5 (present tens most : Int32) (friendsOf : RW) : C_5 present tens most friendsOf = gC 3 3 present tens most friendsOf (C_4 present tens most friendsOf) := rfl
theorem eR_5 (rr st : RW) : R_5 rr st = gR 3 3 (rr 36) rr st (R_4 rr st) := rfl
theorem eC_6 (present tens most : Int32) (friendsOf : RW) : C_6 present tens most friendsOf = gC 2 2 present tens most friendsOf (C_5 present tens most friendsOf) := rfl
theorem eR_6 (rr st : RW) : R_6 rr st = gR 2 2 (rr 35) rr st (R_5 rr st) := rfl
theorem eC_7 (present tens most : Int32) (friendsOf : RW) : C_7 present tens most friendsOf = gC 1 1 present tens most friendsOf (C_6 present tens most friendsOf) := rfl
theorem eR_7 (rr st : RW) : R_7 rr st = gR 1 1 (rr 34) rr st (R_6 rr st) := rfl
theorem eC_8 (present tens most : Int32) (friendsOf : RW) : C_8 present tens most friendsOf = gC 0 0 present tens most friendsOf (C_7 present tens most friendsOf) := rfl
theorem eR_8 (rr st : RW) : R_8 rr st = gR 0 0 (rr 33) rr st (R_7 rr st) := rfl
theorem LV_0 {mo : Nat} (hL : LegR M holds oneIn fear mutiny tens kind nerve friendsOf fearTimes weight rr) (h27 : st 27 = present) (hs : sub_men present M) (hP : Pf rr M ≤ 8) : (M ≤ 8 → CLf C_0) ∧ (8 ≤ M → AS T mo 8 present rr C_0 (R_0 rr st)) := by
  have part1 : CLf C_0 := fun x few ten best mt => by
    unfold C_0 D_X9_assignFrom_0
    by_cases c : x < few
    · rw [if_pos c, if_pos c]
    · rw [if_neg c, if_neg c]
  refine ⟨fun _ => part1, fun h x few fewR ten best mt put bestR room hTI hx hSU hRS => ?_⟩
  have hM8 : M = 8 := by have := hL.M8; omega
  rw [hM8] at hP
  rw [part1]
  by_cases hlt : nI x < few
  · have hltR : nI x < fewR := by
      rcases hSU with ⟨-, e2⟩ | ⟨v, -, e1, e2, -⟩
      · rw [e2]; exact nI_lt (b := 1000000) (by omega) (by omega)
      · rw [e2, ← e1]; exact hlt
    have hR : R_0 rr st (nI x) fewR put bestR room = (nI x, D_X12_copy_ne 0 0 8 put bestR, put, room) := by
      unfold R_0 D_X12_tryTens_0
      rw [if_pos hltR, if_pos (by rw [hL.r5, hM8]; rfl)]
    rw [hR, if_pos hlt]
    refine ⟨⟨x, by omega, rfl, rfl, fun k hk hb => ?_⟩, fun t ht => ⟨rfl, rfl⟩, fun k hk => ⟨rfl, rfl⟩⟩
    show va_cpy ten best 0 0 8 k = D_X12_copy_ne 0 0 8 put bestR k
    rw [cpy_v _ _ hk, copy_ne_v (by omega), if_pos (by omega), Nat.zero_add, Nat.sub_zero]
    exact hTI.2.2.1 k hk hb
  · have hset : SET present few fewR best bestR := by
      rcases hSU with ⟨e1, -⟩ | e
      · exact absurd (by rw [e1]; exact nI_lt (b := 9) (by omega) (by omega)) hlt
      · exact e
    have hltR : ¬ nI x < fewR := by
      obtain ⟨v, -, e1, e2, -⟩ := hset
      rw [e2, ← e1]; exact hlt
    have hR : R_0 rr st (nI x) fewR put bestR room = (fewR, bestR, put, room) := by unfold R_0 D_X12_tryTens_0; rw [if_neg hltR]
    rw [hR, if_neg hlt]
    exact ⟨hset, fun _ _ => ⟨rfl, rfl⟩, fun _ _ => ⟨rfl, rfl⟩⟩
theorem LV_8 {mo : Nat} (hL : LegR M holds oneIn fear mutiny tens kind nerve friendsOf fearTimes weight rr) (h27 : st 27 = present) (hs : sub_men present M) (hP : Pf rr M ≤ 8) (h4 : rr 4 = nI T) (hT3 : T ≤ 3) (hmo : mo < 2 ^ 20) : AS T mo 0 present rr (C_8 present (nI T) (nI mo) friendsOf) (R_8 rr st) := by
  have l0 := LV_0 (T := T) (mo := mo) hL h27 hs hP
  have l1 : (M ≤ 7 → CLf (C_1 present (nI T) (nI mo) friendsOf)) ∧ (7 ≤ M → AS T mo 7 present rr (C_1 present (nI T) (nI mo) friendsOf) (R_1 rr st)) := by
    rw [eC_1, eR_1]
    exact LV_step (m := 7) (by omega) rfl hL.M8 hL.r5 h4 rfl hT3 rfl hmo hs h27 rfl (fun h => hL.fr h) hP l0
  have l2 : (M ≤ 6 → CLf (C_2 present (nI T) (nI mo) friendsOf)) ∧ (6 ≤ M → AS T mo 6 present rr (C_2 present (nI T) (nI mo) friendsOf) (R_2 rr st)) := by
    rw [eC_2, eR_2]
    exact LV_step (m := 6) (by omega) rfl hL.M8 hL.r5 h4 rfl hT3 rfl hmo hs h27 rfl (fun h => hL.fr h) hP l1
  have l3 : (M ≤ 5 → CLf (C_3 present (nI T) (nI mo) friendsOf)) ∧ (5 ≤ M → AS T mo 5 present rr (C_3 present (nI T) (nI mo) friendsOf) (R_3 rr st)) := by
    rw [eC_3, eR_3]
    exact LV_step (m := 5) (by omega) rfl hL.M8 hL.r5 h4 rfl hT3 rfl hmo hs h27 rfl (fun h => hL.fr h) hP l2
  have l4 : (M ≤ 4 → CLf (C_4 present (nI T) (nI mo) friendsOf)) ∧ (4 ≤ M → AS T mo 4 present rr (C_4 present (nI T) (nI mo) friendsOf) (R_4 rr st)) := by
    rw [eC_4, eR_4]
    exact LV_step (m := 4) (by omega) rfl hL.M8 hL.r5 h4 rfl hT3 rfl hmo hs h27 rfl (fun h => hL.fr h) hP l3
  have l5 : (M ≤ 3 → CLf (C_5 present (nI T) (nI mo) friendsOf)) ∧ (3 ≤ M → AS T mo 3 present rr (C_5 present (nI T) (nI mo) friendsOf) (R_5 rr st)) := by
    rw [eC_5, eR_5]
    exact LV_step (m := 3) (by omega) rfl hL.M8 hL.r5 h4 rfl hT3 rfl hmo hs h27 rfl (fun h => hL.fr h) hP l4
  have l6 : (M ≤ 2 → CLf (C_6 present (nI T) (nI mo) friendsOf)) ∧ (2 ≤ M → AS T mo 2 present rr (C_6 present (nI T) (nI mo) friendsOf) (R_6 rr st)) := by
    rw [eC_6, eR_6]
    exact LV_step (m := 2) (by omega) rfl hL.M8 hL.r5 h4 rfl hT3 rfl hmo hs h27 rfl (fun h => hL.fr h) hP l5
  have l7 : (M ≤ 1 → CLf (C_7 present (nI T) (nI mo) friendsOf)) ∧ (1 ≤ M → AS T mo 1 present rr (C_7 present (nI T) (nI mo) friendsOf) (R_7 rr st)) := by
    rw [eC_7, eR_7]
    exact LV_step (m := 1) (by omega) rfl hL.M8 hL.r5 h4 rfl hT3 rfl hmo hs h27 rfl (fun h => hL.fr h) hP l6
  have l8 : (M ≤ 0 → CLf (C_8 present (nI T) (nI mo) friendsOf)) ∧ (0 ≤ M → AS T mo 0 present rr (C_8 present (nI T) (nI mo) friendsOf) (R_8 rr st)) := by
    rw [eC_8, eR_8]
    exact LV_step (m := 0) (by omega) rfl hL.M8 hL.r5 h4 rfl hT3 rfl hmo hs h27 rfl (fun h => hL.fr h) hP l7
  exact l8.2 (Nat.zero_le M)
theorem most_all : ∀ n, n < 9 → ∀ T, T < 3 → (nI n + nI (T + 1) - 1) / nI (T + 1) = nI ((n + T) / (T + 1)) ∧ n ≤ (T + 1) * ((n + T) / (T + 1)) ∧ (n + T) / (T + 1) ≤ 8 := by decide +kernel
theorem sN_const (c : Nat) (n : Nat) : sN (fun _ => c) n = n * c := by
  induction n with
  | zero => rw [Nat.zero_mul]; rfl
  | succ n ih => rw [sN_succ, ih, Nat.succ_mul]
theorem solve_rel (hL : LegR M holds oneIn fear mutiny tens kind nerve friendsOf fearTimes weight rr) (hN : NowR M 0 present braced seed tenOf feared angerOf lotsOf st) (hs : sub_men present M) (hP : Pf rr M ≤ 8) (h4 : ¬ rr 4 = 0) : SET present (D_X9_solve tens present most0 mt0 ten0 best0 friendsOf).1 (D_X12_seekTens st rr room0 put0 bestP0).1 (D_X9_solve tens present most0 mt0 ten0 best0 friendsOf).2.2.2.1 (D_X12_seekTens st rr room0 put0 bestP0).2.2.2.1 := by
  have hM := hL.M8
  have hsm := sub_sm hM hs
  have h27 : st 27 = present := hN.1.symm
  obtain ⟨T, hT, hT4⟩ := hL.T3
  obtain ⟨T, rfl⟩ : ∃ q, T = q + 1 := ⟨T - 1, by
    rcases Nat.eq_zero_or_pos T with h | h
    · rw [h] at hT4; exact absurd hT4 h4
    · omega⟩
  have hc := ct_le hsm
  obtain ⟨a1, a2, a3⟩ := most_all (ct present) (by omega) T (by omega)
  have htens : tens = nI (T + 1) := by rw [hL.h4]; exact hT4
  have key := LV_8 (T := T + 1) (mo := (ct present + T) / (T + 1)) (st := st) hL h27 hs hP hT4 hT (by omega) 0 9 1000000 ten0 best0 (D_X9_solve_l1 mt0) put0 bestP0 (D_X12_seekTens_l1 st rr room0) ⟨fun t ht k hk => ?_, fun t ht => ?_, fun k hk => absurd hk (Nat.not_lt_zero k), fun k hk => absurd hk (Nat.not_lt_zero k)⟩ (Nat.zero_le _) (Or.inl ⟨rfl, rfl⟩) ?_
  · unfold D_X9_solve D_X9_solve_j1 D_X12_seekTens D_X9_solve_a1 D_X12_seekTens_a1
    rw [htens, if_neg (nI_nle (by omega) (by omega)), bc_ct hsm, a1]
    exact key.1
  · have : D_X9_solve_l1 mt0 t = 0 := solve0 (by omega)
    rw [this, b_0, decide_eq_false (Nat.not_lt_zero k)]; rfl
  · have : D_X9_solve_l1 mt0 t = 0 := solve0 (by omega)
    rw [this, show ct 0 = 0 by decide, Nat.sub_zero]
    refine ⟨Nat.zero_le _, ?_⟩
    rw [seek0 (by omega), h27, on_ct hsm, hT4, a1]
  · rw [sN_congr (g := fun _ => (ct present + T) / (T + 1)) (fun t ht => by rw [solve0 (show t < 3 by omega), show ct 0 = 0 by decide, Nat.sub_zero]), sN_const]
    refine Nat.le_trans (Nat.le_of_eq ?_) a2
    rw [ct_sN]
    unfold RS
    refine sN_congr fun k hk => ?_
    cases bt present k
    · rw [if_neg (by simp)]; rfl
    · rw [if_pos (by simp)]; rfl
theorem pub_friends (hL : LegR M holds oneIn fear mutiny tens kind nerve friendsOf fearTimes weight rr) (hN : NowR M 0 present braced seed tenOf feared angerOf lotsOf st) (hs : sub_men present M) (hh : hl = 0 ↔ tens = 0) (hP : Pf rr M ≤ 8) : (D_X11_friends tens fewest present most0 mt0 ten0 best0 friendsOf).1 = (D_X12_friends hl st rr room0 fewF put0 bestP0).1 ∧ (D_X11_friends tens fewest present most0 mt0 ten0 best0 friendsOf).2.1 = (D_X12_friends hl st rr room0 fewF put0 bestP0).2.2.1 := by
  unfold D_X11_friends D_X12_friends D_X12_friends_j1 D_X11_friends_a1 D_X11_friends_a2 D_X12_friends_a3
  by_cases h0 : hl = 0
  · have ht : D_X11_troubleOfLegion tens = 1 := if_pos (hh.mp h0)
    rw [ht, if_pos h0, if_neg (fun g => absurd ((refused1 _).mp g) (by decide))]
    exact ⟨rfl, rfl⟩
  · have ht : D_X11_troubleOfLegion tens = 0 := if_neg (fun g => h0 (hh.mpr g))
    rw [ht, if_neg h0, if_pos ((refused1 _).mpr rfl)]
    obtain ⟨v, v1, v2, v3, v4⟩ := solve_rel (most0 := most0) (mt0 := mt0) (ten0 := ten0) (best0 := best0) (room0 := room0) (put0 := put0) (bestP0 := bestP0) hL hN hs hP (fun h => h0 (hh.mpr (by rw [hL.h4]; exact h)))
    dsimp only
    rw [v2, v3]
    exact ⟨rfl, rfl⟩
theorem pub_newTen (hL : LegR M holds oneIn fear mutiny tens kind nerve friendsOf fearTimes weight rr) (hN : NowR M 0 present braced seed tenOf feared angerOf lotsOf st) (hs : sub_men present M) (hh : hl = 0 ↔ tens = 0) (hP : Pf rr M ≤ 8) (hm : men = nI M) (hz : hl = 0 → M = 0) : (D_X11_newTen x0 men present fewest tens most0 mt0 ten0 best0 friendsOf).1 = (D_X12_newTen x0 hl rr st room0 fewF put0 bestP0).1 ∧ (D_X11_newTen x0 men present fewest tens most0 mt0 ten0 best0 friendsOf).2.1 = (D_X12_newTen x0 hl rr st room0 fewF put0 bestP0).2.2.1 := by
  have hM := hL.M8
  unfold D_X11_newTen D_X12_newTen D_X11_newTen_a1 D_X11_newTen_a2 D_X12_newTen_a4
  rw [hm]
  rcases present_why (x0 := x0) hM hL.r5 hz hN.1 with ⟨e1, e2⟩ | ⟨e1, e2, e3, e4, m, m1, m2, m3⟩
  · rw [e1, if_neg (fun g => absurd ((refused1 _).mp g) (by decide)), refused2]
    rcases e2 with e2 | ⟨e2, e3⟩
    · rw [if_pos e2]; exact ⟨rfl, rfl⟩
    · rw [if_neg e2, if_pos e3]; exact ⟨rfl, rfl⟩
  · rw [e1, if_pos ((refused1 _).mpr rfl), refused2, if_neg e2, if_neg e3]
    obtain ⟨v, v1, v2, v3, v4⟩ := solve_rel (most0 := most0) (mt0 := mt0) (ten0 := ten0) (best0 := best0) (room0 := room0) (put0 := put0) (bestP0 := bestP0) hL hN hs hP (fun h => e4 (hh.mpr (by rw [hL.h4]; exact h)))
    dsimp only
    rw [m2, nI_clamp (by omega), v4 m (by omega) m3]
    exact ⟨rfl, rfl⟩
end FRIENDS
