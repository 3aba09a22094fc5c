/-! THE LEGION TOLD, class beside reference's row r -/
def LegR (M : Nat) (holds oneIn fear mutiny tens : Int32) (kind nerve friendsOf fearTimes weight rr : Nat → Int32) : Prop :=
  M ≤ 8 ∧ rr 5 = nI M ∧ holds = rr 0 ∧ oneIn = rr 1 ∧ fear = rr 2 ∧ mutiny = rr 3 ∧ tens = rr 4 ∧ (∀ m, m < M → kind m = rr (9 + 3 * m)) ∧ (∀ m, m < M → nerve m = rr (9 + 3 * m + 2)) ∧ (∀ m, m < M → friendsOf m = rr (33 + m)) ∧ (∀ m, m < M → fearTimes m = if rr (9 + 3 * m) = 1 then 2 else if rr (9 + 3 * m) = 2 then 0 else 1) ∧ (∀ m, m < M → weight m = nI (rn_w rr m)) ∧ (∀ m, m < M → sub_men (rr (33 + m)) M) ∧ (∃ t, t ≤ 3 ∧ rr 4 = nI t) ∧ (rr 4 = 0 ∨ ∃ n, 2 ≤ n ∧ n < 7 ∧ rr 1 = nI n)
section LEG
variable {M o : Nat} {holds oneIn fear mutiny tens present braced seed start more heartened f2 : Int32} {kind nerve friendsOf fearTimes weight rr tenOf feared angerOf lotsOf row : Nat → Int32}
theorem LegR.M8 (h : LegR M holds oneIn fear mutiny tens kind nerve friendsOf fearTimes weight rr) : M ≤ 8 := h.1
theorem LegR.r5 (h : LegR M holds oneIn fear mutiny tens kind nerve friendsOf fearTimes weight rr) : rr 5 = nI M := h.2.1
theorem LegR.h0 (h : LegR M holds oneIn fear mutiny tens kind nerve friendsOf fearTimes weight rr) : holds = rr 0 := h.2.2.1
theorem LegR.h1 (h : LegR M holds oneIn fear mutiny tens kind nerve friendsOf fearTimes weight rr) : oneIn = rr 1 := h.2.2.2.1
theorem LegR.h2 (h : LegR M holds oneIn fear mutiny tens kind nerve friendsOf fearTimes weight rr) : fear = rr 2 := h.2.2.2.2.1
theorem LegR.h3 (h : LegR M holds oneIn fear mutiny tens kind nerve friendsOf fearTimes weight rr) : mutiny = rr 3 := h.2.2.2.2.2.1
theorem LegR.h4 (h : LegR M holds oneIn fear mutiny tens kind nerve friendsOf fearTimes weight rr) : tens = rr 4 := h.2.2.2.2.2.2.1
theorem LegR.kd (h : LegR M holds oneIn fear mutiny tens kind nerve friendsOf fearTimes weight rr) {m : Nat} (hm : m < M) : kind m = rr (9 + 3 * m) := h.2.2.2.2.2.2.2.1 m hm
theorem LegR.nv (h : LegR M holds oneIn fear mutiny tens kind nerve friendsOf fearTimes weight rr) {m : Nat} (hm : m < M) : nerve m = rr (9 + 3 * m + 2) := h.2.2.2.2.2.2.2.2.1 m hm
theorem LegR.fr (h : LegR M holds oneIn fear mutiny tens kind nerve friendsOf fearTimes weight rr) {m : Nat} (hm : m < M) : friendsOf m = rr (33 + m) := h.2.2.2.2.2.2.2.2.2.1 m hm
theorem LegR.ft (h : LegR M holds oneIn fear mutiny tens kind nerve friendsOf fearTimes weight rr) {m : Nat} (hm : m < M) : fearTimes m = if rr (9 + 3 * m) = 1 then 2 else if rr (9 + 3 * m) = 2 then 0 else 1 := h.2.2.2.2.2.2.2.2.2.2.1 m hm
theorem LegR.wg (h : LegR M holds oneIn fear mutiny tens kind nerve friendsOf fearTimes weight rr) {m : Nat} (hm : m < M) : weight m = nI (rn_w rr m) := h.2.2.2.2.2.2.2.2.2.2.2.1 m hm
theorem LegR.fs (h : LegR M holds oneIn fear mutiny tens kind nerve friendsOf fearTimes weight rr) {m : Nat} (hm : m < M) : sub_men (rr (33 + m)) M := h.2.2.2.2.2.2.2.2.2.2.2.2.1 m hm
theorem inc_of {x y : Int32} (h : x &&& (y ^^^ (-1)) = 0) {k : Nat} (hk : k < 32) (hb : bt x k = true) : bt y k = true := by
  have h1 : bt (x &&& (y ^^^ (-1))) k = false := by rw [h, b_0]
  rw [b_and, b_not _ hk, hb, Bool.true_and, Bool.not_eq_false'] at h1
  exact h1
theorem sub_of {x y : Int32} (h : x &&& (y ^^^ (-1)) = 0) (hy : sub_men y M) : sub_men x M := fun k hk hb => hy k hk (inc_of h hk hb)
theorem of_inc {x y : Int32} (h : ∀ k, k < 32 → bt x k = true → bt y k = true) : x &&& (y ^^^ (-1)) = 0 := by
  refine b_ext fun k hk => ?_
  rw [b_and, b_not _ hk, b_0]
  cases e : bt x k with
  | false => rfl
  | true => rw [h k hk e]; rfl
/-- who runs, told by the relation -/
theorem run_rel (hL : LegR M holds oneIn fear mutiny tens kind nerve friendsOf fearTimes weight rr) (hN : NowR M o present braced seed tenOf feared angerOf lotsOf row) (hs : sub_men present M) (hp : start &&& (present ^^^ (-1)) = 0) : D_X6_runWith start (braced ||| more) heartened f2 weight present nerve fearTimes feared = D_X12_runOf o start rr row more f2 heartened := by
  refine run_eq hL.M8 hL.r5 hN.1 (by rw [hN.2.1]) hs (sub_sm hL.M8 (sub_of hp hs)) (fun k hk h => inc_of hp (by omega) h) (fun k hk => ?_) fun k hk => hL.wg hk
  exact nerve_eq (hL.nv hk) (hL.ft hk) (hN.2.2.2.2.1 k hk)
theorem run_relG (hL : LegR M holds oneIn fear mutiny tens kind nerve friendsOf fearTimes weight rr) (hN : NowR M o present braced seed tenOf feared angerOf lotsOf row) (hs : sub_men present M) (hp : start &&& (present ^^^ (-1)) = 0) {n : Nat} (ho : o + 30 ≤ n) : G_X12_runOf o start rr row more f2 heartened n := by
  refine G_run_ref (held := braced ||| more) (fear := f2) (heartened := heartened) (nerve := nerve) (fearTimes := fearTimes) (feared := feared) hL.M8 hL.r5 hN.1 (by rw [hN.2.1]) hs (sub_sm hL.M8 (sub_of hp hs)) (fun k hk h => inc_of hp (by omega) h) (fun k hk => ?_) ho
  exact nerve_eq (hL.nv hk) (hL.ft hk) (hN.2.2.2.2.1 k hk)
theorem run_relS (hL : LegR M holds oneIn fear mutiny tens kind nerve friendsOf fearTimes weight rr) (hN : NowR M o present braced seed tenOf feared angerOf lotsOf row) (hs : sub_men present M) (hp : start &&& (present ^^^ (-1)) = 0) : sm (D_X12_runOf o start rr row more f2 heartened) := by
  refine (run_sub (held := braced ||| more) (fear := f2) (heartened := heartened) (nerve := nerve) (fearTimes := fearTimes) (feared := feared) hL.M8 hL.r5 hN.1 (by rw [hN.2.1]) hs (sub_sm hL.M8 (sub_of hp hs)) (fun k hk h => inc_of hp (by omega) h) (fun k hk => ?_)).1
  exact nerve_eq (hL.nv hk) (hL.ft hk) (hN.2.2.2.2.1 k hk)
theorem runFrom_rel (hL : LegR M holds oneIn fear mutiny tens kind nerve friendsOf fearTimes weight rr) (hN : NowR M o present braced seed tenOf feared angerOf lotsOf row) (hs : sub_men present M) (hp : start &&& (present ^^^ (-1)) = 0) : D_X6_runFrom start braced fear weight present nerve fearTimes feared = D_X12_runOf o start rr row 0 (rr 2) (-1) := by
  have := run_rel (more := 0) (heartened := (-1)) (f2 := rr 2) hL hN hs hp
  rw [Int32.or_zero] at this
  unfold D_X6_runFrom
  rw [hL.h2]
  exact this
/-- does the legion hold, told by the relation -/
theorem hold_rel (hL : LegR M holds oneIn fear mutiny tens kind nerve friendsOf fearTimes weight rr) (hN : NowR M o present braced seed tenOf feared angerOf lotsOf row) (hs : sub_men present M) (hp : start &&& (present ^^^ (-1)) = 0) : D_X6_holdsFast (D_X6_runWith start (braced ||| more) heartened f2 weight present nerve fearTimes feared) present holds = D_X12_doesHold o start row rr more f2 heartened := by
  rw [run_rel hL hN hs hp, holds_eq (sub_sm hL.M8 hs) hL.h0]
  unfold D_X12_doesHold D_X12_doesHold_a1
  rw [← hN.1]
theorem holdFrom_rel (hL : LegR M holds oneIn fear mutiny tens kind nerve friendsOf fearTimes weight rr) (hN : NowR M o present braced seed tenOf feared angerOf lotsOf row) (hs : sub_men present M) (hp : start &&& (present ^^^ (-1)) = 0) : D_X6_holdsFast (D_X6_runFrom start braced fear weight present nerve fearTimes feared) present holds = D_X12_doesHold o start row rr 0 (rr 2) (-1) := by
  rw [runFrom_rel hL hN hs hp, holds_eq (sub_sm hL.M8 hs) hL.h0]
  unfold D_X12_doesHold D_X12_doesHold_a1
  rw [← hN.1]
end LEG
