/-! FRIENDSNOW: pairs counted from either man -/
theorem fo_nI2 {f : Nat → Int32 → Int32} {g : Nat → Nat} {n : Nat} (h : ∀ k, k < n → ∀ a, f k (nI a) = nI (a + g k)) (a : Nat) : am_fo f n (nI a) = nI (a + sN g n) := by
  have : ∀ k, k ≤ n → am_fo f k (nI a) = nI (a + sN g k) := by
    intro k
    induction k with
    | zero => intro _; rfl
    | succ k ih =>
      intro hk
      show f k (am_fo f k (nI a)) = _
      rw [ih (by omega), h k (by omega), sN_succ, Nat.add_assoc]
  exact this n (Nat.le_refl n)
theorem sN_swap (H : Nat → Nat → Nat) (m n : Nat) : sN (fun i => sN (fun j => H i j) n) m = sN (fun j => sN (fun i => H i j) m) n := by
  induction m with
  | zero => exact (show (0 : Nat) = sN (fun _ => 0) n by rw [sN_const, Nat.mul_zero])
  | succ m ih =>
    rw [sN_succ, ih]
    exact (sN_add (fun j _ => rfl)).symm
theorem sN_from (g : Nat → Nat) (a c : Nat) : sN (fun j => if a ≤ j then g j else 0) (a + c) = sN (fun k => g (a + k)) c := by
  induction c with
  | zero =>
    rw [Nat.add_zero, sN_congr (g := fun _ => 0) (fun k hk => if_neg (by omega)), sN_const, Nat.mul_zero]; rfl
  | succ c ih => rw [← Nat.add_assoc, sN_succ, ih, sN_succ, if_pos (Nat.le_add_right a c)]
theorem sN_to (g : Nat → Nat) {j n : Nat} (h : j ≤ n) : sN (fun i => if i < j then g i else 0) n = sN g j := by
  rw [sN_cut h (fun k h1 _ => if_neg (by omega))]
  exact sN_congr fun k hk => if_pos hk
section FNOW
variable {M : Nat} {holds oneIn fear mutiny tens present braced seed x0 hl a b c : Int32} {kind nerve friendsOf fearTimes weight rr tenOf feared angerOf lotsOf st : Nat → Int32}
def fnF (present : Int32) (tenOf rr : Nat → Int32) (i j : Nat) : Nat := if bt present i && bt present j && decide (tenOf i = tenOf j) && bt (rr (33 + i)) j then 1 else 0
theorem fnow_eq (hL : LegR M holds oneIn fear mutiny tens kind nerve friendsOf fearTimes weight rr) (hN : NowR M 0 present braced seed tenOf feared angerOf lotsOf st) (hs : sub_men present M) (hy : ∀ i j, i < M → j < M → bt (rr (33 + i)) j = bt (rr (33 + j)) i) : D_X6_friendsTogether present tenOf friendsOf = D_X12_friendsNow_l2 rr st := by
  have hM := hL.M8
  have hpres : ∀ k, k < 32 → bt present k = true → k < M := hs
  have hc : D_X6_friendsTogether present tenOf friendsOf = nI (0 + sN (fun i => sN (fun k => fnF present tenOf rr i (i + 1 + k)) (8 - (i + 1))) 8) := by
    unfold D_X6_friendsTogether D_X6_friendsTogether_l2
    refine fo_nI2 (a := 0) fun i hi a => ?_
    unfold st_X6_friendsTogether_4 D_X6_friendsTogether_l1
    refine fo_nI2 (a := a) fun k hk a => ?_
    unfold st_X6_friendsTogether_14 D_X6_friendsTogether_j1 fnF
    cases h1 : bt present i with
    | false => rw [if_pos ((has0 (by omega)).mpr h1)]; rfl
    | true =>
      rw [if_neg (fun g => by rw [has0 (by omega), h1] at g; cases g)]
      cases h2 : bt present (i + 1 + k) with
      | false => rw [if_pos ((has0 (by omega)).mpr h2)]; rfl
      | true =>
        rw [if_neg (fun g => by rw [has0 (by omega), h2] at g; cases g), hL.fr (hpres i (by omega) h1)]
        by_cases h3 : tenOf i = tenOf (i + 1 + k)
        · rw [if_pos h3, decide_eq_true h3]
          cases h4 : bt (rr (33 + i)) (i + 1 + k) with
          | false => rw [if_pos ((has0 (by omega)).mpr h4)]; rfl
          | true => rw [if_neg (fun g => by rw [has0 (by omega), h4] at g; cases g)]; exact nI_1 a
        · rw [if_neg h3, decide_eq_false h3]; rfl
  have hr : D_X12_friendsNow_l2 rr st = nI (0 + sN (fun j => sN (fun i => fnF present tenOf rr i j) j) M) := by
    unfold D_X12_friendsNow_l2
    rw [hL.r5, be_nI (by omega)]
    refine fo_nI2 (a := 0) fun j hj a => ?_
    unfold st_X12_friendsNow_21 D_X12_friendsNow_l1
    rw [be_nI (by omega)]
    refine fo_nI2 (a := a) fun i hi a => ?_
    unfold st_X12_friendsNow_33 D_X12_friendsNow_j1 fnF
    rw [← show present = st 27 from hN.1, hy i j (by omega) hj]
    have e1 : st j = tenOf j := by have := hN.2.2.2.1 j hj; rw [Nat.zero_add] at this; exact this.symm
    have e2 : st i = tenOf i := by have := hN.2.2.2.1 i (by omega); rw [Nat.zero_add] at this; exact this.symm
    rw [e1, e2]
    cases h1 : bt present j with
    | false => rw [if_pos ((hasBit0 (by omega)).mpr h1), Bool.and_false]; exact nI_add a 0
    | true =>
      rw [if_neg (fun g => by rw [hasBit0 (by omega), h1] at g; cases g)]
      cases h2 : bt present i with
      | false => rw [if_pos ((hasBit0 (by omega)).mpr h2)]; exact nI_add a 0
      | true =>
        rw [if_neg (fun g => by rw [hasBit0 (by omega), h2] at g; cases g)]
        by_cases h3 : tenOf j = tenOf i
        · rw [if_pos h3, decide_eq_true h3.symm]
          cases h4 : bt (rr (33 + j)) i with
          | false => rw [if_pos ((hasBit0 (by omega)).mpr h4)]; exact nI_add a 0
          | true => rw [if_neg (fun g => by rw [hasBit0 (by omega), h4] at g; cases g)]; exact nI_1 a
        · rw [if_neg h3, decide_eq_false (fun g => h3 g.symm)]; exact nI_add a 0
  rw [hc, hr]
  congr 2
  have a1 : sN (fun i => sN (fun k => fnF present tenOf rr i (i + 1 + k)) (8 - (i + 1))) 8 = sN (fun i => sN (fun j => if i < j then fnF present tenOf rr i j else 0) 8) 8 := sN_congr fun i hi => by
    have := sN_from (fun j => fnF present tenOf rr i j) (i + 1) (8 - (i + 1))
    rw [show i + 1 + (8 - (i + 1)) = 8 by omega] at this
    exact this.symm
  have a2 : sN (fun j => sN (fun i => fnF present tenOf rr i j) j) M = sN (fun j => sN (fun i => if i < j then fnF present tenOf rr i j else 0) 8) 8 := by
    rw [sN_cut (N := 8) hM (fun j h1 h2 => ?_)]
    · exact sN_congr fun j hj => (sN_to _ (by omega)).symm
    · rw [sN_congr (g := fun _ => 0) (fun i hi => ?_), sN_const, Nat.mul_zero]
      have : bt present j = false := by
        cases e : bt present j with
        | false => rfl
        | true => have := hpres j (by omega) e; omega
      unfold fnF
      rw [this, Bool.and_false]
      by_cases c : i < j
      · rw [if_pos c]; rfl
      · rw [if_neg c]
  rw [a1, a2, sN_swap]
theorem pub_friendsNow (hL : LegR M holds oneIn fear mutiny tens kind nerve friendsOf fearTimes weight rr) (hN : NowR M 0 present braced seed tenOf feared angerOf lotsOf st) (hs : sub_men present M) (hh : hl = 0 ↔ tens = 0) (hy : ∀ i j, i < M → j < M → bt (rr (33 + i)) j = bt (rr (33 + j)) i) : D_X11_friendsNow tens present tenOf friendsOf = ((D_X12_friendsNow hl rr st).1, (D_X12_friendsNow hl rr st).2.2) := by
  unfold D_X11_friendsNow D_X12_friendsNow D_X11_friendsNow_a1
  by_cases h0 : hl = 0
  · have ht : D_X11_troubleOfLegion tens = 1 := if_pos (hh.mp h0)
    rw [ht, if_pos h0, if_neg (fun g => absurd ((refused1 _).mp g) (by decide))]
    rfl
  · have ht : D_X11_troubleOfLegion tens = 0 := if_neg (fun g => h0 (hh.mpr g))
    rw [ht, if_neg h0, if_pos ((refused1 _).mpr rfl), fnow_eq hL hN hs hy]
    rfl
end FNOW
