theorem am_fe_s {σ ρ : Type} {step : Nat → σ → σ ⊕ ρ} {n : Nat} {s : σ} : am_fe step (n + 1) s = am_sel (am_fe step n s) (step n) Sum.inr := by
  rw [am_fe]
  cases am_fe step n s <;> rfl
section RUN3
variable {M o : Nat} {start held heartened fear present more fearNow heart : Int32} {weight nerve fearTimes feared rr row : Nat → Int32}
def rf_I (start held heartened fear present : Int32) (nerve fearTimes feared rr : Nat → Int32) (k : Nat) (s : Int32 × Int32) : Prop := sm s.1 ∧ inc start s.1 ∧ inc s.1 present ∧ good (rn_e present held) (rn_v fear heartened nerve fearTimes feared) (rn_w rr) start s.1 ∧ ((s.2 = 0 ∧ clo (rn_e present held) (rn_v fear heartened nerve fearTimes feared) (rn_w rr) s.1) ∨ (s.2 = 1 ∧ k ≤ ct s.1))
theorem rn_ref (hM : M ≤ 8) (hr : rr 5 = nI M) (hp : present = row (o + 27)) (hh : held = row (o + 28) ||| more) (hs : sub_men present M) (hst : sm start) (hsp : inc start present) (hn : ∀ k, k < M → D_X12_nerveOf o k rr row fearNow heart = rn_v fear heartened nerve fearTimes feared k) : rn_fin start held heartened fear present nerve fearTimes feared rr (D_X12_runOf o start rr row more fearNow heart) ∧ am_ir (D_X12_runOf_l2 o start rr row more fearNow heart) = true := by
  have key := am_fe_inv (step := st_X12_runOf_6 o rr row more fearNow heart) (I := rf_I start held heartened fear present nerve fearTimes feared rr) (J := rn_fin start held heartened fear present nerve fearTimes feared rr) (n := 9) (s := (start, 1)) ⟨hst, fun _ _ h => h, hsp, good_st _ _ _ _, Or.inr ⟨rfl, Nat.zero_le _⟩⟩ (by
    intro k t hk hI
    obtain ⟨i1, i2, i3, i4, i5⟩ := hI
    unfold st_X12_runOf_6
    rcases i5 with ⟨a1, a2⟩ | ⟨a1, a2⟩
    · rw [if_pos a1]
      exact ⟨fun u hu => (by cases hu), fun r hr => by cases hr; exact ⟨i1, i2, a2, i4⟩⟩
    · rw [if_neg (by rw [a1]; decide)]
      refine ⟨fun u hu => ?_, fun r hr => by cases hr⟩
      cases hu
      show rf_I start held heartened fear present nerve fearTimes feared rr (k + 1) (D_X12_runOf_l1 o rr row more fearNow heart t)
      have hin := rf_inner (start := start) hM hr hp hh hs hn i1 i3 i4 M (Nat.le_refl M)
      unfold D_X12_runOf_l1
      rw [hr, be_nI (by omega)]
      generalize am_fo (st_X12_runOf_17 o rr row more fearNow heart) M (t.1, 0) = s at hin
      obtain ⟨j1, j2, j3, j4, j5, j6⟩ := hin
      refine ⟨j1, inc_tr i2 j2, j5, j4, ?_⟩
      rcases j6 with ⟨b1, b2, b3⟩ | ⟨b1, b2⟩
      · refine Or.inl ⟨b1, fun j hj he hlt => ?_⟩
        rw [b2] at hlt ⊢
        by_cases hjM : j < M
        · exact b3 j hjM he hlt
        · unfold rn_e at he
          rw [Bool.and_eq_true] at he
          exact absurd (hs j (by omega) he.1) hjM
      · exact Or.inr ⟨b1, by omega⟩)
  have hend : ∃ r, am_fe (st_X12_runOf_6 o rr row more fearNow heart) 10 (start, 1) = .inr r ∧ rn_fin start held heartened fear present nerve fearTimes feared rr r := by
    rw [show am_fe (st_X12_runOf_6 o rr row more fearNow heart) 10 (start, 1) = am_sel (am_fe (st_X12_runOf_6 o rr row more fearNow heart) 9 (start, 1)) (st_X12_runOf_6 o rr row more fearNow heart 9) Sum.inr from am_fe_s]
    cases e : am_fe (st_X12_runOf_6 o rr row more fearNow heart) 9 (start, 1) with
    | inr r => exact ⟨r, rfl, key.2 r e⟩
    | inl t =>
      obtain ⟨i1, i2, i3, i4, i5⟩ := key.1 t e
      rcases i5 with ⟨a1, a2⟩ | ⟨a1, a2⟩
      · refine ⟨t.1, ?_, i1, i2, a2, i4⟩
        show st_X12_runOf_6 o rr row more fearNow heart 9 t = _
        unfold st_X12_runOf_6
        rw [if_pos a1]
      · have := ct_le i1
        omega
  obtain ⟨r, e, hf⟩ := hend
  unfold D_X12_runOf D_X12_runOf_m1 D_X12_runOf_l2
  rw [e]
  exact ⟨hf, rfl⟩
/-- WHO RUNS is the same -/
theorem run_eq (hM : M ≤ 8) (hr : rr 5 = nI M) (hp : present = row (o + 27)) (hh : held = row (o + 28) ||| more) (hs : sub_men present M) (hst : sm start) (hsp : inc start present) (hn : ∀ k, k < M → D_X12_nerveOf o k rr row fearNow heart = rn_v fear heartened nerve fearTimes feared k) (hw : ∀ k, k < M → weight k = nI (rn_w rr k)) : D_X6_runWith start held heartened fear weight present nerve fearTimes feared = D_X12_runOf o start rr row more fearNow heart := by
  obtain ⟨a1, a2, a3, a4⟩ := rn_class (held := held) (heartened := heartened) (fear := fear) (nerve := nerve) (fearTimes := fearTimes) (feared := feared) hM hs hst hsp hw
  obtain ⟨b1, b2, b3, b4⟩ := (rn_ref (start := start) hM hr hp hh hs hst hsp hn).1
  exact good_uniq _ _ _ _ a1 b1 a2 b2 a3 b3 a4 b4
theorem run_sub (hM : M ≤ 8) (hr : rr 5 = nI M) (hp : present = row (o + 27)) (hh : held = row (o + 28) ||| more) (hs : sub_men present M) (hst : sm start) (hsp : inc start present) (hn : ∀ k, k < M → D_X12_nerveOf o k rr row fearNow heart = rn_v fear heartened nerve fearTimes feared k) : sm (D_X12_runOf o start rr row more fearNow heart) ∧ inc start (D_X12_runOf o start rr row more fearNow heart) := by
  obtain ⟨b1, b2, -, -⟩ := (rn_ref (start := start) hM hr hp hh hs hst hsp hn).1
  exact ⟨b1, b2⟩
theorem G_run_class : G_X6_runWith start held heartened fear weight present nerve fearTimes feared := by
  intro k s hk _
  exact ⟨fun _ k3 s3 h3 _ _ => h3, fun _ _ k3 s3 h3 _ _ => h3⟩
theorem G_weight (hM : M ≤ 8) (hr : rr 5 = nI M) (x : Int32) : G_X12_weightOf x rr := by
  intro k s hk _ _
  rw [hr, be_nI (by omega)] at hk
  show 9 + 3 * k < 172
  omega
theorem G_nerve {n k : Nat} (hk : k < 8) (ho : o + 30 ≤ n) : G_X12_nerveOf o k rr n := by
  refine ⟨?_, fun _ => ?_, fun _ => ?_, ?_⟩
  · show 9 + 3 * k < 172; omega
  · omega
  · show 9 + 3 * k < 172; omega
  · omega
theorem G_run_ref (hM : M ≤ 8) (hr : rr 5 = nI M) (hp : present = row (o + 27)) (hh : held = row (o + 28) ||| more) (hs : sub_men present M) (hst : sm start) (hsp : inc start present) (hn : ∀ k, k < M → D_X12_nerveOf o k rr row fearNow heart = rn_v fear heartened nerve fearTimes feared k) {n : Nat} (ho : o + 30 ≤ n) : G_X12_runOf o start rr row more fearNow heart n := by
  refine ⟨?_, (rn_ref (start := start) hM hr hp hh hs hst hsp hn).2⟩
  intro k s hk _ _ k2 s2 h2 _
  rw [hr, be_nI (by omega)] at h2
  exact ⟨by omega, fun _ _ => by omega, fun _ _ _ => G_nerve (by omega) ho, fun _ _ _ => G_weight hM hr _⟩
/-- nerve, class and reference -/
theorem nerve_eq {k : Nat} (h1 : nerve k = rr (9 + 3 * k + 2)) (h2 : fearTimes k = if rr (9 + 3 * k) = 1 then 2 else if rr (9 + 3 * k) = 2 then 0 else 1) (h3 : feared k = row (o + 8 + k)) : D_X12_nerveOf o k rr row fear heartened = rn_v fear heartened nerve fearTimes feared k := by
  unfold D_X12_nerveOf rn_v D_X6_nerveOf D_X12_kindOf
  rw [h1, h2, h3]
  congr 2
  by_cases c2 : rr (9 + 3 * k) = 2
  · rw [if_pos c2, if_neg (by rw [c2]; decide), if_pos c2, Int32.mul_zero, Int32.zero_mul]
  · rw [if_neg c2]
    by_cases c1 : rr (9 + 3 * k) = 1
    · rw [if_pos c1, if_pos c1, Int32.mul_comm (row (o + 8 + k)) fear, Int32.mul_assoc, Int32.mul_comm (row (o + 8 + k)) 2, ← Int32.mul_assoc]
    · rw [if_neg c1, if_neg c1, if_neg c2, Int32.mul_one, Int32.mul_one, Int32.mul_comm]
/-- does it hold -/
theorem holds_eq {x h : Int32} (hs : sm present) (hh : h = rr 0) : D_X6_holdsFast x present h = (if D_X12_ones (present &&& (x ^^^ (-1))) < rr 0 then 0 else 1 : Int32) := by
  unfold D_X6_holdsFast
  rw [bc_on (sm_and _ hs), hh]
end RUN3
