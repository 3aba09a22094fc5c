/-! WHO RUNS, class and reference -/
theorem set_fo_n {c : Nat → Bool} {f : Nat → Int32 → Int32} (h : ∀ k s, k < 8 → f k s = if c k then s ||| ((1 : Int32) <<< (nI k &&& 31)) else s) : ∀ n, n ≤ 8 → ∀ j, j < 32 → bt (am_fo f n 0) j = (decide (j < n) && c j) := by
  intro n
  induction n with
  | zero => intro _ j _; show bt 0 j = _; rw [b_0]; rfl
  | succ n ih =>
    intro hn j hj
    show bt (f n (am_fo f n 0)) j = _
    rw [h n _ (by omega)]
    by_cases e : j = n
    · subst e
      rw [decide_eq_true (show j < j + 1 by omega), Bool.true_and]
      cases hc : c j with
      | true => rw [if_pos rfl, b_or, b_one (by omega) hj, decide_eq_true rfl, Bool.or_true]
      | false => rw [if_neg (by decide), ih (by omega) j hj, decide_eq_false (by omega), Bool.false_and]
    · have hd : decide (j < n + 1) = decide (j < n) := by
        by_cases h2 : j < n
        · rw [decide_eq_true h2, decide_eq_true (by omega)]
        · rw [decide_eq_false h2, decide_eq_false (by omega)]
      rw [hd]
      cases hc : c n with
      | true => rw [if_pos rfl, b_or, b_one (by omega) hj, decide_eq_false e, Bool.or_false, ih (by omega) j hj]
      | false => rw [if_neg (by decide), ih (by omega) j hj]
theorem set_fo {c : Nat → Bool} {f : Nat → Int32 → Int32} (h : ∀ k s, k < 8 → f k s = if c k then s ||| ((1 : Int32) <<< (nI k &&& 31)) else s) : sm (am_fo f 8 0) ∧ ∀ j, j < 8 → bt (am_fo f 8 0) j = c j := by
  refine ⟨fun k h1 h2 => ?_, fun j hj => ?_⟩
  · rw [set_fo_n h 8 (Nat.le_refl _) k h2, decide_eq_false (by omega), Bool.false_and]
  · rw [set_fo_n h 8 (Nat.le_refl _) j (by omega), decide_eq_true hj, Bool.true_and]
theorem am_fe_inv {σ ρ : Type} {step : Nat → σ → σ ⊕ ρ} {I : Nat → σ → Prop} {J : ρ → Prop} {n : Nat} {s : σ} (h0 : I 0 s) (hs : ∀ k t, k < n → I k t → (∀ u, step k t = .inl u → I (k + 1) u) ∧ (∀ r, step k t = .inr r → J r)) : (∀ t, am_fe step n s = .inl t → I n t) ∧ (∀ r, am_fe step n s = .inr r → J r) := by
  induction n with
  | zero => exact ⟨fun t h => by cases h; exact h0, fun r h => by cases h⟩
  | succ n ih =>
    have h := ih fun k t hk => hs k t (by omega)
    show (∀ t, (match am_fe step n s with | .inl t => step n t | .inr r => .inr r) = .inl t → I (n + 1) t) ∧ (∀ r, (match am_fe step n s with | .inl t => step n t | .inr r => .inr r) = .inr r → J r)
    cases e : am_fe step n s with
    | inl t => exact hs n t (by omega) (h.1 t e)
    | inr r => exact ⟨fun t g => (by cases g), fun r' g => by cases g; exact h.2 r e⟩
section RUN2
variable {M o : Nat} {start held heartened fear present more fearNow heart : Int32} {weight nerve fearTimes feared rr row : Nat → Int32}
def rn_e (present held : Int32) (k : Nat) : Bool := bt present k && !bt held k
def rn_v (fear heartened : Int32) (nerve fearTimes feared : Nat → Int32) (k : Nat) : Int32 := D_X6_nerveOf k fear nerve fearTimes feared + (if nI k = heartened then 1 else 0 : Int32)
def rn_w (rr : Nat → Int32) (k : Nat) : Nat := if rr (9 + 3 * k) = 3 then 2 else 1
theorem rn_w2 (k : Nat) (_h : k < 8) : rn_w rr k ≤ 2 := by
  unfold rn_w
  split <;> omega
def rn_fin (start held heartened fear present : Int32) (nerve fearTimes feared rr : Nat → Int32) (x : Int32) : Prop := sm x ∧ inc start x ∧ clo (rn_e present held) (rn_v fear heartened nerve fearTimes feared) (rn_w rr) x ∧ good (rn_e present held) (rn_v fear heartened nerve fearTimes feared) (rn_w rr) start x
theorem rn_l1 {m R : Int32} (hw : ∀ k, k < 8 → bt m k = true → weight k = nI (rn_w rr k)) (hd : ∀ k, k < 8 → bt R k = true → bt m k = false) {s : Int32 × Int32 × Int32} (hs : s = (R, nI (wt (rn_w rr) R), m)) : D_X6_runWith_l1 weight s = nI (wt (rn_w rr) (R ||| m)) := by
  subst hs
  unfold D_X6_runWith_l1 st_X6_runWith_32
  refine (fo_nI (f := fun k => if bt m k then rn_w rr k else 0) (fun k hk => ?_) _).trans ?_
  · show (if D_X11_has m (nI k) = 0 then 0 else weight k : Int32) = _
    cases e : bt m k with
    | true => rw [if_neg (by rw [has0 (by omega), e]; decide), hw k hk e]; rfl
    | false => rw [if_pos ((has0 (by omega)).mpr e)]; rfl
  · rw [wt_or _ hd]; rfl
theorem rn_l2 {m R : Int32} (hw : ∀ k, k < 8 → bt m k = true → weight k = nI (rn_w rr k)) (hd : ∀ k, k < 8 → bt R k = true → bt m k = false) {s : Int32 × Int32 × Int32} (hs : s = (R, nI (wt (rn_w rr) R), m)) : sm (D_X6_runWith_l2 held heartened fear weight present nerve fearTimes feared s) ∧ ∀ j, j < 8 → bt (D_X6_runWith_l2 held heartened fear weight present nerve fearTimes feared s) j = (rn_e present held j && !bt (R ||| m) j && !decide (nI (wt (rn_w rr) (R ||| m)) < rn_v fear heartened nerve fearTimes feared j)) := by
  unfold D_X6_runWith_l2
  refine set_fo fun k x hk => ?_
  unfold st_X6_runWith_87 D_X6_runWith_j1
  rw [rn_l1 hw hd hs, show D_X6_nerveOf k fear nerve fearTimes feared + (if nI k = heartened then 1 else 0 : Int32) = rn_v fear heartened nerve fearTimes feared k from rfl]
  have hb : bt ((present &&& ((s.1 ||| s.2.2) ^^^ (-1))) &&& (held ^^^ (-1))) k = (rn_e present held k && !bt (R ||| m) k) := by
    rw [b_and, b_and, b_not _ (by omega), b_not _ (by omega), hs]
    unfold rn_e
    cases bt present k <;> cases bt held k <;> cases bt (R ||| m) k <;> rfl
  cases e : bt ((present &&& ((s.1 ||| s.2.2) ^^^ (-1))) &&& (held ^^^ (-1))) k with
  | false =>
    rw [if_pos ((has0 (by omega)).mpr e), ← hb, e, Bool.false_and, if_neg (by decide)]
  | true =>
    rw [if_neg (by rw [has0 (by omega), e]; decide), ← hb, e, Bool.true_and]
    by_cases h2 : nI (wt (rn_w rr) (R ||| m)) < rn_v fear heartened nerve fearTimes feared k
    · rw [if_pos h2, decide_eq_true h2, if_neg (by decide)]
    · rw [if_neg h2, decide_eq_false h2, if_pos (by decide)]
def rn_I (start held heartened fear present : Int32) (nerve fearTimes feared rr : Nat → Int32) (k : Nat) (s : Int32 × Int32 × Int32) : Prop := (k = 0 ∧ s = (0, 0, start)) ∨ (1 ≤ k ∧ sm s.1 ∧ inc start s.1 ∧ s.2.1 = nI (wt (rn_w rr) s.1) ∧ good (rn_e present held) (rn_v fear heartened nerve fearTimes feared) (rn_w rr) start s.1 ∧ sm s.2.2 ∧ (∀ j, j < 8 → bt s.2.2 j = (rn_e present held j && !bt s.1 j && !decide (nI (wt (rn_w rr) s.1) < rn_v fear heartened nerve fearTimes feared j))) ∧ k ≤ ct s.1 + 1)
theorem rn_turn (hM : M ≤ 8) (hs : sub_men present M) (hst : sm start) {m R : Int32} (hw : ∀ k, k < M → weight k = nI (rn_w rr k)) (hm : inc m present) (hsm : sm m) (hd : ∀ k, k < 8 → bt R k = true → bt m k = false) {s : Int32 × Int32 × Int32} (he : s = (R, nI (wt (rn_w rr) R), m)) {k : Nat} (hR : sm R) (hi : inc start (R ||| m)) (hg : good (rn_e present held) (rn_v fear heartened nerve fearTimes feared) (rn_w rr) start (R ||| m)) (hk : k ≤ ct (R ||| m)) : rn_I start held heartened fear present nerve fearTimes feared rr (k + 1) (s.1 ||| s.2.2, D_X6_runWith_l1 weight s, D_X6_runWith_l2 held heartened fear weight present nerve fearTimes feared s) := by
  have hw' : ∀ k, k < 8 → bt m k = true → weight k = nI (rn_w rr k) := fun k hk h => hw k (hs k (by omega) (hm k hk h))
  have h1 := rn_l1 hw' hd he
  have h2 := rn_l2 (held := held) (heartened := heartened) (fear := fear) (present := present) (nerve := nerve) (fearTimes := fearTimes) (feared := feared) hw' hd he
  have e1 : s.1 ||| s.2.2 = R ||| m := by rw [he]
  right
  refine ⟨by omega, ?_, ?_, ?_, ?_, h2.1, ?_, ?_⟩
  · show sm (s.1 ||| s.2.2); rw [e1]; exact sm_or hR hsm
  · show inc start (s.1 ||| s.2.2); rw [e1]; exact hi
  · show D_X6_runWith_l1 weight s = nI (wt (rn_w rr) (s.1 ||| s.2.2)); rw [e1]; exact h1
  · show good _ _ _ _ (s.1 ||| s.2.2); rw [e1]; exact hg
  · intro j hj
    show bt (D_X6_runWith_l2 held heartened fear weight present nerve fearTimes feared s) j = (rn_e present held j && !bt (s.1 ||| s.2.2) j && !decide (nI (wt (rn_w rr) (s.1 ||| s.2.2)) < rn_v fear heartened nerve fearTimes feared j))
    rw [e1]; exact h2.2 j hj
  · show k + 1 ≤ ct (s.1 ||| s.2.2) + 1; rw [e1]; omega
theorem rn_class (hM : M ≤ 8) (hs : sub_men present M) (hst : sm start) (hsp : inc start present) (hw : ∀ k, k < M → weight k = nI (rn_w rr k)) : rn_fin start held heartened fear present nerve fearTimes feared rr (D_X6_runWith start held heartened fear weight present nerve fearTimes feared) := by
  have key := am_fe_inv (step := st_X6_runWith_12 held heartened fear weight present nerve fearTimes feared) (I := rn_I start held heartened fear present nerve fearTimes feared rr) (J := rn_fin start held heartened fear present nerve fearTimes feared rr) (n := 9) (s := (0, 0, start)) (Or.inl ⟨rfl, rfl⟩) (by
    intro k t hk hI
    have first : k = 0 → t = (0, 0, start) → rn_I start held heartened fear present nerve fearTimes feared rr (k + 1) (t.1 ||| t.2.2, D_X6_runWith_l1 weight t, D_X6_runWith_l2 held heartened fear weight present nerve fearTimes feared t) := by
      intro h0 ht
      have e0 : (0 : Int32) ||| start = start := Int32.zero_or
      refine rn_turn hM hs hst hw hsp hst (R := 0) (m := start) (fun k _ h => by rw [b_0] at h; cases h) ?_ sm_0 ?_ ?_ ?_
      · rw [ht]
        have : wt (rn_w rr) 0 = 0 := by
          unfold wt
          refine (sN_congr (g := fun _ => 0) fun k _ => ?_).trans (by decide)
          rw [b_0]; rfl
        rw [this]; rfl
      · rw [e0]; exact fun _ _ h => h
      · rw [e0]; exact good_st _ _ _ _
      · rw [h0]; exact Nat.zero_le _
    unfold st_X6_runWith_12
    rcases hI with ⟨h0, ht⟩ | ⟨h1, hsm, hi, hwt, hg, hsm2, hb, hc⟩
    · rw [if_pos (by rw [h0]; rfl)]
      exact ⟨fun u hu => by cases hu; exact first h0 ht, fun r hr => by cases hr⟩
    · rw [if_neg (nI_ne0 h1 (by omega))]
      by_cases hm0 : t.2.2 = 0
      · rw [if_pos hm0]
        refine ⟨fun u hu => (by cases hu), fun r hr => ?_⟩
        cases hr
        refine ⟨hsm, hi, fun j hj he hn => ?_, hg⟩
        have := hb j hj
        rw [hm0, b_0, he, Bool.true_and, decide_eq_false hn] at this
        cases e : bt t.1 j with
        | true => rfl
        | false => rw [e] at this; cases this
      · rw [if_neg hm0]
        refine ⟨fun u hu => ?_, fun r hr => by cases hr⟩
        cases hu
        have hdis : ∀ k, k < 8 → bt t.1 k = true → bt t.2.2 k = false := fun j hj h => by
          rw [hb j hj, h]
          cases rn_e present held j <;> rfl
        obtain ⟨j, hj, hbj⟩ := not_0 hsm2 hm0
        have hbj' := hb j hj
        rw [hbj] at hbj'
        have hnot : bt t.1 j = false := by
          cases e : bt t.1 j with
          | false => rfl
          | true => rw [hdis j hj e] at hbj; cases hbj
        have hgm : good (rn_e present held) (rn_v fear heartened nerve fearTimes feared) (rn_w rr) start t.2.2 := by
          intro C c1 c2 i hi2 hbi
          have h3 := hb i hi2
          rw [hbi] at h3
          have h3 := h3.symm
          rw [Bool.and_eq_true, Bool.and_eq_true] at h3
          refine good_one _ _ _ _ rn_w2 hg h3.1.1 (fun hlt => ?_) C c1 c2 hi2
          rw [decide_eq_true hlt] at h3
          exact absurd h3.2 (by decide)
        have hinc : inc t.2.2 present := fun i hi2 hbi => by
          have h3 := hb i hi2
          rw [hbi] at h3
          have h3 := h3.symm
          rw [Bool.and_eq_true, Bool.and_eq_true] at h3
          have h4 := h3.1.1
          unfold rn_e at h4
          rw [Bool.and_eq_true] at h4
          exact h4.1
        have hgrow : ct t.1 + 1 ≤ ct (t.1 ||| t.2.2) := ct_grow (inc_or1 _ _) hj hnot (by rw [b_or, hbj, Bool.or_true])
        exact rn_turn hM hs hst hw hinc hsm2 hdis (by rw [← hwt]) hsm (inc_tr hi (inc_or1 _ _)) (good_or _ _ _ _ hg hgm) (by omega))
  unfold D_X6_runWith D_X6_runWith_m1 D_X6_runWith_l5
  cases e : am_fe (st_X6_runWith_12 held heartened fear weight present nerve fearTimes feared) 9 (0, 0, start) with
  | inr r => exact key.2 r e
  | inl t =>
    rcases key.1 t e with ⟨h0, _⟩ | ⟨h1, hsm, hi, hwt, hg, hsm2, hb, hc⟩
    · cases h0
    · exact (show rn_fin start held heartened fear present nerve fearTimes feared rr t.1 from ⟨hsm, hi, fun j hj _ _ => ct_full (x := t.1) (by omega) j hj, hg⟩)
/-- the reference's inner turn -/
def rf_P (start held heartened fear present : Int32) (nerve fearTimes feared rr : Nat → Int32) (r0 : Int32) (j : Nat) (s : Int32 × Int32) : Prop := sm s.1 ∧ inc r0 s.1 ∧ inc s.1 (s.1 ||| present) ∧ good (rn_e present held) (rn_v fear heartened nerve fearTimes feared) (rn_w rr) start s.1 ∧ inc s.1 present ∧ ((s.2 = 0 ∧ s.1 = r0 ∧ ∀ k, k < j → rn_e present held k = true → ¬ nI (wt (rn_w rr) r0) < rn_v fear heartened nerve fearTimes feared k → bt r0 k = true) ∨ (s.2 = 1 ∧ ct r0 + 1 ≤ ct s.1))
theorem rf_weight (hM : M ≤ 8) (hr : rr 5 = nI M) {x : Int32} (hx : sub_men x M) : D_X12_weightOf x rr = nI (wt (rn_w rr) x) := by
  unfold D_X12_weightOf D_X12_weightOf_l1 st_X12_weightOf_4
  rw [hr, be_nI (by omega)]
  refine (fo_nI (f := fun k => if bt x k then rn_w rr k else 0) (fun k hk => ?_) 0).trans ?_
  · show (if D_X12_hasBit x (nI k) = 0 then 0 else if D_X12_kindOf k rr = 3 then 2 else 1 : Int32) = _
    cases e : bt x k with
    | false => rw [if_pos ((hasBit0 (by omega)).mpr e)]; rfl
    | true =>
      rw [if_neg (by rw [hasBit0 (by omega), e]; decide)]
      unfold D_X12_kindOf rn_w
      by_cases h : rr (9 + 3 * k) = 3
      · rw [if_pos h, if_pos rfl, if_pos h]; rfl
      · rw [if_neg h, if_pos rfl, if_neg h]; rfl
  · rw [Nat.zero_add]
    unfold wt
    rw [sN_cut hM]
    intro k h1 h2
    cases e : bt x k with
    | false => rfl
    | true => have := hx k (by omega) e; omega
theorem rf_inner (hM : M ≤ 8) (hr : rr 5 = nI M) (hp : present = row (o + 27)) (hh : held = row (o + 28) ||| more) (hs : sub_men present M) (hn : ∀ k, k < M → D_X12_nerveOf o k rr row fearNow heart = rn_v fear heartened nerve fearTimes feared k) {r0 : Int32} (h0 : sm r0) (hi0 : inc r0 present) (hg0 : good (rn_e present held) (rn_v fear heartened nerve fearTimes feared) (rn_w rr) start r0) : ∀ j, j ≤ M → rf_P start held heartened fear present nerve fearTimes feared rr r0 j (am_fo (st_X12_runOf_17 o rr row more fearNow heart) j (r0, 0)) := by
  intro j
  induction j with
  | zero => intro _; exact ⟨h0, fun _ _ h => h, inc_or1 _ _, hg0, hi0, Or.inl ⟨rfl, rfl, fun k hk => by omega⟩⟩
  | succ j ih =>
    intro hj
    have hI := ih (by omega)
    show rf_P start held heartened fear present nerve fearTimes feared rr r0 (j + 1) (st_X12_runOf_17 o rr row more fearNow heart j (am_fo (st_X12_runOf_17 o rr row more fearNow heart) j (r0, 0)))
    generalize am_fo (st_X12_runOf_17 o rr row more fearNow heart) j (r0, 0) = s at hI
    obtain ⟨i1, i2, i3, i4, i5, i6⟩ := hI
    have hsub : sub_men s.1 M := fun k hk h => by
      by_cases h8 : k < 8
      · exact hs k hk (i5 k h8 h)
      · rw [i1 k (by omega) hk] at h; cases h
    have hval : st_X12_runOf_17 o rr row more fearNow heart j s = if bt present j = true ∧ bt s.1 j = false ∧ bt held j = false ∧ ¬ nI (wt (rn_w rr) s.1) < rn_v fear heartened nerve fearTimes feared j then (s.1 ||| ((1 : Int32) <<< (nI j &&& 31)), 1) else s := by
      show ((D_X12_runOf_j1 o rr row more fearNow heart j s).1, (D_X12_runOf_j1 o rr row more fearNow heart j s).2) = _
      show D_X12_runOf_j1 o rr row more fearNow heart j s = _
      unfold D_X12_runOf_j1
      rw [← hp, ← hh, hn j (by omega), rf_weight hM hr hsub]
      by_cases c1 : bt present j = true
      · rw [if_neg (by rw [hasBit0 (by omega), c1]; decide)]
        by_cases c2 : bt s.1 j = false
        · rw [if_pos ((hasBit0 (by omega)).mpr c2)]
          by_cases c3 : bt held j = false
          · rw [if_pos ((hasBit0 (by omega)).mpr c3)]
            by_cases c4 : nI (wt (rn_w rr) s.1) < rn_v fear heartened nerve fearTimes feared j
            · rw [if_neg (Int32.not_le.mpr c4), if_neg (fun g => g.2.2.2 c4)]
            · rw [if_pos (Int32.not_lt.mp c4), if_pos ⟨c1, c2, c3, c4⟩]
          · rw [if_neg (fun g => c3 ((hasBit0 (by omega)).mp g)), if_neg (fun g => c3 g.2.2.1)]
        · rw [if_neg (fun g => c2 ((hasBit0 (by omega)).mp g)), if_neg (fun g => c2 g.2.1)]
      · rw [if_pos ((hasBit0 (by omega)).mpr (by cases e : bt present j with | true => exact absurd e c1 | false => rfl)), if_neg (fun g => c1 g.1)]
    rw [hval]
    by_cases hc : bt present j = true ∧ bt s.1 j = false ∧ bt held j = false ∧ ¬ nI (wt (rn_w rr) s.1) < rn_v fear heartened nerve fearTimes feared j
    · rw [if_pos hc]
      obtain ⟨c1, c2, c3, c4⟩ := hc
      have hbj : bt (s.1 ||| ((1 : Int32) <<< (nI j &&& 31))) j = true := by rw [b_or, b_one (by omega) (by omega), decide_eq_true rfl, Bool.or_true]
      refine ⟨sm_or i1 (sm_one (by omega)), inc_tr i2 (inc_or1 _ _), inc_or1 _ _, ?_, ?_, Or.inr ⟨rfl, ?_⟩⟩
      · refine good_or _ _ _ _ i4 fun C d1 d2 k hk h => ?_
        rw [b_one (by omega) (by omega), decide_eq_true_eq] at h
        subst h
        exact good_one _ _ _ _ rn_w2 i4 (by unfold rn_e; rw [c1, c3]; rfl) c4 C d1 d2 hk
      · intro k hk h
        rw [b_or, Bool.or_eq_true] at h
        rcases h with h | h
        · exact i5 k hk h
        · rw [b_one (by omega) (by omega), decide_eq_true_eq] at h
          rw [h]; exact c1
      · have g1 := ct_mono i2
        have g2 := ct_grow (inc_or1 s.1 ((1 : Int32) <<< (nI j &&& 31))) (j := j) (by omega) c2 hbj
        show ct r0 + 1 ≤ ct (s.1 ||| ((1 : Int32) <<< (nI j &&& 31)))
        omega
    · rw [if_neg hc]
      refine ⟨i1, i2, i3, i4, i5, ?_⟩
      rcases i6 with ⟨a1, a2, a3⟩ | a
      · refine Or.inl ⟨a1, a2, fun k hk he hlt => ?_⟩
        by_cases e : k = j
        · subst e
          refine Classical.byContradiction fun g => hc ?_
          unfold rn_e at he
          rw [Bool.and_eq_true, Bool.not_eq_true'] at he
          refine ⟨he.1, ?_, he.2, by rw [a2]; exact hlt⟩
          rw [a2]
          cases h : bt r0 k with
          | true => exact absurd h g
          | false => rfl
        · exact a3 k (by omega) he hlt
      · exact Or.inr a
end RUN2
