/-! WHO IS GONE: sets that fit -/
theorem sN_pick {n j : Nat} (hj : j < n) (c : Nat) : sN (fun k => if k = j then c else 0) n = c := by
  have : ∀ n, sN (fun k => if k = j then c else 0) n = if j < n then c else 0 := by
    intro n
    induction n with
    | zero => rfl
    | succ n ih =>
      rw [sN_succ, ih]
      by_cases h1 : j < n
      · rw [if_pos h1, if_neg (by omega), if_pos (by omega)]; exact Nat.add_zero c
      · by_cases h2 : n = j
        · rw [if_neg h1, if_pos h2, if_pos (by omega), Nat.zero_add]
        · rw [if_neg h1, if_neg h2, if_neg (by omega)]
  rw [this n, if_pos hj]
def b1 (x : Int32) (k : Nat) : Nat := if bt x k then 1 else 0
theorem b1_nI (x : Int32) {k : Nat} (hk : k < 32) : (x >>> (nI k &&& 31)) &&& 1 = nI (b1 x k) := by
  rw [b_sh1 x hk]
  unfold b1
  cases bt x k <;> rfl
theorem ct_pair {x : Int32} {a b : Nat} (ha : a < 8) (hb : b < 8) (h : a ≠ b) : ct (x &&& (((1 : Int32) <<< (nI a &&& 31)) ||| ((1 : Int32) <<< (nI b &&& 31)))) = b1 x a + b1 x b := by
  rw [ct_sN, sN_add (f := fun k => if k = a then b1 x a else 0) (g := fun k => if k = b then b1 x b else 0) (fun k hk => ?_), sN_pick ha, sN_pick hb]
  rw [b_and, b_or, b_one (by omega) (by omega), b_one (by omega) (by omega)]
  by_cases e1 : k = a
  · subst e1
    rw [if_pos rfl, if_neg h, decide_eq_true rfl, Bool.true_or, Bool.and_true]; rfl
  · by_cases e2 : k = b
    · subst e2
      rw [if_neg e1, if_pos rfl, decide_eq_true rfl, Bool.or_true, Bool.and_true, Nat.zero_add]; rfl
    · rw [if_neg e1, if_neg e2, decide_eq_false e1, decide_eq_false e2, Bool.or_false, Bool.and_false]; rfl
def EarR (rr : Nat → Int32) (goneTold amongs : Int32) (pair ofPair : Nat → Int32) : Prop := ((rr 57 = 0 ∧ goneTold = -1) ∨ ∃ g, g ≤ 8 ∧ rr 57 = nI (g + 1) ∧ goneTold = nI g) ∧ ∃ A, A ≤ 5 ∧ rr 8 = nI A ∧ amongs = nI A ∧ ∀ i, i < A → ∃ a b h, a < 8 ∧ b < 8 ∧ a ≠ b ∧ h ≤ 2 ∧ rr (58 + 3 * i) = nI a ∧ rr (58 + 3 * i + 1) = nI b ∧ rr (58 + 3 * i + 2) = nI h ∧ pair i = ((1 : Int32) <<< (nI a &&& 31)) ||| ((1 : Int32) <<< (nI b &&& 31)) ∧ ofPair i = nI h
section GONE
variable {M : Nat} {holds oneIn fear mutiny tens present braced seed x0 hl a b c : Int32} {kind nerve friendsOf fearTimes weight rr tenOf feared angerOf lotsOf st : Nat → Int32}
variable {goneTold amongs men fitting inAll x1 : Int32} {pair ofPair with_ : Nat → Int32}
theorem fits_eq (hE : EarR rr goneTold amongs pair ofPair) (h57 : ¬ rr 57 = 0) {k : Nat} (hk : k < 256) : D_X1_fits (nI k) goneTold amongs pair ofPair = D_X12_doesFit (nI k) rr := by
  obtain ⟨h1, A, hA, e1, e2, hp⟩ := hE
  obtain ⟨g, hg, e3, e4⟩ := h1.resolve_left (fun h => h57 h.1)
  have hsk := nat_sm hk
  have hpre : (D_J6_bitCount_0f7a4 (nI k) = goneTold) = (D_X12_ones (nI k) = rr 57 - 1) := by rw [bc_on hsk, e3, e4, nI_prd]
  have hrel : ∀ n, n ≤ A → (am_fe (st_X1_fits_15 (nI k) pair ofPair) n () = .inl () ∧ am_fo (st_X12_doesFit_24 (nI k) rr) n 1 = 1) ∨ (am_fe (st_X1_fits_15 (nI k) pair ofPair) n () = .inr () ∧ am_fo (st_X12_doesFit_24 (nI k) rr) n 1 = 0) := by
    intro n
    induction n with
    | zero => intro _; exact Or.inl ⟨rfl, rfl⟩
    | succ n ih =>
      intro hn
      rw [am_fe_s]
      show (_ ∧ D_X12_doesFit_j1 (nI k) rr n (am_fo (st_X12_doesFit_24 (nI k) rr) n 1) = 1) ∨ (_ ∧ D_X12_doesFit_j1 (nI k) rr n (am_fo (st_X12_doesFit_24 (nI k) rr) n 1) = 0)
      unfold D_X12_doesFit_j1
      rcases ih (by omega) with ⟨q1, q2⟩ | ⟨q1, q2⟩
      · rw [am_sel_l q1, q2, if_neg (show ¬ (1 : Int32) = 0 by decide)]
        unfold st_X1_fits_15
        obtain ⟨a, b, h, p1, p2, p3, p4, p5, p6, p7, p8, p9⟩ := hp n (by omega)
        rw [p5, p6, p7, p8, p9, b1_nI _ (by omega), b1_nI _ (by omega), nI_add, bc_ct (sm_and _ hsk), ct_pair p1 p2 p3]
        by_cases c : nI (b1 (nI k) a + b1 (nI k) b) = nI h
        · rw [if_pos c, if_pos c]; exact Or.inl ⟨rfl, rfl⟩
        · rw [if_neg c, if_neg c]; exact Or.inr ⟨rfl, rfl⟩
      · rw [am_sel_r q1, q2, if_pos rfl]; exact Or.inr ⟨rfl, rfl⟩
  have hz : ∀ n, am_fo (st_X12_doesFit_24 (nI k) rr) n 0 = 0 := by
    intro n
    induction n with
    | zero => rfl
    | succ n ih =>
      show D_X12_doesFit_j1 (nI k) rr n (am_fo (st_X12_doesFit_24 (nI k) rr) n 0) = 0
      unfold D_X12_doesFit_j1
      rw [ih, if_pos rfl]
  unfold D_X1_fits D_X1_fits_l1 D_X12_doesFit D_X12_doesFit_l1
  rw [e1, e2, be_nI (by omega)]
  by_cases c : D_J6_bitCount_0f7a4 (nI k) = goneTold
  · rw [if_pos c, if_pos (hpre.mp c)]
    rcases hrel A (Nat.le_refl A) with ⟨q1, q2⟩ | ⟨q1, q2⟩
    · rw [am_sel_l q1, q2]
    · rw [am_sel_r q1, q2]
  · rw [if_neg c, if_neg (fun g => c (hpre.mpr g)), hz]
def ftB (rr : Nat → Int32) (k : Nat) : Bool := decide (¬ D_X12_doesFit (nI k) rr = 0)
def fcN (rr : Nat → Int32) (n : Nat) : Nat := sN (fun k => if ftB rr k then 1 else 0) n
def fmN (rr : Nat → Int32) (m n : Nat) : Nat := sN (fun k => if ftB rr k && bt (nI k) m then 1 else 0) n
theorem fitting_all (hM : M ≤ 8) (hr : rr 5 = nI M) : D_X12_fitting (-1) rr = nI (fcN rr (2 ^ M)) := by
  unfold D_X12_fitting D_X12_fitting_l1
  have := pow_256 hM
  have := pow_pos' M
  rw [allMen_eq hM hr, to_nI (by omega), show 2 ^ M - 1 + 1 = 2 ^ M by omega]
  have key := fo_nI2 (f := st_X12_fitting_4 (-1) rr) (g := fun k => if ftB rr k then 1 else 0) (n := 2 ^ M) (fun k hk a => ?_) 0
  · rw [Nat.zero_add] at key; exact key
  · unfold st_X12_fitting_4 ftB
    by_cases c : D_X12_doesFit (nI k) rr = 0
    · rw [if_pos c, decide_eq_false (fun h => h c)]; exact nI_add a 0
    · rw [if_neg c, decide_eq_true c, if_pos (show (-1 : Int32) < 0 by decide)]; exact nI_1 a
theorem fitting_m (hM : M ≤ 8) (hr : rr 5 = nI M) {m : Nat} (hm : m < 8) : D_X12_fitting (nI m) rr = nI (fmN rr m (2 ^ M)) := by
  unfold D_X12_fitting D_X12_fitting_l1
  have := pow_256 hM
  have := pow_pos' M
  rw [allMen_eq hM hr, to_nI (by omega), show 2 ^ M - 1 + 1 = 2 ^ M by omega]
  have key := fo_nI2 (f := st_X12_fitting_4 (nI m) rr) (g := fun k => if ftB rr k && bt (nI k) m then 1 else 0) (n := 2 ^ M) (fun k hk a => ?_) 0
  · rw [Nat.zero_add] at key; exact key
  · unfold st_X12_fitting_4 ftB
    by_cases c : D_X12_doesFit (nI k) rr = 0
    · rw [if_pos c, decide_eq_false (fun h => h c)]; exact nI_add a 0
    · rw [if_neg c, decide_eq_true c, if_neg (nI_pos (by omega))]
      cases e : bt (nI k) m with
      | false => rw [if_pos ((hasBit0 (by omega)).mpr e)]; exact nI_add a 0
      | true => rw [if_neg (fun g => by rw [hasBit0 (by omega), e] at g; cases g)]; exact nI_1 a
theorem countMen_v (x : Int32) (w : Nat → Int32) {j : Nat} (hj : j < 8) : D_X1_countMen x w j = w j + nI (b1 x j) := by
  unfold D_X1_countMen D_X1_countMen_l1
  have : ∀ n, n ≤ 8 → ∀ j, am_fo (st_X1_countMen_2 x) n w j = if j < n then w j + nI (b1 x j) else w j := by
    intro n
    induction n with
    | zero => intro _ j; rw [if_neg (Nat.not_lt_zero j)]; rfl
    | succ n ih =>
      intro hn j
      show va_up (am_fo (st_X1_countMen_2 x) n w) n ((am_fo (st_X1_countMen_2 x) n w n) + ((x >>> ((nI n) &&& 31)) &&& 1)) j = _
      by_cases e : j = n
      · subst e; rw [va_up_self, ih (by omega), if_neg (Nat.lt_irrefl j), if_pos (Nat.lt_succ_self j), b1_nI _ (by omega)]
      · rw [va_up_ne _ _ e, ih (by omega)]
        by_cases c : j < n
        · rw [if_pos c, if_pos (by omega)]
        · rw [if_neg c, if_neg (by omega)]
  rw [this 8 (Nat.le_refl 8) j, if_pos hj]
theorem count0 {w : Nat → Int32} {j : Nat} (hj : j < 8) : D_X1_count_l1 w j = 0 := by
  have h := (by omega : j = 0 ∨ j = 1 ∨ j = 2 ∨ j = 3 ∨ j = 4 ∨ j = 5 ∨ j = 6 ∨ j = 7)
  rcases h with rfl | rfl | rfl | rfl | rfl | rfl | rfl | rfl <;> rfl
theorem pow9_all : ∀ T, T < 9 → (1 : Int32) <<< (nI T &&& 31) = nI (2 ^ T) := by decide +kernel
theorem allbits : ∀ M, M < 9 → ∀ j, j < 32 → bt (nI (2 ^ M) - 1) j = decide (j < M) := by decide +kernel
def co_R (M : Nat) (rr : Nat → Int32) (n : Nat) (s : Int32 × Int32 × (Nat → Int32)) : Prop := s.1 = nI (fcN rr n) ∧ (∀ j, j < 32 → (bt s.2.1 j = true ↔ j < M ∧ ∀ i, i < n → ftB rr i = true → bt (nI i) j = true)) ∧ ∀ j, j < 8 → s.2.2 j = nI (fmN rr j n)
theorem count_l (hM : M ≤ 8) (hE : EarR rr goneTold amongs pair ofPair) (h57 : ¬ rr 57 = 0) : co_R M rr (2 ^ M) (D_X1_count_l2 (nI M) with_ goneTold amongs pair ofPair) := by
  unfold D_X1_count_l2
  have hp := pow_256 hM
  rw [pow9_all M (by omega), be_nI (by omega)]
  refine (am_fo_relI (f := st_X1_count_37 goneTold amongs pair ofPair) (g := fun _ (u : Unit) => u) (t := ()) (R := fun n s _ => co_R M rr n s) ⟨rfl, fun j hj => ?_, fun j hj => count0 hj⟩ fun k s _ hk hR => ?_)
  · dsimp only
    rw [allbits M (by omega) j hj, decide_eq_true_eq]
    exact ⟨fun h => ⟨h, fun i hi => absurd hi (Nat.not_lt_zero i)⟩, fun h => h.1⟩
  · obtain ⟨r1, r2, r3⟩ := hR
    show co_R M rr (k + 1) (D_X1_count_j1 goneTold amongs pair ofPair k s)
    unfold D_X1_count_j1
    rw [fits_eq hE h57 (by omega)]
    by_cases c : D_X12_doesFit (nI k) rr = 0
    · have hf : ftB rr k = false := decide_eq_false (fun h => h c)
      rw [if_pos c]
      refine ⟨?_, fun j hj => ?_, fun j hj => ?_⟩
      · unfold fcN; rw [sN_succ, hf]; exact r1
      · refine (r2 j hj).trans ⟨fun h => ⟨h.1, fun i hi hfi => ?_⟩, fun h => ⟨h.1, fun i hi => h.2 i (by omega)⟩⟩
        rcases Nat.lt_or_ge i k with g | g
        · exact h.2 i g hfi
        · rw [show i = k by omega, hf] at hfi; cases hfi
      · unfold fmN; rw [sN_succ, hf]; exact r3 j hj
    · have hf : ftB rr k = true := decide_eq_true c
      rw [if_neg c]
      refine ⟨?_, fun j hj => ?_, fun j hj => ?_⟩
      · unfold fcN; rw [sN_succ, hf]; dsimp only; rw [r1]; exact nI_1 _
      · dsimp only
        rw [b_and, Bool.and_eq_true, r2 j hj]
        refine ⟨fun h => ⟨h.1.1, fun i hi hfi => ?_⟩, fun h => ⟨⟨h.1, fun i hi => h.2 i (by omega)⟩, h.2 k (by omega) hf⟩⟩
        rcases Nat.lt_or_ge i k with g | g
        · exact h.1.2 i g hfi
        · rw [show i = k by omega]; exact h.2
      · dsimp only
        unfold fmN
        rw [countMen_v _ _ hj, r3 j hj, nI_add, sN_succ, hf]
        rfl
theorem fc_le (n : Nat) : fcN rr n ≤ n := by
  have := sN_bound (f := fun k => if ftB rr k then 1 else 0) (n := n) (c := 1) (fun k _ => by cases ftB rr k <;> decide)
  rw [Nat.mul_one] at this; exact this
theorem fm_le (m n : Nat) : fmN rr m n ≤ fcN rr n := sN_le fun k _ => by
  cases ftB rr k <;> cases bt (nI k) m <;> decide
theorem fm_eq {m n : Nat} : fmN rr m n = fcN rr n ↔ ∀ i, i < n → ftB rr i = true → bt (nI i) m = true := by
  constructor
  · intro h i hi hf
    cases e : bt (nI i) m with
    | true => rfl
    | false =>
      exfalso
      have := sN_lt (f := fun k => if ftB rr k && bt (nI k) m then 1 else 0) (g := fun k => if ftB rr k then 1 else 0) (n := n) (j := i) (fun k _ => by cases ftB rr k <;> cases bt (nI k) m <;> decide) hi (by rw [hf, e]; decide)
      have h2 : fmN rr m n < fcN rr n := this
      omega
  · intro h
    refine sN_congr fun k hk => ?_
    cases hf : ftB rr k with
    | false => rfl
    | true => rw [h k hk hf]; rfl
theorem gone_why (hh : hl = 0 ↔ tens = 0) (hE : EarR rr goneTold amongs pair ofPair) : D_X12_goneWhy hl rr = D_X11_troubleOfGone tens goneTold ∧ (D_X11_troubleOfGone tens goneTold = 0 → ¬ rr 57 = 0) := by
  unfold D_X12_goneWhy D_X11_troubleOfGone D_X11_troubleOfLegion D_X1_isTold
  by_cases h0 : hl = 0
  · rw [if_pos h0, if_pos (hh.mp h0), firstOfN (by decide)]
    exact ⟨rfl, fun h => absurd h (by decide)⟩
  · rw [if_neg h0, if_neg (fun g => h0 (hh.mpr g)), firstOf0]
    rcases hE.1 with ⟨e1, e2⟩ | ⟨g, hg, e1, e2⟩
    · rw [if_pos e1, e2, if_pos rfl, if_pos rfl]
      exact ⟨rfl, fun h => absurd h (by decide)⟩
    · have hne : ¬ rr 57 = 0 := by rw [e1]; exact nI_ne0 (by omega) (by omega)
      have hn1 : ¬ goneTold = -1 := by
        rw [e2]
        intro h
        have := congrArg Int32.toInt h
        rw [nI_toInt (by omega), show (-1 : Int32).toInt = -1 by decide] at this
        omega
      rw [if_neg hne, if_neg hn1, if_neg (by decide)]
      exact ⟨rfl, fun _ => hne⟩
theorem pub_gone (hM : M ≤ 8) (hr : rr 5 = nI M) (hm : men = nI M) (hh : hl = 0 ↔ tens = 0) (hE : EarR rr goneTold amongs pair ofPair) : (D_X11_gone tens goneTold men fitting inAll with_ amongs pair ofPair).1 = (D_X12_gone hl rr).1 ∧ (D_X11_gone tens goneTold men fitting inAll with_ amongs pair ofPair).2.1 = (D_X12_gone hl rr).2.2 := by
  obtain ⟨w1, w2⟩ := gone_why hh hE
  unfold D_X11_gone D_X12_gone D_X12_gone_j1 D_X11_gone_a1 D_X12_gone_a2 D_X11_gone_a2
  rw [w1, refused2]
  by_cases h0 : D_X11_troubleOfGone tens goneTold = 0
  · rw [if_pos ((refused1 _).mpr h0), if_pos h0, h0, hm]
    obtain ⟨r1, -, -⟩ := count_l (with_ := with_) hM hE (w2 h0)
    unfold D_X1_count
    dsimp only
    rw [r1, fitting_all hM hr]
    exact ⟨rfl, rfl⟩
  · rw [if_neg (fun g => h0 ((refused1 _).mp g)), if_neg h0]; exact ⟨rfl, rfl⟩
theorem pub_goneOf (hM : M ≤ 8) (hr : rr 5 = nI M) (hm : men = nI M) (hz : hl = 0 → M = 0) (hh : hl = 0 ↔ tens = 0) (hE : EarR rr goneTold amongs pair ofPair) : (D_X11_goneOf x0 men tens goneTold fitting inAll with_ amongs pair ofPair).1 = (D_X12_goneOf x0 hl rr).1 ∧ (D_X11_goneOf x0 men tens goneTold fitting inAll with_ amongs pair ofPair).2.1 = (D_X12_goneOf x0 hl rr).2.2 := by
  obtain ⟨w1, w2⟩ := gone_why hh hE
  unfold D_X11_goneOf D_X12_goneOf D_X12_goneOf_j1 D_X11_goneOf_a1 D_X12_goneOf_a3 D_X11_goneOf_a2
  rw [w1, refused2, hm]
  rcases isMan_spec (x0 := x0) hM hr hz with ⟨h1, h2⟩ | ⟨h1, h2, h3, m, h4, h5⟩
  · rw [h1, h2, if_pos rfl, firstOfN (by decide), if_neg (fun g => absurd ((refused1 _).mp g) (by decide))]
    exact ⟨rfl, rfl⟩
  · rw [h1, h2, if_neg (show ¬ (1 : Int32) = 0 by decide), firstOf0]
    by_cases h0 : D_X11_troubleOfGone tens goneTold = 0
    · rw [if_pos ((refused1 _).mpr h0), if_pos h0, h0, h5, nI_clamp (by omega)]
      obtain ⟨-, -, r3⟩ := count_l (with_ := with_) hM hE (w2 h0)
      unfold D_X1_count
      dsimp only
      rw [r3 m (by omega), fitting_m hM hr (by omega)]
      exact ⟨rfl, rfl⟩
    · rw [if_neg (fun g => h0 ((refused1 _).mp g)), if_neg h0]; exact ⟨rfl, rfl⟩
theorem pub_surelyGone (hM : M ≤ 8) (hr : rr 5 = nI M) (hm : men = nI M) (hh : hl = 0 ↔ tens = 0) (hE : EarR rr goneTold amongs pair ofPair) : (D_X11_surelyGone tens goneTold men fitting inAll with_ amongs pair ofPair).1 = (D_X12_surelyGone hl rr).1 ∧ (D_X11_surelyGone tens goneTold men fitting inAll with_ amongs pair ofPair).2.1 = (D_X12_surelyGone hl rr).2.2 := by
  obtain ⟨w1, w2⟩ := gone_why hh hE
  unfold D_X11_surelyGone D_X12_surelyGone D_X11_surelyGone_a1 D_X12_surelyGone_a2 D_X11_surelyGone_a2
  rw [w1, refused2]
  by_cases h0 : D_X11_troubleOfGone tens goneTold = 0
  · rw [if_pos ((refused1 _).mpr h0), if_pos h0, h0, hm]
    obtain ⟨r1, r2, -⟩ := count_l (with_ := with_) hM hE (w2 h0)
    refine ⟨?_, rfl⟩
    unfold D_X1_count D_X1_count_j2
    dsimp only
    rw [r1]
    have hp := pow_256 hM
    have hfc := fc_le (rr := rr) (2 ^ M)
    have hset : D_X12_surelyGone_l1 rr = am_fo (fun k s => if (decide (k < M) && decide (¬ fcN rr (2 ^ M) = 0) && decide (fmN rr k (2 ^ M) = fcN rr (2 ^ M))) then s ||| ((1 : Int32) <<< (nI k &&& 31)) else s) 8 0 := by
      unfold D_X12_surelyGone_l1
      rw [hr, be_nI (by omega)]
      refine (am_fo_cut (g := st_X12_surelyGone_24 rr) hM (fun k s hk => ?_) (fun k s h1 h2 => ?_) 0).symm
      · unfold st_X12_surelyGone_24 D_X12_surelyGone_j1
        rw [fitting_all hM hr, fitting_m hM hr (by omega), decide_eq_true hk, Bool.true_and]
        have hfm := fm_le (rr := rr) k (2 ^ M)
        by_cases c : fcN rr (2 ^ M) = 0
        · have c0 : nI (fcN rr (2 ^ M)) ≤ 0 := by rw [c]; decide
          rw [if_pos c0, decide_eq_false (fun h : ¬ fcN rr (2 ^ M) = 0 => h c), Int32.or_zero]; rfl
        · rw [if_neg (nI_nle (by omega) (by omega)), decide_eq_true c, Bool.true_and]
          by_cases c2 : fmN rr k (2 ^ M) = fcN rr (2 ^ M)
          · rw [c2, if_pos rfl, decide_eq_true rfl, if_pos rfl]
          · rw [if_neg (nI_inj3 (by omega) (by omega) c2), decide_eq_false c2, Int32.or_zero]; rfl
      · rw [decide_eq_false (by omega)]; rfl
    obtain ⟨s1, s2⟩ := set_fo (c := fun k => decide (k < M) && decide (¬ fcN rr (2 ^ M) = 0) && decide (fmN rr k (2 ^ M) = fcN rr (2 ^ M))) (f := fun k s => if (decide (k < M) && decide (¬ fcN rr (2 ^ M) = 0) && decide (fmN rr k (2 ^ M) = fcN rr (2 ^ M))) then s ||| ((1 : Int32) <<< (nI k &&& 31)) else s) (fun k s _ => rfl)
    rw [hset]
    by_cases c : fcN rr (2 ^ M) = 0
    · have c0 : nI (fcN rr (2 ^ M)) = 0 := by rw [c]; rfl
      rw [if_pos c0]
      refine (sm_ext (sm_0) s1 fun k hk => ?_)
      rw [s2 k hk, b_0, decide_eq_false (fun h : ¬ fcN rr (2 ^ M) = 0 => h c), Bool.and_false]; rfl
    · rw [if_neg (nI_ne0 (by omega) (by omega))]
      refine sm_ext (fun k h1 h2 => ?_) s1 fun k hk => ?_
      · cases e : bt (D_X1_count_l2 (nI M) with_ goneTold amongs pair ofPair).2.1 k with
        | false => rfl
        | true => have := ((r2 k h2).mp e).1; omega
      · rw [s2 k hk, decide_eq_true c, Bool.and_true]
        have h1 := r2 k (by omega)
        rw [← fm_eq (m := k) (n := 2 ^ M)] at h1
        cases e : bt (D_X1_count_l2 (nI M) with_ goneTold amongs pair ofPair).2.1 k with
        | true => obtain ⟨g1, g2⟩ := h1.mp e; rw [decide_eq_true g1, decide_eq_true g2]; rfl
        | false =>
          by_cases g1 : k < M
          · by_cases g2 : fmN rr k (2 ^ M) = fcN rr (2 ^ M)
            · rw [h1.mpr ⟨g1, g2⟩] at e; cases e
            · rw [decide_eq_false g2, Bool.and_false]
          · rw [decide_eq_false g1]; rfl
  · rw [if_neg (fun g => h0 ((refused1 _).mp g)), if_neg h0]; exact ⟨rfl, rfl⟩
theorem pub_goneAt (hM : M ≤ 8) (hr : rr 5 = nI M) (hm : men = nI M) (hh : hl = 0 ↔ tens = 0) (hE : EarR rr goneTold amongs pair ofPair) : D_X11_goneAt x0 tens goneTold men amongs pair ofPair = ((D_X12_goneAt x0 hl rr).1, (D_X12_goneAt x0 hl rr).2.2) := by
  obtain ⟨w1, w2⟩ := gone_why hh hE
  unfold D_X11_goneAt D_X12_goneAt D_X11_goneAt_a1 D_X12_goneAt_a3 D_X11_goneAt_j1 D_X11_goneAt_a2
  rw [w1, refused2]
  by_cases h0 : D_X11_troubleOfGone tens goneTold = 0
  · rw [if_pos ((refused1 _).mpr h0), if_pos h0, hm]
    have hp := pow_256 hM
    have hpp := pow_pos' M
    have key : sumR (fun (s t : Int32) => s = t) (fun (s t : Int32) => s = t ∧ ¬ s = -1) (D_X1_fittingAt_l1 (nI M) x0 goneTold amongs pair ofPair) (D_X12_goneAt_l1 x0 rr) := by
      unfold D_X1_fittingAt_l1 D_X12_goneAt_l1
      rw [pow9_all M (by omega), be_nI (by omega), allMen_eq hM hr, to_nI (by omega), show 2 ^ M - 1 + 1 = 2 ^ M by omega]
      refine am_fe_relI (R := fun _ s t => s = t) rfl fun k s t hk e => ?_
      unfold st_X1_fittingAt_5 st_X12_goneAt_24
      rw [fits_eq hE (w2 h0) (by omega), e]
      by_cases c : D_X12_doesFit (nI k) rr = 0
      · rw [if_pos c]; exact Or.inl ⟨_, _, rfl, rfl, rfl⟩
      · rw [if_neg c]
        by_cases c2 : t = x0
        · rw [if_pos c2]
          refine Or.inr ⟨_, _, rfl, rfl, rfl, fun h => ?_⟩
          have := congrArg Int32.toInt h
          rw [nI_toInt (by omega), show (-1 : Int32).toInt = -1 by decide] at this
          omega
        · rw [if_neg c2]; exact Or.inl ⟨_, _, rfl, rfl, rfl⟩
    unfold D_X1_fittingAt
    rcases key with ⟨s, t, e1, e2, -⟩ | ⟨s, t, e1, e2, e3, e4⟩
    · rw [am_sel_l e1, am_sel_l e2, if_pos rfl, if_neg (fun g => absurd ((refused1 _).mp g) (by decide))]; rfl
    · rw [am_sel_r e1, am_sel_r e2, if_neg e4, if_pos ((refused1 _).mpr rfl), e3]; rfl
  · rw [if_neg (fun g => h0 ((refused1 _).mp g)), if_neg h0]; rfl
theorem left_eq (hM : M ≤ 8) (hr : rr 5 = nI M) {w : Nat → Int32} (hw : ∀ j, j < 8 → w j = nI (fmN rr j (2 ^ M))) {m : Nat} (hm : m < 8) : D_X1_leftBy m (nI (fcN rr (2 ^ M))) w = D_X12_leavesOf (nI m) rr := by
  unfold D_X1_leftBy D_X12_leavesOf D_X12_leavesOf_j1
  rw [if_neg (nI_pos (by omega)), if_pos (show nI m < 8 from nI_lt (b := 8) hm (by omega)), hw m hm, fitting_all hM hr, fitting_m hM hr hm]
  by_cases c : nI (fmN rr m (2 ^ M)) < nI (fcN rr (2 ^ M)) - nI (fmN rr m (2 ^ M))
  · rw [if_pos c, if_pos (Int32.le_of_lt c)]
  · rw [if_neg c]
    by_cases c2 : nI (fmN rr m (2 ^ M)) ≤ nI (fcN rr (2 ^ M)) - nI (fmN rr m (2 ^ M))
    · rw [if_pos c2]; exact Int32.le_antisymm c2 (Int32.not_lt.mp c)
    · rw [if_neg c2]
theorem ask_eq (hM : M ≤ 8) (hr : rr 5 = nI M) {w : Nat → Int32} (hw : ∀ j, j < 8 → w j = nI (fmN rr j (2 ^ M))) : D_X1_bestToAsk (nI M) (nI (fcN rr (2 ^ M))) w = D_X12_askOf rr ∧ (D_X12_askOf rr = -2 ∨ ∃ m, m < M ∧ D_X12_askOf rr = nI m) := by
  have hp := pow_256 hM
  have hfc := fc_le (rr := rr) (2 ^ M)
  unfold D_X1_bestToAsk D_X1_bestToAsk_l1 D_X12_askOf D_X12_askOf_m1 D_X12_askOf_l1
  rw [hr, be_nI (by omega)]
  by_cases c : fcN rr (2 ^ M) = 0
  · rw [c, if_pos (show nI 0 = 0 from rfl)]
    have : ∀ n, am_sel (am_fe (st_X12_askOf_5 rr) n (-2)) (fun s => s) (fun x => x) = -2 := by
      intro n
      have h : am_fe (st_X12_askOf_5 rr) n (-2) = .inl (-2) ∧ n = 0 ∨ am_fe (st_X12_askOf_5 rr) n (-2) = .inr (-2) := by
        induction n with
        | zero => exact Or.inl ⟨rfl, rfl⟩
        | succ n ih =>
          rw [am_fe_s]
          rcases ih with ⟨e, -⟩ | e
          · rw [am_sel_l e]
            refine Or.inr ?_
            unfold st_X12_askOf_5
            rw [fitting_all hM hr, c, if_pos (by decide)]
          · rw [am_sel_r e]; exact Or.inr rfl
      rcases h with ⟨e, -⟩ | e
      · rw [am_sel_l e]
      · rw [am_sel_r e]
    rw [this M]
    exact ⟨rfl, Or.inl rfl⟩
  · rw [if_neg (nI_ne0 (by omega) (by omega)), am_fe_inl (g := fun k s => if s < 0 then nI k else if D_X12_leavesOf s rr ≤ D_X12_leavesOf (nI k) rr then s else nI k) (fun k s hk => by unfold st_X12_askOf_5; rw [fitting_all hM hr, if_neg (nI_nle (by omega) (by omega))])]
    rw [show am_sel (Sum.inl (am_fo (fun k s => if s < 0 then nI k else if D_X12_leavesOf s rr ≤ D_X12_leavesOf (nI k) rr then s else nI k) M (-2)) : Int32 ⊕ Int32) (fun s => s) (fun x => x) = am_fo (fun k s => if s < 0 then nI k else if D_X12_leavesOf s rr ≤ D_X12_leavesOf (nI k) rr then s else nI k) M (-2) from rfl]
    have key := am_fo_relI (f := st_X1_bestToAsk_15 (nI (fcN rr (2 ^ M))) w) (g := fun k s => if s < 0 then nI k else if D_X12_leavesOf s rr ≤ D_X12_leavesOf (nI k) rr then s else nI k) (R := fun _ s t => s = t ∧ (s = -2 ∨ ∃ m, m < M ∧ s = nI m)) (n := M) (s := (-2)) (t := (-2)) ⟨rfl, Or.inl rfl⟩ fun k s t hk hR => ?_
    · refine ⟨key.1, ?_⟩
      rw [← key.1]; exact key.2
    · obtain ⟨e, h⟩ := hR
      subst e
      unfold st_X1_bestToAsk_15
      rcases h with h | ⟨m, h1, h2⟩
      · rw [h, if_pos rfl, if_pos (show (-2 : Int32) < 0 by decide)]
        exact ⟨rfl, Or.inr ⟨k, hk, rfl⟩⟩
      · have hn : ¬ s = -2 := by
          rw [h2]
          intro h
          have := congrArg Int32.toInt h
          rw [nI_toInt (by omega), show (-2 : Int32).toInt = -2 by decide] at this
          omega
        rw [if_neg hn, h2, if_neg (nI_pos (by omega)), nI_clamp (by omega), left_eq hM hr hw (by omega), left_eq hM hr hw (by omega)]
        by_cases c2 : D_X12_leavesOf (nI m) rr ≤ D_X12_leavesOf (nI k) rr
        · rw [if_pos c2]; exact ⟨rfl, Or.inr ⟨m, h1, rfl⟩⟩
        · rw [if_neg c2]; exact ⟨rfl, Or.inr ⟨k, hk, rfl⟩⟩
theorem pub_ask (hM : M ≤ 8) (hr : rr 5 = nI M) (hm : men = nI M) (hh : hl = 0 ↔ tens = 0) (hE : EarR rr goneTold amongs pair ofPair) : (D_X11_ask tens goneTold men fitting inAll with_ amongs pair ofPair).1 = (D_X12_ask hl rr).1 ∧ (D_X11_ask tens goneTold men fitting inAll with_ amongs pair ofPair).2.1 = (D_X12_ask hl rr).2.2 := by
  obtain ⟨w1, w2⟩ := gone_why hh hE
  unfold D_X11_ask D_X12_ask D_X12_ask_j1 D_X11_ask_a1 D_X12_ask_a2 D_X11_ask_a3 D_X11_ask_a2
  rw [w1, refused2]
  by_cases h0 : D_X11_troubleOfGone tens goneTold = 0
  · rw [if_pos ((refused1 _).mpr h0), if_pos h0, h0, hm]
    obtain ⟨r1, -, r3⟩ := count_l (with_ := with_) hM hE (w2 h0)
    unfold D_X1_count
    dsimp only
    rw [r1, (ask_eq hM hr r3).1]
    exact ⟨rfl, rfl⟩
  · rw [if_neg (fun g => h0 ((refused1 _).mp g)), if_neg h0]; exact ⟨rfl, rfl⟩
theorem pub_askLeaves (hM : M ≤ 8) (hr : rr 5 = nI M) (hm : men = nI M) (hh : hl = 0 ↔ tens = 0) (hE : EarR rr goneTold amongs pair ofPair) : (D_X11_askLeaves tens goneTold men fitting inAll with_ amongs pair ofPair).1 = (D_X12_askLeaves hl rr).1 ∧ (D_X11_askLeaves tens goneTold men fitting inAll with_ amongs pair ofPair).2.1 = (D_X12_askLeaves hl rr).2.2 := by
  obtain ⟨w1, w2⟩ := gone_why hh hE
  unfold D_X11_askLeaves D_X12_askLeaves D_X11_askLeaves_a1 D_X12_askLeaves_a2 D_X11_askLeaves_j1 D_X11_askLeaves_a4 D_X11_askLeaves_a3 D_X11_askLeaves_a2
  rw [w1, refused2]
  by_cases h0 : D_X11_troubleOfGone tens goneTold = 0
  · rw [if_pos ((refused1 _).mpr h0), if_pos h0, h0, hm]
    obtain ⟨r1, -, r3⟩ := count_l (with_ := with_) hM hE (w2 h0)
    unfold D_X1_count
    dsimp only
    generalize D_X1_count_l2 (nI M) with_ goneTold amongs pair ofPair = Z at r1 r3 ⊢
    rw [r1, (ask_eq hM hr r3).1]
    refine ⟨?_, rfl⟩
    rcases (ask_eq hM hr r3).2 with h | ⟨m, h1, h2⟩
    · rw [h, if_pos rfl, if_neg (show ¬ (0 : Int32) ≤ -2 by decide)]
    · have hn : ¬ nI m = -2 := by
        intro h
        have := congrArg Int32.toInt h
        rw [nI_toInt (by omega), show (-2 : Int32).toInt = -2 by decide] at this
        omega
      rw [h2, if_neg hn, if_pos (nI_pos' (by omega)), nI_clamp (by omega), left_eq hM hr r3 (by omega)]
  · rw [if_neg (fun g => h0 ((refused1 _).mp g)), if_neg h0]; exact ⟨rfl, rfl⟩
end GONE
