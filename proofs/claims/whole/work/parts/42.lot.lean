/-! ONE LOT by all sets: survey beside tryOne -/
def pcn (k : Nat) : Nat := k % 2 + k / 2 % 2 + k / 4 % 2 + k / 8 % 2 + k / 16 % 2 + k / 32 % 2 + k / 64 % 2 + k / 128 % 2
theorem pcn_all : ∀ k, k < 256 → ct (nI k) = pcn k := by decide +kernel
def okS (m b k : Nat) : Bool := Nat.beq (Nat.land k m) k && Nat.beq (pcn k) b
def sc (m b : Nat) : Nat → Nat
  | 0 => 0
  | n + 1 => if okS m b n then sc m b n + 1 else sc m b n
def chN (c : Nat) : Nat → Nat
  | 0 => 1
  | i + 1 => chN c i * (c - i) / (i + 1)
theorem chN_all : ∀ c, c < 9 → ∀ b, b < 5 → b ≤ c → D_X11_choices (nI c) (nI b) = nI (chN c b) ∧ 1 ≤ chN c b := by decide +kernel
theorem sc_all : ∀ m, m < 256 → ∀ b, b < 5 → sc m b (m + 1) = chN (pcn m) b := by decide +kernel
theorem sc_le (m b n : Nat) : sc m b n ≤ n := by
  induction n with
  | zero => exact Nat.le_refl _
  | succ n ih =>
    show (if okS m b n then sc m b n + 1 else sc m b n) ≤ n + 1
    cases okS m b n
    · exact Nat.le_trans ih (Nat.le_succ n)
    · exact Nat.succ_le_succ ih
theorem part_iff {k p : Nat} (hk : k < 256) (hp : p < 256) : nI k &&& (nI p ^^^ (-1)) = 0 ↔ Nat.land k p = k := by
  have h256 : ∀ i, 32 ≤ i → k.testBit i = false := fun i hi => Nat.testBit_lt_two_pow (Nat.lt_of_lt_of_le hk (by rw [show (256 : Nat) = 2 ^ 8 by rfl]; exact Nat.pow_le_pow_right (by decide) (by omega)))
  constructor
  · intro h
    refine Nat.eq_of_testBit_eq fun i => ?_
    show (k &&& p).testBit i = _
    rw [Nat.testBit_and]
    rcases Nat.lt_or_ge i 32 with hi | hi
    · cases hb : k.testBit i with
      | false => rfl
      | true => rw [← bt_nat hi, inc_of h hi (by rw [bt_nat hi]; exact hb)]; rfl
    · rw [h256 i hi]; rfl
  · intro h
    refine of_inc fun i hi hb => ?_
    rw [bt_nat hi] at hb ⊢
    rw [← h] at hb
    have : (k &&& p).testBit i = true := hb
    rw [Nat.testBit_and, Bool.and_eq_true] at this
    exact this.2
theorem okS_iff {m b k : Nat} (hk : k < 256) (hm : m < 256) : okS m b k = true ↔ nI k &&& (nI m ^^^ (-1)) = 0 ∧ ct (nI k) = b := by
  unfold okS
  rw [Bool.and_eq_true, Nat.beq_eq, Nat.beq_eq, part_iff hk hm, pcn_all k hk]
theorem am_fo_shift {σ : Type} (g : Nat → σ → σ) (n : Nat) (s : σ) : am_fo g (n + 1) s = am_fo (fun k => g (k + 1)) n (g 0 s) := by
  induction n with
  | zero => rfl
  | succ n ih =>
    show g (n + 1) (am_fo g (n + 1) s) = g (n + 1) (am_fo (fun k => g (k + 1)) n (g 0 s))
    rw [ih]
theorem copy_eq_v {n1 n3 n4 : Nat} (h4 : n4 < 2 ^ 31) (h : n1 + n4 ≤ n3) (a : Nat → Int32) (i : Nat) : D_X12_copy_eq n1 n3 n4 a i = if n3 ≤ i ∧ i < n3 + n4 then a (n1 + (i - n3)) else a i := by
  unfold D_X12_copy_eq D_X12_copy_eq_l1
  rw [be_nI h4]
  have : ∀ n, n ≤ n4 → ∀ i, am_fo (st_X12_copy_eq_3 n1 n3) n a i = if n3 ≤ i ∧ i < n3 + n then a (n1 + (i - n3)) else a i := by
    intro n
    induction n with
    | zero => intro _ i; rw [if_neg (by omega)]; rfl
    | succ n ih =>
      intro hn i
      show va_up (am_fo (st_X12_copy_eq_3 n1 n3) n a) (n3 + n) ((am_fo (st_X12_copy_eq_3 n1 n3) n a) (n1 + n)) i = _
      by_cases e : i = n3 + n
      · rw [e, va_up_self, ih (by omega), if_neg (by omega), if_pos (by omega), show n1 + (n3 + n - n3) = n1 + n by omega]
      · rw [va_up_ne _ _ e, ih (by omega)]
        by_cases h1 : n3 ≤ i ∧ i < n3 + n
        · rw [if_pos h1, if_pos (by omega)]
        · rw [if_neg h1, if_neg (by omega)]
  exact this n4 (Nat.le_refl _) i
theorem cpy_v {α : Type} (f g : Nat → α) {n k : Nat} (h : k < n) : va_cpy f g 0 0 n k = f k := by
  unfold va_cpy
  rw [if_pos (by omega), Nat.zero_add, Nat.sub_zero]
section SURVEY
variable {M : Nat} {holds oneIn fear mutiny tens present braced seed x0 hl a b c : Int32} {kind nerve friendsOf fearTimes weight rr tenOf feared angerOf lotsOf st : Nat → Int32}
variable {ptr : Option Nat} {p2 b2 s2 : Int32} {t2 f2 an2 l2 : Nat → Int32} {l : Nat}
variable {o n : Nat} {row : Nat → Int32} {black : Int32}
theorem LegR.fsm (hL : LegR M holds oneIn fear mutiny tens kind nerve friendsOf fearTimes weight rr) : ∀ m, m < M → sm (friendsOf m) := fun m hm => by rw [hL.fr hm]; exact sub_sm hL.M8 (hL.fs hm)
/-- what one set brings -/
theorem sv_step (hL : LegR M holds oneIn fear mutiny tens kind nerve friendsOf fearTimes weight rr) (hN : NowR M o present braced seed tenOf feared angerOf lotsOf row) (hs : sub_men present M) (hn : n < 3) (x : Int32) {Y : Int32 × (Nat → Int32) × (Nat → Int32) × (Nat → Int32)} (hY : D_X6_takeAway n black present lotsOf feared tenOf angerOf friendsOf = Y) {row2 : Nat → Int32} (hrow : D_X12_draws o n black row rr = row2) : NowR M o Y.1 braced seed tenOf Y.2.2.1 Y.2.2.2 Y.2.1 row2 ∧ sub_men Y.1 M ∧ Y.1 = row2 (o + 27) ∧ D_X6_runFrom (x &&& Y.1) braced fear weight Y.1 nerve fearTimes Y.2.2.1 = D_X12_runOf o (x &&& Y.1) rr row2 0 (rr 2) (-1) ∧ sm (D_X12_runOf o (x &&& Y.1) rr row2 0 (rr 2) (-1)) ∧ D_X6_holdsFast (D_X12_runOf o (x &&& Y.1) rr row2 0 (rr 2) (-1)) Y.1 holds = D_X12_doesHold o (x &&& Y.1) row2 rr 0 (rr 2) (-1) ∧ D_X6_isMutinous Y.1 Y.2.2.2 mutiny = D_X12_isMutiny o rr row2 ∧ (∀ i, (i < o ∨ o + 30 ≤ i) → row2 i = row i) := by
  subst hrow
  obtain ⟨h1, h2, h3⟩ := draws_rel hL.M8 hL.r5 hs (fun m hm => hL.fr hm) hL.fsm hn hN hY
  have hsub : sub_men Y.1 M := fun k hk h => by
    rw [h3, b_and, Bool.and_eq_true] at h
    exact hs k hk h.1
  have hp : x &&& Y.1 &&& (Y.1 ^^^ (-1)) = 0 := of_inc fun k hk h => by
    rw [b_and, Bool.and_eq_true] at h
    exact h.2
  have hr := runFrom_rel hL h1 hsub hp
  refine ⟨h1, hsub, h1.1, hr, run_relS hL h1 hsub hp, ?_, mutiny_eq hL.M8 hL.r5 h1.1 hsub h1.2.2.2.2.2.1 hL.h3, h2⟩
  rw [← hr]
  exact holdFrom_rel hL h1 hsub hp
theorem NowR_cpy (hM : M ≤ 8) (hN : NowR M o present braced seed tenOf feared angerOf lotsOf row) : NowR M o present braced seed (va_cpy tenOf t2 0 0 8) (va_cpy feared f2 0 0 8) (va_cpy angerOf an2 0 0 8) (va_cpy lotsOf l2 0 0 3) row := by
  obtain ⟨n1, n2, n3, n4, n5, n6, n7⟩ := hN
  exact ⟨n1, n2, n3, fun m hm => by rw [cpy_v _ _ (by omega)]; exact n4 m hm, fun m hm => by rw [cpy_v _ _ (by omega)]; exact n5 m hm, fun m hm => by rw [cpy_v _ _ (by omega)]; exact n6 m hm, fun t ht => by rw [cpy_v _ _ ht]; exact n7 t ht⟩
theorem NowR_row {o' : Nat} {row' : Nat → Int32} (hM : M ≤ 8) (hN : NowR M o present braced seed tenOf feared angerOf lotsOf row) (h : ∀ i, i < 30 → row' (o' + i) = row (o + i)) : NowR M o' present braced seed tenOf feared angerOf lotsOf row' := by
  obtain ⟨n1, n2, n3, n4, n5, n6, n7⟩ := hN
  refine ⟨by rw [h 27 (by omega)]; exact n1, by rw [h 28 (by omega)]; exact n2, by rw [h 29 (by omega)]; exact n3, fun m hm => by rw [h m (by omega)]; exact n4 m hm, fun m hm => ?_, fun m hm => ?_, fun t ht => ?_⟩
  · rw [Nat.add_assoc, h (8 + m) (by omega), ← Nat.add_assoc]; exact n5 m hm
  · rw [Nat.add_assoc, h (16 + m) (by omega), ← Nat.add_assoc]; exact n6 m hm
  · rw [Nat.add_assoc, h (24 + t) (by omega), ← Nat.add_assoc]; exact n7 t ht
def sv_R (m b : Nat) (st : Nat → Int32) (k : Nat) (c : Int32 × Int32 × Int32 × Int32 × Int32 × Int32 × Option Nat × Int32 × Int32 × Int32 × (Nat → Int32) × (Nat → Int32) × (Nat → Int32) × (Nat → Int32)) (r : (Nat → Int32) × Int64 × Int64 × Int64 × Int64 × Int64 × Int32 × Int32) : Prop :=
  c.2.1 = nI (sc m b (k + 1)) ∧ r.2.1 = lN (sc m b (k + 1)) ∧ (∃ H, H ≤ sc m b (k + 1) ∧ c.2.2.1 = nI H ∧ r.2.2.1 = lN H) ∧ (∃ U, U ≤ sc m b (k + 1) ∧ c.2.2.2.1 = nI U ∧ r.2.2.2.1 = lN U) ∧ (∃ W, W ≤ 8 * sc m b (k + 1) ∧ c.2.2.2.2.1 = nI W ∧ r.2.2.2.2.2.1 = lN W) ∧ c.1 = r.2.2.2.2.2.2.1 ∧ ((sc m b (k + 1) = 0 ∧ c.1 = -1) ∨ c.2.2.2.2.2.1 = r.2.2.2.2.2.2.2) ∧ (∀ i, i < 30 → r.1 i = st i)
theorem sc_s (m b k : Nat) : sc m b (k + 1) = if okS m b k then sc m b k + 1 else sc m b k := rfl
theorem survey_l (x : Int32) (hL : LegR M holds oneIn fear mutiny tens kind nerve friendsOf fearTimes weight rr) (hN : NowR M 0 present braced seed tenOf feared angerOf lotsOf st) (hs : sub_men present M) (hn : n < 3) {m b : Nat} (hm : m < 256) (hm0 : 0 < m) (hmen : D_X6_menOf (nI n) present tenOf = nI m) (hb : 0 < b) (hb8 : b < 9) (hbeans : D_X6_beansOf (nI n) present tenOf oneIn = nI b) (hmen2 : ∀ row : Nat → Int32, (∀ i, i < 30 → row i = st i) → D_X12_inTen 0 (nI n) rr row = nI m) (hbeans2 : ∀ row : Nat → Int32, (∀ i, i < 30 → row i = st i) → D_X12_beansOf 0 (nI n) rr row = nI b) {levels : Nat → Int32} : sv_R m b st m (D_X5_survey_l1 n x present tenOf oneIn ptr p2 braced b2 seed s2 t2 feared f2 angerOf an2 lotsOf l2 friendsOf fear weight nerve fearTimes holds mutiny l) (D_X12_tryOne_l1 n x st levels rr) := by
  have hM := hL.M8
  have hlev : ∀ i, i < 30 → D_X12_copy_ne 0 0 30 st levels i = st i := fun i hi => by rw [copy_ne_v (by omega), if_pos (by omega), Nat.zero_add, Nat.sub_zero]
  have ha1 : D_X12_tryOne_a1 x st levels rr = (D_X12_copy_ne 0 0 30 st levels, rr 2, (-1), 0, x, 0, 0, 0, 0, 0, (-1), (-2)) := rfl
  unfold D_X5_survey_l1 D_X12_tryOne_l1
  rw [ha1]
  dsimp only
  rw [hmen, hmen2 _ hlev, to_nI (by omega), show am_to (nI m) 1 = m by unfold am_to; rw [nI_toInt (by omega)]; omega, am_fo_shift]
  have h0 : ¬ D_X12_ones (nI 0) = nI b := fun h => by
    rw [show D_X12_ones (nI 0) = nI 0 by decide, nI_eq (by omega) (by omega)] at h
    omega
  have hok0 : okS m b 0 = false := by
    cases h : okS m b 0 with
    | false => rfl
    | true =>
      have := ((okS_iff (by omega) hm).mp h).2
      rw [show ct (nI 0) = 0 by decide] at this
      omega
  have hsc0 : sc m b (0 + 1) = 0 := by rw [sc_s, hok0]; rfl
  refine am_fo_relI (R := sv_R m b st) ?_ fun k s t hk hR => ?_
  · have e : st_X12_tryOne_31 n x st levels rr 0 (D_X12_copy_ne 0 0 30 st levels, (0 : Int64), (0 : Int64), (0 : Int64), (0 : Int64), (0 : Int64), (-1 : Int32), (-2 : Int32)) = (D_X12_copy_ne 0 0 30 st levels, (0 : Int64), (0 : Int64), (0 : Int64), (0 : Int64), (0 : Int64), (-1 : Int32), (-2 : Int32)) := by
      show D_X12_tryOne_j1 n x st levels rr 0 _ = _
      unfold D_X12_tryOne_j1
      rw [ha1]
      dsimp only
      rw [hmen2 _ hlev, hbeans2 _ hlev, if_pos (by rw [show nI 0 = 0 from rfl, Int32.zero_and]), if_neg h0]
    rw [e]
    unfold sv_R
    rw [hsc0]
    exact ⟨rfl, rfl, ⟨0, Nat.le_refl _, rfl, rfl⟩, ⟨0, Nat.le_refl _, rfl, rfl⟩, ⟨0, Nat.le_refl _, rfl, rfl⟩, rfl, Or.inl ⟨rfl, rfl⟩, hlev⟩
  · show sv_R m b st (k + 1) (D_X5_survey_j2 n x present tenOf oneIn braced seed feared angerOf lotsOf friendsOf fear weight nerve fearTimes holds mutiny l k s) (D_X12_tryOne_j1 n x st levels rr (k + 1) t)
    obtain ⟨r1, r2, ⟨H, rH, r3, r4⟩, ⟨U, rU, r5, r6⟩, ⟨W, rW, r7, r8⟩, r9, r10, r11⟩ := hR
    unfold D_X5_survey_j2 D_X12_tryOne_j1 D_X12_tryOne_a2 D_X5_survey_j1 D_X5_survey_a5 D_X5_survey_a4 D_X5_survey_a6 D_X5_survey_a3 D_X5_survey_a2 D_X5_survey_a1 D_X6_copyFrom
    rw [ha1]
    dsimp only
    rw [hmen2 _ hlev, hbeans2 _ hlev, hmen, hbeans]
    have hsk : sm (nI (k + 1)) := nat_sm (by omega)
    have hck := ct_le hsk
    rw [bc_ct hsk, on_ct hsk]
    by_cases hp : nI (k + 1) &&& (nI m ^^^ (-1)) = 0
    · rw [if_neg (fun g => isPart0.mp g hp), if_pos hp]
      by_cases hc : nI (ct (nI (k + 1))) = nI b
      · have hcb : ct (nI (k + 1)) = b := (nI_eq (by omega) (by omega)).mp hc
        have hok : okS m b (k + 1) = true := (okS_iff (by omega) hm).mpr ⟨hp, hcb⟩
        rw [if_pos hc, if_pos hc]
        obtain ⟨Y, hY⟩ : ∃ Y, D_X6_takeAway n (nI (k + 1)) present (va_cpy lotsOf s.2.2.2.2.2.2.2.2.2.2.2.2.2 0 0 3) (va_cpy feared s.2.2.2.2.2.2.2.2.2.2.2.1 0 0 8) (va_cpy tenOf s.2.2.2.2.2.2.2.2.2.2.1 0 0 8) (va_cpy angerOf s.2.2.2.2.2.2.2.2.2.2.2.2.1 0 0 8) friendsOf = Y := ⟨_, rfl⟩
        rw [hY]
        have hN30 : NowR M 30 present braced seed (va_cpy tenOf s.2.2.2.2.2.2.2.2.2.2.1 0 0 8) (va_cpy feared s.2.2.2.2.2.2.2.2.2.2.2.1 0 0 8) (va_cpy angerOf s.2.2.2.2.2.2.2.2.2.2.2.2.1 0 0 8) (va_cpy lotsOf s.2.2.2.2.2.2.2.2.2.2.2.2.2 0 0 3) (D_X12_copy_eq 0 30 30 t.1) := NowR_cpy hM (NowR_row (o := 0) (row := st) hM hN fun i hi => by
          rw [copy_eq_v (by omega) (by omega), if_pos (by omega), show 0 + (30 + i - 30) = i by omega, Nat.zero_add]
          exact r11 i hi)
        obtain ⟨row2, hrow⟩ : ∃ z, D_X12_draws 30 n (nI (k + 1)) (D_X12_copy_eq 0 30 30 t.1) rr = z := ⟨_, rfl⟩
        obtain ⟨-, -, e27, e1, e2, e3, e4, e5⟩ := sv_step hL hN30 hs hn x hY hrow
        rw [hrow]
        unfold D_X12_countsAt D_X12_countsAt_j2 D_X12_countsAt_a1
        dsimp only
        rw [← e27, e1, e3, e4, bc_on e2, on_ct e2]
        have hcr := ct_le e2
        have hsc : sc m b (k + 1 + 1) = sc m b (k + 1) + 1 := by rw [sc_s, hok]; rfl
        have hlev2 : ∀ i, i < 30 → row2 i = st i := fun i hi => by
          rw [e5 i (Or.inl hi), copy_eq_v (by omega) (by omega), if_neg (by omega)]
          exact r11 i hi
        have f1 : s.2.1 + 1 = nI (sc m b (k + 1 + 1)) := by rw [hsc, r1]; exact nI_1 _
        have f2 : t.2.1 + 1 = lN (sc m b (k + 1 + 1)) := by rw [hsc, r2]; exact lN_1 _
        have f3 : ∃ H, H ≤ sc m b (k + 1 + 1) ∧ s.2.2.1 + (if D_X12_doesHold 30 (x &&& Y.1) row2 rr 0 (rr 2) (-1) = 0 then 0 else 1 : Int32) = nI H ∧ t.2.2.1 + (if D_X12_doesHold 30 (x &&& Y.1) row2 rr 0 (rr 2) (-1) = 0 then 0 else 1 : Int64) = lN H := by
          by_cases hd : D_X12_doesHold 30 (x &&& Y.1) row2 rr 0 (rr 2) (-1) = 0
          · rw [if_pos hd, if_pos hd]; exact ⟨H, by omega, by rw [r3]; exact nI_add H 0, by rw [r4]; exact lN_add H 0⟩
          · rw [if_neg hd, if_neg hd]; exact ⟨H + 1, by omega, by rw [r3]; exact nI_1 H, by rw [r4]; exact lN_1 H⟩
        have f4 : ∃ U, U ≤ sc m b (k + 1 + 1) ∧ s.2.2.2.1 + (if D_X12_isMutiny 30 rr row2 = 0 then 0 else 1 : Int32) = nI U ∧ t.2.2.2.1 + (if D_X12_isMutiny 30 rr row2 = 0 then 0 else 1 : Int64) = lN U := by
          by_cases hd : D_X12_isMutiny 30 rr row2 = 0
          · rw [if_pos hd, if_pos hd]; exact ⟨U, by omega, by rw [r5]; exact nI_add U 0, by rw [r6]; exact lN_add U 0⟩
          · rw [if_neg hd, if_neg hd]; exact ⟨U + 1, by omega, by rw [r5]; exact nI_1 U, by rw [r6]; exact lN_1 U⟩
        have f5 : ∃ W, W ≤ 8 * sc m b (k + 1 + 1) ∧ s.2.2.2.2.1 + nI (ct (D_X12_runOf 30 (x &&& Y.1) rr row2 0 (rr 2) (-1))) = nI W ∧ t.2.2.2.2.2.1 + (nI (ct (D_X12_runOf 30 (x &&& Y.1) rr row2 0 (rr 2) (-1)))).toInt64 = lN W := ⟨W + ct (D_X12_runOf 30 (x &&& Y.1) rr row2 0 (rr 2) (-1)), by omega, by rw [r7]; exact nI_add _ _, by rw [r8, nI_l (by omega)]; exact lN_add _ _⟩
        have f0 : (if D_X12_doesHold 30 (x &&& Y.1) row2 rr 0 (rr 2) (-1) = 0 then (0 : Int32) else 1) = (if D_X12_doesHold 30 (x &&& Y.1) row2 rr 0 (rr 2) (-1) = 0 then 0 else 1 : Int32) := rfl
        rw [← r9]
        by_cases hq : nI (ct (D_X12_runOf 30 (x &&& Y.1) rr row2 0 (rr 2) (-1))) ≤ s.1
        · rw [if_pos hq, if_pos hq]
          refine ⟨f1, f2, f3, f4, f5, rfl, ?_, hlev2⟩
          rcases r10 with ⟨g1, g2⟩ | g
          · rw [g2] at hq
            rw [Int32.le_iff_toInt_le, nI_toInt (by omega), show (-1 : Int32).toInt = -1 by decide] at hq
            omega
          · exact Or.inr g
        · rw [if_neg hq, if_neg hq]
          exact ⟨f1, f2, f3, f4, f5, rfl, Or.inr rfl, hlev2⟩
      · have hok : okS m b (k + 1) = false := by
          cases h : okS m b (k + 1) with
          | false => rfl
          | true => exact absurd (by rw [((okS_iff (by omega) hm).mp h).2]) hc
        have hsc : sc m b (k + 1 + 1) = sc m b (k + 1) := by rw [sc_s, hok]; rfl
        rw [if_neg hc, if_neg hc]
        unfold sv_R
        rw [hsc]
        exact ⟨r1, r2, ⟨H, rH, r3, r4⟩, ⟨U, rU, r5, r6⟩, ⟨W, rW, r7, r8⟩, r9, r10, r11⟩
    · have hok : okS m b (k + 1) = false := by
        cases h : okS m b (k + 1) with
        | false => rfl
        | true => exact absurd ((okS_iff (by omega) hm).mp h).1 hp
      have hsc : sc m b (k + 1 + 1) = sc m b (k + 1) := by rw [sc_s, hok]; rfl
      rw [if_pos (isPart0.mpr hp), if_neg hp]
      unfold sv_R
      rw [hsc]
      exact ⟨r1, r2, ⟨H, rH, r3, r4⟩, ⟨U, rU, r5, r6⟩, ⟨W, rW, r7, r8⟩, r9, r10, r11⟩
end SURVEY
