/-! ===== Int32 by its bits: bt x i ===== -/
def bt (x : Int32) (i : Nat) : Bool := x.toBitVec.getLsbD i
theorem b_ext {x y : Int32} (h : ∀ i, i < 32 → bt x i = bt y i) : x = y := Int32.toBitVec_inj.mp (BitVec.eq_of_getLsbD_eq (fun i hi => h i hi))
theorem b_or (x y : Int32) (i : Nat) : bt (x ||| y) i = (bt x i || bt y i) := by unfold bt; rw [Int32.toBitVec_or, BitVec.getLsbD_or]
theorem b_and (x y : Int32) (i : Nat) : bt (x &&& y) i = (bt x i && bt y i) := by unfold bt; rw [Int32.toBitVec_and, BitVec.getLsbD_and]
theorem b_xor (x y : Int32) (i : Nat) : bt (x ^^^ y) i = (bt x i ^^ bt y i) := by unfold bt; rw [Int32.toBitVec_xor, BitVec.getLsbD_xor]
theorem b_big {x : Int32} {i : Nat} (h : 32 ≤ i) : bt x i = false := BitVec.getLsbD_of_ge _ _ h
theorem b_255 (i : Nat) : bt 255 i = decide (i < 8) := by
  rcases Nat.lt_or_ge i 32 with h | h
  · exact (by decide +kernel : ∀ i, i < 32 → bt 255 i = decide (i < 8)) i h
  · rw [b_big h, decide_eq_false (by omega)]
theorem b_65535 (i : Nat) : bt 65535 i = decide (i < 16) := by
  rcases Nat.lt_or_ge i 32 with h | h
  · exact (by decide +kernel : ∀ i, i < 32 → bt 65535 i = decide (i < 16)) i h
  · rw [b_big h, decide_eq_false (by omega)]
theorem b_m1 : ∀ i, i < 32 → bt (-1) i = true := by decide +kernel
theorem b_0 (i : Nat) : bt 0 i = false := BitVec.getLsbD_zero
theorem s_l : ∀ n, n < 32 → ((nI n &&& 31).toBitVec.smod 32).toNat = n := by decide +kernel
theorem s_u : ∀ n, n < 32 → (((nI n).toUInt32 &&& Int32.toUInt32 31).toBitVec % 32).toNat = n := by decide +kernel
theorem b_shl (n : Nat) (hn : n < 32) (x : Int32) {i : Nat} (hi : i < 32) : bt (x <<< (nI n &&& 31)) i = (decide (n ≤ i) && bt x (i - n)) := by
  unfold bt
  rw [Int32.toBitVec_shiftLeft]
  show (x.toBitVec <<< ((nI n &&& 31).toBitVec.smod 32).toNat).getLsbD i = _
  rw [s_l n hn, BitVec.getLsbD_shiftLeft]
  rcases Nat.lt_or_ge i n with h | h
  · simp [h, Nat.not_le.mpr h]
  · simp [hi, h, Nat.not_lt.mpr h]
theorem b_ushr (n : Nat) (hn : n < 32) (x : Int32) (i : Nat) : bt ((x.toUInt32 >>> ((nI n).toUInt32 &&& Int32.toUInt32 31)).toInt32) i = bt x (n + i) := by
  show (x.toUInt32 >>> ((nI n).toUInt32 &&& Int32.toUInt32 31)).toBitVec.getLsbD i = x.toUInt32.toBitVec.getLsbD (n + i)
  rw [UInt32.toBitVec_shiftRight]
  show (x.toUInt32.toBitVec >>> (((nI n).toUInt32 &&& Int32.toUInt32 31).toBitVec % 32).toNat).getLsbD i = _
  rw [s_u n hn, BitVec.getLsbD_ushiftRight]
theorem b_sshr (n : Nat) (hn : n < 32) (x : Int32) {i : Nat} (hi : i < 32) : bt (x >>> (nI n &&& 31)) i = if n + i < 32 then bt x (n + i) else bt x 31 := by
  unfold bt
  rw [Int32.toBitVec_shiftRight]
  show (x.toBitVec.sshiftRight ((nI n &&& 31).toBitVec.smod 32).toNat).getLsbD i = _
  rw [s_l n hn, BitVec.getLsbD_sshiftRight, BitVec.msb_eq_getLsbD_last]
  simp [hi]
/-! SMALL SETS: bits 0 .. 7 (the rows above are the kit's) -/
theorem b_1 {i : Nat} (hi : i < 32) : bt 1 i = decide (i = 0) := (by decide +kernel : ∀ i, i < 32 → bt 1 i = decide (i = 0)) i hi
theorem b_not (x : Int32) {i : Nat} (hi : i < 32) : bt (x ^^^ (-1)) i = !bt x i := by rw [b_xor, b_m1 i hi, Bool.xor_true]
theorem b_one {k i : Nat} (hk : k < 32) (hi : i < 32) : bt ((1 : Int32) <<< (nI k &&& 31)) i = decide (i = k) := by
  rw [b_shl k hk 1 hi, b_1 (by omega)]
  by_cases h : i = k
  · rw [decide_eq_true h, decide_eq_true (by omega), decide_eq_true (by omega)]; rfl
  · rw [decide_eq_false h]
    by_cases h2 : k ≤ i
    · rw [decide_eq_false (p := i - k = 0) (by omega), Bool.and_false]
    · rw [decide_eq_false h2, Bool.false_and]
theorem b_sh1 (x : Int32) {k : Nat} (hk : k < 32) : (x >>> (nI k &&& 31)) &&& 1 = if bt x k then 1 else 0 := by
  refine b_ext fun i hi => ?_
  rw [b_and, b_sshr k hk x hi, b_1 hi]
  by_cases h : i = 0
  · subst h
    rw [decide_eq_true rfl, Bool.and_true, if_pos (by omega)]
    cases hb : bt x (k + 0) with
    | true => rw [if_pos rfl]; rfl
    | false => rw [if_neg (by decide)]; rfl
  · rw [decide_eq_false h, Bool.and_false]
    cases hb : bt x k with
    | true => rw [if_pos rfl, b_1 hi, decide_eq_false h]
    | false => rw [if_neg (by decide), b_0]
theorem has_bt (x : Int32) {k : Nat} (hk : k < 32) : D_X11_has x (nI k) = if bt x k then 1 else 0 := by
  unfold D_X11_has
  rw [b_sh1 x hk]
  cases bt x k <;> rfl
theorem hasBit_bt (x : Int32) {k : Nat} (hk : k < 32) : D_X12_hasBit x (nI k) = if bt x k then 1 else 0 := by
  unfold D_X12_hasBit
  rw [b_sh1 x hk]
  cases bt x k <;> rfl
theorem has0 {x : Int32} {k : Nat} (hk : k < 32) : D_X11_has x (nI k) = 0 ↔ bt x k = false := by
  rw [has_bt x hk]
  cases bt x k with
  | true => exact ⟨fun h => absurd h (by decide), fun h => absurd h (by decide)⟩
  | false => exact ⟨fun _ => rfl, fun _ => rfl⟩
theorem hasBit0 {x : Int32} {k : Nat} (hk : k < 32) : D_X12_hasBit x (nI k) = 0 ↔ bt x k = false := by
  rw [hasBit_bt x hk]
  cases bt x k with
  | true => exact ⟨fun h => absurd h (by decide), fun h => absurd h (by decide)⟩
  | false => exact ⟨fun _ => rfl, fun _ => rfl⟩
theorem has_eq (x : Int32) {k : Nat} (hk : k < 32) : D_X11_has x (nI k) = D_X12_hasBit x (nI k) := by rw [has_bt x hk, hasBit_bt x hk]
/-- no bit from 8 on -/
def sm (x : Int32) : Prop := ∀ k, 8 ≤ k → k < 32 → bt x k = false
theorem sm_or {x y : Int32} (hx : sm x) (hy : sm y) : sm (x ||| y) := fun k h1 h2 => by rw [b_or, hx k h1 h2, hy k h1 h2]; rfl
theorem sm_and {x : Int32} (y : Int32) (hx : sm x) : sm (x &&& y) := fun k h1 h2 => by rw [b_and, hx k h1 h2, Bool.false_and]
theorem sm_and' {x : Int32} (y : Int32) (hx : sm x) : sm (y &&& x) := fun k h1 h2 => by rw [b_and, hx k h1 h2, Bool.and_false]
theorem sm_0 : sm 0 := fun k _ _ => b_0 k
theorem sm_one {k : Nat} (hk : k < 8) : sm ((1 : Int32) <<< (nI k &&& 31)) := fun i h1 h2 => by rw [b_one (by omega) h2, decide_eq_false (by omega)]
theorem sm_nat {x : Int32} (h : sm x) : ∃ n, n < 256 ∧ x = nI n := by
  refine ⟨x.toBitVec.toNat, ?_, Int32.toBitVec_inj.mp (by show _ = BitVec.ofNat 32 _; simp)⟩
  have : x.toBitVec.toNat < 2 ^ 8 := by
    refine Nat.lt_pow_two_of_testBit _ fun i hi => ?_
    by_cases h2 : i < 32
    · exact h i hi h2
    · exact BitVec.getLsbD_of_ge _ _ (by omega)
  exact this
theorem nat_sm {n : Nat} (h : n < 256) : sm (nI n) := by
  intro k h1 h2
  show (BitVec.ofNat 32 n).getLsbD k = false
  rw [BitVec.getLsbD_ofNat]
  have : n.testBit k = false := Nat.testBit_lt_two_pow (Nat.lt_of_lt_of_le h (show 2 ^ 8 ≤ 2 ^ k from Nat.pow_le_pow_right (by decide) h1))
  rw [this, Bool.and_false]
theorem bt_nat {n k : Nat} (h : k < 32) : bt (nI n) k = n.testBit k := by
  show (BitVec.ofNat 32 n).getLsbD k = _
  rw [BitVec.getLsbD_ofNat, decide_eq_true h, Bool.true_and]
/-- equal, if so below 8 -/
theorem sm_ext {x y : Int32} (hx : sm x) (hy : sm y) (h : ∀ k, k < 8 → bt x k = bt y k) : x = y := by
  refine b_ext fun i hi => ?_
  by_cases h8 : i < 8
  · exact h i h8
  · rw [hx i (by omega) hi, hy i (by omega) hi]
theorem sm_pos {x : Int32} (h : sm x) : ¬ x < 0 := by
  obtain ⟨n, hn, rfl⟩ := sm_nat h
  exact nI_pos (by omega)
/-- how many -/
def ct (x : Int32) : Nat := am_fo (fun k s => if bt x k then s + 1 else s) 8 0
theorem ct_bc_all : ∀ n, n < 256 → D_J6_bitCount_0f7a4 (nI n) = nI (ct (nI n)) := by decide +kernel
theorem ct_on_all : ∀ n, n < 256 → D_X12_ones (nI n) = nI (ct (nI n)) := by decide +kernel
theorem ct_le_all : ∀ n, n < 256 → ct (nI n) ≤ 8 := by decide +kernel
theorem ct_0_all : ∀ n, n < 256 → ct (nI n) = 0 → n = 0 := by decide +kernel
theorem bc_ct {x : Int32} (h : sm x) : D_J6_bitCount_0f7a4 x = nI (ct x) := by
  obtain ⟨n, hn, rfl⟩ := sm_nat h
  exact ct_bc_all n hn
theorem on_ct {x : Int32} (h : sm x) : D_X12_ones x = nI (ct x) := by
  obtain ⟨n, hn, rfl⟩ := sm_nat h
  exact ct_on_all n hn
theorem bc_on {x : Int32} (h : sm x) : D_J6_bitCount_0f7a4 x = D_X12_ones x := by rw [bc_ct h, on_ct h]
theorem ct_le {x : Int32} (h : sm x) : ct x ≤ 8 := by
  obtain ⟨n, hn, rfl⟩ := sm_nat h
  exact ct_le_all n hn
theorem ct_0 {x : Int32} (h : sm x) (h0 : ct x = 0) : x = 0 := by
  obtain ⟨n, hn, rfl⟩ := sm_nat h
  rw [ct_0_all n hn h0]; rfl
/-- only the first bits are looked at: all 8, or so many as there are men -/
theorem am_fo_cut {σ : Type} {f g : Nat → σ → σ} {M N : Nat} (hM : M ≤ N) (h1 : ∀ k s, k < M → f k s = g k s) (h2 : ∀ k s, M ≤ k → k < N → f k s = s) (s : σ) : am_fo f N s = am_fo g M s := by
  induction N with
  | zero =>
    have : M = 0 := by omega
    subst this; rfl
  | succ N ih =>
    by_cases h : M = N + 1
    · subst h
      exact am_fo_congr (fun k s hk => h1 k s hk) s
    · show f N (am_fo f N s) = _
      rw [h2 N _ (by omega) (by omega)]
      exact ih (by omega) (fun k s h1 h3 => h2 k s h1 (by omega))
theorem am_fo_inv {σ : Type} {f : Nat → σ → σ} {P : σ → Prop} {n : Nat} {s : σ} (h0 : P s) (hs : ∀ k s, k < n → P s → P (f k s)) : P (am_fo f n s) := by
  induction n with
  | zero => exact h0
  | succ n ih => exact hs n _ (by omega) (ih fun k s hk => hs k s (by omega))
theorem am_fo_rel {σ τ : Type} {f : Nat → σ → σ} {g : Nat → τ → τ} {R : σ → τ → Prop} {n : Nat} {s : σ} {t : τ} (h0 : R s t) (hs : ∀ k s t, k < n → R s t → R (f k s) (g k t)) : R (am_fo f n s) (am_fo g n t) := by
  induction n with
  | zero => exact h0
  | succ n ih => exact hs n _ _ (by omega) (ih fun k s t hk => hs k s t (by omega))
theorem be_nI {n : Nat} (h : n < 2 ^ 31) : am_be (nI n) 0 = n := by
  unfold am_be
  rw [nI_clamp h]
  rfl
/-! NOW, class beside reference: M men; a Now's cells beside a row at place o -/
/-- men there are men told -/
def sub_men (x : Int32) (M : Nat) : Prop := ∀ k, k < 32 → bt x k = true → k < M
theorem sub_sm {x : Int32} {M : Nat} (hM : M ≤ 8) (h : sub_men x M) : sm x := fun k h1 h2 => by
  cases hb : bt x k with
  | false => rfl
  | true => have := h k h2 hb; omega
section NOW
variable {M o : Nat} {present t : Int32} {tenOf angerOf rr row : Nat → Int32}
theorem menOf_inTen (hM : M ≤ 8) (hr : rr 5 = nI M) (hp : present = row (o + 27)) (hs : sub_men present M) (ht : ∀ m, m < M → tenOf m = row (o + m)) : D_X6_menOf t present tenOf = D_X12_inTen o t rr row := by
  unfold D_X6_menOf D_X6_menOf_l1 D_X12_inTen D_X12_inTen_l1
  rw [hr, be_nI (by omega)]
  refine am_fo_cut hM (fun k s hk => ?_) (fun k s h1 h2 => ?_) 0
  · unfold st_X6_menOf_4 st_X12_inTen_6
    rw [← hp, has_eq present (by omega), ht k hk]
    by_cases h0 : D_X12_hasBit present (nI k) = 0
    · rw [if_pos h0, if_pos h0, Int32.or_zero]
    · rw [if_neg h0, if_neg h0]
      by_cases h2 : row (o + k) = t
      · rw [if_pos h2, if_pos h2]
      · rw [if_neg h2, if_neg h2, Int32.or_zero]
  · unfold st_X6_menOf_4
    rw [if_pos]
    rw [has0 (by omega)]
    cases hb : bt present k with
    | false => rfl
    | true => have := hs k (by omega) hb; omega
theorem menOf_sub (hM : M ≤ 8) (hs : sub_men present M) : sub_men (D_X6_menOf t present tenOf) M := by
  unfold D_X6_menOf D_X6_menOf_l1
  refine am_fo_inv (P := fun x => sub_men x M) (fun k h1 h2 => by rw [b_0] at h2; cases h2) fun k s hk ih => ?_
  unfold st_X6_menOf_4
  by_cases h0 : D_X11_has present (nI k) = 0
  · rw [if_pos h0]; exact ih
  · rw [if_neg h0]
    by_cases h2 : tenOf k = t
    · rw [if_pos h2]
      intro i hi hb
      rw [b_or, b_one (by omega) hi, Bool.or_eq_true, decide_eq_true_eq] at hb
      rcases hb with hb | hb
      · exact ih i hi hb
      · subst hb
        rw [has0 (by omega)] at h0
        refine hs i hi ?_
        cases hb : bt present i with
        | true => rfl
        | false => exact absurd hb h0
    · rw [if_neg h2]; exact ih
theorem anger_eq (hM : M ≤ 8) (hr : rr 5 = nI M) (hp : present = row (o + 27)) (hs : sub_men present M) (ht : ∀ m, m < M → angerOf m = row (o + 16 + m)) : D_X6_angerOfAll present angerOf = D_X12_angerOf o rr row := by
  unfold D_X6_angerOfAll D_X6_angerOfAll_l1 D_X12_angerOf D_X12_angerOf_l1
  rw [hr, be_nI (by omega)]
  refine am_fo_cut hM (fun k s hk => ?_) (fun k s h1 h2 => ?_) 0
  · unfold st_X6_angerOfAll_4 st_X12_angerOf_5
    rw [← hp, has_eq present (by omega), ht k hk]
    by_cases h0 : D_X12_hasBit present (nI k) = 0
    · rw [if_pos h0, if_pos h0, Int32.add_zero]
    · rw [if_neg h0, if_neg h0]
  · unfold st_X6_angerOfAll_4
    rw [if_pos]
    rw [has0 (by omega)]
    cases hb : bt present k with
    | false => rfl
    | true => have := hs k (by omega) hb; omega
theorem mutiny_eq (hM : M ≤ 8) (hr : rr 5 = nI M) (hp : present = row (o + 27)) (hs : sub_men present M) (ht : ∀ m, m < M → angerOf m = row (o + 16 + m)) {mt : Int32} (hm : mt = rr 3) : D_X6_isMutinous present angerOf mt = D_X12_isMutiny o rr row := by
  unfold D_X6_isMutinous D_X12_isMutiny
  rw [anger_eq hM hr hp hs ht, hm]
theorem beans_all : ∀ c, c < 9 → ∀ n, n < 7 → 2 ≤ n → (if nI c = 0 then (0 : Int32) else if 1 ≤ nI n then (if 1 < nI c / nI n then nI c / nI n else 1) else 0) = (if nI c = 0 then 0 else if nI n ≤ nI c then nI c / nI n else 1) := by decide +kernel
theorem beans_eq (hM : M ≤ 8) (hr : rr 5 = nI M) (hp : present = row (o + 27)) (hs : sub_men present M) (ht : ∀ m, m < M → tenOf m = row (o + m)) {n : Nat} (hn : 2 ≤ n ∧ n < 7) (h1 : rr 1 = nI n) : D_X6_beansOf t present tenOf (nI n) = D_X12_beansOf o t rr row := by
  have hsm := sub_sm hM (menOf_sub (t := t) (tenOf := tenOf) hM hs)
  unfold D_X6_beansOf D_X12_beansOf D_X12_beansOf_j1
  rw [← menOf_inTen hM hr hp hs ht, bc_ct hsm, on_ct hsm, h1]
  exact beans_all _ (by have := ct_le hsm; omega) n hn.2 hn.1
end NOW
