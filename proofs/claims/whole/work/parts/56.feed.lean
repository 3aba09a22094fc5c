/-! FEED: the tape's bytes -/
def BR (b t : Int32) : Prop := ∃ u, u < 256 ∧ t = nI u ∧ b = if u < 128 then nI u else nI u - 256
theorem br_all : ∀ u, u < 256 → (nI u).toInt8.toInt32 = if u < 128 then nI u else nI u - 256 := by decide +kernel
theorem nar_byte (y : Int32) : vp_nar .byte y = y.toInt8.toInt32 := rfl
theorem toInt8_and (x : Int32) : (x &&& 255).toInt8 = x.toInt8 := by
  apply Int8.toBitVec_inj.mp
  rw [Int32.toBitVec_toInt8, Int32.toBitVec_toInt8, Int32.toBitVec_and]
  apply BitVec.eq_of_getLsbD_eq
  intro i hi
  rw [BitVec.getLsbD_signExtend, BitVec.getLsbD_signExtend, if_pos (show i < 32 by omega), if_pos (show i < 32 by omega), BitVec.getLsbD_and]
  have h2 : (255 : Int32).toBitVec.getLsbD i = true := by
    have := b_255 i
    unfold bt at this
    rw [this, decide_eq_true hi]
  rw [h2, Bool.and_true]
theorem sm_255 (x : Int32) : sm (x &&& 255) := fun k h1 h2 => by rw [b_and, b_255, decide_eq_false (by omega), Bool.and_false]
theorem br_byte (x : Int32) : BR (vp_nar .byte (x.toInt8.toInt32)) (x &&& 255) := by
  obtain ⟨u, hu, e⟩ := sm_nat (sm_255 x)
  refine ⟨u, hu, e, ?_⟩
  rw [nar_byte, ← toInt8_and x, e, br_all u hu]
  have : ∀ u, u < 256 → (if u < 128 then nI u else nI u - 256 : Int32).toInt8.toInt32 = if u < 128 then nI u else nI u - 256 := by decide +kernel
  exact this u hu
def TapR (bytes tape : Nat → Int32) : Prop := ∀ i, i < 1000 → BR (bytes i) (tape i)
section FEED
variable {x0 x1 x2 x3 x4 : Int32} {bytes tape : Nat → Int32} {n : Nat}
theorem put_v (x : Int32) (hn : n ≤ 996) : D_X11_putBytes x (nI n) bytes = (va_up (va_up (va_up (va_up bytes n (vp_nar .byte ((x >>> (24 &&& 31)).toInt8.toInt32))) (n + 1) (vp_nar .byte ((x >>> (16 &&& 31)).toInt8.toInt32))) (n + 2) (vp_nar .byte ((x >>> (8 &&& 31)).toInt8.toInt32))) (n + 3) (vp_nar .byte ((x >>> (0 &&& 31)).toInt8.toInt32)), nI (n + 4)) := by
  have h : ∀ m, m < 1000 → ¬ (1000 : Int32) ≤ nI m := fun m hm => nI_ge (b := 1000) hm (by omega)
  have j1 : D_X11_putBytes_j1 x (nI n) bytes = (nI (n + 1), va_up bytes n (vp_nar .byte ((x >>> (24 &&& 31)).toInt8.toInt32))) := by
    unfold D_X11_putBytes_j1
    rw [if_neg (h n (by omega)), nI_clamp (by omega), nI_1]
  have j2 : D_X11_putBytes_j2 x (nI n) bytes = (nI (n + 2), va_up (va_up bytes n (vp_nar .byte ((x >>> (24 &&& 31)).toInt8.toInt32))) (n + 1) (vp_nar .byte ((x >>> (16 &&& 31)).toInt8.toInt32))) := by
    unfold D_X11_putBytes_j2 D_X11_putBytes_a1
    rw [j1]
    dsimp only
    rw [if_neg (h (n + 1) (by omega)), nI_clamp (by omega), nI_1]
  have j3 : D_X11_putBytes_j3 x (nI n) bytes = (nI (n + 3), va_up (va_up (va_up bytes n (vp_nar .byte ((x >>> (24 &&& 31)).toInt8.toInt32))) (n + 1) (vp_nar .byte ((x >>> (16 &&& 31)).toInt8.toInt32))) (n + 2) (vp_nar .byte ((x >>> (8 &&& 31)).toInt8.toInt32))) := by
    unfold D_X11_putBytes_j3 D_X11_putBytes_a2
    rw [j2]
    dsimp only
    rw [if_neg (h (n + 2) (by omega)), nI_clamp (by omega), nI_1]
  unfold D_X11_putBytes D_X11_putBytes_j4 D_X11_putBytes_a3
  rw [j3]
  dsimp only
  rw [if_neg (h (n + 3) (by omega)), nI_clamp (by omega), nI_1]
/-- byte k of the twenty -/
def fdW (x0 x1 x2 x3 x4 : Int32) (k : Nat) : Int32 := if k < 4 then x0 else if k < 8 then x1 else if k < 12 then x2 else if k < 16 then x3 else x4
def fdS (k : Nat) : Int32 := nI (24 - 8 * (k % 4))
def fdB (x0 x1 x2 x3 x4 : Int32) (k : Nat) : Int32 := fdW x0 x1 x2 x3 x4 k >>> (fdS k &&& 31)
theorem fdS_all : ∀ k, k < 20 → (24 - 8 * jrm (nI k) 4) = fdS k := by decide +kernel
theorem feed_ref (hn : n ≤ 980) : ∀ k, k ≤ 20 → ∃ t', am_fo (st_X12_feed_23 x0 x1 x2 x3 x4) k (nI n, tape) = (nI (n + k), t') ∧ (∀ i, t' i = if n ≤ i ∧ i < n + k then fdB x0 x1 x2 x3 x4 (i - n) &&& 255 else tape i) := by
  intro k
  induction k with
  | zero => intro _; exact ⟨tape, rfl, fun i => by rw [if_neg (by omega)]⟩
  | succ k ih =>
    intro hk
    obtain ⟨t', e1, e2⟩ := ih (by omega)
    refine ⟨va_up t' (n + k) (fdB x0 x1 x2 x3 x4 k &&& 255), ?_, fun i => ?_⟩
    · show st_X12_feed_23 x0 x1 x2 x3 x4 k (am_fo (st_X12_feed_23 x0 x1 x2 x3 x4) k (nI n, tape)) = _
      rw [e1]
      unfold st_X12_feed_23 D_X12_feed_a1 fdB fdW
      dsimp only
      rw [nI_1, nI_clamp (by omega), fdS_all k (by omega)]
      have c : ∀ q : Nat, q ≤ 16 → ((nI q ≤ nI k) ↔ ¬ k < q) := fun q hq => by rw [nI_leI (by omega) (by omega)]; omega
      have c4 := c 4 (by omega)
      have c8 := c 8 (by omega)
      have c12 := c 12 (by omega)
      have c16 := c 16 (by omega)
      rw [show (4 : Int32) = nI 4 from rfl, show (8 : Int32) = nI 8 from rfl, show (12 : Int32) = nI 12 from rfl, show (16 : Int32) = nI 16 from rfl]
      by_cases h4 : k < 4
      · rw [if_neg (fun g => c4.mp g h4), if_pos h4]; rfl
      · rw [if_pos (c4.mpr h4), if_neg h4]
        by_cases h8 : k < 8
        · rw [if_neg (fun g => c8.mp g h8), if_pos h8]; rfl
        · rw [if_pos (c8.mpr h8), if_neg h8]
          by_cases h12 : k < 12
          · rw [if_neg (fun g => c12.mp g h12), if_pos h12]; rfl
          · rw [if_pos (c12.mpr h12), if_neg h12]
            by_cases h16 : k < 16
            · rw [if_neg (fun g => c16.mp g h16), if_pos h16]; rfl
            · rw [if_pos (c16.mpr h16), if_neg h16]; rfl
    · by_cases e : i = n + k
      · rw [e, va_up_self, if_pos (by omega), show n + k - n = k by omega]
      · rw [va_up_ne _ _ e, e2 i]
        by_cases c : n ≤ i ∧ i < n + k
        · rw [if_pos c, if_pos (by omega)]
        · rw [if_neg c, if_neg (by omega)]
def fdV (x0 x1 x2 x3 x4 : Int32) (k : Nat) : Int32 := vp_nar .byte ((fdB x0 x1 x2 x3 x4 k).toInt8.toInt32)
theorem put_i (x : Int32) (hn : n ≤ 996) {q : Nat} (hq : q = 0 ∨ q = 4 ∨ q = 8 ∨ q = 12 ∨ q = 16) (hx : fdW x0 x1 x2 x3 x4 q = x) : (D_X11_putBytes x (nI n) bytes).2 = nI (n + 4) ∧ ∀ i, (D_X11_putBytes x (nI n) bytes).1 i = if n ≤ i ∧ i < n + 4 then fdV x0 x1 x2 x3 x4 (q + (i - n)) else bytes i := by
  rw [put_v x hn]
  refine ⟨rfl, fun i => ?_⟩
  have h : ∀ k, k < 4 → fdV x0 x1 x2 x3 x4 (q + k) = vp_nar .byte ((x >>> (nI (24 - 8 * k) &&& 31)).toInt8.toInt32) := fun k hk => by
    unfold fdV fdB fdS
    have e1 : fdW x0 x1 x2 x3 x4 (q + k) = x := by
      rw [← hx]
      unfold fdW
      rcases hq with rfl | rfl | rfl | rfl | rfl
      · rw [if_pos (by omega), if_pos (by omega)]
      · rw [if_neg (by omega), if_pos (by omega), if_neg (by omega), if_pos (by omega)]
      · rw [if_neg (by omega), if_neg (by omega), if_pos (by omega), if_neg (by omega), if_neg (by omega), if_pos (by omega)]
      · rw [if_neg (by omega), if_neg (by omega), if_neg (by omega), if_pos (by omega), if_neg (by omega), if_neg (by omega), if_neg (by omega), if_pos (by omega)]
      · rw [if_neg (by omega), if_neg (by omega), if_neg (by omega), if_neg (by omega), if_neg (by omega), if_neg (by omega), if_neg (by omega), if_neg (by omega)]
    rw [e1, show (q + k) % 4 = k by omega]
  dsimp only
  by_cases c3 : i = n + 3
  · rw [c3, va_up_self, if_pos (by omega), show n + 3 - n = 3 by omega, h 3 (by omega)]; rfl
  · rw [va_up_ne _ _ c3]
    by_cases c2 : i = n + 2
    · rw [c2, va_up_self, if_pos (by omega), show n + 2 - n = 2 by omega, h 2 (by omega)]; rfl
    · rw [va_up_ne _ _ c2]
      by_cases c1 : i = n + 1
      · rw [c1, va_up_self, if_pos (by omega), show n + 1 - n = 1 by omega, h 1 (by omega)]; rfl
      · rw [va_up_ne _ _ c1]
        by_cases c0 : i = n
        · rw [c0, va_up_self, if_pos (by omega), show n - n = 0 by omega, h 0 (by omega)]; rfl
        · rw [va_up_ne _ _ c0, if_neg (by omega)]
theorem feed_class (hn : n ≤ 980) : ∃ b', D_X11_feed x0 x1 x2 x3 x4 (nI n) bytes = (nI (n + 20), b', nI (n + 20)) ∧ ∀ i, b' i = if n ≤ i ∧ i < n + 20 then fdV x0 x1 x2 x3 x4 (i - n) else bytes i := by
  have h980 : nI n ≤ 980 := nI_le (b := 980) (by omega) (by omega)
  obtain ⟨a1, a2⟩ := put_i (x0 := x0) (x1 := x1) (x2 := x2) (x3 := x3) (x4 := x4) (bytes := bytes) (n := n) x0 (by omega) (Or.inl rfl) rfl
  obtain ⟨b1, b2⟩ := put_i (x0 := x0) (x1 := x1) (x2 := x2) (x3 := x3) (x4 := x4) (bytes := (D_X11_putBytes x0 (nI n) bytes).1) (n := n + 4) x1 (by omega) (Or.inr (Or.inl rfl)) rfl
  obtain ⟨c1, c2⟩ := put_i (x0 := x0) (x1 := x1) (x2 := x2) (x3 := x3) (x4 := x4) (bytes := (D_X11_putBytes x1 (nI (n + 4)) (D_X11_putBytes x0 (nI n) bytes).1).1) (n := n + 8) x2 (by omega) (Or.inr (Or.inr (Or.inl rfl))) rfl
  obtain ⟨d1, d2⟩ := put_i (x0 := x0) (x1 := x1) (x2 := x2) (x3 := x3) (x4 := x4) (bytes := (D_X11_putBytes x2 (nI (n + 8)) (D_X11_putBytes x1 (nI (n + 4)) (D_X11_putBytes x0 (nI n) bytes).1).1).1) (n := n + 12) x3 (by omega) (Or.inr (Or.inr (Or.inr (Or.inl rfl)))) rfl
  obtain ⟨e1, e2⟩ := put_i (x0 := x0) (x1 := x1) (x2 := x2) (x3 := x3) (x4 := x4) (bytes := (D_X11_putBytes x3 (nI (n + 12)) (D_X11_putBytes x2 (nI (n + 8)) (D_X11_putBytes x1 (nI (n + 4)) (D_X11_putBytes x0 (nI n) bytes).1).1).1).1) (n := n + 16) x4 (by omega) (Or.inr (Or.inr (Or.inr (Or.inr rfl)))) rfl
  unfold D_X11_feed D_X11_feed_a5 D_X11_feed_a4 D_X11_feed_a3 D_X11_feed_a2 D_X11_feed_a1
  rw [if_pos h980, a1, b1, c1, d1, e1]
  refine ⟨_, rfl, fun i => ?_⟩
  rw [e2 i]
  by_cases f5 : n + 16 ≤ i ∧ i < n + 16 + 4
  · rw [if_pos f5, if_pos (by omega), show 16 + (i - (n + 16)) = i - n by omega]
  · rw [if_neg f5, d2 i]
    by_cases f4 : n + 12 ≤ i ∧ i < n + 12 + 4
    · rw [if_pos f4, if_pos (by omega), show 12 + (i - (n + 12)) = i - n by omega]
    · rw [if_neg f4, c2 i]
      by_cases f3 : n + 8 ≤ i ∧ i < n + 8 + 4
      · rw [if_pos f3, if_pos (by omega), show 8 + (i - (n + 8)) = i - n by omega]
      · rw [if_neg f3, b2 i]
        by_cases f2 : n + 4 ≤ i ∧ i < n + 4 + 4
        · rw [if_pos f2, if_pos (by omega), show 4 + (i - (n + 4)) = i - n by omega]
        · rw [if_neg f2, a2 i]
          by_cases f1 : n ≤ i ∧ i < n + 4
          · rw [if_pos f1, if_pos (by omega), show 0 + (i - n) = i - n by omega]
          · rw [if_neg f1, if_neg (by omega)]
theorem act_feed (hn : n ≤ 1000) (hT : TapR bytes tape) : (D_X11_feed x0 x1 x2 x3 x4 (nI n) bytes = ((-1), bytes, nI n) ∧ D_X12_feed x0 x1 x2 x3 x4 (nI n) tape = ((-1), 0, tape, nI n)) ∨ (n ≤ 980 ∧ ∃ b' t', D_X11_feed x0 x1 x2 x3 x4 (nI n) bytes = (nI (n + 20), b', nI (n + 20)) ∧ D_X12_feed x0 x1 x2 x3 x4 (nI n) tape = (nI (n + 20), 0, t', nI (n + 20)) ∧ TapR b' t') := by
  rcases Nat.lt_or_ge 980 n with h | h
  · refine Or.inl ⟨?_, ?_⟩
    · unfold D_X11_feed; rw [if_neg (show ¬ nI n ≤ 980 from nI_ge (a := 980) (by omega) (by omega))]
    · unfold D_X12_feed; rw [show (20 : Int32) = nI 20 from rfl, nI_add, if_neg (show ¬ nI (n + 20) ≤ 1000 from nI_ge (a := 1000) (by omega) (by omega))]
  · refine Or.inr ⟨h, ?_⟩
    obtain ⟨b', e1, e2⟩ := feed_class (x0 := x0) (x1 := x1) (x2 := x2) (x3 := x3) (x4 := x4) (bytes := bytes) h
    obtain ⟨t', e3, e4⟩ := feed_ref (x0 := x0) (x1 := x1) (x2 := x2) (x3 := x3) (x4 := x4) (tape := tape) h 20 (Nat.le_refl 20)
    refine ⟨b', t', e1, ?_, fun i hi => ?_⟩
    · unfold D_X12_feed D_X12_feed_l1
      rw [show (20 : Int32) = nI 20 from rfl, nI_add, if_pos (show nI (n + 20) ≤ 1000 from nI_le (b := 1000) (by omega) (by omega)), e3]
    · rw [e2 i, e4 i]
      by_cases c : n ≤ i ∧ i < n + 20
      · rw [if_pos c, if_pos c]; exact br_byte _
      · rw [if_neg c, if_neg c]; exact hT i hi
end FEED
section SIZE
variable {M : Nat} {holds oneIn fear mutiny tens present braced seed x0 hl a b c : Int32} {kind nerve friendsOf fearTimes weight rr tenOf feared angerOf lotsOf st : Nat → Int32}
variable {men pairs draws amongs acts images taped x1 undos : Int32}
theorem pub_size (hL : LegR M holds oneIn fear mutiny tens kind nerve friendsOf fearTimes weight rr) (hN : NowR M 0 present braced seed tenOf feared angerOf lotsOf st) (hh : hl = 0 ↔ tens = 0) (hm : men = rr 5) (hp : pairs = rr 6) (hd : draws = rr 7) (ha : amongs = rr 8) (hac : acts = undos) (hz : hl = 0 → ∀ i, i < 9 → rr i = 0) (hz9 : hl = 0 → st 29 = 0 ∧ undos = 0 ∧ images = 0) : D_X11_size x0 holds oneIn fear mutiny tens men pairs draws amongs seed acts images taped = (D_X12_size x0 taped hl st undos images rr).1 := by
  unfold D_X11_size D_X12_size
  rw [hL.h0, hL.h1, hL.h2, hL.h3, hL.h4, hm, hp, hd, ha, hac, show seed = st 29 from hN.2.2.1]
  by_cases c12 : x0 = 12
  · subst c12
    rw [if_pos rfl]
    rfl
  rw [if_neg c12, if_neg c12]
  by_cases h0 : hl = 0
  · rw [if_pos h0]
    obtain ⟨z1, z2, z3⟩ := hz9 h0
    have z := hz h0
    rw [z 0 (by omega), z 1 (by omega), z 2 (by omega), z 3 (by omega), z 4 (by omega), z 5 (by omega), z 6 (by omega), z 7 (by omega), z 8 (by omega), z1, z2, z3]
    rcases in_two2 (x1 := x0) (n := 11) with ⟨g1, -⟩ | ⟨g1, -, g3, g4⟩
    · rw [g1, if_pos rfl]
      have hne : ∀ q : Int32, ¬ D_X12_in q 0 11 = 0 → ¬ x0 = q := fun q h e => by rw [e] at g1; exact h g1
      rw [if_neg (hne 0 (by decide)), if_neg (hne 1 (by decide)), if_neg (hne 2 (by decide)), if_neg (hne 3 (by decide)), if_neg (hne 4 (by decide)), if_neg (hne 5 (by decide)), if_neg (hne 6 (by decide)), if_neg (hne 7 (by decide)), if_neg (hne 8 (by decide)), if_neg (hne 9 (by decide)), if_neg (hne 10 (by decide)), if_neg (hne 11 (by decide))]
    · rw [g1, if_neg (show ¬ (1 : Int32) = 0 by decide)]
      obtain ⟨j, j1, j2⟩ := nI_of2 (n := 11) (by decide) g3 g4
      have hj : j = 0 ∨ j = 1 ∨ j = 2 ∨ j = 3 ∨ j = 4 ∨ j = 5 ∨ j = 6 ∨ j = 7 ∨ j = 8 ∨ j = 9 ∨ j = 10 ∨ j = 11 := by omega
      rcases hj with rfl | rfl | rfl | rfl | rfl | rfl | rfl | rfl | rfl | rfl | rfl | rfl <;> (subst j2; rfl)
  · rw [if_neg h0]
    rcases in_two2 (x1 := x0) (n := 8) with ⟨g1, -⟩ | ⟨g1, -, g3, g4⟩
    · rw [g1, if_pos rfl]
      have hne : ∀ q : Int32, ¬ D_X12_in q 0 8 = 0 → ¬ x0 = q := fun q h e => by rw [e] at g1; exact h g1
      rw [if_neg (hne 0 (by decide)), if_neg (hne 1 (by decide)), if_neg (hne 2 (by decide)), if_neg (hne 3 (by decide)), if_neg (hne 4 (by decide)), if_neg (hne 5 (by decide)), if_neg (hne 6 (by decide)), if_neg (hne 7 (by decide)), if_neg (hne 8 (by decide))]
    · rw [g1, if_neg (show ¬ (1 : Int32) = 0 by decide)]
      obtain ⟨j, j1, j2⟩ := nI_of2 (n := 8) (by decide) g3 g4
      have hj : j = 0 ∨ j = 1 ∨ j = 2 ∨ j = 3 ∨ j = 4 ∨ j = 5 ∨ j = 6 ∨ j = 7 ∨ j = 8 := by omega
      rcases hj with rfl | rfl | rfl | rfl | rfl | rfl | rfl | rfl | rfl <;> (subst j2; rfl)
end SIZE
