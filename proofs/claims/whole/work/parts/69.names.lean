/-! THE READER: names, as a number in base 32 and as letters -/
def cn (le : Nat → Int32) : Nat → Nat
  | 0 => 0
  | q + 1 => cn le q * 32 + ((le q).toNatClampNeg - 96)
def cdN (q : Nat) (le : Nat → Int32) : Int64 := lN (cn le q)
theorem let_c {x : Int32} (h : isLet x) : 1 ≤ x.toNatClampNeg - 96 ∧ x.toNatClampNeg - 96 ≤ 26 ∧ x = nI (x.toNatClampNeg - 96 + 96) := by
  obtain ⟨u, a, b, c⟩ := h
  rw [c, nI_clamp (by omega)]
  exact ⟨by omega, by omega, by rw [show u - 96 + 96 = u by omega]⟩
theorem let_l : ∀ u, u < 26 → ((nI (u + 97) - 97 + 1 : Int32)).toInt64 = lN (u + 1) := by decide +kernel
theorem lN_mu (a b : Nat) : lN a * lN b = lN (a * b) := (Int64.ofNat_mul a b).symm
theorem lN_ad (a b : Nat) : lN a + lN b = lN (a + b) := (Int64.ofNat_add a b).symm
theorem lN_tn {n : Nat} (h : n < 2 ^ 64) : (lN n).toBitVec.toNat = n := by
  show (BitVec.ofNat 64 n).toNat = n
  rw [BitVec.toNat_ofNat]; exact Nat.mod_eq_of_lt h
theorem lN_inj {a b : Nat} (ha : a < 2 ^ 64) (hb : b < 2 ^ 64) (h : lN a = lN b) : a = b := by
  have := congrArg (fun x : Int64 => x.toBitVec.toNat) h
  rw [lN_tn ha, lN_tn hb] at this
  exact this
theorem cn_lt {le : Nat → Int32} {q : Nat} (h : ∀ k, k < q → isLet (le k)) : cn le q < 32 ^ q := by
  induction q with
  | zero => exact Nat.one_pos
  | succ q ih =>
    have h1 := ih (fun k hk => h k (by omega))
    have h2 := let_c (h q (by omega))
    show cn le q * 32 + _ < _
    rw [Nat.pow_succ]
    omega
theorem cn_inj {a b : Nat → Int32} {q r : Nat} (ha : ∀ k, k < q → isLet (a k)) (hb : ∀ k, k < r → isLet (b k)) (h : cn a q = cn b r) : q = r ∧ ∀ k, k < q → a k = b k := by
  induction q generalizing r with
  | zero =>
    cases r with
    | zero => exact ⟨rfl, fun k hk => by omega⟩
    | succ r =>
      have h2 := let_c (hb r (by omega))
      have : (0 : Nat) = cn b r * 32 + ((b r).toNatClampNeg - 96) := h
      omega
  | succ q ih =>
    have h1 := let_c (ha q (by omega))
    cases r with
    | zero =>
      have : cn a q * 32 + ((a q).toNatClampNeg - 96) = 0 := h
      omega
    | succ r =>
      have h2 := let_c (hb r (by omega))
      have h3 : cn a q * 32 + ((a q).toNatClampNeg - 96) = cn b r * 32 + ((b r).toNatClampNeg - 96) := h
      obtain ⟨e1, e2⟩ := ih (r := r) (fun k hk => ha k (by omega)) (fun k hk => hb k (by omega)) (by omega)
      refine ⟨by omega, fun k hk => ?_⟩
      by_cases c : k = q
      · rw [c, h1.2.2, show b q = b r by rw [e1], h2.2.2, show (a q).toNatClampNeg - 96 = (b r).toNatClampNeg - 96 by omega]
      · exact e2 k (by omega)
theorem cn_congr {a b : Nat → Int32} {q : Nat} (h : ∀ k, k < q → a k = b k) : cn a q = cn b q := by
  induction q with
  | zero => rfl
  | succ q ih =>
    show cn a q * 32 + _ = cn b q * 32 + _
    rw [ih (fun k hk => h k (by omega)), h q (by omega)]
theorem code_iff {a b : Nat → Int32} {q r : Nat} (hq : q ≤ 8) (hr : r ≤ 8) (ha : ∀ k, k < q → isLet (a k)) (hb : ∀ k, k < r → isLet (b k)) : cdN q a = cdN r b ↔ (q = r ∧ ∀ k, k < q → a k = b k) := by
  constructor
  · intro h
    have l1 := cn_lt ha
    have l2 := cn_lt hb
    have m : (32 : Nat) ^ 8 < 2 ^ 64 := by decide
    have m1 : (32 : Nat) ^ q ≤ 32 ^ 8 := Nat.pow_le_pow_right (by decide) hq
    have m2 : (32 : Nat) ^ r ≤ 32 ^ 8 := Nat.pow_le_pow_right (by decide) hr
    exact cn_inj ha hb (lN_inj (by omega) (by omega) h)
  · rintro ⟨e1, e2⟩
    unfold cdN
    rw [cn_congr e2, e1]
section NAMES
variable {N p q : Nat} {bytes tape le fresh : Nat → Int32} {so ns wh tk en at_ ft plc : Int32}
theorem letters_code (hN : N ≤ 1000) (hq : p + q ≤ N) (hl : ∀ i, i < q → bytes (p + i) = le i ∧ isLet (le i)) : D_X10_letters (nI q) (nI p) (nI N) bytes = cdN q le ∧ G_X10_letters (nI q) (nI p) (nI N) bytes := by
  have c1 : ∀ i, i < q → st_X10_letters_4 (nI p) (nI N) bytes i (cdN i le) = .inl (cdN (i + 1) le) := fun i hi => by
    unfold st_X10_letters_4
    obtain ⟨a1, a2, a3⟩ := let_c (hl i hi).2
    rw [nI_add, if_neg (nI_ge (by omega) (by omega)), nI_clamp (by omega), (hl i hi).1]
    show Sum.inl _ = Sum.inl (lN (cn le i * 32 + ((le i).toNatClampNeg - 96)))
    generalize (le i).toNatClampNeg - 96 = u at a1 a2 a3 ⊢
    have a4 : le i = nI ((u - 1) + 97) := by rw [a3]; congr 1; omega
    rw [a4, let_l (u - 1) (by omega), show u - 1 + 1 = u by omega]
    unfold cdN
    rw [show (32 : Int64) = lN 32 from rfl, lN_mu, lN_ad]
  have e := fe_run (S := fun i => cdN i le) c1
  refine ⟨?_, fun k s hk h => ?_⟩
  · unfold D_X10_letters D_X10_letters_m1 D_X10_letters_l1
    rw [be_nI (by omega)]
    have e' : am_fe (st_X10_letters_4 (nI p) (nI N) bytes) q 0 = .inl (cdN q le) := e q (Nat.le_refl q)
    rw [am_sel_l e']
  · rw [be_nI (by omega)] at hk
    exact ⟨fun _ => nI_pos (by omega), fun _ => by rw [nI_clamp (by omega)]; omega⟩
theorem lg0 (a b : Int64) : lg_cmp a b = 0 ↔ a = b := by
  unfold lg_cmp
  constructor
  · intro h
    by_cases c : a > b
    · rw [if_pos c] at h; exact absurd h (by decide)
    · rw [if_neg c] at h
      by_cases d : a = b
      · exact d
      · rw [if_neg d] at h; exact absurd h (by decide)
  · intro h
    rw [h, if_neg (fun c => by have := Int64.lt_iff_toInt_lt.mp c; omega), if_pos rfl]
theorem indexOf_v {c n0 : Nat} {x : Int64} {row : Nat → Int64} (hc : c ≤ n0) (h8 : n0 ≤ 8) : ((∃ i, i < c ∧ row i = x ∧ (∀ j, j < i → row j ≠ x) ∧ D_X8_indexOf (nI c) x row n0 = nI i) ∨ ((∀ j, j < c → row j ≠ x) ∧ D_X8_indexOf (nI c) x row n0 = -1)) ∧ G_X8_indexOf (nI c) x row n0 := by
  obtain ⟨j, j1, j2, j3⟩ := scan_ex (P := fun i => i < c ∧ row i ≠ x) c (fun h => by omega)
  have c1 : ∀ i, i < j → st_X8_indexOf_3 (nI c) x row n0 i (nI i) = .inl (nI (i + 1)) := fun i hi => by
    obtain ⟨a, b⟩ := j2 i hi
    unfold st_X8_indexOf_3
    rw [if_neg (nI_ge a (by omega)), if_neg (nI_ge (by omega) (by omega)), nI_clamp (by omega), if_neg (fun h => b ((lg0 _ _).mp h)), nI_1]
  have gd : ∀ (k : Nat) (s : Int32), k ≤ j → s = nI k → G_st_X8_indexOf_3 (nI c) n0 k s := fun k s hk hs => by
    rw [hs]
    exact ⟨fun _ _ => nI_pos (by omega), fun d _ => by
      rw [nI_clamp (by omega)]
      apply Classical.byContradiction; intro d2; exact d (nI_le (by omega) (by omega))⟩
  by_cases e : j < c
  · have hx : row j = x := Classical.byContradiction fun h => j3 ⟨e, h⟩
    have c2 : st_X8_indexOf_3 (nI c) x row n0 j (nI j) = .inr (.inl (nI j)) := by
      unfold st_X8_indexOf_3
      rw [if_neg (nI_ge e (by omega)), if_neg (nI_ge (by omega) (by omega)), nI_clamp (by omega), if_pos ((lg0 _ _).mpr hx)]
    have e1 : am_fe (st_X8_indexOf_3 (nI c) x row n0) 9 0 = .inr (.inl (nI j)) := fe_stop (S := fun i => nI i) c1 c2 9 (by omega)
    refine ⟨Or.inl ⟨j, e, hx, fun i hi => (j2 i hi).2, ?_⟩, fun k s hk h => ?_, ?_⟩
    · unfold D_X8_indexOf D_X8_indexOf_l1; rw [e1]; rfl
    · obtain ⟨a, b⟩ := fe_at (S := fun i => nI i) c1 c2 h
      exact gd k s a b
    · unfold D_X8_indexOf_l1; rw [e1]; rfl
  · have c2 : st_X8_indexOf_3 (nI c) x row n0 j (nI j) = .inr (.inr ()) := by
      unfold st_X8_indexOf_3
      rw [if_pos (nI_le (by omega) (by omega))]
    have e1 : am_fe (st_X8_indexOf_3 (nI c) x row n0) 9 0 = .inr (.inr ()) := fe_stop (S := fun i => nI i) c1 c2 9 (by omega)
    refine ⟨Or.inr ⟨fun i hi => (j2 i (by omega)).2, ?_⟩, fun k s hk h => ?_, ?_⟩
    · unfold D_X8_indexOf D_X8_indexOf_l1; rw [e1]; rfl
    · obtain ⟨a, b⟩ := fe_at (S := fun i => nI i) c1 c2 h
      exact gd k s a b
    · unfold D_X8_indexOf_l1; rw [e1]; rfl
def NmS (fresh : Nat → Int32) (n : Nat) (x : Int64) : Prop := ∃ s, 1 ≤ s ∧ s ≤ 8 ∧ fresh (73 + n) = nI s ∧ (∀ k, k < s → isLet (fresh (84 + 8 * n + k))) ∧ x = cdN s (fun k => fresh (84 + 8 * n + k))
theorem find_0 {n : Nat} (h : fresh (73 + n) = 0) : D_X12_find_m1 fresh ns le n = 0 := by
  unfold D_X12_find_m1 D_X12_find_l1
  rw [h, if_pos (by decide)]
  have : ∀ k, am_fe (st_X12_find_44 fresh le n) k 0 = .inl 0 ∨ am_fe (st_X12_find_44 fresh le n) k 0 = .inr 0 := by
    intro k
    induction k with
    | zero => exact Or.inl rfl
    | succ k ih =>
      rw [am_fe_s]
      rcases ih with i | i
      · rw [am_sel_l i]; unfold st_X12_find_44; rw [if_pos rfl]; exact Or.inr rfl
      · rw [am_sel_r i]; exact Or.inr rfl
  rcases this (am_be ns 0) with i | i
  · rw [am_sel_l i]
  · rw [am_sel_r i]
theorem find_s {n : Nat} {x : Int64} (h : NmS fresh n x) (hq1 : 1 ≤ q) (hq : q ≤ 8) (hl : ∀ k, k < q → isLet (le k)) : D_X12_find_m1 fresh (nI q) le n = if x = cdN q le then 1 else 0 := by
  obtain ⟨s, s1, s2, s3, s4, s5⟩ := h
  unfold D_X12_find_m1 D_X12_find_l1
  rw [s3, if_neg (nI_nle (by omega) (by omega)), be_nI (by omega), s5]
  have inv : ∀ k, k ≤ q → s = q → (am_fe (st_X12_find_44 fresh le n) k 1 = .inl 1 ∧ ∀ i, i < k → fresh (84 + 8 * n + i) = le i) ∨ ((am_fe (st_X12_find_44 fresh le n) k 1 = .inl 0 ∨ am_fe (st_X12_find_44 fresh le n) k 1 = .inr 0) ∧ ∃ i, i < k ∧ fresh (84 + 8 * n + i) ≠ le i) := by
    intro k
    induction k with
    | zero => intro _ _; exact Or.inl ⟨rfl, fun i hi => by omega⟩
    | succ k ih =>
      intro hk hs
      rw [am_fe_s]
      rcases ih (by omega) hs with ⟨i1, i2⟩ | ⟨i1 | i1, i, i2, i3⟩
      · rw [am_sel_l i1]; unfold st_X12_find_44; rw [if_neg (by decide)]
        by_cases c : fresh (84 + 8 * n + k) = le k
        · rw [if_pos c]
          refine Or.inl ⟨rfl, fun i hi => ?_⟩
          by_cases e : i = k
          · rw [e, c]
          · exact i2 i (by omega)
        · rw [if_neg c]
          exact Or.inr ⟨Or.inl rfl, k, by omega, c⟩
      · rw [am_sel_l i1]; unfold st_X12_find_44; rw [if_pos rfl]
        exact Or.inr ⟨Or.inr rfl, i, by omega, i3⟩
      · rw [am_sel_r i1]; exact Or.inr ⟨Or.inr rfl, i, by omega, i3⟩
  by_cases c : s = q
  · rw [if_pos (by rw [c])]
    rcases inv q (Nat.le_refl q) c with ⟨i1, i2⟩ | ⟨i1, i, i2, i3⟩
    · rw [am_sel_l i1, if_pos ((code_iff s2 hq s4 hl).mpr ⟨c, fun k hk => i2 k (by omega)⟩)]
    · rw [if_neg (fun h => i3 (((code_iff s2 hq s4 hl).mp h).2 i (by omega)))]
      rcases i1 with i1 | i1
      · rw [am_sel_l i1]
      · rw [am_sel_r i1]
  · rw [if_neg (fun h => c ((nI_eq (by omega) (by omega)).mp h)), if_neg (fun h => c ((code_iff s2 hq s4 hl).mp h).1)]
    have : ∀ k, am_fe (st_X12_find_44 fresh le n) k 0 = .inl 0 ∨ am_fe (st_X12_find_44 fresh le n) k 0 = .inr 0 := by
      intro k
      induction k with
      | zero => exact Or.inl rfl
      | succ k ih =>
        rw [am_fe_s]
        rcases ih with i | i
        · rw [am_sel_l i]; unfold st_X12_find_44; rw [if_pos rfl]; exact Or.inr rfl
        · rw [am_sel_r i]; exact Or.inr rfl
    rcases this q with i | i
    · rw [am_sel_l i]
    · rw [am_sel_r i]
theorem G_find (hq : q ≤ 8) : G_X12_find fresh (nI q) le := fun k s hk _ k2 s2 hk2 _ => by
  rw [be_nI (by omega)] at hk2
  exact ⟨fun _ => by omega, fun _ => by omega⟩
theorem find_hit {j : Nat} (hj : j < 11) (h1 : ∀ n, n < j → D_X12_find_m1 fresh ns le n = 0) (h2 : ¬ D_X12_find_m1 fresh ns le j = 0) : D_X12_find fresh ns le = nI j := by
  have e : am_fe (st_X12_find_2 fresh ns le) 11 () = .inr (nI j) := fe_stop (S := fun _ => ()) (fun i hi => by unfold st_X12_find_2; rw [if_pos (h1 i hi)]) (by unfold st_X12_find_2; rw [if_neg h2]) 11 hj
  unfold D_X12_find D_X12_find_l2; rw [am_sel_r e]
theorem find_mis (h1 : ∀ n, n < 11 → D_X12_find_m1 fresh ns le n = 0) : D_X12_find fresh ns le = -1 := by
  have e : am_fe (st_X12_find_2 fresh ns le) 11 () = .inl () := fe_run (j := 11) (S := fun _ => ()) (fun i hi => by unfold st_X12_find_2; rw [if_pos (h1 i hi)]) 11 (Nat.le_refl _)
  unfold D_X12_find D_X12_find_l2; rw [am_sel_l e]
def NamR (T M : Nat) (tn mn : Nat → Int64) (fresh : Nat → Int32) : Prop := T ≤ 3 ∧ M ≤ 8 ∧ (∀ t, t < T → NmS fresh t (tn t)) ∧ (∀ t, T ≤ t → t < 3 → fresh (73 + t) = 0) ∧ (∀ m, m < M → NmS fresh (3 + m) (mn m)) ∧ (∀ m, M ≤ m → m < 8 → fresh (73 + (3 + m)) = 0) ∧ (∀ t m, t < T → m < M → tn t ≠ mn m)
theorem find_idx {T M : Nat} {tn mn : Nat → Int64} (hR : NamR T M tn mn fresh) (hq1 : 1 ≤ q) (hq : q ≤ 8) (hl : ∀ k, k < q → isLet (le k)) : (∃ t, t < T ∧ D_X8_indexOf (nI T) (cdN q le) tn 3 = nI t ∧ D_X8_indexOf (nI M) (cdN q le) mn 8 = -1 ∧ D_X12_find fresh (nI q) le = nI t) ∨ (∃ m, m < M ∧ D_X8_indexOf (nI T) (cdN q le) tn 3 = -1 ∧ D_X8_indexOf (nI M) (cdN q le) mn 8 = nI m ∧ D_X12_find fresh (nI q) le = nI (3 + m)) ∨ ((∀ t, t < T → tn t ≠ cdN q le) ∧ (∀ m, m < M → mn m ≠ cdN q le) ∧ D_X8_indexOf (nI T) (cdN q le) tn 3 = -1 ∧ D_X8_indexOf (nI M) (cdN q le) mn 8 = -1 ∧ D_X12_find fresh (nI q) le = -1) := by
  obtain ⟨r1, r2, r3, r4, r5, r6, r7⟩ := hR
  have m0 : ∀ n x, NmS fresh n x → x ≠ cdN q le → D_X12_find_m1 fresh (nI q) le n = 0 := fun n x h c => by rw [find_s h hq1 hq hl, if_neg c]
  rcases (indexOf_v (x := cdN q le) (row := tn) r1 (by decide)).1 with ⟨t, t1, t2, t3, t4⟩ | ⟨t3, t4⟩
  · refine Or.inl ⟨t, t1, t4, ?_, ?_⟩
    · rcases (indexOf_v (x := cdN q le) (row := mn) r2 (by decide)).1 with ⟨m, m1, m2, m3, m4⟩ | ⟨m3, m4⟩
      · exact absurd (by rw [t2, m2]) (r7 t m t1 m1)
      · exact m4
    · refine find_hit (by omega) (fun n hn => m0 n _ (r3 n (by omega)) (t3 n hn)) ?_
      rw [find_s (r3 t t1) hq1 hq hl, if_pos t2]; decide
  · have mt : ∀ n, n < 3 → D_X12_find_m1 fresh (nI q) le n = 0 := fun n hn => by
      by_cases c : n < T
      · exact m0 n _ (r3 n c) (t3 n c)
      · exact find_0 (r4 n (by omega) hn)
    rcases (indexOf_v (x := cdN q le) (row := mn) r2 (by decide)).1 with ⟨m, m1, m2, m3, m4⟩ | ⟨m3, m4⟩
    · refine Or.inr (Or.inl ⟨m, m1, t4, m4, find_hit (by omega) (fun n hn => ?_) ?_⟩)
      · by_cases c : n < 3
        · exact mt n c
        · have := m0 (3 + (n - 3)) _ (r5 (n - 3) (by omega)) (m3 (n - 3) (by omega))
          rw [show 3 + (n - 3) = n by omega] at this; exact this
      · rw [find_s (r5 m m1) hq1 hq hl, if_pos m2]; decide
    · refine Or.inr (Or.inr ⟨t3, m3, t4, m4, find_mis fun n hn => ?_⟩)
      by_cases c : n < 3
      · exact mt n c
      · have e : n = 3 + (n - 3) := by omega
        by_cases d : n - 3 < M
        · have := m0 (3 + (n - 3)) _ (r5 (n - 3) d) (m3 (n - 3) d)
          rw [← e] at this; exact this
        · rw [e]; exact find_0 (r6 (n - 3) (by omega) (by omega))
end NAMES
