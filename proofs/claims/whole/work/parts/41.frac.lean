/-! FRACTIONS: Euclid's steps over longs -/
theorem lT {n : Nat} (h : n < 2 ^ 63) : (lN n).toInt = (n : Int) := lg_ofNat_toInt h
theorem l_bm {n : Nat} (h : n < 2 ^ 63) : ((n : Int)).bmod (2 ^ 64) = (n : Int) := Int.bmod_eq_of_le (by omega) (by omega)
theorem l_div {a b : Nat} (ha : a < 2 ^ 63) (hb : b < 2 ^ 63) : lN a / lN b = lN (a / b) := by
  have h1 : a / b < 2 ^ 63 := Nat.lt_of_le_of_lt (Nat.div_le_self a b) ha
  refine Int64.toInt_inj.mp ?_
  rw [Int64.toInt_div, lT ha, lT hb, lT h1, ← Int.ofNat_tdiv, l_bm h1]
theorem l_rem {a b : Nat} (ha : a < 2 ^ 63) (hb : b < 2 ^ 63) : jrml (lN a) (lN b) = lN (a % b) := by
  unfold jrml
  rw [l_div ha hb, lN_mul, lN_sub (Nat.div_mul_le_self a b), ← Nat.mod_eq_sub_div_mul]
theorem l_0 {a : Nat} (ha : a < 2 ^ 63) : lN a = 0 ↔ a = 0 := by
  constructor
  · intro h
    have := congrArg Int64.toInt h
    rw [lT ha, show (0 : Int64).toInt = 0 by decide] at this
    omega
  · intro h; rw [h]; rfl
theorem l_c0 {a : Nat} (ha : a < 2 ^ 63) : lg_cmp (lN a) 0 = 0 ↔ a = 0 := by rw [lg_cmp_eq, l_0 ha]
theorem am_fe_front {σ ρ : Type} {f : Nat → σ → σ ⊕ ρ} {g : σ → σ ⊕ ρ} (hf : ∀ k s, f k s = g s) (n : Nat) (s : σ) : am_fe f (n + 1) s = am_sel (g s) (am_fe f n) Sum.inr := by
  induction n with
  | zero =>
    rw [am_fe_s]
    show am_sel (.inl s) (f 0) Sum.inr = am_sel (g s) (fun t => .inl t) Sum.inr
    rw [show am_sel (.inl s : σ ⊕ ρ) (f 0) Sum.inr = f 0 s from rfl, hf]
    cases g s <;> rfl
  | succ n ih =>
    rw [am_fe_s, ih]
    cases h : g s with
    | inl t =>
      show am_sel (am_fe f n t) (f (n + 1)) Sum.inr = am_fe f (n + 1) t
      rw [am_fe_s]
      rw [show f (n + 1) = f n from funext fun s => by rw [hf, hf]]
    | inr r => rfl
def eu_g (s : Int64 × Int64) : (Int64 × Int64) ⊕ Int64 := if lg_cmp s.2 0 = 0 then .inr s.1 else .inl (s.2, jrml s.1 s.2)
theorem eu_run : ∀ (j n x y : Nat), x < 2 ^ 63 → y < 2 ^ 63 → y < 2 ^ j → 2 * j + 1 ≤ n → am_fe (fun _ => eu_g) n (lN x, lN y) = .inr (lN (Nat.gcd x y)) := by
  intro j
  induction j with
  | zero =>
    intro n x y hx hy hj hn
    obtain ⟨n, rfl⟩ : ∃ m, n = m + 1 := ⟨n - 1, by omega⟩
    rw [am_fe_front (g := eu_g) (fun _ _ => rfl)]
    have : y = 0 := by rw [Nat.pow_zero] at hj; omega
    rw [this, Nat.gcd_zero_right]
    rfl
  | succ j ih =>
    intro n x y hx hy hj hn
    obtain ⟨n, rfl⟩ : ∃ m, n = m + 2 := ⟨n - 2, by omega⟩
    rw [am_fe_front (g := eu_g) (fun _ _ => rfl)]
    by_cases h0 : y = 0
    · rw [h0, Nat.gcd_zero_right]; rfl
    · have e1 : eu_g (lN x, lN y) = .inl (lN y, lN (x % y)) := by
        unfold eu_g
        rw [if_neg (fun h => h0 ((l_c0 hy).mp h)), l_rem hx hy]
      rw [am_sel_l e1, am_fe_front (g := eu_g) (fun _ _ => rfl)]
      have hr : x % y < y := Nat.mod_lt x (by omega)
      by_cases h1 : x % y = 0
      · have e2 : eu_g (lN y, lN (x % y)) = .inr (lN y) := by unfold eu_g; rw [if_pos ((l_c0 (by omega)).mpr h1)]
        rw [am_sel_r e2, Nat.gcd_comm, Nat.gcd_rec, h1, Nat.gcd_zero_left]
      · have e2 : eu_g (lN y, lN (x % y)) = .inl (lN (x % y), lN (y % (x % y))) := by
          unfold eu_g
          rw [if_neg (fun h => h1 ((l_c0 (by omega)).mp h)), l_rem hy (by omega)]
        have hr2 : y % (x % y) < x % y := Nat.mod_lt y (by omega)
        have hr3 : y % (x % y) + x % y ≤ y := by
          have h1 := Nat.div_add_mod y (x % y)
          have h2 : 1 ≤ y / (x % y) := (Nat.one_le_div_iff (by omega)).mpr (by omega)
          have h3 : x % y * 1 ≤ x % y * (y / (x % y)) := Nat.mul_le_mul_left _ h2
          omega
        have hj2 : 2 ^ (j + 1) = 2 * 2 ^ j := by rw [Nat.pow_succ, Nat.mul_comm]
        rw [am_sel_l e2, ih n (x % y) (y % (x % y)) (by omega) (by omega) (by omega) (by omega)]
        rw [show Nat.gcd x y = Nat.gcd (x % y) y by rw [Nat.gcd_comm, Nat.gcd_rec], show Nat.gcd (x % y) y = Nat.gcd (y % (x % y)) (x % y) from Nat.gcd_rec _ _, Nat.gcd_comm]
theorem eu_200 {x y : Nat} (hx : x < 2 ^ 63) (hy : y < 2 ^ 63) : am_fe (fun _ => eu_g) 200 (lN x, lN y) = .inr (lN (Nat.gcd x y)) := eu_run 63 200 x y hx hy hy (by decide)
theorem common_gcd {x y : Nat} (hx : x < 2 ^ 63) (hy : y < 2 ^ 63) (h0 : 0 < x ∨ 0 < y) : D_X7_common (lN x) (lN y) = lN (Nat.gcd x y) := by
  have hg : 0 < Nat.gcd x y := Nat.gcd_pos_iff.mpr h0
  have hl : Nat.gcd x y < 2 ^ 63 := by
    rcases h0 with h | h
    · exact Nat.lt_of_le_of_lt (Nat.gcd_le_left y h) hx
    · exact Nat.lt_of_le_of_lt (Nat.gcd_le_right x h) hy
  have e : D_X7_common_m1 (lN x) (lN y) = lN (Nat.gcd x y) := by
    unfold D_X7_common_m1 D_X7_common_l1
    rw [show st_X7_common_9 = (fun _ => eu_g) from rfl, eu_200 hx hy]
    rfl
  unfold D_X7_common
  rw [e, if_pos]
  rw [lg_cmp_ge, Int64.le_iff_toInt_le, lT hl, show (1 : Int64).toInt = 1 by decide]
  omega
theorem lowest_gcd {x y : Nat} (hx : x < 2 ^ 63) (hy : y < 2 ^ 63) (b : Int32) : D_X12_lowest (lN x) (lN y) b = (if b = 0 then lN x else lN y) / lN (Nat.gcd y x) := by
  have e : D_X12_lowest_m1 (lN x) (lN y) = lN (Nat.gcd y x) := by
    unfold D_X12_lowest_m1 D_X12_lowest_l1
    rw [show st_X12_lowest_6 = (fun _ => eu_g) from rfl, eu_200 hy hx]
    rfl
  unfold D_X12_lowest
  rw [e]
/-- a fraction in lowest terms -/
def fr (u d : Nat) : Int64 × Int64 := if u = 0 then (0, 1) else (lN (u / Nat.gcd u d), lN (d / Nat.gcd u d))
theorem put_fr {u d : Nat} (hu : u < 2 ^ 63) (hd : d < 2 ^ 63) (h0 : 0 < d) : D_X7_put (lN u) (lN d) = fr u d := by
  unfold D_X7_put fr
  by_cases h : u = 0
  · rw [if_pos h, if_pos]
    rw [lg_cmp_le, h]; decide
  · rw [if_neg h, if_neg, if_pos, common_gcd hu hd (Or.inr h0)]
    · have hl : Nat.gcd u d < 2 ^ 63 := Nat.lt_of_le_of_lt (Nat.gcd_le_right u h0) hd
      rw [l_div hu hl, l_div hd hl]
    · rw [lg_cmp_gt, Int64.lt_iff_toInt_lt, lT hd, show (0 : Int64).toInt = 0 by decide]; omega
    · rw [lg_cmp_le, Int64.le_iff_toInt_le, lT hu, show (0 : Int64).toInt = 0 by decide]; omega
theorem lowest_fr {u d : Nat} (hu : u < 2 ^ 63) (hd : d < 2 ^ 63) (h0 : 0 < d) (b : Int32) : D_X12_lowest (lN u) (lN d) b = D_X7_part b (fr u d).1 (fr u d).2 := by
  have hl : Nat.gcd d u < 2 ^ 63 := Nat.lt_of_le_of_lt (Nat.gcd_le_left u h0) hd
  rw [lowest_gcd hu hd]
  unfold D_X7_part fr
  by_cases h : u = 0
  · rw [if_pos h, h, Nat.gcd_zero_right]
    by_cases hb : b = 0
    · rw [if_pos hb, if_pos hb, l_div (by omega) hd, Nat.zero_div]; rfl
    · rw [if_neg hb, if_neg hb, l_div hd hd, Nat.div_self h0]; rfl
  · rw [if_neg h, Nat.gcd_comm d u]
    rw [Nat.gcd_comm] at hl
    by_cases hb : b = 0
    · rw [if_pos hb, if_pos hb, l_div hu hl]
    · rw [if_neg hb, if_neg hb, l_div hd hl]
theorem fr_scale {u d c : Nat} (hc : 0 < c) : fr (u * c) (d * c) = fr u d := by
  unfold fr
  by_cases h : u = 0
  · rw [if_pos h, h, Nat.zero_mul, if_pos rfl]
  · have : ¬ u * c = 0 := fun h1 => (Nat.mul_eq_zero.mp h1).elim h (by omega)
    rw [if_neg h, if_neg this, Nat.gcd_mul_right, Nat.mul_div_mul_right _ _ hc, Nat.mul_div_mul_right _ _ hc]
theorem G_eu {x y : Int64} : G_X7_common x y := fun k s _ _ h => fun g => h (by rw [g]; decide)
theorem G_put_n {u d : Nat} (hu : u < 2 ^ 63) (hd : d < 2 ^ 63) : G_X7_put (lN u) (lN d) := by
  refine ⟨fun _ _ => G_eu, fun h1 h2 => ?_⟩
  have h0 : 0 < d := by
    rw [lg_cmp_gt, Int64.lt_iff_toInt_lt, lT hd, show (0 : Int64).toInt = 0 by decide] at h2; omega
  have hl : Nat.gcd u d < 2 ^ 63 := Nat.lt_of_le_of_lt (Nat.gcd_le_right u h0) hd
  rw [common_gcd hu hd (Or.inr h0), l_0 hl]
  exact Nat.ne_of_gt (Nat.gcd_pos_of_pos_right u h0)
theorem G_lowest_n {u d : Nat} (hu : u < 2 ^ 63) (hd : d < 2 ^ 63) (h0 : 0 < d) : G_X12_lowest (lN u) (lN d) := by
  have hl : Nat.gcd d u < 2 ^ 63 := Nat.lt_of_le_of_lt (Nat.gcd_le_left u h0) hd
  have e : D_X12_lowest_l1 (lN u) (lN d) = .inr (lN (Nat.gcd d u)) := by
    unfold D_X12_lowest_l1
    rw [show st_X12_lowest_6 = (fun _ => eu_g) from rfl, eu_200 hd hu]
  refine ⟨fun k s _ _ h => fun g => h (by rw [g]; decide), by rw [e]; rfl, ?_⟩
  unfold D_X12_lowest_m1
  rw [e]
  show ¬ lN (Nat.gcd d u) = 0
  rw [l_0 hl]
  exact Nat.ne_of_gt (Nat.gcd_pos_of_pos_left u h0)
