/-! THE HELMET: likelihoods, raw beside lowest terms -/
def ff (x : Nat) : Nat → Nat
  | 0 => 1
  | i + 1 => ff x i * (x - i)
def rd (u d : Nat) : Nat := d / Nat.gcd u d
theorem rd_bound : ∀ B, B < 13 → ∀ K, K < B + 1 → ∀ k, k < 8 → ∀ w, w < 8 - k → 100 * rd (ff K k * ff (B - K) w) (ff B (k + w)) ≤ 43000000 ∧ 100 * rd (ff K k * ff (B - K) w) (ff B (k + w)) * rd (ff (K - 1) k * ff (B - K) w) (ff (B - 1) (k + w)) ≤ 43000000 ∧ 100 * rd (ff K k * ff (B - K) w) (ff B (k + w)) * rd (ff (K - 1) (k - 1) * ff (B - K) w) (ff (B - 1) (k + w - 1)) ≤ 43000000 := by decide +kernel
theorem fr_N {u d : Nat} (hd : 0 < d) : fr u d = (lN (u / Nat.gcd u d), lN (d / Nat.gcd u d)) := by
  unfold fr
  by_cases h : u = 0
  · rw [if_pos h, h, Nat.gcd_zero_left, Nat.zero_div, Nat.div_self hd]; rfl
  · rw [if_neg h]
theorem fr_pos {u d : Nat} (hd : 0 < d) : 0 < d / Nat.gcd u d := Nat.div_pos (Nat.le_of_dvd hd (Nat.gcd_dvd_right u d)) (Nat.gcd_pos_of_pos_right u hd)
theorem times_fr {u d a b : Nat} (hd : 0 < d) (hb : 0 < b) (h1 : u * a < 2 ^ 63) (h2 : d * b < 2 ^ 63) : D_X7_times (lN a) (lN b) (fr u d).1 (fr u d).2 = fr (u * a) (d * b) := by
  have hg : 0 < Nat.gcd u d := Nat.gcd_pos_of_pos_right u hd
  have e1 : u / Nat.gcd u d * Nat.gcd u d = u := Nat.div_mul_cancel (Nat.gcd_dvd_left u d)
  have e2 : d / Nat.gcd u d * Nat.gcd u d = d := Nat.div_mul_cancel (Nat.gcd_dvd_right u d)
  have l1 : u / Nat.gcd u d * a < 2 ^ 63 := Nat.lt_of_le_of_lt (Nat.mul_le_mul_right a (Nat.div_le_self u _)) h1
  have l2 : d / Nat.gcd u d * b < 2 ^ 63 := Nat.lt_of_le_of_lt (Nat.mul_le_mul_right b (Nat.div_le_self d _)) h2
  rw [fr_N hd]
  unfold D_X7_times D_X7_times_a1
  dsimp only
  rw [lN_mul, lN_mul, put_fr l1 l2 (Nat.mul_pos (fr_pos hd) hb), ← fr_scale hg (u := u / Nat.gcd u d * a), Nat.mul_right_comm, e1, Nat.mul_right_comm, e2]
theorem times_0 {x y u l : Int64} (h : u * x = 0) : D_X7_times x y u l = (0, 1) := by
  unfold D_X7_times D_X7_times_a1 D_X7_put
  rw [h, if_pos (by decide)]
theorem fr_0 (d : Nat) : fr 0 d = (0, 1) := if_pos rfl
theorem lN_0 : lN 0 = 0 := rfl
theorem ff_le {x : Nat} (hx : x ≤ 12) (i : Nat) : ff x i ≤ 12 ^ i := by
  induction i with
  | zero => exact Nat.le_refl _
  | succ i ih => exact Nat.mul_le_mul ih (Nat.le_trans (Nat.sub_le x i) hx)
theorem ff_pos {x i : Nat} (h : i ≤ x) : 0 < ff x i := by
  induction i with
  | zero => exact Nat.one_pos
  | succ i ih => exact Nat.mul_pos (ih (by omega)) (by omega)
/-- how the draws weigh, as whole numbers -/
def HB (B K k w : Nat) (as : Bool) (hU hD sU sD : Nat) : Prop := (B ≤ 12) ∧ (K ≤ B) ∧ (1 ≤ K) ∧ (k ≤ K) ∧ (w ≤ B - K) ∧ (k + w ≤ 6) ∧ (hU = ff K k * ff (B - K) w) ∧ (hD = ff B (k + w)) ∧ (0 < sD) ∧ (sD ≤ 12 ^ (k + w)) ∧ (sU = 0 ∨ (as = true ∧ k < K ∧ sU = ff (K - 1) k * ff (B - K) w ∧ sD = ff (B - 1) (k + w)) ∨ (as = false ∧ 1 ≤ k ∧ sU = ff (K - 1) (k - 1) * ff (B - K) w ∧ sD = ff (B - 1) (k + w - 1)))
theorem HB.b12 {B K k w : Nat} {as : Bool} {hU hD sU sD : Nat} (h : HB B K k w as hU hD sU sD) : B ≤ 12 := h.1
theorem HB.kB {B K k w : Nat} {as : Bool} {hU hD sU sD : Nat} (h : HB B K k w as hU hD sU sD) : K ≤ B := h.2.1
theorem HB.k1 {B K k w : Nat} {as : Bool} {hU hD sU sD : Nat} (h : HB B K k w as hU hD sU sD) : 1 ≤ K := h.2.2.1
theorem HB.kK {B K k w : Nat} {as : Bool} {hU hD sU sD : Nat} (h : HB B K k w as hU hD sU sD) : k ≤ K := h.2.2.2.1
theorem HB.wW {B K k w : Nat} {as : Bool} {hU hD sU sD : Nat} (h : HB B K k w as hU hD sU sD) : w ≤ B - K := h.2.2.2.2.1
theorem HB.n6 {B K k w : Nat} {as : Bool} {hU hD sU sD : Nat} (h : HB B K k w as hU hD sU sD) : k + w ≤ 6 := h.2.2.2.2.2.1
theorem HB.eU {B K k w : Nat} {as : Bool} {hU hD sU sD : Nat} (h : HB B K k w as hU hD sU sD) : hU = ff K k * ff (B - K) w := h.2.2.2.2.2.2.1
theorem HB.eD {B K k w : Nat} {as : Bool} {hU hD sU sD : Nat} (h : HB B K k w as hU hD sU sD) : hD = ff B (k + w) := h.2.2.2.2.2.2.2.1
theorem HB.sP {B K k w : Nat} {as : Bool} {hU hD sU sD : Nat} (h : HB B K k w as hU hD sU sD) : 0 < sD := h.2.2.2.2.2.2.2.2.1
theorem HB.sL {B K k w : Nat} {as : Bool} {hU hD sU sD : Nat} (h : HB B K k w as hU hD sU sD) : sD ≤ 12 ^ (k + w) := h.2.2.2.2.2.2.2.2.2.1
theorem HB.sh {B K k w : Nat} {as : Bool} {hU hD sU sD : Nat} (h : HB B K k w as hU hD sU sD) : sU = 0 ∨ (as = true ∧ k < K ∧ sU = ff (K - 1) k * ff (B - K) w ∧ sD = ff (B - 1) (k + w)) ∨ (as = false ∧ 1 ≤ k ∧ sU = ff (K - 1) (k - 1) * ff (B - K) w ∧ sD = ff (B - 1) (k + w - 1)) := h.2.2.2.2.2.2.2.2.2.2
def aN (as : Bool) : Nat := if as then 1 else 0
theorem HB.hDp {B K k w hU hD sU sD : Nat} {as : Bool} (h : HB B K k w as hU hD sU sD) : 0 < hD := by
  rw [h.eD]; exact ff_pos (by have := h.kK; have := h.wW; have := h.kB; omega)
theorem pow12 {n : Nat} (h : n ≤ 7) : 12 ^ n ≤ 35831808 := by
  refine Nat.le_trans (Nat.pow_le_pow_right (by decide) h) (by decide)
theorem HB.hDl {B K k w hU hD sU sD : Nat} {as : Bool} (h : HB B K k w as hU hD sU sD) : hD ≤ 2985984 := by
  rw [h.eD]
  exact Nat.le_trans (ff_le h.b12 _) (Nat.le_trans (Nat.pow_le_pow_right (by decide) h.n6) (by decide))
theorem HB.hUl {B K k w hU hD sU sD : Nat} {as : Bool} (h : HB B K k w as hU hD sU sD) : hU ≤ 2985984 := by
  rw [h.eU]
  refine Nat.le_trans (Nat.mul_le_mul (ff_le (by have := h.kB; have := h.b12; omega) k) (ff_le (by have := h.b12; omega) w)) ?_
  rw [← Nat.pow_add]
  exact Nat.le_trans (Nat.pow_le_pow_right (by decide) h.n6) (by decide)
theorem HB.sDl {B K k w hU hD sU sD : Nat} {as : Bool} (h : HB B K k w as hU hD sU sD) : sD ≤ 2985984 := Nat.le_trans h.sL (Nat.le_trans (Nat.pow_le_pow_right (by decide) h.n6) (by decide))
theorem HB.sUl {B K k w hU hD sU sD : Nat} {as : Bool} (h : HB B K k w as hU hD sU sD) : sU ≤ 2985984 := by
  have hb := h.b12
  have hk := h.kB
  have hn := h.n6
  rcases h.sh with e | ⟨-, -, e, -⟩ | ⟨-, -, e, -⟩
  · rw [e]; exact Nat.zero_le _
  · rw [e]
    refine Nat.le_trans (Nat.mul_le_mul (ff_le (by omega) k) (ff_le (by omega) w)) ?_
    rw [← Nat.pow_add]
    exact Nat.le_trans (Nat.pow_le_pow_right (by decide) hn) (by decide)
  · rw [e]
    refine Nat.le_trans (Nat.mul_le_mul (ff_le (by omega) (k - 1)) (ff_le (by omega) w)) ?_
    rw [← Nat.pow_add]
    exact Nat.le_trans (Nat.pow_le_pow_right (by decide) (show k - 1 + w ≤ 6 by omega)) (by decide)
/-- the machine's numbers beside them: class (first row), reference (second) -/
def HM (B K k w : Nat) (as : Bool) (hU hD sU sD : Nat) (c : Int64 × Int64 × Int64 × Int64 × Int32 × Int32 × Int32) (r : Int64 × Int64 × Int64 × Int64 × Int32 × Int32 × Int32 × Int32 × Int32) : Prop := (HB B K k w as hU hD sU sD) ∧ ((c.1, c.2.1) = fr hU hD) ∧ ((c.2.2.1, c.2.2.2.1) = fr sU sD) ∧ (c.2.2.2.2.1 = nI (B - (k + w))) ∧ (c.2.2.2.2.2.1 = nI (K - k)) ∧ (c.2.2.2.2.2.2 = nI (aN as)) ∧ (r.1 = lN hU) ∧ (r.2.1 = lN hD) ∧ (r.2.2.1 = lN sU) ∧ (r.2.2.2.1 = lN sD) ∧ (r.2.2.2.2.1 = nI (B - (k + w))) ∧ (r.2.2.2.2.2.1 = nI (K - k)) ∧ (r.2.2.2.2.2.2.1 = nI (B - (k + w)) - nI (aN as)) ∧ (sU = 0 ∨ r.2.2.2.2.2.2.2.1 = nI (K - k) - nI (aN as)) ∧ (r.2.2.2.2.2.2.2.2 = nI (aN as))
theorem HM.hb {B K k w : Nat} {as : Bool} {hU hD sU sD : Nat} {c : Int64 × Int64 × Int64 × Int64 × Int32 × Int32 × Int32} {r : Int64 × Int64 × Int64 × Int64 × Int32 × Int32 × Int32 × Int32 × Int32} (h : HM B K k w as hU hD sU sD c r) : HB B K k w as hU hD sU sD := h.1
theorem HM.c1 {B K k w : Nat} {as : Bool} {hU hD sU sD : Nat} {c : Int64 × Int64 × Int64 × Int64 × Int32 × Int32 × Int32} {r : Int64 × Int64 × Int64 × Int64 × Int32 × Int32 × Int32 × Int32 × Int32} (h : HM B K k w as hU hD sU sD c r) : (c.1, c.2.1) = fr hU hD := h.2.1
theorem HM.c2 {B K k w : Nat} {as : Bool} {hU hD sU sD : Nat} {c : Int64 × Int64 × Int64 × Int64 × Int32 × Int32 × Int32} {r : Int64 × Int64 × Int64 × Int64 × Int32 × Int32 × Int32 × Int32 × Int32} (h : HM B K k w as hU hD sU sD c r) : (c.2.2.1, c.2.2.2.1) = fr sU sD := h.2.2.1
theorem HM.c3 {B K k w : Nat} {as : Bool} {hU hD sU sD : Nat} {c : Int64 × Int64 × Int64 × Int64 × Int32 × Int32 × Int32} {r : Int64 × Int64 × Int64 × Int64 × Int32 × Int32 × Int32 × Int32 × Int32} (h : HM B K k w as hU hD sU sD c r) : c.2.2.2.2.1 = nI (B - (k + w)) := h.2.2.2.1
theorem HM.c4 {B K k w : Nat} {as : Bool} {hU hD sU sD : Nat} {c : Int64 × Int64 × Int64 × Int64 × Int32 × Int32 × Int32} {r : Int64 × Int64 × Int64 × Int64 × Int32 × Int32 × Int32 × Int32 × Int32} (h : HM B K k w as hU hD sU sD c r) : c.2.2.2.2.2.1 = nI (K - k) := h.2.2.2.2.1
theorem HM.c5 {B K k w : Nat} {as : Bool} {hU hD sU sD : Nat} {c : Int64 × Int64 × Int64 × Int64 × Int32 × Int32 × Int32} {r : Int64 × Int64 × Int64 × Int64 × Int32 × Int32 × Int32 × Int32 × Int32} (h : HM B K k w as hU hD sU sD c r) : c.2.2.2.2.2.2 = nI (aN as) := h.2.2.2.2.2.1
theorem HM.r1 {B K k w : Nat} {as : Bool} {hU hD sU sD : Nat} {c : Int64 × Int64 × Int64 × Int64 × Int32 × Int32 × Int32} {r : Int64 × Int64 × Int64 × Int64 × Int32 × Int32 × Int32 × Int32 × Int32} (h : HM B K k w as hU hD sU sD c r) : r.1 = lN hU := h.2.2.2.2.2.2.1
theorem HM.r2 {B K k w : Nat} {as : Bool} {hU hD sU sD : Nat} {c : Int64 × Int64 × Int64 × Int64 × Int32 × Int32 × Int32} {r : Int64 × Int64 × Int64 × Int64 × Int32 × Int32 × Int32 × Int32 × Int32} (h : HM B K k w as hU hD sU sD c r) : r.2.1 = lN hD := h.2.2.2.2.2.2.2.1
theorem HM.r3 {B K k w : Nat} {as : Bool} {hU hD sU sD : Nat} {c : Int64 × Int64 × Int64 × Int64 × Int32 × Int32 × Int32} {r : Int64 × Int64 × Int64 × Int64 × Int32 × Int32 × Int32 × Int32 × Int32} (h : HM B K k w as hU hD sU sD c r) : r.2.2.1 = lN sU := h.2.2.2.2.2.2.2.2.1
theorem HM.r4 {B K k w : Nat} {as : Bool} {hU hD sU sD : Nat} {c : Int64 × Int64 × Int64 × Int64 × Int32 × Int32 × Int32} {r : Int64 × Int64 × Int64 × Int64 × Int32 × Int32 × Int32 × Int32 × Int32} (h : HM B K k w as hU hD sU sD c r) : r.2.2.2.1 = lN sD := h.2.2.2.2.2.2.2.2.2.1
theorem HM.r5 {B K k w : Nat} {as : Bool} {hU hD sU sD : Nat} {c : Int64 × Int64 × Int64 × Int64 × Int32 × Int32 × Int32} {r : Int64 × Int64 × Int64 × Int64 × Int32 × Int32 × Int32 × Int32 × Int32} (h : HM B K k w as hU hD sU sD c r) : r.2.2.2.2.1 = nI (B - (k + w)) := h.2.2.2.2.2.2.2.2.2.2.1
theorem HM.r6 {B K k w : Nat} {as : Bool} {hU hD sU sD : Nat} {c : Int64 × Int64 × Int64 × Int64 × Int32 × Int32 × Int32} {r : Int64 × Int64 × Int64 × Int64 × Int32 × Int32 × Int32 × Int32 × Int32} (h : HM B K k w as hU hD sU sD c r) : r.2.2.2.2.2.1 = nI (K - k) := h.2.2.2.2.2.2.2.2.2.2.2.1
theorem HM.r7 {B K k w : Nat} {as : Bool} {hU hD sU sD : Nat} {c : Int64 × Int64 × Int64 × Int64 × Int32 × Int32 × Int32} {r : Int64 × Int64 × Int64 × Int64 × Int32 × Int32 × Int32 × Int32 × Int32} (h : HM B K k w as hU hD sU sD c r) : r.2.2.2.2.2.2.1 = nI (B - (k + w)) - nI (aN as) := h.2.2.2.2.2.2.2.2.2.2.2.2.1
theorem HM.r8 {B K k w : Nat} {as : Bool} {hU hD sU sD : Nat} {c : Int64 × Int64 × Int64 × Int64 × Int32 × Int32 × Int32} {r : Int64 × Int64 × Int64 × Int64 × Int32 × Int32 × Int32 × Int32 × Int32} (h : HM B K k w as hU hD sU sD c r) : sU = 0 ∨ r.2.2.2.2.2.2.2.1 = nI (K - k) - nI (aN as) := h.2.2.2.2.2.2.2.2.2.2.2.2.2.1
theorem HM.r9 {B K k w : Nat} {as : Bool} {hU hD sU sD : Nat} {c : Int64 × Int64 × Int64 × Int64 × Int32 × Int32 × Int32} {r : Int64 × Int64 × Int64 × Int64 × Int32 × Int32 × Int32 × Int32 × Int32} (h : HM B K k w as hU hD sU sD c r) : r.2.2.2.2.2.2.2.2 = nI (aN as) := h.2.2.2.2.2.2.2.2.2.2.2.2.2.2
/-- one draw more: what it makes of the likelihoods (also of one that can't be) -/
theorem weigh {B K k w hU hD sU sD : Nat} {as : Bool} {c : Int64 × Int64 × Int64 × Int64 × Int32 × Int32 × Int32} {r : Int64 × Int64 × Int64 × Int64 × Int32 × Int32 × Int32 × Int32 × Int32} (h : HM B K k w as hU hD sU sD c r) {rr : Nat → Int32} {m fav : Int32} (hf : fav = rr 44) (bk : Bool) {C : Int64 × Int64 × Int64 × Int64 × Int32 × Int32 × Int32} {R : Int64 × Int64 × Int32 × Int32 × Int64 × Int64 × Int32 × Int32 × Int32} (hC : D_X2_weighDraw m (nI (aN bk)) c.2.2.2.2.1 c.2.2.2.2.2.1 c.1 c.2.1 c.2.2.2.2.2.2 c.2.2.1 c.2.2.2.1 fav = C) (hR : D_X12_drawsBean m (nI (aN bk)) r.1 r.2.2.2.2.2.1 r.2.2.2.2.1 r.2.1 rr r.2.2.2.2.2.2.2.2 r.2.2.2.2.2.2.2.1 r.2.2.2.2.2.2.1 r.2.2.1 r.2.2.2.1 = R) : ∃ hU' hD' sU' sD' as', (C.1, C.2.1) = fr hU' hD' ∧ (C.2.2.1, C.2.2.2.1) = fr sU' sD' ∧ C.2.2.2.2.1 = nI (aN as') ∧ C.2.2.2.2.2.1 = nI (B - (k + w)) - 1 ∧ C.2.2.2.2.2.2 = nI (K - k) - nI (aN bk) ∧ R.1 = lN hU' ∧ R.2.1 = lN hD' ∧ R.2.2.1 = nI (B - (k + w)) - 1 ∧ R.2.2.2.1 = nI (K - k) - nI (aN bk) ∧ R.2.2.2.2.1 = lN sU' ∧ R.2.2.2.2.2.1 = lN sD' ∧ R.2.2.2.2.2.2.2.2 = nI (aN as') ∧ hU' = hU * (if bk then K - k else B - K - w) ∧ hD' = hD * (if k + w = B then 1 else B - (k + w)) ∧ (if m = fav ∧ as = true then (as' = false ∧ sU' = sU * aN bk ∧ sD' = sD ∧ R.2.2.2.2.2.2.1 = nI (B - (k + w)) - nI (aN as) ∧ (sU = 0 ∨ R.2.2.2.2.2.2.2.1 = nI (K - k) - nI (aN as))) else (as' = as ∧ sU' = sU * (if bk then K - k - aN as else B - K - w) ∧ (sD' = sD * (if B - (k + w) ≤ aN as then 1 else B - (k + w) - aN as)) ∧ R.2.2.2.2.2.2.1 = nI (B - (k + w)) - nI (aN as) - 1 ∧ (sU = 0 ∨ R.2.2.2.2.2.2.2.1 = nI (K - k) - nI (aN as) - nI (aN bk)))) := by
  obtain ⟨hb, c1, c2, c3, c4, c5, r1, r2, r3, r4, r5, r6, r7, r8, r9⟩ := h
  have hB := hb.b12
  have hkB := hb.kB
  have hkK := hb.kK
  have hwW := hb.wW
  have hk1 := hb.k1
  have b1 := hb.hUl
  have b2 := hb.hDl
  have b3 := hb.sUl
  have b4 := hb.sDl
  have p1 := hb.hDp
  have p2 := hb.sP
  have c1a : c.1 = (fr hU hD).1 := congrArg Prod.fst c1
  have c1b : c.2.1 = (fr hU hD).2 := congrArg Prod.snd c1
  have c2a : c.2.2.1 = (fr sU sD).1 := congrArg Prod.fst c2
  have c2b : c.2.2.2.1 = (fr sU sD).2 := congrArg Prod.snd c2
  have hfit : (if nI (aN bk) = 0 then nI (B - (k + w)) - nI (K - k) else nI (K - k)) = nI (if bk then K - k else B - K - w) := by
    cases bk
    · rw [if_pos (show nI (aN false) = 0 from rfl), nI_sub (by omega)]
      show nI (B - (k + w) - (K - k)) = nI (B - K - w)
      rw [show B - (k + w) - (K - k) = B - K - w by omega]
    · rw [if_neg (show ¬ nI (aN true) = 0 by decide)]; rfl
  have hfl : (if bk then K - k else B - K - w) ≤ 12 := by cases bk <;> simp <;> omega
  generalize hfN : (if bk then K - k else B - K - w) = fit at hfit hfl
  have m1 : hU * fit ≤ 2985984 * 12 := Nat.mul_le_mul b1 hfl
  have m2 : hD * (B - (k + w)) ≤ 2985984 * 12 := Nat.mul_le_mul b2 (by omega)
  have m3 : sU * fit ≤ 2985984 * 12 := Nat.mul_le_mul b3 hfl
  have m4 : sD * (B - (k + w)) ≤ 2985984 * 12 := Nat.mul_le_mul b4 (by omega)
  -- honest, class
  have hh : D_X7_times ((nI fit).toInt64) ((nI (B - (k + w))).toInt64) (fr hU hD).1 (fr hU hD).2 = fr (hU * fit) (hD * (if k + w = B then 1 else B - (k + w))) := by
    rw [nI_l (by omega), nI_l (by omega)]
    by_cases e : k + w = B
    · have : fit = 0 := by rw [← hfN]; cases bk <;> simp <;> omega
      rw [this, Nat.mul_zero, fr_0, times_0 (by rw [lN_0, Int64.mul_zero])]
    · rw [if_neg e]
      exact times_fr p1 (by omega) (by omega) (by omega)
  -- honest, reference
  have hr1 : lN hU * (if nI (aN bk) = 1 then (nI (K - k)).toInt64 else (nI (B - (k + w)) - nI (K - k)).toInt64) = lN (hU * fit) := by
    have : (if nI (aN bk) = 1 then (nI (K - k)).toInt64 else (nI (B - (k + w)) - nI (K - k)).toInt64) = lN fit := by
      rw [← nI_l (show fit < 2 ^ 31 by omega), ← hfit]
      cases bk
      · rw [if_neg (show ¬ nI (aN false) = 1 by decide), if_pos (show nI (aN false) = 0 from rfl)]
      · rw [if_pos (show nI (aN true) = 1 from rfl), if_neg (show ¬ nI (aN true) = 0 by decide)]
    rw [this, lN_mul]
  have hr2 : lN hD * (if nI (B - (k + w)) = 0 then 1 else (nI (B - (k + w))).toInt64 : Int64) = lN (hD * (if k + w = B then 1 else B - (k + w))) := by
    by_cases e : k + w = B
    · rw [if_pos e, if_pos (show nI (B - (k + w)) = 0 by rw [show B - (k + w) = 0 by omega]; rfl)]
      exact lN_mul hD 1
    · rw [if_neg e, if_neg (nI_ne0 (by omega) (by omega)), nI_l (by omega), lN_mul]
  -- shaken, reference
  have hmany : lN sU * (if 0 ≤ (if nI (aN bk) = 1 then r.2.2.2.2.2.2.2.1 else r.2.2.2.2.2.2.1 - r.2.2.2.2.2.2.2.1) then (if nI (aN bk) = 1 then r.2.2.2.2.2.2.2.1 else r.2.2.2.2.2.2.1 - r.2.2.2.2.2.2.2.1).toInt64 else 0 : Int64) = lN (sU * (if bk then K - k - aN as else B - K - w)) := by
    rcases Nat.eq_zero_or_pos sU with e | e
    · rw [e, Nat.zero_mul, lN_0, Int64.zero_mul]
    · have hsh : aN as ≤ K - k := by
        rcases hb.sh with g | ⟨g1, g2, -⟩ | ⟨g1, -⟩
        · omega
        · rw [g1]; show 1 ≤ K - k; omega
        · rw [g1]; exact Nat.zero_le _
      rw [r8.resolve_left (by omega), r7, nI_sub hsh, nI_sub (show aN as ≤ B - (k + w) by omega), nI_sub (show K - k - aN as ≤ B - (k + w) - aN as by omega), show B - (k + w) - aN as - (K - k - aN as) = B - K - w by omega]
      have hq : (if nI (aN bk) = 1 then nI (K - k - aN as) else nI (B - K - w)) = nI (if bk then K - k - aN as else B - K - w) := by
        cases bk
        · rw [if_neg (show ¬ nI (aN false) = 1 by decide)]; rfl
        · rw [if_pos (show nI (aN true) = 1 from rfl)]; rfl
      have hq12 : (if bk then K - k - aN as else B - K - w) ≤ 12 := by cases bk <;> simp <;> omega
      rw [hq, if_pos (nI_pos' (by omega)), nI_l (by omega), lN_mul]
  have hdown : lN sD * (if 1 ≤ r.2.2.2.2.2.2.1 then r.2.2.2.2.2.2.1.toInt64 else 1 : Int64) = lN (sD * (if B - (k + w) ≤ aN as then 1 else B - (k + w) - aN as)) := by
    rw [r7]
    by_cases e : B - (k + w) ≤ aN as
    · have : ¬ (1 : Int32) ≤ nI (B - (k + w)) - nI (aN as) := by
        have ha : aN as ≤ 1 := by cases as <;> decide
        rcases (by omega : (B - (k + w) = 0 ∧ aN as = 0) ∨ (B - (k + w) = 0 ∧ aN as = 1) ∨ (B - (k + w) = 1 ∧ aN as = 1)) with ⟨g1, g2⟩ | ⟨g1, g2⟩ | ⟨g1, g2⟩ <;> rw [g1, g2] <;> decide
      rw [if_pos e, if_neg this]
      exact lN_mul sD 1
    · rw [if_neg e, nI_sub (by omega), if_pos (show (1 : Int32) ≤ nI (B - (k + w) - aN as) from nI_le (a := 1) (by omega) (by omega)), nI_l (by omega), lN_mul]
  subst hC
  subst hR
  unfold D_X2_weighDraw D_X2_weighDraw_a1 D_X2_weighDraw_j2 D_X2_weighDraw_a2 D_X2_weighDraw_a3 D_X2_weighDraw_a4 D_X2_weighDraw_j1 D_X12_drawsBean D_X12_drawsBean_j1 D_X12_drawsBean_j2
  dsimp only
  rw [c3, c4, c5, c1a, c1b, c2a, c2b, r1, r2, r3, r4, r5, r6, r9, hfit, hh, hr1, hr2]
  have hbl : (if nI (aN bk) = 0 then nI (K - k) else nI (K - k) - 1) = nI (K - k) - nI (aN bk) := by
    cases bk
    · rw [if_pos (show nI (aN false) = 0 from rfl)]; exact (Int32.sub_zero _).symm
    · rw [if_neg (show ¬ nI (aN true) = 0 by decide)]; rfl
  rw [hbl]
  by_cases hfav : m = fav
  · cases as with
    | false =>
      have hs2 : D_X7_times ((nI fit).toInt64) ((nI (B - (k + w))).toInt64) (fr sU sD).1 (fr sU sD).2 = fr (sU * (if bk then K - k - aN false else B - K - w)) (sD * (if B - (k + w) ≤ aN false then 1 else B - (k + w) - aN false)) := by
        rw [show (if bk then K - k - aN false else B - K - w) = fit from hfN, nI_l (by omega), nI_l (by omega)]
        by_cases e : k + w = B
        · have : fit = 0 := by rw [← hfN]; cases bk <;> simp <;> omega
          rw [this, Nat.mul_zero, fr_0, times_0 (by rw [lN_0, Int64.mul_zero])]
        · rw [if_neg (show ¬ B - (k + w) ≤ aN false by show ¬ B - (k + w) ≤ 0; omega)]
          exact times_fr p2 (by omega) (by omega) (by omega)
      rw [if_pos (show nI (aN false) = 0 from rfl), if_pos (show m = rr 44 by rw [hfav, hf]), if_pos (show nI (aN false) = 0 from rfl), hs2]
      dsimp only
      rw [hmany, hdown, r7]
      refine ⟨_, _, _, _, false, rfl, rfl, rfl, rfl, rfl, rfl, rfl, rfl, rfl, rfl, rfl, rfl, rfl, rfl, ?_⟩
      rw [if_neg (show ¬ (m = fav ∧ false = true) from fun g => absurd g.2 (by decide))]
      refine ⟨rfl, rfl, rfl, rfl, ?_⟩
      rcases r8 with g | g
      · exact Or.inl g
      · exact Or.inr (by rw [g])
    | true =>
      have hs2 : D_X7_times (if nI (aN bk) = 0 then 0 else if nI (K - k) ≤ 0 then 0 else 1 : Int64) 1 (fr sU sD).1 (fr sU sD).2 = fr (sU * aN bk) sD := by
        cases bk with
        | false => rw [if_pos (show nI (aN false) = 0 from rfl), times_0 (Int64.mul_zero)]; show (0, 1) = fr (sU * 0) sD; rw [Nat.mul_zero, fr_0]
        | true =>
          rw [if_neg (show ¬ nI (aN true) = 0 by decide)]
          rcases Nat.eq_zero_or_pos sU with e | e
          · rw [e, fr_0, Nat.zero_mul, fr_0, times_0 Int64.zero_mul]
          · have hK : k < K := by
              rcases hb.sh with g | ⟨-, g2, -⟩ | ⟨g1, -⟩
              · omega
              · exact g2
              · cases g1
            rw [if_neg (nI_nle (by omega) (by omega))]
            have := times_fr (u := sU) (d := sD) (a := 1) (b := 1) p2 (by omega) (by omega) (by omega)
            rw [Nat.mul_one sD] at this
            exact this
      rw [if_neg (show ¬ nI (aN true) = 0 by decide), if_pos hfav, if_pos (show m = rr 44 by rw [hfav, hf]), if_neg (show ¬ nI (aN true) = 0 by decide), hs2]
      dsimp only
      refine ⟨_, _, sU * aN bk, sD, false, rfl, rfl, rfl, rfl, rfl, rfl, rfl, rfl, rfl, ?_, rfl, rfl, rfl, rfl, ?_⟩
      · rw [nI_l (by cases bk <;> decide), lN_mul]
      · rw [if_pos (show m = fav ∧ true = true from ⟨hfav, rfl⟩)]
        exact ⟨rfl, rfl, rfl, r7, r8⟩
  · have hfav' : ¬ m = rr 44 := fun e => hfav (by rw [hf]; exact e)
    cases as with
    | false =>
      have hs2 : D_X7_times ((nI fit).toInt64) ((nI (B - (k + w))).toInt64) (fr sU sD).1 (fr sU sD).2 = fr (sU * (if bk then K - k - aN false else B - K - w)) (sD * (if B - (k + w) ≤ aN false then 1 else B - (k + w) - aN false)) := by
        rw [show (if bk then K - k - aN false else B - K - w) = fit from hfN, nI_l (by omega), nI_l (by omega)]
        by_cases e : k + w = B
        · have : fit = 0 := by rw [← hfN]; cases bk <;> simp <;> omega
          rw [this, Nat.mul_zero, fr_0, times_0 (by rw [lN_0, Int64.mul_zero])]
        · rw [if_neg (show ¬ B - (k + w) ≤ aN false by show ¬ B - (k + w) ≤ 0; omega)]
          exact times_fr p2 (by omega) (by omega) (by omega)
      rw [if_pos (show nI (aN false) = 0 from rfl), if_neg hfav', hs2]
      dsimp only
      rw [hmany, hdown, r7]
      refine ⟨_, _, _, _, false, rfl, rfl, rfl, rfl, rfl, rfl, rfl, rfl, rfl, rfl, rfl, rfl, rfl, rfl, ?_⟩
      rw [if_neg (show ¬ (m = fav ∧ false = true) from fun g => absurd g.2 (by decide))]
      refine ⟨rfl, rfl, rfl, rfl, ?_⟩
      rcases r8 with g | g
      · exact Or.inl g
      · exact Or.inr (by rw [g])
    | true =>
      have hs2 : D_X7_times (if nI (aN bk) = 0 then (nI fit).toInt64 else (nI fit - 1).toInt64) ((nI (B - (k + w)) - 1).toInt64) (fr sU sD).1 (fr sU sD).2 = fr (sU * (if bk then K - k - aN true else B - K - w)) (sD * (if B - (k + w) ≤ aN true then 1 else B - (k + w) - aN true)) := by
        rcases Nat.eq_zero_or_pos sU with e | e
        · rw [e, fr_0, Nat.zero_mul, fr_0, times_0 Int64.zero_mul]
        · have hK : k < K := by
            rcases hb.sh with g | ⟨-, g2, -⟩ | ⟨g1, -⟩
            · omega
            · exact g2
            · cases g1
          obtain ⟨q, hq⟩ : ∃ q, B - (k + w) = q + 1 := ⟨B - (k + w) - 1, by omega⟩
          have hup : (if nI (aN bk) = 0 then (nI fit).toInt64 else (nI fit - 1).toInt64) = lN (if bk then K - k - aN true else B - K - w) := by
            cases bk with
            | false => rw [if_pos (show nI (aN false) = 0 from rfl), nI_l (by omega), ← hfN]; rfl
            | true =>
              rw [if_neg (show ¬ nI (aN true) = 0 by decide), ← hfN]
              obtain ⟨z, hz⟩ : ∃ z, K - k = z + 1 := ⟨K - k - 1, by omega⟩
              show (nI (K - k) - 1).toInt64 = lN (K - k - 1)
              rw [hz, nI_prd, nI_l (by omega)]; rfl
          have hml : (if bk then K - k - aN true else B - K - w) ≤ 12 := by cases bk <;> simp <;> omega
          have hm0 : q = 0 → (if bk then K - k - aN true else B - K - w) = 0 := fun hq0 => by
            cases bk
            · show B - K - w = 0; omega
            · show K - k - 1 = 0; omega
          generalize (if bk then K - k - aN true else B - K - w) = mn at hup hml hm0
          rw [hup, hq, nI_prd, nI_l (by omega)]
          rcases Nat.eq_zero_or_pos q with hq0 | hq0
          · rw [hm0 hq0, Nat.mul_zero, fr_0, times_0 (by rw [lN_0, Int64.mul_zero])]
          · rw [if_neg (show ¬ q + 1 ≤ aN true by show ¬ q + 1 ≤ 1; omega), show q + 1 - aN true = q from rfl]
            have m5 : sU * mn ≤ 2985984 * 12 := Nat.mul_le_mul b3 hml
            have m6 : sD * q ≤ 2985984 * 12 := Nat.mul_le_mul b4 (by omega)
            exact times_fr p2 hq0 (by omega) (by omega)
      rw [if_neg (show ¬ nI (aN true) = 0 by decide), if_neg hfav, if_neg hfav', hs2]
      dsimp only
      rw [hmany, hdown, r7]
      refine ⟨_, _, _, _, true, rfl, rfl, rfl, rfl, rfl, rfl, rfl, rfl, rfl, rfl, rfl, rfl, rfl, rfl, ?_⟩
      rw [if_neg (show ¬ (m = fav ∧ true = true) from fun g => absurd g.1 hfav)]
      refine ⟨rfl, rfl, rfl, rfl, ?_⟩
      rcases r8 with g | g
      · exact Or.inl g
      · exact Or.inr (by rw [g])
