/-! SUMS -/
def sN (f : Nat → Nat) (n : Nat) : Nat := am_fo (fun k s => s + f k) n 0
theorem sN_succ (f : Nat → Nat) (n : Nat) : sN f (n + 1) = sN f n + f n := rfl
theorem sN_le {f g : Nat → Nat} {n : Nat} (h : ∀ k, k < n → f k ≤ g k) : sN f n ≤ sN g n := by
  induction n with
  | zero => exact Nat.le_refl _
  | succ n ih =>
    have h1 := ih fun k hk => h k (by omega)
    have h2 := h n (by omega)
    rw [sN_succ, sN_succ]
    omega
theorem sN_lt {f g : Nat → Nat} {n j : Nat} (h : ∀ k, k < n → f k ≤ g k) (hj : j < n) (hl : f j < g j) : sN f n < sN g n := by
  induction n with
  | zero => omega
  | succ n ih =>
    rw [sN_succ, sN_succ]
    have h2 := h n (by omega)
    by_cases e : j = n
    · subst e
      have h1 := sN_le (f := f) (g := g) (n := j) fun k hk => h k (by omega)
      omega
    · have h1 := ih (fun k hk => h k (by omega)) (by omega)
      omega
theorem sN_congr {f g : Nat → Nat} {n : Nat} (h : ∀ k, k < n → f k = g k) : sN f n = sN g n := am_fo_congr (fun k s hk => by rw [h k hk]) 0
theorem sN_add {f g h : Nat → Nat} {n : Nat} (e : ∀ k, k < n → h k = f k + g k) : sN h n = sN f n + sN g n := by
  induction n with
  | zero => rfl
  | succ n ih =>
    rw [sN_succ, sN_succ, sN_succ, ih fun k hk => e k (by omega), e n (by omega)]
    omega
theorem sN_bound {f : Nat → Nat} {n c : Nat} (h : ∀ k, k < n → f k ≤ c) : sN f n ≤ n * c := by
  induction n with
  | zero => exact Nat.zero_le _
  | succ n ih =>
    have h1 := ih fun k hk => h k (by omega)
    have h2 := h n (by omega)
    rw [sN_succ, Nat.succ_mul]
    omega
theorem sN_cut {f : Nat → Nat} {M N : Nat} (hM : M ≤ N) (h : ∀ k, M ≤ k → k < N → f k = 0) : sN f N = sN f M := am_fo_cut hM (fun _ _ _ => rfl) (fun k s h1 h2 => by rw [h k h1 h2]; rfl) 0
theorem fo_nI {g : Nat → Int32} {f : Nat → Nat} {n : Nat} (h : ∀ k, k < n → g k = nI (f k)) (a : Nat) : am_fo (fun k s => s + g k) n (nI a) = nI (a + sN f n) := by
  induction n with
  | zero => rfl
  | succ n ih =>
    show am_fo (fun k s => s + g k) n (nI a) + g n = _
    rw [ih fun k hk => h k (by omega), h n (by omega), nI_add, sN_succ, Nat.add_assoc]
theorem ct_sN (x : Int32) : ct x = sN (fun k => if bt x k then 1 else 0) 8 := by
  refine am_fo_congr (fun k s _ => ?_) 0
  show (if bt x k = true then s + 1 else s) = s + (if bt x k = true then 1 else 0)
  cases bt x k <;> rfl
/-- inclusion -/
def inc (x y : Int32) : Prop := ∀ k, k < 8 → bt x k = true → bt y k = true
theorem inc_or1 (x y : Int32) : inc x (x ||| y) := fun k _ h => by rw [b_or, h, Bool.true_or]
theorem inc_tr {x y z : Int32} (h1 : inc x y) (h2 : inc y z) : inc x z := fun k hk h => h2 k hk (h1 k hk h)
theorem inc_as {x y : Int32} (hx : sm x) (hy : sm y) (h1 : inc x y) (h2 : inc y x) : x = y := by
  refine sm_ext hx hy fun k hk => ?_
  cases e : bt x k with
  | true => rw [h1 k hk e]
  | false =>
    cases e2 : bt y k with
    | true => rw [h2 k hk e2] at e; cases e
    | false => rfl
theorem ct_mono {x y : Int32} (h : inc x y) : ct x ≤ ct y := by
  rw [ct_sN, ct_sN]
  refine sN_le fun k hk => ?_
  cases e : bt x k with
  | true => rw [h k hk e]; exact Nat.le_refl _
  | false => exact Nat.zero_le _
theorem ct_grow {x y : Int32} (h : inc x y) {j : Nat} (hj : j < 8) (h1 : bt x j = false) (h2 : bt y j = true) : ct x + 1 ≤ ct y := by
  rw [ct_sN, ct_sN]
  refine sN_lt (j := j) (fun k hk => ?_) hj ?_
  · cases e : bt x k with
    | true => rw [h k hk e]; exact Nat.le_refl _
    | false => exact Nat.zero_le _
  · rw [h1, h2]; decide
theorem ct_full {x : Int32} (h : 8 ≤ ct x) : ∀ k, k < 8 → bt x k = true := by
  intro k hk
  cases e : bt x k with
  | true => rfl
  | false =>
    have h1 : sN (fun k => if bt x k then 1 else 0) 8 < sN (fun _ => 1) 8 := by
      refine sN_lt (j := k) (fun i _ => ?_) hk ?_
      · cases bt x i <;> decide
      · rw [e]; decide
    rw [← ct_sN] at h1
    have h2 : sN (fun _ => 1) 8 = 8 := by decide
    omega
theorem not_0 {x : Int32} (hx : sm x) (h : ¬ x = 0) : ∃ k, k < 8 ∧ bt x k = true := by
  refine Classical.byContradiction fun g => h ?_
  refine sm_ext hx sm_0 fun k hk => ?_
  rw [b_0]
  cases e : bt x k with
  | false => rfl
  | true => exact absurd ⟨k, hk, e⟩ g
/-! WHO RUNS: the least set that holds those who begin and is closed. e: who may run; nv: his nerve; w: his weight -/
section RUN
variable (e : Nat → Bool) (nv : Nat → Int32) (w : Nat → Nat) (st : Int32)
def wt (x : Int32) : Nat := sN (fun k => if bt x k then w k else 0) 8
def clo (x : Int32) : Prop := ∀ k, k < 8 → e k = true → ¬ nI (wt w x) < nv k → bt x k = true
def good (x : Int32) : Prop := ∀ C, inc st C → clo e nv w C → inc x C
theorem wt_mono {x y : Int32} (h : inc x y) : wt w x ≤ wt w y := sN_le fun k hk => by
  cases e : bt x k with
  | true => rw [h k hk e]; exact Nat.le_refl _
  | false => exact Nat.zero_le _
theorem wt_le (hw : ∀ k, k < 8 → w k ≤ 2) (x : Int32) : wt w x ≤ 16 := sN_bound (c := 2) fun k hk => by
  cases bt x k with
  | true => exact hw k hk
  | false => exact Nat.zero_le _
theorem wt_or {x y : Int32} (h : ∀ k, k < 8 → bt x k = true → bt y k = false) : wt w (x ||| y) = wt w x + wt w y := sN_add fun k hk => by
  rw [b_or]
  cases e : bt x k with
  | true => rw [h k hk e]; rfl
  | false => cases bt y k <;> simp
theorem good_st : good e nv w st st := fun _ h _ => h
theorem good_or {x y : Int32} (hx : good e nv w st x) (hy : good e nv w st y) : good e nv w st (x ||| y) := fun C h1 h2 k hk h => by
  rw [b_or, Bool.or_eq_true] at h
  rcases h with h | h
  · exact hx C h1 h2 k hk h
  · exact hy C h1 h2 k hk h
theorem good_uniq {x y : Int32} (hx : sm x) (hy : sm y) (sx : inc st x) (sy : inc st y) (cx : clo e nv w x) (cy : clo e nv w y) (gx : good e nv w st x) (gy : good e nv w st y) : x = y := inc_as hx hy (gx y sy cy) (gy x sx cx)
/-- one more who runs because of those who run -/
theorem good_one (hw : ∀ k, k < 8 → w k ≤ 2) {x : Int32} (hx : good e nv w st x) {k : Nat} (he : e k = true) (hn : ¬ nI (wt w x) < nv k) (C : Int32) (h1 : inc st C) (h2 : clo e nv w C) (hk : k < 8) : bt C k = true := by
  refine h2 k hk he fun h => hn ?_
  have hm := wt_mono w (hx C h1 h2)
  have hb := wt_le w hw C
  rw [Int32.lt_iff_toInt_lt] at h ⊢
  rw [nI_toInt (by omega)] at h ⊢
  omega
end RUN
