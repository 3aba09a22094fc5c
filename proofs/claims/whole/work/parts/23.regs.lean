/-! RUNS TOLD BY REGISTERS: rules in which a cell that is read, and the memory behind a write, are told by equations -/
def am_T0 (p : Nat → Nat → Option Nat) (d : Nat → Nat × Nat) : Prop := (∀ a x, am_kd a = some x → d a = x) ∧ (∀ a k x, am_pt a k = some x → p a k = some x)
section TT0
variable {p : Nat → Nat → Option Nat} {d : Nat → Nat × Nat}
theorem t0_k (h : am_T0 p d) {a : Nat} {x : Nat × Nat} (e : am_kd a = some x) : d a = x := h.1 a x e
theorem t0_p (h : am_T0 p d) {a k x : Nat} (e : am_pt a k = some x) : p a k = some x := h.2 a k x e
theorem t0_lk (h : am_T0 p d) {v : Nat} (hv : v = 5 ∨ v = 23) {o : Nat} {x : Nat × Nat} (e5 : am_kd (5 + o) = some x) (e23 : am_kd (23 + o) = some x) : d (v + o) = x := by
  rcases hv with e | e
  · rw [e]; exact t0_k h e5
  · rw [e]; exact t0_k h e23
theorem t0_lk0 (h : am_T0 p d) {v : Nat} (hv : v = 5 ∨ v = 23) : d v = (4, 0) := by
  rcases hv with e | e
  · rw [e]; exact t0_k h rfl
  · rw [e]; exact t0_k h rfl
theorem t0_lp (h : am_T0 p d) {v : Nat} (hv : v = 5 ∨ v = 23) {o k x : Nat} (e5 : am_pt (5 + o) k = some (5 + x)) (e23 : am_pt (23 + o) k = some (23 + x)) : p (v + o) k = some (v + x) := by
  rcases hv with e | e
  · rw [e]; exact t0_p h e5
  · rw [e]; exact t0_p h e23
theorem t0_lp0 (h : am_T0 p d) {v : Nat} (hv : v = 5 ∨ v = 23) {k x : Nat} (e5 : am_pt 5 k = some (5 + x)) (e23 : am_pt 23 k = some (23 + x)) : p v k = some (v + x) := by
  rcases hv with e | e
  · rw [e]; exact t0_p h e5
  · rw [e]; exact t0_p h e23
theorem t0_n1 (h : am_T0 p d) {a : Nat} (ha : am_kd a = some (6, 0)) : d (a + 1) = (14, 8) := t0_k h (am_Tn ha).1
theorem t0_n2 (h : am_T0 p d) {a : Nat} (ha : am_kd a = some (6, 0)) : d (a + 2) = (14, 8) := t0_k h (am_Tn ha).2.1
theorem t0_n3 (h : am_T0 p d) {a : Nat} (ha : am_kd a = some (6, 0)) : d (a + 3) = (14, 8) := t0_k h (am_Tn ha).2.2.1
theorem t0_n4 (h : am_T0 p d) {a : Nat} (ha : am_kd a = some (6, 0)) : d (a + 4) = (14, 3) := t0_k h (am_Tn ha).2.2.2.1
theorem t0_q4 (h : am_T0 p d) {a : Nat} (ha : am_kd a = some (6, 0)) : p a 4 = some (a + 1) := t0_p h (am_Tn ha).2.2.2.2.2.1
theorem t0_q5 (h : am_T0 p d) {a : Nat} (ha : am_kd a = some (6, 0)) : p a 5 = some (a + 2) := t0_p h (am_Tn ha).2.2.2.2.2.2.1
theorem t0_q6 (h : am_T0 p d) {a : Nat} (ha : am_kd a = some (6, 0)) : p a 6 = some (a + 3) := t0_p h (am_Tn ha).2.2.2.2.2.2.2.1
theorem t0_q7 (h : am_T0 p d) {a : Nat} (ha : am_kd a = some (6, 0)) : p a 7 = some (a + 4) := t0_p h (am_Tn ha).2.2.2.2.2.2.2.2.1
theorem am_n0 {a : Nat} (ha : am_kd a = some (6, 0)) : am_pt a 0 = none := (am_Tn ha).2.2.2.2.1
theorem t0_sr (h : am_T0 p d) {a k : Nat} (e : am_pt a k = none) {x : Option Nat} : am_T0 (am_u p a k x) d := by
  refine ⟨h.1, fun b j y e2 => ?_⟩
  rw [au_ne]
  · exact h.2 b j y e2
  · refine Decidable.byContradiction fun g => ?_
    have hb : b = a := Decidable.byContradiction fun n => g (Or.inl n)
    have hk : j = k := Decidable.byContradiction fun n => g (Or.inr n)
    rw [hb, hk, e] at e2
    cases e2
theorem t0_kept (h : am_T0 p d) {i : Nat} (hi : i < 16) : p 46 i = some (5 * i + 48) := t0_p h (am_kept_all hi).1
theorem t0_pics (h : am_T0 p d) {i : Nat} (hi : i < 3) : p 47 i = some (5 * i + 128) := t0_p h (am_pics_all hi).1
end TT0
section UPD
variable {α : Type} {f : Nat → Nat → α} {a b k j : Nat} {x y : α} {r s : Nat → α}
theorem va_id : va_up f a (f a) = f := by
  funext b
  by_cases e : b = a
  · rw [e, va_up_self]
  · rw [va_up_ne f _ e]
theorem am_u_id : am_u f a k (f a k) = f := by
  unfold am_u
  have : va_up (f a) k (f a k) = f a := by
    funext j
    by_cases e : j = k
    · rw [e, va_up_self]
    · rw [va_up_ne _ _ e]
  rw [this]
  exact va_id
theorem va_vv : va_up (va_up f a r) a s = va_up f a s := by
  funext b
  by_cases e : b = a
  · rw [e, va_up_self, va_up_self]
  · rw [va_up_ne _ _ e, va_up_ne _ _ e, va_up_ne _ _ e]
theorem va_vvc (h : b ≠ a) : va_up (va_up f a r) b s = va_up (va_up f b s) a r := by
  funext c
  by_cases e : c = a
  · rw [e, va_up_self, va_up_ne _ _ (Ne.symm h), va_up_self]
  · by_cases e2 : c = b
    · rw [va_up_ne _ _ e, e2, va_up_self, va_up_self]
    · rw [va_up_ne _ _ e, va_up_ne _ _ e2, va_up_ne _ _ e2, va_up_ne _ _ e]
theorem am_ur : am_u (va_up f a r) a j x = va_up f a (va_up r j x) := by
  unfold am_u
  rw [va_vv, va_up_self]
theorem am_urc (h : b ≠ a) : am_u (va_up f a r) b j x = va_up (am_u f b j x) a r := by
  unfold am_u
  rw [va_up_ne _ _ h, va_vvc h]
theorem am_vuc (h : b ≠ a) : va_up (am_u f a k x) b r = am_u (va_up f b r) a k x := by
  unfold am_u
  rw [va_vvc h, va_up_ne _ _ (Ne.symm h)]
theorem am_uu : am_u (am_u f a k x) a k y = am_u f a k y := by
  unfold am_u
  rw [va_vv, va_up_self]
  congr 1
  funext j
  by_cases e : j = k
  · rw [e, va_up_self, va_up_self]
  · rw [va_up_ne _ _ e, va_up_ne _ _ e, va_up_ne _ _ e]
theorem am_ext2 {f g : Nat → Nat → α} (h : ∀ b j, f b j = g b j) : f = g := funext fun b => funext fun j => h b j
theorem am_uc (h : b ≠ a ∨ j ≠ k) : am_u (am_u f a k x) b j y = am_u (am_u f b j y) a k x := by
  refine am_ext2 fun c i => ?_
  by_cases e : c = a ∧ i = k
  · rw [e.1, e.2, au_eq, au_ne, au_eq]
    rcases h with h | h
    · exact Or.inl (Ne.symm h)
    · exact Or.inr (Ne.symm h)
  · have e' : c ≠ a ∨ i ≠ k := by
      by_cases e1 : c = a
      · exact Or.inr fun e2 => e ⟨e1, e2⟩
      · exact Or.inl e1
    rw [au_ne (am_u f b j y) x e']
    by_cases e2 : c = b ∧ i = j
    · rw [e2.1, e2.2, au_eq, au_eq]
    · have e3 : c ≠ b ∨ i ≠ j := by
        by_cases e1 : c = b
        · exact Or.inr fun g => e2 ⟨e1, g⟩
        · exact Or.inl e1
      rw [au_ne _ _ e3, au_ne _ _ e', au_ne _ _ e3]
theorem am_urow (h : b ≠ a) : am_u f a k x b = f b := va_up_ne _ _ h
theorem am_dl (h : Nat.beq b a = false) : b ≠ a ∨ j ≠ k := Or.inl (Nat.ne_of_beq_eq_false h)
theorem am_dr (h : Nat.beq j k = false) : b ≠ a ∨ j ≠ k := Or.inr (Nat.ne_of_beq_eq_false h)
theorem am_dn (h : Nat.beq b a = false) : b ≠ a := Nat.ne_of_beq_eq_false h
end UPD
def jrm (x y : Int32) : Int32 := x - x / y * y
def jrml (x y : Int64) : Int64 := x - x / y * y
theorem nj_a {x y : Int32} {a b : Nat} (hx : x = nI a) (hy : y = nI b) : x + y = nI (a + b) := by rw [hx, hy, nI_add]
theorem nj_m {x y : Int32} {a b : Nat} (hx : x = nI a) (hy : y = nI b) : x * y = nI (a * b) := by
  rw [hx, hy]
  exact (Int32.ofNat_mul a b).symm
theorem nj_out {x : Int32} {j n : Nat} (hx : x = nI j) (hj : j < n) (hn : n < 2 ^ 31) : am_out x n = false := by rw [hx]; exact am_out_nI hj hn
theorem nj_cl {x : Int32} {j n : Nat} (hx : x = nI j) (hj : j < n) (hn : n < 2 ^ 31) : x.toNatClampNeg = j := by rw [hx]; exact nI_clamp (by omega)
/-- how often a loop 'to and with x' turns, from c on -/
def am_to (x : Int32) (c : Nat) : Nat := (x.toInt + 1).toNat - c
/-- how often a loop 'below x' turns, from c on -/
def am_be (x : Int32) (c : Nat) : Nat := x.toNatClampNeg - c
theorem am_be_x {x : Int32} {c : Nat} (hc : c < 2 ^ 31) : x ≤ nI (am_be x c + c) := by
  rw [Int32.le_iff_toInt_le]
  have hl := Int32.toInt_lt x
  have h1 : am_be x c + c < 2 ^ 31 := by
    unfold am_be
    have : x.toNatClampNeg < 2 ^ 31 := am_cl_lt x
    omega
  rw [nI_toInt h1]
  unfold am_be
  show x.toInt ≤ ((x.toInt.toNat - c + c : Nat) : Int)
  omega
theorem am_be_k {x : Int32} {c k : Nat} (hk : k < am_be x c) : ¬ x ≤ nI (k + c) := by
  rw [Int32.le_iff_toInt_le]
  have hl := Int32.toInt_lt x
  have h0 : k < x.toInt.toNat - c := hk
  have h1 : k + c < 2 ^ 31 := by omega
  rw [nI_toInt h1]
  omega
theorem am_to_x {x : Int32} {c : Nat} (hc : am_to x c + c < 2 ^ 31) : x < nI (am_to x c + c) := by
  rw [Int32.lt_iff_toInt_lt, nI_toInt hc]
  unfold am_to
  omega
theorem am_to_k {x : Int32} {c k : Nat} (hk : k < am_to x c) (hc : am_to x c + c < 2 ^ 31) : ¬ x < nI (k + c) := by
  rw [Int32.lt_iff_toInt_lt, nI_toInt (by omega)]
  unfold am_to at hk
  omega
theorem am_be_x0 {x : Int32} : x ≤ nI (am_be x 0) := am_be_x (c := 0) (by decide)
theorem am_be_k0 {x : Int32} {k : Nat} (hk : k < am_be x 0) : ¬ x ≤ nI k := am_be_k (c := 0) hk
theorem am_to_x0 {x : Int32} (hc : am_to x 0 < 2 ^ 31) : x < nI (am_to x 0) := am_to_x (c := 0) hc
theorem am_to_k0 {x : Int32} {k : Nat} (hk : k < am_to x 0) (hc : am_to x 0 < 2 ^ 31) : ¬ x < nI k := am_to_k (c := 0) hk hc
theorem nl_k {c n k N : Nat} (hk : k < N) (hN : N + c = n) (hn : n < 2 ^ 31) : ¬ nI n ≤ nI (k + c) := nI_ge (by omega) hn
theorem nl_x {c n N : Nat} (hN : N + c = n) : nI n ≤ nI (N + c) := by rw [hN]; exact Int32.le_refl _
theorem nl_x2 {c n N : Nat} (hN : N + c = n) : nI n ≤ nI (c + N) := by rw [← hN, Nat.add_comm]; exact Int32.le_refl _
theorem nl_k2 {c n k N : Nat} (hk : k < N) (hN : N + c = n) (hn : n < 2 ^ 31) : ¬ nI n ≤ nI (c + k) := nI_ge (by omega) hn
theorem nt_k {c n k N : Nat} (hk : k < N) (hN : N + c = n + 1) (hn : n + 1 < 2 ^ 31) : ¬ nI n < nI (k + c) := nI_nlt (by omega) (by omega)
/-- both ways of a sum -/
def am_sel {σ ρ α : Type} (E : σ ⊕ ρ) (F : σ → α) (Y : ρ → α) : α := match E with
  | .inl s => F s
  | .inr r => Y r
theorem am_sel_l {σ ρ α : Type} {E : σ ⊕ ρ} {F : σ → α} {Y : ρ → α} {s : σ} (h : E = .inl s) : am_sel E F Y = F s := by rw [h]; rfl
theorem am_sel_r {σ ρ α : Type} {E : σ ⊕ ρ} {F : σ → α} {Y : ρ → α} {s : ρ} (h : E = .inr s) : am_sel E F Y = Y s := by rw [h]; rfl
theorem am_forS {σ ρ : Type} (n : Nat) (F : Nat → σ → Option am_X) (z : Option am_X) (Y : ρ → Option am_X) (step : Nat → σ → σ ⊕ ρ) (s : σ) (hx : ∀ t, am_fe step n s = .inl t → am_ge (F n t) z) (hy : ∀ r, am_fe step n s = .inr r → am_ge (Y r) z) (hs : ∀ k t, k < n → am_fe step k s = .inl t → am_ge (F k t) (am_sel (step k t) (F (k + 1)) Y)) : am_ge (F 0 s) z := by
  refine am_forE n F z Y step s hx hy fun k t hk ht => ?_
  have h := hs k t hk ht
  cases he : step k t with
  | inl u => rw [he] at h; exact h
  | inr u => rw [he] at h; exact h
theorem am_forH {σ : Type} (n : Nat) (F : Nat → σ → Option am_X) (z : Option am_X) (step : Nat → σ → σ) (s : σ) (hx : am_ge (F n (am_fo step n s)) z) (hs : ∀ k t, k < n → t = am_fo step k s → am_ge (F k t) (F (k + 1) (step k t))) : am_ge (F 0 s) z := am_forG n F z step s hx fun k hk => hs k _ hk rfl
theorem am_lsl {σ ρ : Type} {E : σ ⊕ ρ} {F : σ → Option am_X} {Y : ρ → Option am_X} {t : σ} (h : E = .inl t) : am_ge (F t) (am_sel E F Y) := by rw [h]; exact am_ge_rfl
theorem am_lsr {σ ρ : Type} {E : σ ⊕ ρ} {F : σ → Option am_X} {Y : ρ → Option am_X} {t : ρ} (h : E = .inr t) : am_ge (Y t) (am_sel E F Y) := by rw [h]; exact am_ge_rfl
theorem am_irn {σ ρ : Type} {E : σ ⊕ ρ} {t : σ} (h : am_ir E = true) (g : E = .inl t) : False := by rw [g] at h; cases h
theorem am_rgr {σ ρ : Type} {E : σ ⊕ ρ} {d t : ρ} (g : E = .inr t) : am_rg d E = t := by rw [g]; rfl
theorem am_or {σ ρ : Type} {E : σ ⊕ ρ} {P : Prop} (h1 : ∀ a, E = .inl a → P) (h2 : ∀ b, E = .inr b → P) : P := by
  cases h : E with
  | inl a => exact h1 a h
  | inr b => exact h2 b h
theorem am_gby {x z : Option am_X} (P : Prop) [Decidable P] (h1 : P → am_ge x z) (h2 : ¬ P → am_ge x z) : am_ge x z := by
  by_cases h : P
  · exact h1 h
  · exact h2 h
theorem am_slen31a : am_strs.all (fun l => Nat.ble l.length 1000) = true := by decide +kernel
theorem am_slen31 (w : Nat) : am_slen w < 2 ^ 31 := by
  unfold am_slen
  by_cases h : w < am_strs.length
  · have := List.all_eq_true.mp am_slen31a (am_strs[w]) (List.getElem_mem h)
    have := Nat.le_of_ble_eq_true this
    rw [List.getD_eq_getElem?_getD, List.getElem?_eq_getElem h]
    show (am_strs[w]).length < _
    omega
  · rw [List.getD_eq_getElem?_getD, List.getElem?_eq_none (by omega)]
    decide
theorem am_tne {x c : Int32} (h : ¬ x = c) : x.toInt ≠ c.toInt := fun e => h (Int32.toInt_inj.mp e)
theorem am_tn {x c : Int32} {v : Int} (hc : c.toInt = v) (h : ¬ x = c) : x.toInt ≠ v := hc ▸ am_tne h
theorem am_tsd {pc t : Nat} {dd lo hi : Int} {offs : Array Int} {x : Int32} (h : x.toInt < lo ∨ hi < x.toInt) (ht : (pc : Int) + dd = (t : Int)) : am_tsw pc dd lo hi offs x = some t := by
  unfold am_tsw
  rw [if_pos h, ht, if_pos (by omega)]
  simp
theorem am_lsd2 {pc t : Nat} {dd o1 o2 v1 v2 : Int} {x : Int32} (h1 : x.toInt ≠ v1) (h2 : x.toInt ≠ v2) (ht : (pc : Int) + dd = (t : Int)) : am_lsw pc dd #[(v1, o1), (v2, o2)] x = some t := by
  have e : Op.lookupswitch.offset [(v1, o1), (v2, o2)] dd x.toInt = dd := by
    rw [Op.lookupswitch.offset_cons, if_neg (fun q => h1 q.symm), Op.lookupswitch.offset_cons, if_neg (fun q => h2 q.symm)]
    rfl
  unfold am_lsw
  show (if 0 ≤ (pc : Int) + Op.lookupswitch.offset [(v1, o1), (v2, o2)] dd x.toInt then some ((pc : Int) + Op.lookupswitch.offset [(v1, o1), (v2, o2)] dd x.toInt).toNat else none) = some t
  rw [e, ht, if_pos (by omega)]
  simp
theorem am_cut {A B z : Option am_X} (h : am_ge A z) (g : am_ge A z → am_ge B z) : am_ge B z := g h
theorem am_lLc {v w : Value} {t u : List Value} (h : am_kw v w) (g : am_lL t u) : am_lL (v :: t) (w :: u) := ⟨h, g⟩
theorem am_lLn : am_lL [] [] := trivial
theorem am_kr {v : Value} : am_kw v v := Or.inr rfl
theorem am_ku {v : Value} : am_kw (.retAddr 0) v := Or.inl rfl
theorem am_kk {X : Option am_X} {v v' : Option Value} {f f' : Nat → Nat → Int32} {g g' : Nat → Nat → Int64} {p p' : Nat → Nat → Option Nat} {d : Nat → Nat × Nat} {e : Nat × Nat} (h : X = some (v, (f, g, p, d, e))) (hv : v = v') (hf : f = f') (hg : g = g') (hp : p = p') : X = some (v', (f', g', p', d, e)) := by rw [h, hv, hf, hg, hp]
theorem am_mm {f f' : Nat → Nat → Int32} {g g' : Nat → Nat → Int64} {p p' : Nat → Nat → Option Nat} {d : Nat → Nat × Nat} {e : Nat × Nat} (hf : f = f') (hg : g = g') (hp : p = p') : ((f, g, p, d, e) : am_M) = (f', g', p', d, e) := by rw [hf, hg, hp]
theorem lg_odds {t : Nat} (h : t = 5 ∨ t = 23) : am_kd (t + 10) = some (7, 0) ∧ am_kd (t + 11) = some (7, 0) ∧ am_kd (t + 12) = some (7, 0) := by
  rcases h with e | e <;> rw [e] <;> exact ⟨rfl, rfl, rfl⟩
theorem am_le {α : Type} {Φ : α → Option am_X} {x y : α} (h : y = x) : am_ge (Φ x) (Φ y) := by rw [h]; exact am_ge_rfl
theorem am_jn {α : Type} {Φ : α → Option am_X} {x y : α} {z : Option am_X} (h : x = y) (hJ : am_ge (Φ x) z) : am_ge (Φ y) z := by rw [← h]; exact hJ
theorem am_01 {P : Prop} [Decidable P] : (if P then (1 : Int32) else 0) = 0 ∨ (if P then (1 : Int32) else 0) = 1 := by
  by_cases h : P
  · rw [if_pos h]; exact Or.inr rfl
  · rw [if_neg h]; exact Or.inl rfl
theorem am_10 {P : Prop} [Decidable P] : (if P then (0 : Int32) else 1) = 0 ∨ (if P then (0 : Int32) else 1) = 1 := by
  by_cases h : P
  · rw [if_pos h]; exact Or.inl rfl
  · rw [if_neg h]; exact Or.inr rfl
/-! BLOCKS: instructions that leave the memory alone, some at once -/
def am_isp (i : Instr) : Bool := match i with
  | .iload_n _ | .iload _ | .lload_n _ | .lload _ | .aload_n _ | .aload _ | .istore_n _ | .istore _ | .lstore_n _ | .lstore _ | .astore_n _ | .astore _ => true
  | .iconst _ | .lconst _ | .bipush _ | .sipush _ | .ldc _ | .ldc_w _ | .ldc2_w _ => true
  | .iadd | .isub | .imul | .iand | .ior | .ixor | .ishl | .ishr | .iushr | .ladd | .lsub | .lmul | .lcmp | .i2l | .i2b | .l2i => true
  | .dup | .dup2 | .pop | .iinc _ _ | .goto _ => true
  | _ => false
/-- a result that leaves the memory as it is -/
def am_same (μ : am_M) (r : am_R) : Prop := match r with
  | some (.inl x) => x.2 = μ
  | _ => True
section AMS
variable {q pc n : Nat} {i : Instr} {inf : am_I} {L S : List Value} {μ : am_M} {P : Prop}
theorem am_s_nx {f : am_F} : am_same μ (am_nx f μ) := rfl
theorem am_s_b [Decidable P] {x y : am_R} (h1 : am_same μ x) (h2 : am_same μ y) : am_same μ (am_b P x y) := by
  unfold am_b
  by_cases hp : P
  · rw [if_pos hp]; exact h1
  · rw [if_neg hp]; exact h2
theorem am_s_ite [Decidable P] {x y : am_R} (h1 : am_same μ x) (h2 : am_same μ y) : am_same μ (if P then x else y) := am_s_b h1 h2
theorem am_s_lim {k : Nat} {r : am_R} (h : am_same μ r) : am_same μ (am_lim k L r) := by
  unfold am_lim
  cases Nat.blt k L.length
  · exact True.intro
  · exact h
theorem am_s_ldi {k : Nat} : am_same μ (am_ldi q pc n k L S μ) := by
  unfold am_ldi; split
  · exact rfl
  · exact True.intro
theorem am_s_ldl {k : Nat} : am_same μ (am_ldl q pc n k L S μ) := by
  unfold am_ldl; split
  · exact rfl
  · exact True.intro
theorem am_s_lda {k : Nat} : am_same μ (am_lda q pc n k L S μ) := by
  unfold am_lda; split
  · exact rfl
  · exact rfl
  · exact rfl
  · exact True.intro
theorem am_s_sti {k : Nat} : am_same μ (am_sti q pc n k L S μ) := by
  unfold am_sti; split
  · exact rfl
  · exact True.intro
theorem am_s_stl {k : Nat} : am_same μ (am_stl q pc n k L S μ) := by
  unfold am_stl; split
  · exact rfl
  · exact True.intro
theorem am_s_sta {k : Nat} : am_same μ (am_sta q pc n k L S μ) := by
  unfold am_sta; split
  · exact rfl
  · exact True.intro
theorem am_s_i2 {op : Int32 → Int32 → Int32} : am_same μ (am_i2 q pc L S μ op) := by
  unfold am_i2; split
  · exact rfl
  · exact True.intro
theorem am_s_l2 {op : Int64 → Int64 → Int64} : am_same μ (am_l2 q pc L S μ op) := by
  unfold am_l2; split
  · exact rfl
  · exact True.intro
theorem am_s_i1 {op : Int32 → Value} : am_same μ (am_i1 q pc L S μ op) := by
  unfold am_i1; split
  · exact rfl
  · exact True.intro
theorem am_s_sem (h : am_isp i = true) : am_same μ (am_sem i n inf q pc L S μ) := by
  cases i
  all_goals first
    | exact am_s_ldi
    | exact am_s_ldl
    | exact am_s_lda
    | exact am_s_lim am_s_sti
    | exact am_s_lim am_s_stl
    | exact am_s_lim am_s_sta
    | exact am_s_nx
    | exact am_s_ite am_s_nx am_s_nx
    | exact am_s_ite True.intro am_s_nx
    | exact am_s_i2
    | exact am_s_l2
    | exact am_s_i1
    | exact absurd (show false = true from h) (by decide)
    | skip
  all_goals
    unfold am_sem
    dsimp only
    split
    all_goals first
      | exact True.intro
      | exact am_s_b am_s_nx True.intro
      | exact am_s_nx
end AMS
def am_bk : Nat → am_F → am_M → Option am_F
  | 0, f, _ => some f
  | n + 1, f, μ => match am_fetch f.1 f.2.1 with
    | none => none
    | some (i, k, inf) => bif am_isp i then (match am_sem i k inf f.1 f.2.1 f.2.2.1 f.2.2.2 μ with
      | some (.inl x) => am_bk n x.1 μ
      | _ => none) else none
theorem am_bl : ∀ (n : Nat) {f f' : am_F} {μ : am_M}, am_bk n f μ = some f' → am_runs f μ = am_runs f' μ := by
  intro n
  induction n with
  | zero => intro f f' μ h; cases h; rfl
  | succ n ih =>
    intro f f' μ h
    rw [am_bk] at h
    cases hf : am_fetch f.1 f.2.1 with
    | none => rw [hf] at h; cases h
    | some y =>
      obtain ⟨i, k, inf⟩ := y
      rw [hf] at h
      dsimp only at h
      cases hp : am_isp i with
      | false => rw [hp] at h; cases h
      | true =>
        rw [hp] at h
        cases hs : am_sem i k inf f.1 f.2.1 f.2.2.1 f.2.2.2 μ with
        | none => rw [hs] at h; cases h
        | some z =>
          rw [hs] at h
          rcases z with z | z | z
          · obtain ⟨f1, μ1⟩ := z
            have hm := am_s_sem (n := k) (inf := inf) (q := f.1) (pc := f.2.1) (L := f.2.2.1) (S := f.2.2.2) (μ := μ) hp
            rw [hs] at hm
            have hm : μ1 = μ := hm
            subst hm
            obtain ⟨q, pc, L, S⟩ := f
            exact (am_g hf hs).trans (ih h)
          · cases h
          · cases h
section RR
variable {q pc n idx j : Nat} {i : Instr} {inf : am_I} {L S rest : List Value} {P : Prop} {a k ci : Nat} {ix : Int32}
variable {f f' : Nat → Nat → Int32} {g g' : Nat → Nat → Int64} {p p' : Nat → Nat → Option Nat} {d : Nat → Nat × Nat} {e : Nat × Nat}
theorem rr_gi {v : Int32} (h : am_fetch q pc = some (.getfield idx, 3, (ci, k, 0))) (hk : d a = (ci, n)) (hv : f a k = v) : am_runs (q, pc, L, .ref a :: S) (f, g, p, d, e) = am_runs (q, pc + 3, L, .int v :: S) (f, g, p, d, e) := by rw [← hv]; exact ar_gi h hk
theorem rr_gz {v : Int32} (h : am_fetch q pc = some (.getfield idx, 3, (ci, k, 3))) (hk : d a = (ci, n)) (hv : f a k = v) : am_runs (q, pc, L, .ref a :: S) (f, g, p, d, e) = am_runs (q, pc + 3, L, .int v :: S) (f, g, p, d, e) := by rw [← hv]; exact ar_gz h hk
theorem rr_gl {v : Int64} (h : am_fetch q pc = some (.getfield idx, 3, (ci, k, 1))) (hk : d a = (ci, n)) (hv : g a k = v) : am_runs (q, pc, L, .ref a :: S) (f, g, p, d, e) = am_runs (q, pc + 3, L, .long v :: S) (f, g, p, d, e) := by rw [← hv]; exact ar_gl h hk
theorem rr_pi {x : Int32} (h : am_fetch q pc = some (.putfield idx, 3, (ci, k, 0))) (hk : d a = (ci, n)) (hm : am_u f a k x = f') : am_runs (q, pc, L, .int x :: .ref a :: S) (f, g, p, d, e) = am_runs (q, pc + 3, L, S) (f', g, p, d, e) := by rw [← hm]; exact ar_pi h hk
theorem rr_pz {x : Int32} (h : am_fetch q pc = some (.putfield idx, 3, (ci, k, 3))) (hk : d a = (ci, n)) (hx : x = 0 ∨ x = 1) (hm : am_u f a k x = f') : am_runs (q, pc, L, .int x :: .ref a :: S) (f, g, p, d, e) = am_runs (q, pc + 3, L, S) (f', g, p, d, e) := by rw [← hm]; exact ar_pz h hk hx
theorem rr_pl {x : Int64} (h : am_fetch q pc = some (.putfield idx, 3, (ci, k, 1))) (hk : d a = (ci, n)) (hm : am_u g a k x = g') : am_runs (q, pc, L, .long x :: .ref a :: S) (f, g, p, d, e) = am_runs (q, pc + 3, L, S) (f, g', p, d, e) := by rw [← hm]; exact ar_pl h hk
theorem rr_pr {x : Nat} (h : am_fetch q pc = some (.putfield idx, 3, (ci, k, 2))) (hk : d a = (ci, n)) (hm : am_u p a k (some x) = p') : am_runs (q, pc, L, .ref x :: .ref a :: S) (f, g, p, d, e) = am_runs (q, pc + 3, L, S) (f, g, p', d, e) := by rw [← hm]; exact ar_pr h hk
theorem rr_ai {v : Int32} (h : am_fetch q pc = some (.iaload, 1, inf)) (hk : d a = (14, n)) (hx : ix = nI j) (hj : j < n) (hn : n < 2 ^ 31) (hv : f a j = v) : am_runs (q, pc, L, .int ix :: .ref a :: S) (f, g, p, d, e) = am_runs (q, pc + 1, L, .int v :: S) (f, g, p, d, e) := by rw [← hv]; exact ar_ai h hk (nj_out hx hj hn) (nj_cl hx hj hn)
theorem rr_al {v : Int64} (h : am_fetch q pc = some (.laload, 1, inf)) (hk : d a = (15, n)) (hx : ix = nI j) (hj : j < n) (hn : n < 2 ^ 31) (hv : g a j = v) : am_runs (q, pc, L, .int ix :: .ref a :: S) (f, g, p, d, e) = am_runs (q, pc + 1, L, .long v :: S) (f, g, p, d, e) := by rw [← hv]; exact ar_al h hk (nj_out hx hj hn) (nj_cl hx hj hn)
theorem rr_ab {v : Int32} (h : am_fetch q pc = some (.baload, 1, inf)) (hk : d a = (13, n)) (hx : ix = nI j) (hj : j < n) (hn : n < 2 ^ 31) (hv : f a j = v) : am_runs (q, pc, L, .int ix :: .ref a :: S) (f, g, p, d, e) = am_runs (q, pc + 1, L, .int v :: S) (f, g, p, d, e) := by rw [← hv]; exact ar_ab h hk (nj_out hx hj hn) (nj_cl hx hj hn)
theorem rr_az {v : Int32} (h : am_fetch q pc = some (.baload, 1, inf)) (hk : d a = (16, n)) (hx : ix = nI j) (hj : j < n) (hn : n < 2 ^ 31) (hv : f a j = v) : am_runs (q, pc, L, .int ix :: .ref a :: S) (f, g, p, d, e) = am_runs (q, pc + 1, L, .int v :: S) (f, g, p, d, e) := by rw [← hv]; exact ar_az h hk (nj_out hx hj hn) (nj_cl hx hj hn)
theorem rr_aa {r : Nat} (h : am_fetch q pc = some (.aaload, 1, inf)) (hk : d a = (17, n)) (hx : ix = nI j) (hj : j < n) (hn : n < 2 ^ 31) (hr : p a j = some r) : am_runs (q, pc, L, .int ix :: .ref a :: S) (f, g, p, d, e) = am_runs (q, pc + 1, L, .ref r :: S) (f, g, p, d, e) := ar_aa h hk (nj_out hx hj hn) (nj_cl hx hj hn) hr
theorem rr_si {x : Int32} (h : am_fetch q pc = some (.iastore, 1, inf)) (hk : d a = (14, n)) (hx : ix = nI j) (hj : j < n) (hn : n < 2 ^ 31) (hm : am_u f a j x = f') : am_runs (q, pc, L, .int x :: .int ix :: .ref a :: S) (f, g, p, d, e) = am_runs (q, pc + 1, L, S) (f', g, p, d, e) := by rw [← hm]; exact ar_si h hk (nj_out hx hj hn) (nj_cl hx hj hn)
theorem rr_sl {x : Int64} (h : am_fetch q pc = some (.lastore, 1, inf)) (hk : d a = (15, n)) (hx : ix = nI j) (hj : j < n) (hn : n < 2 ^ 31) (hm : am_u g a j x = g') : am_runs (q, pc, L, .long x :: .int ix :: .ref a :: S) (f, g, p, d, e) = am_runs (q, pc + 1, L, S) (f, g', p, d, e) := by rw [← hm]; exact ar_sl h hk (nj_out hx hj hn) (nj_cl hx hj hn)
theorem rr_sb {x : Int32} (h : am_fetch q pc = some (.bastore, 1, inf)) (hk : d a = (13, n)) (hx : ix = nI j) (hj : j < n) (hn : n < 2 ^ 31) (hm : am_u f a j (vp_nar .byte x) = f') : am_runs (q, pc, L, .int x :: .int ix :: .ref a :: S) (f, g, p, d, e) = am_runs (q, pc + 1, L, S) (f', g, p, d, e) := by rw [← hm]; exact ar_sb h hk (nj_out hx hj hn) (nj_cl hx hj hn)
theorem rr_sz {x : Int32} (h : am_fetch q pc = some (.bastore, 1, inf)) (hk : d a = (16, n)) (hx : ix = nI j) (hj : j < n) (hn : n < 2 ^ 31) (hm : am_u f a j (vp_nar .boolean x) = f') : am_runs (q, pc, L, .int x :: .int ix :: .ref a :: S) (f, g, p, d, e) = am_runs (q, pc + 1, L, S) (f', g, p, d, e) := by rw [← hm]; exact ar_sz h hk (nj_out hx hj hn) (nj_cl hx hj hn)
theorem rr_cpy {b n1 n2 m : Nat} (h : am_fetch q pc = some (.invokestatic idx, 3, (9003, 5, 0))) (hc : Nat.ble (am_cat S) 8 = true) (ha : d a = (14, n1)) (hb : d b = (14, n2)) (hab : a ≠ b) {nn : Int32} (hn : nn = nI m) (h1 : Nat.ble m n1 = true) (h2 : Nat.ble m n2 = true) (h3 : Nat.ble n1 1000 = true) (hm : va_up f b (va_cpy (f a) (f b) 0 0 m) = f') : am_runs (q, pc, L, .int nn :: .int 0 :: .ref b :: .int 0 :: .ref a :: S) (f, g, p, d, e) = am_runs (q, pc + 3, L, S) (f', g, p, d, e) := by
  have h1 := Nat.le_of_ble_eq_true h1
  have h2 := Nat.le_of_ble_eq_true h2
  have h3 := Nat.le_of_ble_eq_true h3
  subst hn
  have hz : (0 : Int32).toNatClampNeg = 0 := by decide
  have hc2 : (nI m).toNatClampNeg = m := nI_clamp (by omega)
  have := ar_cpy (f := f) (g := g) (p := p) (d := d) (e := e) (L := L) (S := S) (nn := nI m) (dp := 0) (sp := 0) h hc ha hb hab (nI_pos (by omega)) (by decide) (by decide) (by rw [hz, hc2]; omega) (by rw [hz, hc2]; omega)
  rw [hz, hc2] at this
  rw [this, hm]
theorem rr_in {j k : Nat} {v : Int} {c : Nat} (h : am_fetch q pc = some (.iinc j v, 3, inf)) (hk : L[j]? = some (.int (nI k))) (hv : Int32.ofInt v = nI c) {μ : am_M} : am_runs (q, pc, L, S) μ = am_runs (q, pc + 3, am_st L j (.int (nI (k + c))), S) μ := by
  rw [am_gin h hk hv, nI_add]
theorem rr_ad {x y : Int32} {a b : Nat} (h : am_fetch q pc = some (.iadd, 1, inf)) (hx : x = nI a) (hy : y = nI b) {μ : am_M} : am_runs (q, pc, L, .int y :: .int x :: S) μ = am_runs (q, pc + 1, L, .int (nI (a + b)) :: S) μ := by
  rw [← nj_a hx hy]
  exact am_g h rfl
theorem rr_mu {x y : Int32} {a b : Nat} (h : am_fetch q pc = some (.imul, 1, inf)) (hx : x = nI a) (hy : y = nI b) {μ : am_M} : am_runs (q, pc, L, .int y :: .int x :: S) μ = am_runs (q, pc + 1, L, .int (nI (a * b)) :: S) μ := by
  rw [← nj_m hx hy]
  exact am_g h rfl
theorem ri_eq {o : Int} {t : Nat} {x : Int32} (h : am_fetch q pc = some (.ifCond .eq o, 3, (t, 0, 0))) {μ : am_M} : am_runs (q, pc, L, .int x :: S) μ = if x = 0 then am_runs (q, t, L, S) μ else am_runs (q, pc + 3, L, S) μ := am_br h rfl
theorem rj_eq {o : Int} {t : Nat} {x y : Int32} (h : am_fetch q pc = some (.if_icmp .eq o, 3, (t, 0, 0))) {μ : am_M} : am_runs (q, pc, L, .int y :: .int x :: S) μ = if x = y then am_runs (q, t, L, S) μ else am_runs (q, pc + 3, L, S) μ := am_br h rfl
theorem ri_ne {o : Int} {t : Nat} {x : Int32} (h : am_fetch q pc = some (.ifCond .ne o, 3, (t, 0, 0))) {μ : am_M} : am_runs (q, pc, L, .int x :: S) μ = if x = 0 then am_runs (q, pc + 3, L, S) μ else am_runs (q, t, L, S) μ := am_br h rfl
theorem rj_ne {o : Int} {t : Nat} {x y : Int32} (h : am_fetch q pc = some (.if_icmp .ne o, 3, (t, 0, 0))) {μ : am_M} : am_runs (q, pc, L, .int y :: .int x :: S) μ = if x = y then am_runs (q, pc + 3, L, S) μ else am_runs (q, t, L, S) μ := am_br h rfl
theorem ri_lt {o : Int} {t : Nat} {x : Int32} (h : am_fetch q pc = some (.ifCond .lt o, 3, (t, 0, 0))) {μ : am_M} : am_runs (q, pc, L, .int x :: S) μ = if x < 0 then am_runs (q, t, L, S) μ else am_runs (q, pc + 3, L, S) μ := am_br h rfl
theorem rj_lt {o : Int} {t : Nat} {x y : Int32} (h : am_fetch q pc = some (.if_icmp .lt o, 3, (t, 0, 0))) {μ : am_M} : am_runs (q, pc, L, .int y :: .int x :: S) μ = if x < y then am_runs (q, t, L, S) μ else am_runs (q, pc + 3, L, S) μ := am_br h rfl
theorem ri_ge {o : Int} {t : Nat} {x : Int32} (h : am_fetch q pc = some (.ifCond .ge o, 3, (t, 0, 0))) {μ : am_M} : am_runs (q, pc, L, .int x :: S) μ = if 0 ≤ x then am_runs (q, t, L, S) μ else am_runs (q, pc + 3, L, S) μ := am_br h rfl
theorem rj_ge {o : Int} {t : Nat} {x y : Int32} (h : am_fetch q pc = some (.if_icmp .ge o, 3, (t, 0, 0))) {μ : am_M} : am_runs (q, pc, L, .int y :: .int x :: S) μ = if y ≤ x then am_runs (q, t, L, S) μ else am_runs (q, pc + 3, L, S) μ := am_br h rfl
theorem ri_gt {o : Int} {t : Nat} {x : Int32} (h : am_fetch q pc = some (.ifCond .gt o, 3, (t, 0, 0))) {μ : am_M} : am_runs (q, pc, L, .int x :: S) μ = if 0 < x then am_runs (q, t, L, S) μ else am_runs (q, pc + 3, L, S) μ := am_br h rfl
theorem rj_gt {o : Int} {t : Nat} {x y : Int32} (h : am_fetch q pc = some (.if_icmp .gt o, 3, (t, 0, 0))) {μ : am_M} : am_runs (q, pc, L, .int y :: .int x :: S) μ = if y < x then am_runs (q, t, L, S) μ else am_runs (q, pc + 3, L, S) μ := am_br h rfl
theorem ri_le {o : Int} {t : Nat} {x : Int32} (h : am_fetch q pc = some (.ifCond .le o, 3, (t, 0, 0))) {μ : am_M} : am_runs (q, pc, L, .int x :: S) μ = if x ≤ 0 then am_runs (q, t, L, S) μ else am_runs (q, pc + 3, L, S) μ := am_br h rfl
theorem rj_le {o : Int} {t : Nat} {x y : Int32} (h : am_fetch q pc = some (.if_icmp .le o, 3, (t, 0, 0))) {μ : am_M} : am_runs (q, pc, L, .int y :: .int x :: S) μ = if x ≤ y then am_runs (q, t, L, S) μ else am_runs (q, pc + 3, L, S) μ := am_br h rfl
theorem am_ip {P : Prop} [Decidable P] {X A B : Option am_X} (h : X = if P then A else B) (g : P) : X = A := h.trans (if_pos g)
theorem am_in {P : Prop} [Decidable P] {X A B : Option am_X} (h : X = if P then A else B) (g : ¬ P) : X = B := h.trans (if_neg g)
theorem rr_rm {x y : Int32} (h : am_fetch q pc = some (.irem, 1, inf)) (hy : ¬ y = 0) {μ : am_M} : am_runs (q, pc, L, .int y :: .int x :: S) μ = am_runs (q, pc + 1, L, .int (jrm x y) :: S) μ := am_gn h hy rfl
theorem rr_rml {x y : Int64} (h : am_fetch q pc = some (.lrem, 1, inf)) (hy : ¬ y = 0) {μ : am_M} : am_runs (q, pc, L, .long y :: .long x :: S) μ = am_runs (q, pc + 1, L, .long (jrml x y) :: S) μ := am_gn h hy rfl
end RR
