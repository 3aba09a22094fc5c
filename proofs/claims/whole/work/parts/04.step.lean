/-! ONE STEP of the small machine, its runs -/
def am_slen (j : Nat) : Nat := (am_strs.getD j []).length
def am_sch (j i : Nat) : Nat := (am_strs.getD j []).getD i 0
/-- what isn't a method of the tables: Object's constructor, length and charAt of a String constant, arraycopy of ints, the law's own led -/
def am_led (μ : am_M) (x : Nat) (i : Int32) (k : Nat) (n : Int32) : Nat → Option Nat
  | 0 => none
  | f + 1 => match μ.2.2.1 x 3 with
    | none => none
    | some t => match μ.2.2.1 x 4 with
      | none => none
      | some w => if nI k < μ.1 t 5 then (if μ.1 w 1 >>> (nI k &&& 31) &&& 1 = 0 then (if n = i then some k else am_led μ x i (k + 1) (n + 1) f) else am_led μ x i (k + 1) n f) else none
def am_ledok (μ : am_M) (x : Nat) : Bool := match μ.2.2.1 x 3, μ.2.2.1 x 4 with
  | some t, some w => decide ((μ.2.2.2.1 t).1 = 4 ∧ μ.1 t 5 ≤ 8) && decide ((μ.2.2.2.1 w).1 = 6)
  | _, _ => false
def am_ext (q pc : Nat) (L S : List Value) (μ : am_M) (c : Nat) : am_R := match c with
  | 9000 => am_oini q pc L S μ
  | 9001 => (match S with
    | .float j :: S => am_b (am_cat S ≤ 8 ∧ j.toNat < 47) (am_nx (q, pc + 3, L, .int (nI (am_slen j.toNat)) :: S) μ) none
    | _ => none)
  | 9002 => (match S with
    | .int i :: .float j :: S => am_b (am_cat S ≤ 8 ∧ j.toNat < 47 ∧ am_out i (am_slen j.toNat) = false) (am_nx (q, pc + 3, L, .int (nI (am_sch j.toNat i.toNatClampNeg)) :: S) μ) none
    | _ => none)
  | 9003 => (match S with
    | .int n :: .int dp :: .ref d :: .int sp :: .ref a :: S => am_b (am_cat S ≤ 8 ∧ (μ.2.2.2.1 a).1 = 14 ∧ (μ.2.2.2.1 d).1 = 14 ∧ a ≠ d ∧ ¬ n < 0 ∧ ¬ sp < 0 ∧ ¬ dp < 0 ∧ sp.toNatClampNeg + n.toNatClampNeg ≤ (μ.2.2.2.1 a).2 ∧ dp.toNatClampNeg + n.toNatClampNeg ≤ (μ.2.2.2.1 d).2)
        (am_nx (q, pc + 3, L, S) (va_up μ.1 d (va_cpy (μ.1 a) (μ.1 d) sp.toNatClampNeg dp.toNatClampNeg n.toNatClampNeg), μ.2)) none
    | _ => none)
  | 9005 => (match S with
    | .int y :: .int x :: S => am_b (am_cat S ≤ 8) (am_nx (q, pc + 3, L, .int (if x < y then y else x) :: S) μ) none
    | _ => none)
  | 9006 => (match S with
    | .int y :: .int x :: S => am_b (am_cat S ≤ 8) (am_nx (q, pc + 3, L, .int (if y < x then y else x) :: S) μ) none
    | _ => none)
  | 9004 => (match S with
    | .ref d :: .int i :: .ref x :: S => am_b (am_cat S ≤ 8 ∧ (μ.2.2.2.1 x).1 = 11 ∧ (μ.2.2.2.1 d) = (15, 1) ∧ μ.2.2.2.2.1 < 600000 ∧ am_ledok μ x = true)
        (match am_led μ x i 0 0 9 with
          | some k => am_nx (q, pc + 3, L, .int 0 :: S) (am_sl μ d 0 (nI k).toInt64)
          | none => am_nx (q, pc + 3, L, .int 1 :: S) (am_jk μ 6)) none
    | _ => none)
  | _ => none
/-- a store within the locals -/
def am_lim (k : Nat) (L : List Value) (r : am_R) : am_R := bif Nat.blt k L.length then r else none
def am_sem (i : Instr) (n : Nat) (inf : am_I) (q pc : Nat) (L S : List Value) (μ : am_M) : am_R := match i with
  | .iload_n k => am_ldi q pc n k.val L S μ
  | .iload k => am_ldi q pc n k L S μ
  | .lload_n k => am_ldl q pc n k.val L S μ
  | .lload k => am_ldl q pc n k L S μ
  | .aload_n k => am_lda q pc n k.val L S μ
  | .aload k => am_lda q pc n k L S μ
  | .istore_n k => am_lim k.val L (am_sti q pc n k.val L S μ)
  | .istore k => am_lim k L (am_sti q pc n k L S μ)
  | .lstore_n k => am_lim (k.val + 1) L (am_stl q pc n k.val L S μ)
  | .lstore k => am_lim (k + 1) L (am_stl q pc n k L S μ)
  | .astore_n k => am_lim k.val L (am_sta q pc n k.val L S μ)
  | .astore k => am_lim k L (am_sta q pc n k L S μ)
  | .iconst v => am_nx (q, pc + 1, L, .int (Int32.ofInt v) :: S) μ
  | .lconst v => am_nx (q, pc + 1, L, .long (Int64.ofNat v.val) :: S) μ
  | .bipush v => am_nx (q, pc + 2, L, .int (Int8.ofInt v).toInt32 :: S) μ
  | .sipush v => am_nx (q, pc + 3, L, .int (Int16.ofInt v).toInt32 :: S) μ
  | .ldc _ => if inf.2.2 = 7 then am_nx (q, pc + 2, L, .float (UInt32.ofNat inf.1) :: S) μ else am_nx (q, pc + 2, L, .int (nI inf.1) :: S) μ
  | .ldc_w _ => if inf.2.2 = 7 then am_nx (q, pc + 3, L, .float (UInt32.ofNat inf.1) :: S) μ else am_nx (q, pc + 3, L, .int (nI inf.1) :: S) μ
  | .ldc2_w _ => am_nx (q, pc + 3, L, .long (if inf.2.1 = 1 then -(lN inf.1) else lN inf.1) :: S) μ
  | .iadd => am_i2 q pc L S μ (fun x y => x + y)
  | .isub => am_i2 q pc L S μ (fun x y => x - y)
  | .imul => am_i2 q pc L S μ (fun x y => x * y)
  | .iand => am_i2 q pc L S μ (fun x y => x &&& y)
  | .ior => am_i2 q pc L S μ (fun x y => x ||| y)
  | .ixor => am_i2 q pc L S μ (fun x y => x ^^^ y)
  | .ishl => am_i2 q pc L S μ (fun x y => x <<< (y &&& 31))
  | .ishr => am_i2 q pc L S μ (fun x y => x >>> (y &&& 31))
  | .iushr => am_i2 q pc L S μ (fun x y => (x.toUInt32 >>> (y.toUInt32 &&& Int32.toUInt32 31)).toInt32)
  | .idiv => (match S with
    | .int y :: .int x :: S => am_b (y = 0) none (am_nx (q, pc + 1, L, .int (x / y) :: S) μ)
    | _ => none)
  | .irem => (match S with
    | .int y :: .int x :: S => am_b (y = 0) none (am_nx (q, pc + 1, L, .int (x - x / y * y) :: S) μ)
    | _ => none)
  | .ladd => am_l2 q pc L S μ (fun x y => x + y)
  | .lsub => am_l2 q pc L S μ (fun x y => x - y)
  | .lmul => am_l2 q pc L S μ (fun x y => x * y)
  | .ldiv => (match S with
    | .long y :: .long x :: S => am_b (y = 0) none (am_nx (q, pc + 1, L, .long (x / y) :: S) μ)
    | _ => none)
  | .lrem => (match S with
    | .long y :: .long x :: S => am_b (y = 0) none (am_nx (q, pc + 1, L, .long (x - x / y * y) :: S) μ)
    | _ => none)
  | .lcmp => (match S with
    | .long y :: .long x :: S => am_nx (q, pc + 1, L, .int (lg_cmp x y) :: S) μ
    | _ => none)
  | .i2l => am_i1 q pc L S μ (fun x => .long x.toInt64)
  | .i2b => am_i1 q pc L S μ (fun x => .int x.toInt8.toInt32)
  | .l2i => (match S with
    | .long x :: S => am_nx (q, pc + 1, L, .int x.toInt32 :: S) μ
    | _ => none)
  | .dup => (match S with
    | v :: S => am_b (v.category = 1) (am_nx (q, pc + 1, L, v :: v :: S) μ) none
    | _ => none)
  | .dup2 => (match S with
    | v :: w :: S => am_b (v.category = 1 ∧ w.category = 1) (am_nx (q, pc + 1, L, v :: w :: v :: w :: S) μ) none
    | _ => none)
  | .pop => (match S with
    | v :: S => am_b (v.category = 1) (am_nx (q, pc + 1, L, S) μ) none
    | _ => none)
  | .iinc k v => (match L[k]? with
    | some (.int x) => am_nx (q, pc + 3, am_st L k (.int (x + Int32.ofInt v)), S) μ
    | _ => none)
  | .goto _ => am_nx (q, inf.1, L, S) μ
  | .ifCond c _ => (match S with
    | .int x :: S => am_ifc q pc L S μ c x 0 inf.1
    | _ => none)
  | .if_icmp c _ => (match S with
    | .int y :: .int x :: S => am_ifc q pc L S μ c x y inf.1
    | _ => none)
  | .tableswitch d lo hi offs => (match S with
    | .int x :: S => am_sw q L S μ (am_tsw pc d lo hi offs x)
    | _ => none)
  | .lookupswitch d ps => (match S with
    | .int x :: S => am_sw q L S μ (am_lsw pc d ps x)
    | _ => none)
  | .getfield _ => am_getf q pc L S μ inf
  | .putfield _ => am_putf q pc L S μ inf
  | .iaload => am_iald q pc L S μ
  | .laload => am_lald q pc L S μ
  | .baload => am_bald q pc L S μ
  | .aaload => am_aald q pc L S μ
  | .iastore => am_iast q pc L S μ
  | .lastore => am_last q pc L S μ
  | .bastore => am_bast q pc L S μ
  | .aastore => am_aast q pc L S μ
  | .arraylength => am_alen q pc L S μ
  | .new _ => am_new q pc 3 L S μ inf.1
  | .newarray _ => am_newa q pc 2 L S μ inf.1
  | .anewarray _ => am_newa q pc 3 L S μ inf.1
  | .invokestatic _ => if inf.1 < 9000 then am_calls q pc L S μ inf.1 inf.2.1 else am_ext q pc L S μ inf.1
  | .invokespecial _ => if inf.1 < 9000 then am_callv q pc L S μ inf.1 inf.2.1 13 else am_ext q pc L S μ inf.1
  | .invokevirtual _ => if inf.1 < 9000 then am_callv q pc L S μ inf.1 inf.2.1 inf.2.2 else am_ext q pc L S μ inf.1
  | .ireturn => (match S with
    | [.int v] => am_b (inf.1 = 0 ∨ v = 0 ∨ v = 1) (am_rt (some (.int v)) μ) none
    | _ => none)
  | .lreturn => (match S with
    | [.long v] => am_rt (some (.long v)) μ
    | _ => none)
  | .areturn => (match S with
    | [.ref v] => am_rt (some (.ref v)) μ
    | _ => none)
  | .return_ => (match S with
    | [] => am_rt none μ
    | _ => none)
  | _ => none
def am_leb (μ μ' : am_M) : Bool := decide (μ.2.2.2.2.1 ≤ μ'.2.2.2.2.1) && decide (μ.2.2.2.2.2 ≤ μ'.2.2.2.2.2)
def am_isret (i : Instr) : Bool := match i with
  | .ireturn | .lreturn | .areturn | .return_ => true
  | _ => false
def am_isinv (i : Instr) : Bool := match i with
  | .invokestatic _ | .invokespecial _ | .invokevirtual _ => true
  | _ => false
/-- a step may not forget cells, gives a callee no more than its locals hold; returns and calls are by their instructions alone -/
def am_chk (i : Instr) (μ : am_M) (r : am_R) : am_R := match r with
  | some (.inl (f, μ')) => bif am_leb μ μ' then some (.inl (f, μ')) else none
  | some (.inr (.inl (v, μ'))) => bif am_leb μ μ' && am_isret i then some (.inr (.inl (v, μ'))) else none
  | some (.inr (.inr (c, as, f, μ'))) => bif am_leb μ μ' && (am_isinv i && Nat.ble (am_lc as).length (am_ms c).2.2.1) then some (.inr (.inr (c, as, f, μ'))) else none
  | none => none
def am_step (f : am_F) (μ : am_M) : am_R := match am_fetch f.1 f.2.1 with
  | none => none
  | some (i, n, inf) => am_chk i μ (am_sem i n inf f.1 f.2.1 f.2.2.1 f.2.2.2 μ)
def am_en (c : Nat) (as : List Value) : am_F := (c, 0, am_pad (am_lc as) (am_ms c).2.2.1, [])
def am_pu (f : am_F) (v : Option Value) : am_F := (f.1, f.2.1, f.2.2.1, v.toList ++ f.2.2.2)
def am_run : Nat → am_F → am_M → Option am_X
  | 0, _, _ => none
  | n + 1, f, μ => match am_step f μ with
    | none => none
    | some (.inl x) => am_run n x.1 x.2
    | some (.inr (.inl x)) => some x
    | some (.inr (.inr x)) => match am_run n (am_en x.1 x.2.1) x.2.2.2 with
      | none => none
      | some y => am_run n (am_pu x.2.2.1 y.1) y.2
theorem am_run_mono : ∀ (n : Nat) (f : am_F) (μ : am_M) (r : am_X), am_run n f μ = some r → am_run (n + 1) f μ = some r := by
  intro n
  induction n with
  | zero => intro f μ r h; simp [am_run] at h
  | succ n ih =>
    intro f μ r h
    rw [am_run] at h ⊢
    cases hs : am_step f μ with
    | none => rw [hs] at h; exact absurd h (by simp)
    | some x =>
      rw [hs] at h
      rcases x with x | x | x
      · exact ih _ _ _ h
      · exact h
      · dsimp only at h ⊢
        cases hc : am_run n (am_en x.1 x.2.1) x.2.2.2 with
        | none => rw [hc] at h; exact absurd h (by simp)
        | some y =>
          rw [hc] at h
          rw [ih _ _ _ hc]
          exact ih _ _ _ h
theorem am_run_le {n k : Nat} (h : n ≤ k) {f : am_F} {μ : am_M} {r : am_X} (hr : am_run n f μ = some r) : am_run k f μ = some r := by
  induction h with
  | refl => exact hr
  | step _ ih => exact am_run_mono _ _ _ _ ih

noncomputable def am_runs (f : am_F) (μ : am_M) : Option am_X := @dite _ (∃ r, ∃ n, am_run n f μ = some r) (Classical.propDecidable _) (fun h => some (Classical.choose h)) (fun _ => none)
theorem am_runs_iff {f : am_F} {μ : am_M} {r : am_X} : am_runs f μ = some r ↔ ∃ n, am_run n f μ = some r := by
  unfold am_runs
  split
  · next h =>
    constructor
    · intro e
      have := Classical.choose_spec h
      rw [Option.some.inj e] at this
      exact this
    · rintro ⟨n, hn⟩
      obtain ⟨k, hk⟩ := Classical.choose_spec h
      have h1 := am_run_le (Nat.le_max_left n k) hn
      have h2 := am_run_le (Nat.le_max_right n k) hk
      rw [h1] at h2
      exact h2.symm
  · next h =>
    constructor
    · intro e; cases e
    · rintro ⟨n, hn⟩; exact absurd ⟨r, n, hn⟩ h
noncomputable def am_fin (r : am_R) : Option am_X := match r with
  | none => none
  | some (.inl x) => am_runs x.1 x.2
  | some (.inr (.inl x)) => some x
  | some (.inr (.inr x)) => (am_runs (am_en x.1 x.2.1) x.2.2.2).bind fun y => am_runs (am_pu x.2.2.1 y.1) y.2
theorem am_unf (f : am_F) (μ : am_M) : am_runs f μ = am_fin (am_step f μ) := by
  apply Option.ext
  intro r
  rw [am_runs_iff]
  constructor
  · rintro ⟨n, hn⟩
    cases n with
    | zero => simp [am_run] at hn
    | succ n =>
      rw [am_run] at hn
      cases hs : am_step f μ with
      | none => rw [hs] at hn; exact absurd hn (by simp)
      | some x =>
        rw [hs] at hn
        rcases x with x | x | x
        · exact am_runs_iff.mpr ⟨n, hn⟩
        · exact hn
        · dsimp only at hn
          cases hc : am_run n (am_en x.1 x.2.1) x.2.2.2 with
          | none => rw [hc] at hn; exact absurd hn (by simp)
          | some y =>
            rw [hc] at hn
            show (am_runs (am_en x.1 x.2.1) x.2.2.2).bind _ = some r
            rw [am_runs_iff.mpr ⟨n, hc⟩]
            exact am_runs_iff.mpr ⟨n, hn⟩
  · intro h
    cases hs : am_step f μ with
    | none => rw [hs] at h; cases h
    | some x =>
      rw [hs] at h
      rcases x with x | x | x
      · obtain ⟨n, hn⟩ := am_runs_iff.mp h
        refine ⟨n + 1, ?_⟩
        rw [am_run, hs]
        exact hn
      · refine ⟨1, ?_⟩
        rw [am_run, hs]
        exact h
      · have h : (am_runs (am_en x.1 x.2.1) x.2.2.2).bind (fun y => am_runs (am_pu x.2.2.1 y.1) y.2) = some r := h
        cases hc : am_runs (am_en x.1 x.2.1) x.2.2.2 with
        | none => rw [hc] at h; cases h
        | some y =>
          rw [hc] at h
          obtain ⟨n, hn⟩ := am_runs_iff.mp hc
          obtain ⟨k, hk⟩ := am_runs_iff.mp h
          refine ⟨max n k + 1, ?_⟩
          rw [am_run, hs]
          dsimp only
          rw [am_run_le (Nat.le_max_left n k) hn]
          exact am_run_le (Nat.le_max_right n k) hk
