/-! THE SMALL MACHINE. A memory: int cells, long cells, reference cells (address, place), the kind and length of each address, how many addresses, how many slots.
Kinds 0 .. 12: objects of class vwCl[k]; 13 .. 17: arrays of byte, int, long, boolean, Now; 18: the script (at the address am_SC); other kinds: nothing is known.
Values: .ref a the own address a; .float j the String constant number j; .retAddr 1 the script; .retAddr 0 nothing known. -/
abbrev am_M : Type := (Nat → Nat → Int32) × (Nat → Nat → Int64) × (Nat → Nat → Option Nat) × (Nat → Nat × Nat) × Nat × Nat
abbrev am_F : Type := Nat × Nat × List Value × List Value
abbrev am_X : Type := Option Value × am_M
abbrev am_R : Type := Option ((am_F × am_M) ⊕ (am_X ⊕ (Nat × List Value × am_F × am_M)))
abbrev am_I : Type := Nat × Nat × Nat
def am_SC : Nat := 1000000000
def am_u {α : Type} (f : Nat → Nat → α) (a k : Nat) (v : α) : Nat → Nat → α := va_up f a (va_up (f a) k v)
def am_si (μ : am_M) (a k : Nat) (x : Int32) : am_M := (am_u μ.1 a k x, μ.2)
def am_sl (μ : am_M) (a k : Nat) (x : Int64) : am_M := (μ.1, am_u μ.2.1 a k x, μ.2.2)
def am_sr (μ : am_M) (a k : Nat) (x : Option Nat) : am_M := (μ.1, μ.2.1, am_u μ.2.2.1 a k x, μ.2.2.2)
def am_nw (μ : am_M) (k len sl : Nat) : am_M := (va_up μ.1 μ.2.2.2.2.1 (fun _ => 0), va_up μ.2.1 μ.2.2.2.2.1 (fun _ => 0), va_up μ.2.2.1 μ.2.2.2.2.1 (fun _ => none), va_up μ.2.2.2.1 μ.2.2.2.2.1 (k, len), μ.2.2.2.2.1 + 1, μ.2.2.2.2.2 + sl)
/-- a cell of which nothing is known (an exception) -/
def am_jk (μ : am_M) (sl : Nat) : am_M := (μ.1, μ.2.1, μ.2.2.1, va_up μ.2.2.2.1 μ.2.2.2.2.1 (99, 0), μ.2.2.2.2.1 + 1, μ.2.2.2.2.2 + sl)
def am_cp (f : Nat → Int32) (g : Nat → Int32) (sp dp n : Nat) : Nat → Int32 := va_cpy f g sp dp n
/-- locals: a store at i -/
def am_st : List Value → Nat → Value → List Value
  | [], _, _ => []
  | _ :: t, 0, v => v :: t
  | u :: t, 1, v => (if u.category = 2 then .retAddr 0 else u) :: am_st t 0 v
  | u :: t, i + 2, v => u :: am_st t (i + 1) v
/-- locals: a store of a long at i -/
def am_st2 (L : List Value) (i : Nat) (v : Value) : List Value := (am_st L i v).set (i + 1) (.retAddr 0)
def am_lc : List Value → List Value
  | [] => []
  | v :: t => if v.category = 2 then v :: .retAddr 0 :: am_lc t else v :: am_lc t
def am_pad (L : List Value) (n : Nat) : List Value := L ++ List.replicate (n - L.length) (.retAddr 0)
def am_find {α : Type} : List (Nat × α) → Nat → Option α
  | [], _ => none
  | (k, a) :: t, n => bif k.beq n then some a else am_find t n
def am_nx (f : am_F) (μ : am_M) : am_R := some (.inl (f, μ))
def am_rt (v : Option Value) (μ : am_M) : am_R := some (.inr (.inl (v, μ)))
def am_ca (c : Nat) (as : List Value) (f : am_F) (μ : am_M) : am_R := some (.inr (.inr (c, as, f, μ)))
def am_cat (S : List Value) : Nat := (S.map fun v => v.category).sum
def am_b (b : Prop) [Decidable b] (x y : am_R) : am_R := if b then x else y
def am_out (i : Int32) (n : Nat) : Bool := decide (i < 0) || decide (n ≤ i.toNatClampNeg)
/-- loads: of an int, a long, a reference of whatever sort -/
def am_ldi (q pc n k : Nat) (L S : List Value) (μ : am_M) : am_R := match L[k]? with
  | some (.int x) => am_nx (q, pc + n, L, .int x :: S) μ
  | _ => none
def am_ldl (q pc n k : Nat) (L S : List Value) (μ : am_M) : am_R := match L[k]? with
  | some (.long x) => am_nx (q, pc + n, L, .long x :: S) μ
  | _ => none
def am_lda (q pc n k : Nat) (L S : List Value) (μ : am_M) : am_R := match L[k]? with
  | some (.ref x) => am_nx (q, pc + n, L, .ref x :: S) μ
  | some (.float x) => am_nx (q, pc + n, L, .float x :: S) μ
  | some (.retAddr 1) => am_nx (q, pc + n, L, .retAddr 1 :: S) μ
  | _ => none
def am_sti (q pc n k : Nat) (L S : List Value) (μ : am_M) : am_R := match S with
  | .int x :: S => am_nx (q, pc + n, am_st L k (.int x), S) μ
  | _ => none
def am_stl (q pc n k : Nat) (L S : List Value) (μ : am_M) : am_R := match S with
  | .long x :: S => am_nx (q, pc + n, am_st2 L k (.long x), S) μ
  | _ => none
def am_sta (q pc n k : Nat) (L S : List Value) (μ : am_M) : am_R := match S with
  | .ref x :: S => am_nx (q, pc + n, am_st L k (.ref x), S) μ
  | _ => none
def am_i2 (q pc : Nat) (L S : List Value) (μ : am_M) (op : Int32 → Int32 → Int32) : am_R := match S with
  | .int y :: .int x :: S => am_nx (q, pc + 1, L, .int (op x y) :: S) μ
  | _ => none
def am_l2 (q pc : Nat) (L S : List Value) (μ : am_M) (op : Int64 → Int64 → Int64) : am_R := match S with
  | .long y :: .long x :: S => am_nx (q, pc + 1, L, .long (op x y) :: S) μ
  | _ => none
def am_i1 (q pc : Nat) (L S : List Value) (μ : am_M) (op : Int32 → Value) : am_R := match S with
  | .int x :: S => am_nx (q, pc + 1, L, op x :: S) μ
  | _ => none
def am_ifc (q pc : Nat) (L S : List Value) (μ : am_M) (c : ClassFile.Cond) (x y : Int32) (t : Nat) : am_R := match c with
  | .eq => am_b (x = y) (am_nx (q, t, L, S) μ) (am_nx (q, pc + 3, L, S) μ)
  | .ne => am_b (x = y) (am_nx (q, pc + 3, L, S) μ) (am_nx (q, t, L, S) μ)
  | .lt => am_b (x < y) (am_nx (q, t, L, S) μ) (am_nx (q, pc + 3, L, S) μ)
  | .ge => am_b (y ≤ x) (am_nx (q, t, L, S) μ) (am_nx (q, pc + 3, L, S) μ)
  | .gt => am_b (y < x) (am_nx (q, t, L, S) μ) (am_nx (q, pc + 3, L, S) μ)
  | .le => am_b (x ≤ y) (am_nx (q, t, L, S) μ) (am_nx (q, pc + 3, L, S) μ)
def am_getf (q pc : Nat) (L S : List Value) (μ : am_M) (inf : am_I) : am_R := match S with
  | .ref a :: S => am_b ((μ.2.2.2.1 a).1 = inf.1) (match inf.2.2 with
    | 1 => am_nx (q, pc + 3, L, .long (μ.2.1 a inf.2.1) :: S) μ
    | 2 => (match μ.2.2.1 a inf.2.1 with
      | some r => am_nx (q, pc + 3, L, .ref r :: S) μ
      | none => none)
    | _ => am_nx (q, pc + 3, L, .int (μ.1 a inf.2.1) :: S) μ) none
  | _ => none
def am_putf (q pc : Nat) (L S : List Value) (μ : am_M) (inf : am_I) : am_R := match S with
  | .int x :: .ref a :: S => am_b ((μ.2.2.2.1 a).1 = inf.1 ∧ (inf.2.2 = 0 ∨ (inf.2.2 = 3 ∧ (x = 0 ∨ x = 1)))) (am_nx (q, pc + 3, L, S) (am_si μ a inf.2.1 x)) none
  | .long x :: .ref a :: S => am_b ((μ.2.2.2.1 a).1 = inf.1 ∧ inf.2.2 = 1) (am_nx (q, pc + 3, L, S) (am_sl μ a inf.2.1 x)) none
  | .ref r :: .ref a :: S => am_b ((μ.2.2.2.1 a).1 = inf.1 ∧ inf.2.2 = 2) (am_nx (q, pc + 3, L, S) (am_sr μ a inf.2.1 (some r))) none
  | _ => none
def am_iald (q pc : Nat) (L S : List Value) (μ : am_M) : am_R := match S with
  | .int i :: .ref a :: S => am_b ((μ.2.2.2.1 a).1 = 14 ∧ am_out i (μ.2.2.2.1 a).2 = false) (am_nx (q, pc + 1, L, .int (μ.1 a i.toNatClampNeg) :: S) μ) none
  | .int i :: .retAddr 1 :: S => am_b (am_out i (μ.2.2.2.1 am_SC).2 = false) (am_nx (q, pc + 1, L, .int (μ.1 am_SC i.toNatClampNeg) :: S) μ) none
  | _ => none
def am_lald (q pc : Nat) (L S : List Value) (μ : am_M) : am_R := match S with
  | .int i :: .ref a :: S => am_b ((μ.2.2.2.1 a).1 = 15 ∧ am_out i (μ.2.2.2.1 a).2 = false) (am_nx (q, pc + 1, L, .long (μ.2.1 a i.toNatClampNeg) :: S) μ) none
  | _ => none
def am_bald (q pc : Nat) (L S : List Value) (μ : am_M) : am_R := match S with
  | .int i :: .ref a :: S => am_b (((μ.2.2.2.1 a).1 = 13 ∨ (μ.2.2.2.1 a).1 = 16) ∧ am_out i (μ.2.2.2.1 a).2 = false) (am_nx (q, pc + 1, L, .int (μ.1 a i.toNatClampNeg) :: S) μ) none
  | _ => none
def am_aald (q pc : Nat) (L S : List Value) (μ : am_M) : am_R := match S with
  | .int i :: .ref a :: S => am_b ((μ.2.2.2.1 a).1 = 17 ∧ am_out i (μ.2.2.2.1 a).2 = false) (match μ.2.2.1 a i.toNatClampNeg with
    | some r => am_nx (q, pc + 1, L, .ref r :: S) μ
    | none => none) none
  | _ => none
def am_iast (q pc : Nat) (L S : List Value) (μ : am_M) : am_R := match S with
  | .int x :: .int i :: .ref a :: S => am_b ((μ.2.2.2.1 a).1 = 14 ∧ am_out i (μ.2.2.2.1 a).2 = false) (am_nx (q, pc + 1, L, S) (am_si μ a i.toNatClampNeg x)) none
  | _ => none
def am_last (q pc : Nat) (L S : List Value) (μ : am_M) : am_R := match S with
  | .long x :: .int i :: .ref a :: S => am_b ((μ.2.2.2.1 a).1 = 15 ∧ am_out i (μ.2.2.2.1 a).2 = false) (am_nx (q, pc + 1, L, S) (am_sl μ a i.toNatClampNeg x)) none
  | _ => none
def am_bast (q pc : Nat) (L S : List Value) (μ : am_M) : am_R := match S with
  | .int x :: .int i :: .ref a :: S => am_b ((μ.2.2.2.1 a).1 = 13 ∧ am_out i (μ.2.2.2.1 a).2 = false) (am_nx (q, pc + 1, L, S) (am_si μ a i.toNatClampNeg (vp_nar .byte x)))
      (am_b ((μ.2.2.2.1 a).1 = 16 ∧ am_out i (μ.2.2.2.1 a).2 = false) (am_nx (q, pc + 1, L, S) (am_si μ a i.toNatClampNeg (vp_nar .boolean x))) none)
  | _ => none
def am_aast (q pc : Nat) (L S : List Value) (μ : am_M) : am_R := match S with
  | .ref r :: .int i :: .ref a :: S => am_b ((μ.2.2.2.1 a).1 = 17 ∧ (μ.2.2.2.1 r).1 = 6 ∧ am_out i (μ.2.2.2.1 a).2 = false) (am_nx (q, pc + 1, L, S) (am_sr μ a i.toNatClampNeg (some r))) none
  | _ => none
def am_alen (q pc : Nat) (L S : List Value) (μ : am_M) : am_R := match S with
  | .ref a :: S => am_b (12 < (μ.2.2.2.1 a).1 ∧ (μ.2.2.2.1 a).1 < 18) (am_nx (q, pc + 1, L, .int (nI (μ.2.2.2.1 a).2) :: S) μ) none
  | .retAddr 1 :: S => am_nx (q, pc + 1, L, .int (nI (μ.2.2.2.1 am_SC).2) :: S) μ
  | _ => none
/-- how many fields -/
def am_N (k : Nat) : Nat := ([3, 7, 13, 5, 15, 11, 8, 2, 7, 5, 5, 13, 54] : List Nat).getD k 0
def am_new (q pc n : Nat) (L S : List Value) (μ : am_M) (k : Nat) : am_R := am_b (μ.2.2.2.2.1 < 600000 ∧ k < 13) (am_nx (q, pc + n, L, .ref μ.2.2.2.2.1 :: S) (am_nw μ k 0 (am_N k))) none
def am_newa (q pc n : Nat) (L S : List Value) (μ : am_M) (k : Nat) : am_R := match S with
  | .int x :: S => am_b (μ.2.2.2.2.1 < 600000 ∧ ¬ x < 0 ∧ x.toNatClampNeg ≤ 60000 ∧ 12 < k ∧ k < 18) (am_nx (q, pc + n, L, .ref μ.2.2.2.2.1 :: S) (am_nw μ k x.toNatClampNeg x.toNatClampNeg)) none
  | _ => none
def am_tsw (pc : Nat) (d lo hi : Int) (offs : Array Int) (x : Int32) : Option Nat := if x.toInt < lo ∨ hi < x.toInt then (if 0 ≤ (pc : Int) + d then some ((pc : Int) + d).toNat else none) else match offs[(x.toInt - lo).toNat]? with
  | some o => if 0 ≤ (pc : Int) + o then some ((pc : Int) + o).toNat else none
  | none => none
def am_lsw (pc : Nat) (d : Int) (ps : Array (Int × Int)) (x : Int32) : Option Nat := if 0 ≤ (pc : Int) + Op.lookupswitch.offset ps.toList d x.toInt then some ((pc : Int) + Op.lookupswitch.offset ps.toList d x.toInt).toNat else none
def am_sw (q : Nat) (L S : List Value) (μ : am_M) (t : Option Nat) : am_R := match t with
  | some t => am_nx (q, t, L, S) μ
  | none => none
/-- a call: the callee's number c < q, n arguments; of an instance method the receiver's class ci (13: any) -/
def am_calls (q pc : Nat) (L S : List Value) (μ : am_M) (c n : Nat) : am_R := am_b (c < q ∧ n ≤ S.length ∧ am_cat (S.drop n) ≤ 8) (am_ca c ((S.take n).reverse) (q, pc + 3, L, S.drop n) μ) none
def am_callv (q pc : Nat) (L S : List Value) (μ : am_M) (c n ci : Nat) : am_R := match S.drop n with
  | .ref b :: rest => am_b (c < q ∧ n ≤ S.length ∧ am_cat rest ≤ 8 ∧ (ci = 13 ∨ (μ.2.2.2.1 b).1 = ci)) (am_ca c (.ref b :: (S.take n).reverse) (q, pc + 3, L, rest) μ) none
  | _ => none
def am_oini (q pc : Nat) (L S : List Value) (μ : am_M) : am_R := match S with
  | .ref _ :: S => am_b (am_cat S ≤ 8) (am_nx (q, pc + 3, L, S) μ) none
  | _ => none
