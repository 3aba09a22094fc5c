/-! SOUNDNESS: what the small machine does, the machine does. First the rows, an instruction each. -/
/-- a String constant of a far place: the kit's row for the near ones, turned -/
theorem am_ldcwS {p : Program} {l : Launch} {e : Env} {R : Room} {s : State} {m : MethodId} {args : Array Value} {below : List Frame} {meth : Method} {c : Code} {H : Heap} {locs : List Loc} {cells slots : Nat} {Q : State → Prop} {cc : ByteArray} {pc : Nat} {ls : Array Slot} {rest : List Value} (hexec : p.tables.exec = Jvm.exec) (hb : c.code = cc) {own tx : String} {index q : Nat} (hown : s.vm.findClass own = some m.cls) (hZ : vk_R own index tx q s) (hdg : decode cc pc = .ok (.ldc_w index, 3))
    (k : W p l e R s m args below meth c H locs cells slots Q (F0 m (pc + 3) ls (.ref q :: rest))) : W p l e R s m args below meth c H locs cells slots Q (F0 m pc ls rest) := by
  intro T hT X
  obtain ⟨t, a1, b1⟩ := k T hT X
  refine ⟨t, ?_, b1⟩
  obtain ⟨k1, cf, i, a', hk, hcf, hcp, -, hr, hev'⟩ := Cond.stringRef_spec hown hZ.1
  cases hZ.2.symm.trans hev'
  obtain ⟨k', hk', he⟩ := X.warmed.alike.2.2 _ _ hk
  have hr' : k'.resolved[index]? = some (some (.string q)) := by
    rcases X.warmed.entry hk hk' index with h | ⟨h, -⟩
    · rw [h]; exact hr
    · rw [hr] at h; cases h
  have hdg' : decode c.code (F0 m pc ls rest).pc = .ok (.ldc_w index, 3) := by rw [hb]; exact hdg
  jvm_step X.here [hexec, hdg', ldc_w.wp_string (e := e) (s := T) (f := F0 m pc ls rest) X.here.top hk' (by rw [he]; exact hcf) hcp hr']
  exact a1
section SND
variable {p : Program} {l : Launch} {e : Env} {R : Room} {s : State} {m : MethodId} {args : Array Value} {below : List Frame} {meth : Method} {c : Code} {Q : State → Prop}
variable {D : va_G} {cy : Nat → ClassId} {H00 : Heap} {b Ln : Nat} {xs : Nat → Int32} {adK adV : Nat → Nat} {c0 z0 q pc : Nat} {L S : List Value} {μ : am_M} {inf : am_I}
def am_Cx (D : va_G) (cy : Nat → ClassId) (H00 : Heap) (b Ln : Nat) (xs : Nat → Int32) (adK adV : Nat → Nat) (q : Nat) (p : Program) (R : Room) (s : State) (m : MethodId) (args : Array Value) (meth : Method) (c : Code) : Prop :=
  p.tables.exec = Jvm.exec ∧ c.code = (am_ms q).2.1 ∧ c.maxLocals = (am_ms q).2.2.1 ∧ meth.sig.returnType = (am_ms q).2.2.2.1 ∧ s.vm.findClass (am_own (am_ms q).2.2.2.2) = some m.cls ∧ (∀ w ∈ am_gw, w.before args s = true) ∧ meth.locks = false ∧ meth.name = (am_ms q).1.name ∧ am_KK D cy H00 b Ln xs adK adV s ∧ q + 1 ≤ R.frames ∧ 64 * (q + 1) ≤ R.locals
def am_K (D : va_G) (cy : Nat → ClassId) (H00 : Heap) (b Ln : Nat) (xs : Nat → Int32) (adK : Nat → Nat) (c0 z0 : Nat) (p : Program) (l : Launch) (e : Env) (R : Room) (s : State) (m : MethodId) (args : Array Value) (below : List Frame) (meth : Method) (c : Code) (Q : State → Prop) (f : am_F) (μ : am_M) : Prop :=
  ∀ (H : Heap) (locs : List Loc) (cells slots : Nat) (ls : Array Slot), am_Rel D cy H00 Ln xs μ H → am_LR (am_cv H00.size b adK) ls (am_ms f.1).2.2.1 f.2.2.1 → (∀ x ∈ locs, H00.size ≤ x.base) → c0 + cells = μ.2.2.2.2.1 → z0 + slots = μ.2.2.2.2.2 →
    W p l e R s m args below meth c H locs cells slots Q (F0 m f.2.1 ls (f.2.2.2.map (am_cv H00.size b adK)))
theorem am_s_iadd {x y : Int32} (C : am_Cx D cy H00 b Ln xs adK adV q p R s m args meth c) (hd : decode (am_ms q).2.1 pc = .ok (.iadd, 1))  (K : am_K D cy H00 b Ln xs adK c0 z0 p l e R s m args below meth c Q (q, pc + 1, L, .int (x + y) :: S) μ) : am_K D cy H00 b Ln xs adK c0 z0 p l e R s m args below meth c Q (q, pc, L, .int y :: .int x :: S) μ :=
  fun H locs cells slots ls hR hL hlo hc hz => lv_iadd C.1 C.2.1 hd  (K H locs cells slots ls hR hL hlo hc hz)
theorem am_s_isub {x y : Int32} (C : am_Cx D cy H00 b Ln xs adK adV q p R s m args meth c) (hd : decode (am_ms q).2.1 pc = .ok (.isub, 1))  (K : am_K D cy H00 b Ln xs adK c0 z0 p l e R s m args below meth c Q (q, pc + 1, L, .int (x - y) :: S) μ) : am_K D cy H00 b Ln xs adK c0 z0 p l e R s m args below meth c Q (q, pc, L, .int y :: .int x :: S) μ :=
  fun H locs cells slots ls hR hL hlo hc hz => lv_isub C.1 C.2.1 hd  (K H locs cells slots ls hR hL hlo hc hz)
theorem am_s_imul {x y : Int32} (C : am_Cx D cy H00 b Ln xs adK adV q p R s m args meth c) (hd : decode (am_ms q).2.1 pc = .ok (.imul, 1))  (K : am_K D cy H00 b Ln xs adK c0 z0 p l e R s m args below meth c Q (q, pc + 1, L, .int (x * y) :: S) μ) : am_K D cy H00 b Ln xs adK c0 z0 p l e R s m args below meth c Q (q, pc, L, .int y :: .int x :: S) μ :=
  fun H locs cells slots ls hR hL hlo hc hz => lv_imul C.1 C.2.1 hd  (K H locs cells slots ls hR hL hlo hc hz)
theorem am_s_iand {x y : Int32} (C : am_Cx D cy H00 b Ln xs adK adV q p R s m args meth c) (hd : decode (am_ms q).2.1 pc = .ok (.iand, 1))  (K : am_K D cy H00 b Ln xs adK c0 z0 p l e R s m args below meth c Q (q, pc + 1, L, .int (x &&& y) :: S) μ) : am_K D cy H00 b Ln xs adK c0 z0 p l e R s m args below meth c Q (q, pc, L, .int y :: .int x :: S) μ :=
  fun H locs cells slots ls hR hL hlo hc hz => lv_iand C.1 C.2.1 hd  (K H locs cells slots ls hR hL hlo hc hz)
theorem am_s_ior {x y : Int32} (C : am_Cx D cy H00 b Ln xs adK adV q p R s m args meth c) (hd : decode (am_ms q).2.1 pc = .ok (.ior, 1))  (K : am_K D cy H00 b Ln xs adK c0 z0 p l e R s m args below meth c Q (q, pc + 1, L, .int (x ||| y) :: S) μ) : am_K D cy H00 b Ln xs adK c0 z0 p l e R s m args below meth c Q (q, pc, L, .int y :: .int x :: S) μ :=
  fun H locs cells slots ls hR hL hlo hc hz => lv_ior C.1 C.2.1 hd  (K H locs cells slots ls hR hL hlo hc hz)
theorem am_s_ixor {x y : Int32} (C : am_Cx D cy H00 b Ln xs adK adV q p R s m args meth c) (hd : decode (am_ms q).2.1 pc = .ok (.ixor, 1))  (K : am_K D cy H00 b Ln xs adK c0 z0 p l e R s m args below meth c Q (q, pc + 1, L, .int (x ^^^ y) :: S) μ) : am_K D cy H00 b Ln xs adK c0 z0 p l e R s m args below meth c Q (q, pc, L, .int y :: .int x :: S) μ :=
  fun H locs cells slots ls hR hL hlo hc hz => lv_ixor C.1 C.2.1 hd  (K H locs cells slots ls hR hL hlo hc hz)
theorem am_s_ishl {x y : Int32} (C : am_Cx D cy H00 b Ln xs adK adV q p R s m args meth c) (hd : decode (am_ms q).2.1 pc = .ok (.ishl, 1))  (K : am_K D cy H00 b Ln xs adK c0 z0 p l e R s m args below meth c Q (q, pc + 1, L, .int (x <<< (y &&& 31)) :: S) μ) : am_K D cy H00 b Ln xs adK c0 z0 p l e R s m args below meth c Q (q, pc, L, .int y :: .int x :: S) μ :=
  fun H locs cells slots ls hR hL hlo hc hz => lv_ishl C.1 C.2.1 hd  (K H locs cells slots ls hR hL hlo hc hz)
theorem am_s_ishr {x y : Int32} (C : am_Cx D cy H00 b Ln xs adK adV q p R s m args meth c) (hd : decode (am_ms q).2.1 pc = .ok (.ishr, 1))  (K : am_K D cy H00 b Ln xs adK c0 z0 p l e R s m args below meth c Q (q, pc + 1, L, .int (x >>> (y &&& 31)) :: S) μ) : am_K D cy H00 b Ln xs adK c0 z0 p l e R s m args below meth c Q (q, pc, L, .int y :: .int x :: S) μ :=
  fun H locs cells slots ls hR hL hlo hc hz => lv_ishr C.1 C.2.1 hd  (K H locs cells slots ls hR hL hlo hc hz)
theorem am_s_iushr {x y : Int32} (C : am_Cx D cy H00 b Ln xs adK adV q p R s m args meth c) (hd : decode (am_ms q).2.1 pc = .ok (.iushr, 1))  (K : am_K D cy H00 b Ln xs adK c0 z0 p l e R s m args below meth c Q (q, pc + 1, L, .int ((x.toUInt32 >>> (y.toUInt32 &&& Int32.toUInt32 31)).toInt32) :: S) μ) : am_K D cy H00 b Ln xs adK c0 z0 p l e R s m args below meth c Q (q, pc, L, .int y :: .int x :: S) μ :=
  fun H locs cells slots ls hR hL hlo hc hz => lv_iushr C.1 C.2.1 hd rfl (K H locs cells slots ls hR hL hlo hc hz)
theorem am_s_idiv {x y : Int32} (C : am_Cx D cy H00 b Ln xs adK adV q p R s m args meth c) (hd : decode (am_ms q).2.1 pc = .ok (.idiv, 1)) (h0 : ¬ y = 0) (K : am_K D cy H00 b Ln xs adK c0 z0 p l e R s m args below meth c Q (q, pc + 1, L, .int (x / y) :: S) μ) : am_K D cy H00 b Ln xs adK c0 z0 p l e R s m args below meth c Q (q, pc, L, .int y :: .int x :: S) μ :=
  fun H locs cells slots ls hR hL hlo hc hz => lv_idiv C.1 C.2.1 hd h0 (K H locs cells slots ls hR hL hlo hc hz)
theorem am_s_irem {x y : Int32} (C : am_Cx D cy H00 b Ln xs adK adV q p R s m args meth c) (hd : decode (am_ms q).2.1 pc = .ok (.irem, 1)) (h0 : ¬ y = 0) (K : am_K D cy H00 b Ln xs adK c0 z0 p l e R s m args below meth c Q (q, pc + 1, L, .int (x - x / y * y) :: S) μ) : am_K D cy H00 b Ln xs adK c0 z0 p l e R s m args below meth c Q (q, pc, L, .int y :: .int x :: S) μ :=
  fun H locs cells slots ls hR hL hlo hc hz => lv_irem C.1 C.2.1 hd h0 (K H locs cells slots ls hR hL hlo hc hz)
theorem am_s_ladd {x y : Int64} (C : am_Cx D cy H00 b Ln xs adK adV q p R s m args meth c) (hd : decode (am_ms q).2.1 pc = .ok (.ladd, 1))  (K : am_K D cy H00 b Ln xs adK c0 z0 p l e R s m args below meth c Q (q, pc + 1, L, .long (x + y) :: S) μ) : am_K D cy H00 b Ln xs adK c0 z0 p l e R s m args below meth c Q (q, pc, L, .long y :: .long x :: S) μ :=
  fun H locs cells slots ls hR hL hlo hc hz => lv_ladd C.1 C.2.1 hd  (K H locs cells slots ls hR hL hlo hc hz)
theorem am_s_lsub {x y : Int64} (C : am_Cx D cy H00 b Ln xs adK adV q p R s m args meth c) (hd : decode (am_ms q).2.1 pc = .ok (.lsub, 1))  (K : am_K D cy H00 b Ln xs adK c0 z0 p l e R s m args below meth c Q (q, pc + 1, L, .long (x - y) :: S) μ) : am_K D cy H00 b Ln xs adK c0 z0 p l e R s m args below meth c Q (q, pc, L, .long y :: .long x :: S) μ :=
  fun H locs cells slots ls hR hL hlo hc hz => lv_lsub C.1 C.2.1 hd  (K H locs cells slots ls hR hL hlo hc hz)
theorem am_s_lmul {x y : Int64} (C : am_Cx D cy H00 b Ln xs adK adV q p R s m args meth c) (hd : decode (am_ms q).2.1 pc = .ok (.lmul, 1))  (K : am_K D cy H00 b Ln xs adK c0 z0 p l e R s m args below meth c Q (q, pc + 1, L, .long (x * y) :: S) μ) : am_K D cy H00 b Ln xs adK c0 z0 p l e R s m args below meth c Q (q, pc, L, .long y :: .long x :: S) μ :=
  fun H locs cells slots ls hR hL hlo hc hz => lv_lmul C.1 C.2.1 hd  (K H locs cells slots ls hR hL hlo hc hz)
theorem am_s_ldiv {x y : Int64} (C : am_Cx D cy H00 b Ln xs adK adV q p R s m args meth c) (hd : decode (am_ms q).2.1 pc = .ok (.ldiv, 1)) (h0 : ¬ y = 0) (K : am_K D cy H00 b Ln xs adK c0 z0 p l e R s m args below meth c Q (q, pc + 1, L, .long (x / y) :: S) μ) : am_K D cy H00 b Ln xs adK c0 z0 p l e R s m args below meth c Q (q, pc, L, .long y :: .long x :: S) μ :=
  fun H locs cells slots ls hR hL hlo hc hz => lv_ldiv C.1 C.2.1 hd h0 (K H locs cells slots ls hR hL hlo hc hz)
theorem am_s_lrem {x y : Int64} (C : am_Cx D cy H00 b Ln xs adK adV q p R s m args meth c) (hd : decode (am_ms q).2.1 pc = .ok (.lrem, 1)) (h0 : ¬ y = 0) (K : am_K D cy H00 b Ln xs adK c0 z0 p l e R s m args below meth c Q (q, pc + 1, L, .long (x - x / y * y) :: S) μ) : am_K D cy H00 b Ln xs adK c0 z0 p l e R s m args below meth c Q (q, pc, L, .long y :: .long x :: S) μ :=
  fun H locs cells slots ls hR hL hlo hc hz => lv_lrem C.1 C.2.1 hd h0 (K H locs cells slots ls hR hL hlo hc hz)
theorem am_s_lcmp {x y : Int64} (C : am_Cx D cy H00 b Ln xs adK adV q p R s m args meth c) (hd : decode (am_ms q).2.1 pc = .ok (.lcmp, 1))  (K : am_K D cy H00 b Ln xs adK c0 z0 p l e R s m args below meth c Q (q, pc + 1, L, .int (lg_cmp x y) :: S) μ) : am_K D cy H00 b Ln xs adK c0 z0 p l e R s m args below meth c Q (q, pc, L, .long y :: .long x :: S) μ :=
  fun H locs cells slots ls hR hL hlo hc hz => W.lcmp C.1 C.2.1 hd  (K H locs cells slots ls hR hL hlo hc hz)
theorem am_s_i2l {x : Int32} (C : am_Cx D cy H00 b Ln xs adK adV q p R s m args meth c) (hd : decode (am_ms q).2.1 pc = .ok (.i2l, 1))  (K : am_K D cy H00 b Ln xs adK c0 z0 p l e R s m args below meth c Q (q, pc + 1, L, .long x.toInt64 :: S) μ) : am_K D cy H00 b Ln xs adK c0 z0 p l e R s m args below meth c Q (q, pc, L, .int x :: S) μ :=
  fun H locs cells slots ls hR hL hlo hc hz => lv_i2l C.1 C.2.1 hd rfl (K H locs cells slots ls hR hL hlo hc hz)
theorem am_s_i2b {x : Int32} (C : am_Cx D cy H00 b Ln xs adK adV q p R s m args meth c) (hd : decode (am_ms q).2.1 pc = .ok (.i2b, 1))  (K : am_K D cy H00 b Ln xs adK c0 z0 p l e R s m args below meth c Q (q, pc + 1, L, .int x.toInt8.toInt32 :: S) μ) : am_K D cy H00 b Ln xs adK c0 z0 p l e R s m args below meth c Q (q, pc, L, .int x :: S) μ :=
  fun H locs cells slots ls hR hL hlo hc hz => lv_i2b C.1 C.2.1 hd rfl (K H locs cells slots ls hR hL hlo hc hz)
theorem am_s_l2i {x : Int64} (C : am_Cx D cy H00 b Ln xs adK adV q p R s m args meth c) (hd : decode (am_ms q).2.1 pc = .ok (.l2i, 1))  (K : am_K D cy H00 b Ln xs adK c0 z0 p l e R s m args below meth c Q (q, pc + 1, L, .int x.toInt32 :: S) μ) : am_K D cy H00 b Ln xs adK c0 z0 p l e R s m args below meth c Q (q, pc, L, .long x :: S) μ :=
  fun H locs cells slots ls hR hL hlo hc hz => lv_l2i C.1 C.2.1 hd rfl (K H locs cells slots ls hR hL hlo hc hz)
theorem am_s_iconst {v : Int} (C : am_Cx D cy H00 b Ln xs adK adV q p R s m args meth c) (hd : decode (am_ms q).2.1 pc = .ok (.iconst v, 1))  (K : am_K D cy H00 b Ln xs adK c0 z0 p l e R s m args below meth c Q (q, pc + 1, L, .int (Int32.ofInt v) :: S) μ) : am_K D cy H00 b Ln xs adK c0 z0 p l e R s m args below meth c Q (q, pc, L, S) μ :=
  fun H locs cells slots ls hR hL hlo hc hz => lv_iconst C.1 C.2.1 hd rfl (K H locs cells slots ls hR hL hlo hc hz)
theorem am_s_lconst {v : Fin 2} (C : am_Cx D cy H00 b Ln xs adK adV q p R s m args meth c) (hd : decode (am_ms q).2.1 pc = .ok (.lconst v, 1))  (K : am_K D cy H00 b Ln xs adK c0 z0 p l e R s m args below meth c Q (q, pc + 1, L, .long (Int64.ofNat v.val) :: S) μ) : am_K D cy H00 b Ln xs adK c0 z0 p l e R s m args below meth c Q (q, pc, L, S) μ :=
  fun H locs cells slots ls hR hL hlo hc hz => lv_lconst C.1 C.2.1 hd rfl (K H locs cells slots ls hR hL hlo hc hz)
theorem am_s_bipush {v : Int} (C : am_Cx D cy H00 b Ln xs adK adV q p R s m args meth c) (hd : decode (am_ms q).2.1 pc = .ok (.bipush v, 2))  (K : am_K D cy H00 b Ln xs adK c0 z0 p l e R s m args below meth c Q (q, pc + 2, L, .int (Int8.ofInt v).toInt32 :: S) μ) : am_K D cy H00 b Ln xs adK c0 z0 p l e R s m args below meth c Q (q, pc, L, S) μ :=
  fun H locs cells slots ls hR hL hlo hc hz => lv_bipush C.1 C.2.1 hd rfl (K H locs cells slots ls hR hL hlo hc hz)
theorem am_s_sipush {v : Int} (C : am_Cx D cy H00 b Ln xs adK adV q p R s m args meth c) (hd : decode (am_ms q).2.1 pc = .ok (.sipush v, 3))  (K : am_K D cy H00 b Ln xs adK c0 z0 p l e R s m args below meth c Q (q, pc + 3, L, .int (Int16.ofInt v).toInt32 :: S) μ) : am_K D cy H00 b Ln xs adK c0 z0 p l e R s m args below meth c Q (q, pc, L, S) μ :=
  fun H locs cells slots ls hR hL hlo hc hz => lv_sipush C.1 C.2.1 hd rfl (K H locs cells slots ls hR hL hlo hc hz)
theorem am_s_dup {v : Value} (C : am_Cx D cy H00 b Ln xs adK adV q p R s m args meth c) (hd : decode (am_ms q).2.1 pc = .ok (.dup, 1)) (h1 : v.category = 1) (K : am_K D cy H00 b Ln xs adK c0 z0 p l e R s m args below meth c Q (q, pc + 1, L, v :: v :: S) μ) : am_K D cy H00 b Ln xs adK c0 z0 p l e R s m args below meth c Q (q, pc, L, v :: S) μ :=
  fun H locs cells slots ls hR hL hlo hc hz => lv_dup C.1 C.2.1 hd ((am_cv_cat v).trans h1) (K H locs cells slots ls hR hL hlo hc hz)
theorem am_s_pop {v : Value} (C : am_Cx D cy H00 b Ln xs adK adV q p R s m args meth c) (hd : decode (am_ms q).2.1 pc = .ok (.pop, 1)) (h1 : v.category = 1) (K : am_K D cy H00 b Ln xs adK c0 z0 p l e R s m args below meth c Q (q, pc + 1, L, S) μ) : am_K D cy H00 b Ln xs adK c0 z0 p l e R s m args below meth c Q (q, pc, L, v :: S) μ :=
  fun H locs cells slots ls hR hL hlo hc hz => lv_pop C.1 C.2.1 hd ((am_cv_cat v).trans h1) (K H locs cells slots ls hR hL hlo hc hz)
theorem am_s_dup2 {v u : Value} (C : am_Cx D cy H00 b Ln xs adK adV q p R s m args meth c) (hd : decode (am_ms q).2.1 pc = .ok (.dup2, 1)) (h1 : v.category = 1) (h2 : u.category = 1) (K : am_K D cy H00 b Ln xs adK c0 z0 p l e R s m args below meth c Q (q, pc + 1, L, v :: u :: v :: u :: S) μ) : am_K D cy H00 b Ln xs adK c0 z0 p l e R s m args below meth c Q (q, pc, L, v :: u :: S) μ :=
  fun H locs cells slots ls hR hL hlo hc hz => lv_dup2_11 C.1 C.2.1 hd ((am_cv_cat v).trans h1) ((am_cv_cat u).trans h2) (K H locs cells slots ls hR hL hlo hc hz)
theorem am_s_iload_n {k : Fin 4} {x : Int32} (C : am_Cx D cy H00 b Ln xs adK adV q p R s m args meth c) (hd : decode (am_ms q).2.1 pc = .ok (.iload_n k, 1)) (hk : L[k.val]? = some (.int x)) (K : am_K D cy H00 b Ln xs adK c0 z0 p l e R s m args below meth c Q (q, pc + 1, L, .int x :: S) μ) : am_K D cy H00 b Ln xs adK c0 z0 p l e R s m args below meth c Q (q, pc, L, S) μ :=
  fun H locs cells slots ls hR hL hlo hc hz => lv_iload_n C.1 C.2.1 hd rfl (hL.2.2.2 _ _ hk (by simp)) (K H locs cells slots ls hR hL hlo hc hz)
theorem am_s_iload {k : Nat} {x : Int32} (C : am_Cx D cy H00 b Ln xs adK adV q p R s m args meth c) (hd : decode (am_ms q).2.1 pc = .ok (.iload k, 2)) (hk : L[k]? = some (.int x)) (K : am_K D cy H00 b Ln xs adK c0 z0 p l e R s m args below meth c Q (q, pc + 2, L, .int x :: S) μ) : am_K D cy H00 b Ln xs adK c0 z0 p l e R s m args below meth c Q (q, pc, L, S) μ :=
  fun H locs cells slots ls hR hL hlo hc hz => lv_iload C.1 C.2.1 hd (hL.2.2.2 _ _ hk (by simp)) (K H locs cells slots ls hR hL hlo hc hz)
theorem am_s_lload_n {k : Fin 4} {x : Int64} (C : am_Cx D cy H00 b Ln xs adK adV q p R s m args meth c) (hd : decode (am_ms q).2.1 pc = .ok (.lload_n k, 1)) (hk : L[k.val]? = some (.long x)) (K : am_K D cy H00 b Ln xs adK c0 z0 p l e R s m args below meth c Q (q, pc + 1, L, .long x :: S) μ) : am_K D cy H00 b Ln xs adK c0 z0 p l e R s m args below meth c Q (q, pc, L, S) μ :=
  fun H locs cells slots ls hR hL hlo hc hz => lv_lload_n C.1 C.2.1 hd rfl (hL.2.2.2 _ _ hk (by simp)) (K H locs cells slots ls hR hL hlo hc hz)
theorem am_s_lload {k : Nat} {x : Int64} (C : am_Cx D cy H00 b Ln xs adK adV q p R s m args meth c) (hd : decode (am_ms q).2.1 pc = .ok (.lload k, 2)) (hk : L[k]? = some (.long x)) (K : am_K D cy H00 b Ln xs adK c0 z0 p l e R s m args below meth c Q (q, pc + 2, L, .long x :: S) μ) : am_K D cy H00 b Ln xs adK c0 z0 p l e R s m args below meth c Q (q, pc, L, S) μ :=
  fun H locs cells slots ls hR hL hlo hc hz => lv_lload C.1 C.2.1 hd (hL.2.2.2 _ _ hk (by simp)) (K H locs cells slots ls hR hL hlo hc hz)
theorem am_s_aload_n {k : Fin 4} {x : Nat} (C : am_Cx D cy H00 b Ln xs adK adV q p R s m args meth c) (hd : decode (am_ms q).2.1 pc = .ok (.aload_n k, 1)) (hk : L[k.val]? = some (.ref x)) (K : am_K D cy H00 b Ln xs adK c0 z0 p l e R s m args below meth c Q (q, pc + 1, L, .ref x :: S) μ) : am_K D cy H00 b Ln xs adK c0 z0 p l e R s m args below meth c Q (q, pc, L, S) μ :=
  fun H locs cells slots ls hR hL hlo hc hz => lv_aload_n C.1 C.2.1 hd rfl (hL.2.2.2 _ _ hk (by simp)) (K H locs cells slots ls hR hL hlo hc hz)
theorem am_s_aload {k : Nat} {x : Nat} (C : am_Cx D cy H00 b Ln xs adK adV q p R s m args meth c) (hd : decode (am_ms q).2.1 pc = .ok (.aload k, 2)) (hk : L[k]? = some (.ref x)) (K : am_K D cy H00 b Ln xs adK c0 z0 p l e R s m args below meth c Q (q, pc + 2, L, .ref x :: S) μ) : am_K D cy H00 b Ln xs adK c0 z0 p l e R s m args below meth c Q (q, pc, L, S) μ :=
  fun H locs cells slots ls hR hL hlo hc hz => lv_aload C.1 C.2.1 hd (hL.2.2.2 _ _ hk (by simp)) (K H locs cells slots ls hR hL hlo hc hz)
theorem am_s_aload_nf {k : Fin 4} {x : UInt32} (C : am_Cx D cy H00 b Ln xs adK adV q p R s m args meth c) (hd : decode (am_ms q).2.1 pc = .ok (.aload_n k, 1)) (hk : L[k.val]? = some (.float x)) (K : am_K D cy H00 b Ln xs adK c0 z0 p l e R s m args below meth c Q (q, pc + 1, L, .float x :: S) μ) : am_K D cy H00 b Ln xs adK c0 z0 p l e R s m args below meth c Q (q, pc, L, S) μ :=
  fun H locs cells slots ls hR hL hlo hc hz => lv_aload_n C.1 C.2.1 hd rfl (hL.2.2.2 _ _ hk (by simp)) (K H locs cells slots ls hR hL hlo hc hz)
theorem am_s_aloadf {k : Nat} {x : UInt32} (C : am_Cx D cy H00 b Ln xs adK adV q p R s m args meth c) (hd : decode (am_ms q).2.1 pc = .ok (.aload k, 2)) (hk : L[k]? = some (.float x)) (K : am_K D cy H00 b Ln xs adK c0 z0 p l e R s m args below meth c Q (q, pc + 2, L, .float x :: S) μ) : am_K D cy H00 b Ln xs adK c0 z0 p l e R s m args below meth c Q (q, pc, L, S) μ :=
  fun H locs cells slots ls hR hL hlo hc hz => lv_aload C.1 C.2.1 hd (hL.2.2.2 _ _ hk (by simp)) (K H locs cells slots ls hR hL hlo hc hz)
theorem am_s_aload_ns {k : Fin 4} (C : am_Cx D cy H00 b Ln xs adK adV q p R s m args meth c) (hd : decode (am_ms q).2.1 pc = .ok (.aload_n k, 1)) (hk : L[k.val]? = some (.retAddr 1)) (K : am_K D cy H00 b Ln xs adK c0 z0 p l e R s m args below meth c Q (q, pc + 1, L, .retAddr 1 :: S) μ) : am_K D cy H00 b Ln xs adK c0 z0 p l e R s m args below meth c Q (q, pc, L, S) μ :=
  fun H locs cells slots ls hR hL hlo hc hz => lv_aload_n C.1 C.2.1 hd rfl (hL.2.2.2 _ _ hk (by simp)) (K H locs cells slots ls hR hL hlo hc hz)
theorem am_s_aloads {k : Nat} (C : am_Cx D cy H00 b Ln xs adK adV q p R s m args meth c) (hd : decode (am_ms q).2.1 pc = .ok (.aload k, 2)) (hk : L[k]? = some (.retAddr 1)) (K : am_K D cy H00 b Ln xs adK c0 z0 p l e R s m args below meth c Q (q, pc + 2, L, .retAddr 1 :: S) μ) : am_K D cy H00 b Ln xs adK c0 z0 p l e R s m args below meth c Q (q, pc, L, S) μ :=
  fun H locs cells slots ls hR hL hlo hc hz => lv_aload C.1 C.2.1 hd (hL.2.2.2 _ _ hk (by simp)) (K H locs cells slots ls hR hL hlo hc hz)
theorem am_s_istore_n {k : Fin 4} {x : Int32} (C : am_Cx D cy H00 b Ln xs adK adV q p R s m args meth c) (hd : decode (am_ms q).2.1 pc = .ok (.istore_n k, 1)) (hn : k.val < L.length) (K : am_K D cy H00 b Ln xs adK c0 z0 p l e R s m args below meth c Q (q, pc + 1, am_st L k.val (.int x), S) μ) : am_K D cy H00 b Ln xs adK c0 z0 p l e R s m args below meth c Q (q, pc, L, .int x :: S) μ :=
  fun H locs cells slots ls hR hL hlo hc hz => lv_istore_n (nL := (am_ms q).2.2.1) C.1 C.2.1 hd rfl (am_lv_has hL) (by rw [← hL.2.2.1]; exact hn) rfl (fun ls' h' => K H locs cells slots ls' hR (am_LR.st am_cv_cat hL h') hlo hc hz)
theorem am_s_istore {k : Nat} {x : Int32} (C : am_Cx D cy H00 b Ln xs adK adV q p R s m args meth c) (hd : decode (am_ms q).2.1 pc = .ok (.istore k, 2)) (hn : k < L.length) (K : am_K D cy H00 b Ln xs adK c0 z0 p l e R s m args below meth c Q (q, pc + 2, am_st L k (.int x), S) μ) : am_K D cy H00 b Ln xs adK c0 z0 p l e R s m args below meth c Q (q, pc, L, .int x :: S) μ :=
  fun H locs cells slots ls hR hL hlo hc hz => lv_istore (nL := (am_ms q).2.2.1) C.1 C.2.1 hd (am_lv_has hL) (by rw [← hL.2.2.1]; exact hn) rfl (fun ls' h' => K H locs cells slots ls' hR (am_LR.st am_cv_cat hL h') hlo hc hz)
theorem am_s_astore_n {k : Fin 4} {x : Nat} (C : am_Cx D cy H00 b Ln xs adK adV q p R s m args meth c) (hd : decode (am_ms q).2.1 pc = .ok (.astore_n k, 1)) (hn : k.val < L.length) (K : am_K D cy H00 b Ln xs adK c0 z0 p l e R s m args below meth c Q (q, pc + 1, am_st L k.val (.ref x), S) μ) : am_K D cy H00 b Ln xs adK c0 z0 p l e R s m args below meth c Q (q, pc, L, .ref x :: S) μ :=
  fun H locs cells slots ls hR hL hlo hc hz => lv_astore_n (nL := (am_ms q).2.2.1) C.1 C.2.1 hd rfl (am_lv_has hL) (by rw [← hL.2.2.1]; exact hn) rfl (fun ls' h' => K H locs cells slots ls' hR (am_LR.st am_cv_cat hL h') hlo hc hz)
theorem am_s_astore {k : Nat} {x : Nat} (C : am_Cx D cy H00 b Ln xs adK adV q p R s m args meth c) (hd : decode (am_ms q).2.1 pc = .ok (.astore k, 2)) (hn : k < L.length) (K : am_K D cy H00 b Ln xs adK c0 z0 p l e R s m args below meth c Q (q, pc + 2, am_st L k (.ref x), S) μ) : am_K D cy H00 b Ln xs adK c0 z0 p l e R s m args below meth c Q (q, pc, L, .ref x :: S) μ :=
  fun H locs cells slots ls hR hL hlo hc hz => lv_astore (nL := (am_ms q).2.2.1) C.1 C.2.1 hd (am_lv_has hL) (by rw [← hL.2.2.1]; exact hn) rfl (fun ls' h' => K H locs cells slots ls' hR (am_LR.st am_cv_cat hL h') hlo hc hz)
theorem am_s_lstore_n {k : Fin 4} {x : Int64} (C : am_Cx D cy H00 b Ln xs adK adV q p R s m args meth c) (hd : decode (am_ms q).2.1 pc = .ok (.lstore_n k, 1)) (hn : k.val + 1 < L.length) (K : am_K D cy H00 b Ln xs adK c0 z0 p l e R s m args below meth c Q (q, pc + 1, am_st2 L k.val (.long x), S) μ) : am_K D cy H00 b Ln xs adK c0 z0 p l e R s m args below meth c Q (q, pc, L, .long x :: S) μ :=
  fun H locs cells slots ls hR hL hlo hc hz => lv_lstore_n (nL := (am_ms q).2.2.1) C.1 C.2.1 hd rfl (am_lv_has hL) (by rw [← hL.2.2.1]; exact hn) rfl (fun ls' h' => K H locs cells slots ls' hR (am_LR.st2 am_cv_cat hL h') hlo hc hz)
theorem am_s_lstore {k : Nat} {x : Int64} (C : am_Cx D cy H00 b Ln xs adK adV q p R s m args meth c) (hd : decode (am_ms q).2.1 pc = .ok (.lstore k, 2)) (hn : k + 1 < L.length) (K : am_K D cy H00 b Ln xs adK c0 z0 p l e R s m args below meth c Q (q, pc + 2, am_st2 L k (.long x), S) μ) : am_K D cy H00 b Ln xs adK c0 z0 p l e R s m args below meth c Q (q, pc, L, .long x :: S) μ :=
  fun H locs cells slots ls hR hL hlo hc hz => lv_lstore (nL := (am_ms q).2.2.1) C.1 C.2.1 hd (am_lv_has hL) (by rw [← hL.2.2.1]; exact hn) rfl (fun ls' h' => K H locs cells slots ls' hR (am_LR.st2 am_cv_cat hL h') hlo hc hz)
theorem am_s_iinc {k : Nat} {v : Int} {x : Int32} (C : am_Cx D cy H00 b Ln xs adK adV q p R s m args meth c) (hd : decode (am_ms q).2.1 pc = .ok (.iinc k v, 3)) (hk : L[k]? = some (.int x)) (K : am_K D cy H00 b Ln xs adK c0 z0 p l e R s m args below meth c Q (q, pc + 3, am_st L k (.int (x + Int32.ofInt v)), S) μ) : am_K D cy H00 b Ln xs adK c0 z0 p l e R s m args below meth c Q (q, pc, L, S) μ := by
  intro H locs cells slots ls hR hL hlo hc hz
  obtain ⟨i, hi⟩ := List.getElem?_of_mem (am_lv_mem (cv := am_cv H00.size b adK) hk (by simp))
  exact lv_iinc (nL := (am_ms q).2.2.1) C.1 C.2.1 hd (am_lv_has hL) hi rfl (by rw [← hL.2.2.1]; exact (List.getElem?_eq_some_iff.mp hk).1) rfl (fun ls' h' => K H locs cells slots ls' hR (am_LR.st (v := .int (x + Int32.ofInt v)) am_cv_cat hL h') hlo hc hz)
theorem am_s_goto {off : Int} {t : Nat} (C : am_Cx D cy H00 b Ln xs adK adV q p R s m args meth c) (hd : decode (am_ms q).2.1 pc = .ok (.goto off, 3)) (ht : (pc : Int) + off = (t : Int)) (K : am_K D cy H00 b Ln xs adK c0 z0 p l e R s m args below meth c Q (q, t, L, S) μ) : am_K D cy H00 b Ln xs adK c0 z0 p l e R s m args below meth c Q (q, pc, L, S) μ :=
  fun H locs cells slots ls hR hL hlo hc hz => lv_goto C.1 C.2.1 hd ht (K H locs cells slots ls hR hL hlo hc hz)
theorem am_s_icmp_eq {x y : Int32} {off : Int} {t : Nat} (C : am_Cx D cy H00 b Ln xs adK adV q p R s m args meth c) (hd : decode (am_ms q).2.1 pc = .ok (.if_icmp .eq off, 3)) (ht : (pc : Int) + off = (t : Int)) (K1 : x = y → am_K D cy H00 b Ln xs adK c0 z0 p l e R s m args below meth c Q (q, t, L, S) μ) (K2 : ¬ (x = y) → am_K D cy H00 b Ln xs adK c0 z0 p l e R s m args below meth c Q (q, pc + 3, L, S) μ) : am_K D cy H00 b Ln xs adK c0 z0 p l e R s m args below meth c Q (q, pc, L, .int y :: .int x :: S) μ :=
  fun H locs cells slots ls hR hL hlo hc hz => lv_icmp_eq C.1 C.2.1 hd ht (fun h => K1 h H locs cells slots ls hR hL hlo hc hz) (fun h => K2 h H locs cells slots ls hR hL hlo hc hz)
theorem am_s_if_eq {x : Int32} {off : Int} {t : Nat} (C : am_Cx D cy H00 b Ln xs adK adV q p R s m args meth c) (hd : decode (am_ms q).2.1 pc = .ok (.ifCond .eq off, 3)) (ht : (pc : Int) + off = (t : Int)) (K1 : x = 0 → am_K D cy H00 b Ln xs adK c0 z0 p l e R s m args below meth c Q (q, t, L, S) μ) (K2 : ¬ (x = 0) → am_K D cy H00 b Ln xs adK c0 z0 p l e R s m args below meth c Q (q, pc + 3, L, S) μ) : am_K D cy H00 b Ln xs adK c0 z0 p l e R s m args below meth c Q (q, pc, L, .int x :: S) μ :=
  fun H locs cells slots ls hR hL hlo hc hz => lv_if_eq C.1 C.2.1 hd ht (fun h => K1 h H locs cells slots ls hR hL hlo hc hz) (fun h => K2 h H locs cells slots ls hR hL hlo hc hz)
theorem am_s_icmp_ne {x y : Int32} {off : Int} {t : Nat} (C : am_Cx D cy H00 b Ln xs adK adV q p R s m args meth c) (hd : decode (am_ms q).2.1 pc = .ok (.if_icmp .ne off, 3)) (ht : (pc : Int) + off = (t : Int)) (K1 : ¬ x = y → am_K D cy H00 b Ln xs adK c0 z0 p l e R s m args below meth c Q (q, t, L, S) μ) (K2 : ¬ (¬ x = y) → am_K D cy H00 b Ln xs adK c0 z0 p l e R s m args below meth c Q (q, pc + 3, L, S) μ) : am_K D cy H00 b Ln xs adK c0 z0 p l e R s m args below meth c Q (q, pc, L, .int y :: .int x :: S) μ :=
  fun H locs cells slots ls hR hL hlo hc hz => lv_icmp_ne C.1 C.2.1 hd ht (fun h => K1 h H locs cells slots ls hR hL hlo hc hz) (fun h => K2 (fun g => g h) H locs cells slots ls hR hL hlo hc hz)
theorem am_s_if_ne {x : Int32} {off : Int} {t : Nat} (C : am_Cx D cy H00 b Ln xs adK adV q p R s m args meth c) (hd : decode (am_ms q).2.1 pc = .ok (.ifCond .ne off, 3)) (ht : (pc : Int) + off = (t : Int)) (K1 : ¬ x = 0 → am_K D cy H00 b Ln xs adK c0 z0 p l e R s m args below meth c Q (q, t, L, S) μ) (K2 : ¬ (¬ x = 0) → am_K D cy H00 b Ln xs adK c0 z0 p l e R s m args below meth c Q (q, pc + 3, L, S) μ) : am_K D cy H00 b Ln xs adK c0 z0 p l e R s m args below meth c Q (q, pc, L, .int x :: S) μ :=
  fun H locs cells slots ls hR hL hlo hc hz => lv_if_ne C.1 C.2.1 hd ht (fun h => K1 h H locs cells slots ls hR hL hlo hc hz) (fun h => K2 (fun g => g h) H locs cells slots ls hR hL hlo hc hz)
theorem am_s_icmp_lt {x y : Int32} {off : Int} {t : Nat} (C : am_Cx D cy H00 b Ln xs adK adV q p R s m args meth c) (hd : decode (am_ms q).2.1 pc = .ok (.if_icmp .lt off, 3)) (ht : (pc : Int) + off = (t : Int)) (K1 : x < y → am_K D cy H00 b Ln xs adK c0 z0 p l e R s m args below meth c Q (q, t, L, S) μ) (K2 : ¬ (x < y) → am_K D cy H00 b Ln xs adK c0 z0 p l e R s m args below meth c Q (q, pc + 3, L, S) μ) : am_K D cy H00 b Ln xs adK c0 z0 p l e R s m args below meth c Q (q, pc, L, .int y :: .int x :: S) μ :=
  fun H locs cells slots ls hR hL hlo hc hz => lv_icmp_lt C.1 C.2.1 hd ht (fun h => K1 h H locs cells slots ls hR hL hlo hc hz) (fun h => K2 h H locs cells slots ls hR hL hlo hc hz)
theorem am_s_if_lt {x : Int32} {off : Int} {t : Nat} (C : am_Cx D cy H00 b Ln xs adK adV q p R s m args meth c) (hd : decode (am_ms q).2.1 pc = .ok (.ifCond .lt off, 3)) (ht : (pc : Int) + off = (t : Int)) (K1 : x < 0 → am_K D cy H00 b Ln xs adK c0 z0 p l e R s m args below meth c Q (q, t, L, S) μ) (K2 : ¬ (x < 0) → am_K D cy H00 b Ln xs adK c0 z0 p l e R s m args below meth c Q (q, pc + 3, L, S) μ) : am_K D cy H00 b Ln xs adK c0 z0 p l e R s m args below meth c Q (q, pc, L, .int x :: S) μ :=
  fun H locs cells slots ls hR hL hlo hc hz => lv_if_lt C.1 C.2.1 hd ht (fun h => K1 h H locs cells slots ls hR hL hlo hc hz) (fun h => K2 h H locs cells slots ls hR hL hlo hc hz)
theorem am_s_icmp_ge {x y : Int32} {off : Int} {t : Nat} (C : am_Cx D cy H00 b Ln xs adK adV q p R s m args meth c) (hd : decode (am_ms q).2.1 pc = .ok (.if_icmp .ge off, 3)) (ht : (pc : Int) + off = (t : Int)) (K1 : y ≤ x → am_K D cy H00 b Ln xs adK c0 z0 p l e R s m args below meth c Q (q, t, L, S) μ) (K2 : ¬ (y ≤ x) → am_K D cy H00 b Ln xs adK c0 z0 p l e R s m args below meth c Q (q, pc + 3, L, S) μ) : am_K D cy H00 b Ln xs adK c0 z0 p l e R s m args below meth c Q (q, pc, L, .int y :: .int x :: S) μ :=
  fun H locs cells slots ls hR hL hlo hc hz => lv_icmp_ge C.1 C.2.1 hd ht (fun h => K1 h H locs cells slots ls hR hL hlo hc hz) (fun h => K2 h H locs cells slots ls hR hL hlo hc hz)
theorem am_s_if_ge {x : Int32} {off : Int} {t : Nat} (C : am_Cx D cy H00 b Ln xs adK adV q p R s m args meth c) (hd : decode (am_ms q).2.1 pc = .ok (.ifCond .ge off, 3)) (ht : (pc : Int) + off = (t : Int)) (K1 : 0 ≤ x → am_K D cy H00 b Ln xs adK c0 z0 p l e R s m args below meth c Q (q, t, L, S) μ) (K2 : ¬ (0 ≤ x) → am_K D cy H00 b Ln xs adK c0 z0 p l e R s m args below meth c Q (q, pc + 3, L, S) μ) : am_K D cy H00 b Ln xs adK c0 z0 p l e R s m args below meth c Q (q, pc, L, .int x :: S) μ :=
  fun H locs cells slots ls hR hL hlo hc hz => lv_if_ge C.1 C.2.1 hd ht (fun h => K1 h H locs cells slots ls hR hL hlo hc hz) (fun h => K2 h H locs cells slots ls hR hL hlo hc hz)
theorem am_s_icmp_gt {x y : Int32} {off : Int} {t : Nat} (C : am_Cx D cy H00 b Ln xs adK adV q p R s m args meth c) (hd : decode (am_ms q).2.1 pc = .ok (.if_icmp .gt off, 3)) (ht : (pc : Int) + off = (t : Int)) (K1 : y < x → am_K D cy H00 b Ln xs adK c0 z0 p l e R s m args below meth c Q (q, t, L, S) μ) (K2 : ¬ (y < x) → am_K D cy H00 b Ln xs adK c0 z0 p l e R s m args below meth c Q (q, pc + 3, L, S) μ) : am_K D cy H00 b Ln xs adK c0 z0 p l e R s m args below meth c Q (q, pc, L, .int y :: .int x :: S) μ :=
  fun H locs cells slots ls hR hL hlo hc hz => lv_icmp_gt C.1 C.2.1 hd ht (fun h => K1 h H locs cells slots ls hR hL hlo hc hz) (fun h => K2 h H locs cells slots ls hR hL hlo hc hz)
theorem am_s_if_gt {x : Int32} {off : Int} {t : Nat} (C : am_Cx D cy H00 b Ln xs adK adV q p R s m args meth c) (hd : decode (am_ms q).2.1 pc = .ok (.ifCond .gt off, 3)) (ht : (pc : Int) + off = (t : Int)) (K1 : 0 < x → am_K D cy H00 b Ln xs adK c0 z0 p l e R s m args below meth c Q (q, t, L, S) μ) (K2 : ¬ (0 < x) → am_K D cy H00 b Ln xs adK c0 z0 p l e R s m args below meth c Q (q, pc + 3, L, S) μ) : am_K D cy H00 b Ln xs adK c0 z0 p l e R s m args below meth c Q (q, pc, L, .int x :: S) μ :=
  fun H locs cells slots ls hR hL hlo hc hz => lv_if_gt C.1 C.2.1 hd ht (fun h => K1 h H locs cells slots ls hR hL hlo hc hz) (fun h => K2 h H locs cells slots ls hR hL hlo hc hz)
theorem am_s_icmp_le {x y : Int32} {off : Int} {t : Nat} (C : am_Cx D cy H00 b Ln xs adK adV q p R s m args meth c) (hd : decode (am_ms q).2.1 pc = .ok (.if_icmp .le off, 3)) (ht : (pc : Int) + off = (t : Int)) (K1 : x ≤ y → am_K D cy H00 b Ln xs adK c0 z0 p l e R s m args below meth c Q (q, t, L, S) μ) (K2 : ¬ (x ≤ y) → am_K D cy H00 b Ln xs adK c0 z0 p l e R s m args below meth c Q (q, pc + 3, L, S) μ) : am_K D cy H00 b Ln xs adK c0 z0 p l e R s m args below meth c Q (q, pc, L, .int y :: .int x :: S) μ :=
  fun H locs cells slots ls hR hL hlo hc hz => lv_icmp_le C.1 C.2.1 hd ht (fun h => K1 h H locs cells slots ls hR hL hlo hc hz) (fun h => K2 h H locs cells slots ls hR hL hlo hc hz)
theorem am_s_if_le {x : Int32} {off : Int} {t : Nat} (C : am_Cx D cy H00 b Ln xs adK adV q p R s m args meth c) (hd : decode (am_ms q).2.1 pc = .ok (.ifCond .le off, 3)) (ht : (pc : Int) + off = (t : Int)) (K1 : x ≤ 0 → am_K D cy H00 b Ln xs adK c0 z0 p l e R s m args below meth c Q (q, t, L, S) μ) (K2 : ¬ (x ≤ 0) → am_K D cy H00 b Ln xs adK c0 z0 p l e R s m args below meth c Q (q, pc + 3, L, S) μ) : am_K D cy H00 b Ln xs adK c0 z0 p l e R s m args below meth c Q (q, pc, L, .int x :: S) μ :=
  fun H locs cells slots ls hR hL hlo hc hz => lv_if_le C.1 C.2.1 hd ht (fun h => K1 h H locs cells slots ls hR hL hlo hc hz) (fun h => K2 h H locs cells slots ls hR hL hlo hc hz)
theorem am_s_tsw {x : Int32} {d lo hi : Int} {offs : Array Int} {len t : Nat} (C : am_Cx D cy H00 b Ln xs adK adV q p R s m args meth c) (hd : decode (am_ms q).2.1 pc = .ok (.tableswitch d lo hi offs, len)) (ht : am_tsw pc d lo hi offs x = some t) (K : am_K D cy H00 b Ln xs adK c0 z0 p l e R s m args below meth c Q (q, t, L, S) μ) : am_K D cy H00 b Ln xs adK c0 z0 p l e R s m args below meth c Q (q, pc, L, .int x :: S) μ := by
  intro H locs cells slots ls hR hL hlo hc hz
  unfold am_tsw at ht
  split at ht
  · next h =>
    split at ht
    · next h1 =>
      have e := Option.some.inj ht
      exact lv_tableOut C.1 C.2.1 hd h (tgt := t) (by rw [← e]; exact (Int.toNat_of_nonneg h1).symm) (K H locs cells slots ls hR hL hlo hc hz)
    · cases ht
  · next h =>
    split at ht
    · next o ho =>
      split at ht
      · next h1 =>
        have e := Option.some.inj ht
        exact lv_tableIn C.1 C.2.1 hd (fun g => h (Or.inl g)) (fun g => h (Or.inr g)) ho (tgt := t) (by rw [← e]; exact (Int.toNat_of_nonneg h1).symm) (K H locs cells slots ls hR hL hlo hc hz)
      · cases ht
    · cases ht
theorem am_s_lsw {x : Int32} {d : Int} {ps : Array (Int × Int)} {len t : Nat} (C : am_Cx D cy H00 b Ln xs adK adV q p R s m args meth c) (hd : decode (am_ms q).2.1 pc = .ok (.lookupswitch d ps, len)) (hp : (ps.toList.zip (ps.toList.drop 1)).all (fun (a, next) => a.1 < next.1) = true) (ht : am_lsw pc d ps x = some t) (K : am_K D cy H00 b Ln xs adK c0 z0 p l e R s m args below meth c Q (q, t, L, S) μ) : am_K D cy H00 b Ln xs adK c0 z0 p l e R s m args below meth c Q (q, pc, L, .int x :: S) μ := by
  intro H locs cells slots ls hR hL hlo hc hz
  unfold am_lsw at ht
  split at ht
  · next h1 =>
    have e := Option.some.inj ht
    exact lv_lookup C.1 C.2.1 hd hp rfl (tgt := t) (by rw [← e]; exact (Int.toNat_of_nonneg h1).symm) (K H locs cells slots ls hR hL hlo hc hz)
  · cases ht
theorem am_s_ldcI {idx v : Nat} (C : am_Cx D cy H00 b Ln xs adK adV q p R s m args meth c) (hd : decode (am_ms q).2.1 pc = .ok (.ldc idx, 2)) (hi : am_hasI (am_ms q).2.2.2.2 idx v = true) (K : am_K D cy H00 b Ln xs adK c0 z0 p l e R s m args below meth c Q (q, pc + 2, L, .int (nI v) :: S) μ) : am_K D cy H00 b Ln xs adK c0 z0 p l e R s m args below meth c Q (q, pc, L, S) μ := by
  intro H locs cells slots ls hR hL hlo hc hz
  obtain ⟨x, hx, h⟩ := List.any_eq_true.mp hi
  simp only [Bool.and_eq_true, beq_iff_eq] at h
  have hw := C.2.2.2.2.2.1 _ (am_at_in (List.all_eq_true.mp am_I_ok x hx))
  rw [h.1.1, h.1.2, h.2] at hw
  exact lv_ldc C.1 C.2.1 C.2.2.2.2.1 hw hd (K H locs cells slots ls hR hL hlo hc hz)
theorem am_s_ldcwI {idx v : Nat} (C : am_Cx D cy H00 b Ln xs adK adV q p R s m args meth c) (hd : decode (am_ms q).2.1 pc = .ok (.ldc_w idx, 3)) (hi : am_hasI (am_ms q).2.2.2.2 idx v = true) (K : am_K D cy H00 b Ln xs adK c0 z0 p l e R s m args below meth c Q (q, pc + 3, L, .int (nI v) :: S) μ) : am_K D cy H00 b Ln xs adK c0 z0 p l e R s m args below meth c Q (q, pc, L, S) μ := by
  intro H locs cells slots ls hR hL hlo hc hz
  obtain ⟨x, hx, h⟩ := List.any_eq_true.mp hi
  simp only [Bool.and_eq_true, beq_iff_eq] at h
  have hw := C.2.2.2.2.2.1 _ (am_at_in (List.all_eq_true.mp am_I_ok x hx))
  rw [h.1.1, h.1.2, h.2] at hw
  exact lv_ldcw C.1 C.2.1 C.2.2.2.2.1 hw hd (K H locs cells slots ls hR hL hlo hc hz)
theorem am_s_ldc2 {idx v g : Nat} (C : am_Cx D cy H00 b Ln xs adK adV q p R s m args meth c) (hd : decode (am_ms q).2.1 pc = .ok (.ldc2_w idx, 3)) (hi : am_hasJ (am_ms q).2.2.2.2 idx v g = true) (K : am_K D cy H00 b Ln xs adK c0 z0 p l e R s m args below meth c Q (q, pc + 3, L, .long (if g = 1 then -(lN v) else lN v) :: S) μ) : am_K D cy H00 b Ln xs adK c0 z0 p l e R s m args below meth c Q (q, pc, L, S) μ := by
  intro H locs cells slots ls hR hL hlo hc hz
  obtain ⟨x, hx, h⟩ := List.any_eq_true.mp hi
  simp only [Bool.and_eq_true, beq_iff_eq] at h
  have hw := C.2.2.2.2.2.1 _ (am_at_in (List.all_eq_true.mp am_J_ok x hx))
  rw [h.1.1.1, h.1.1.2, h.1.2, h.2] at hw
  exact lv_ldc2 C.1 C.2.1 C.2.2.2.2.1 hw hd (K H locs cells slots ls hR hL hlo hc hz)
theorem am_s_ldcS {idx v : Nat} (C : am_Cx D cy H00 b Ln xs adK adV q p R s m args meth c) (hd : decode (am_ms q).2.1 pc = .ok (.ldc idx, 2)) (hi : am_hasS (am_ms q).2.2.2.2 idx v = true) (K : am_K D cy H00 b Ln xs adK c0 z0 p l e R s m args below meth c Q (q, pc + 2, L, .float (UInt32.ofNat v) :: S) μ) : am_K D cy H00 b Ln xs adK c0 z0 p l e R s m args below meth c Q (q, pc, L, S) μ := by
  intro H locs cells slots ls hR hL hlo hc hz
  obtain ⟨x, hx, h⟩ := List.any_eq_true.mp hi
  simp only [Bool.and_eq_true, beq_iff_eq] at h
  have ho := List.all_eq_true.mp am_S_ok x hx
  unfold am_okS at ho
  split at ho
  · next t ht =>
    rw [decide_eq_true_eq] at ho
    have hw := C.2.2.2.2.2.2.2.2.1.2.2.2.1 x.2.2.1 t ht ho.2.2.2
    rw [ho.1, ho.2.1, h.1.1, h.1.2] at hw
    refine va_ldcS C.1 C.2.1 C.2.2.2.2.1 hw hd ?_
    have hk := K H locs cells slots ls hR hL hlo hc hz
    rw [List.map_cons] at hk
    have e : am_cv H00.size b adK (.float (UInt32.ofNat v)) = .ref (adK x.2.2.1) := by
      show Value.ref (adK (UInt32.ofNat v).toNat) = _
      rw [← h.2]
      congr 2
      exact UInt32.toNat_ofNat_of_lt' (by have := ho.2.2.1; show _ < 2 ^ 32; omega)
    rw [e] at hk
    exact hk
  · cases ho
theorem am_s_ldcwS {idx v : Nat} (C : am_Cx D cy H00 b Ln xs adK adV q p R s m args meth c) (hd : decode (am_ms q).2.1 pc = .ok (.ldc_w idx, 3)) (hi : am_hasS (am_ms q).2.2.2.2 idx v = true) (K : am_K D cy H00 b Ln xs adK c0 z0 p l e R s m args below meth c Q (q, pc + 3, L, .float (UInt32.ofNat v) :: S) μ) : am_K D cy H00 b Ln xs adK c0 z0 p l e R s m args below meth c Q (q, pc, L, S) μ := by
  intro H locs cells slots ls hR hL hlo hc hz
  obtain ⟨x, hx, h⟩ := List.any_eq_true.mp hi
  simp only [Bool.and_eq_true, beq_iff_eq] at h
  have ho := List.all_eq_true.mp am_S_ok x hx
  unfold am_okS at ho
  split at ho
  · next t ht =>
    rw [decide_eq_true_eq] at ho
    have hw := C.2.2.2.2.2.2.2.2.1.2.2.2.1 x.2.2.1 t ht ho.2.2.2
    rw [ho.1, ho.2.1, h.1.1, h.1.2] at hw
    refine am_ldcwS C.1 C.2.1 C.2.2.2.2.1 hw hd ?_
    have hk := K H locs cells slots ls hR hL hlo hc hz
    rw [List.map_cons] at hk
    have e : am_cv H00.size b adK (.float (UInt32.ofNat v)) = .ref (adK x.2.2.1) := by
      show Value.ref (adK (UInt32.ofNat v).toNat) = _
      rw [← h.2]
      congr 2
      exact UInt32.toNat_ofNat_of_lt' (by have := ho.2.2.1; show _ < 2 ^ 32; omega)
    rw [e] at hk
    exact hk
  · cases ho
end SND
