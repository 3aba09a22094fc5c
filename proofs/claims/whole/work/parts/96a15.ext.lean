/-! WHAT ISN'T A METHOD OF THE TABLES: Object's constructor, Math's max and min, arraycopy -/
def am_xn (c : Nat) : MethodName := match c with
  | 9000 => ⟨"java/lang/Object", "<init>", "()V"⟩
  | 9001 => ⟨"java/lang/String", "length", "()I"⟩
  | 9002 => ⟨"java/lang/String", "charAt", "(I)C"⟩
  | 9003 => ⟨"java/lang/System", "arraycopy", "(Ljava/lang/Object;ILjava/lang/Object;II)V"⟩
  | 9004 => ⟨"TenthBeanLaw", "led", "(LTenthBean;I[J)I"⟩
  | 9005 => ⟨"java/lang/Math", "max", "(II)I"⟩
  | _ => ⟨"java/lang/Math", "min", "(II)I"⟩
theorem am_hasX_link {args : Array Value} {s : State} {o idx c : Nat} (hts : ∀ w ∈ am_gw, w.before args s = true) (h : am_hasX o idx c = true) : (Cond.methodLink (am_own o) idx (am_xn c)).before args s = true := by
  obtain ⟨x, hx, h⟩ := List.any_eq_true.mp h
  simp only [Bool.and_eq_true, beq_iff_eq] at h
  have hw := hts _ (am_at_in (List.all_eq_true.mp am_X_ok x hx))
  rw [h.1.1, h.1.2, h.2] at hw
  exact hw
theorem am_o1 : Cond.instanceMethod Lib.objectInit ∈ am_gw := by decide +kernel
theorem am_o2 : Cond.code Lib.objectInit ⟨#[0xb1]⟩ 1 none ∈ am_gw := by decide +kernel
theorem am_m1 : Cond.static Lib.Math.max.name ∈ am_gw ∧ Cond.static Lib.Math.min.name ∈ am_gw ∧ Cond.initialized "java/lang/Math" ∈ am_gw ∧ Cond.code Lib.Math.max.name Lib.Math.max.code 2 (some .int) ∈ am_gw ∧ Cond.code Lib.Math.min.name Lib.Math.min.code 2 (some .int) ∈ am_gw := by decide +kernel
theorem am_a1 : Cond.native arraycopyName ∈ am_gw ∧ Cond.static arraycopyName ∈ am_gw ∧ Cond.initialized "java/lang/System" ∈ am_gw := by decide +kernel
section EXT
variable {p : Program} {l : Launch} {e : Env} {R : Room} {s : State} {m : MethodId} {args : Array Value} {below : List Frame} {meth : Method} {c : Code} {Q : State → Prop}
variable {D : va_G} {cy : Nat → ClassId} {H00 : Heap} {b Ln : Nat} {xs : Nat → Int32} {adK adV : Nat → Nat} {c0 z0 q pc : Nat} {L S : List Value} {μ : am_M} {idx : Nat}
theorem am_x_init {a : Nat} (C : am_Cx D cy H00 b Ln xs adK adV q p R s m args meth c) (hd : decode (am_ms q).2.1 pc = .ok (.invokespecial idx, 3)) (hX : am_hasX (am_ms q).2.2.2.2 idx 9000 = true) (hcat : am_cat S ≤ 8) (K : am_K D cy H00 b Ln xs adK c0 z0 p l e R s m args below meth c Q (q, pc + 3, L, S) μ) : am_K D cy H00 b Ln xs adK c0 z0 p l e R s m args below meth c Q (q, pc, L, .ref a :: S) μ := by
  intro H locs cells slots ls hR hL hlo hc hz
  have hts := C.2.2.2.2.2.1
  have h1 := C.2.2.2.2.2.2.2.2.2.1
  have h2 := C.2.2.2.2.2.2.2.2.2.2
  refine W.objInit C.1 C.2.1 C.2.2.2.2.1 (am_hasX_link hts hX) (hts _ am_o1) (hts _ am_o2) rfl (by rw [C.2.2.1]; exact hL.1) rfl hd (by omega) ?_ (K H locs cells slots ls hR hL hlo hc hz)
  show 2 * 0 + ((S.map (am_cv H00.size b adK)).map fun v => v.category).sum + 12 ≤ R.locals
  rw [am_cat_cv]
  omega
theorem am_x_max {x y : Int32} (C : am_Cx D cy H00 b Ln xs adK adV q p R s m args meth c) (hd : decode (am_ms q).2.1 pc = .ok (.invokestatic idx, 3)) (hX : am_hasX (am_ms q).2.2.2.2 idx 9005 = true) (hcat : am_cat S ≤ 8) (hr1 : μ.2.2.2.2.1 ≤ c0 + R.cells) (hr2 : μ.2.2.2.2.2 ≤ z0 + R.slots)
    (K : am_K D cy H00 b Ln xs adK c0 z0 p l e R s m args below meth c Q (q, pc + 3, L, .int (if x < y then y else x) :: S) μ) : am_K D cy H00 b Ln xs adK c0 z0 p l e R s m args below meth c Q (q, pc, L, .int y :: .int x :: S) μ := by
  intro H locs cells slots ls hR hL hlo hc hz
  have hts := C.2.2.2.2.2.1
  have h1 := C.2.2.2.2.2.2.2.2.2.1
  have h2 := C.2.2.2.2.2.2.2.2.2.2
  exact va_mmax C.1 C.2.1 (by rw [C.2.2.1]; exact hL.1.symm) C.2.2.2.2.1 (am_hasX_link hts hX) (hts _ am_m1.1) (hts _ am_m1.2.2.1) (hts _ am_m1.2.2.2.1) (by omega) (by rw [am_cat_cv]; omega) (by omega) (by omega) hd (K H locs cells slots ls hR hL hlo hc hz)
theorem am_x_min {x y : Int32} (C : am_Cx D cy H00 b Ln xs adK adV q p R s m args meth c) (hd : decode (am_ms q).2.1 pc = .ok (.invokestatic idx, 3)) (hX : am_hasX (am_ms q).2.2.2.2 idx 9006 = true) (hcat : am_cat S ≤ 8) (hr1 : μ.2.2.2.2.1 ≤ c0 + R.cells) (hr2 : μ.2.2.2.2.2 ≤ z0 + R.slots)
    (K : am_K D cy H00 b Ln xs adK c0 z0 p l e R s m args below meth c Q (q, pc + 3, L, .int (if y < x then y else x) :: S) μ) : am_K D cy H00 b Ln xs adK c0 z0 p l e R s m args below meth c Q (q, pc, L, .int y :: .int x :: S) μ := by
  intro H locs cells slots ls hR hL hlo hc hz
  have hts := C.2.2.2.2.2.1
  have h1 := C.2.2.2.2.2.2.2.2.2.1
  have h2 := C.2.2.2.2.2.2.2.2.2.2
  exact va_mmin C.1 C.2.1 (by rw [C.2.2.1]; exact hL.1.symm) C.2.2.2.2.1 (am_hasX_link hts hX) (hts _ am_m1.2.1) (hts _ am_m1.2.2.1) (hts _ am_m1.2.2.2.2) (by omega) (by rw [am_cat_cv]; omega) (by omega) (by omega) hd (K H locs cells slots ls hR hL hlo hc hz)
theorem am_nn {z : Int32} (hz : ¬ z < 0) : z.toInt = (z.toNatClampNeg : Int) := by
  have h0 : (0 : Int) ≤ z.toInt := by simpa using Int32.le_iff_toInt_le.mp (Int32.not_lt.mp hz)
  show z.toInt = ((z.toInt.toNat : Nat) : Int)
  omega
theorem am_x_copy {a d : Nat} {n sp dp : Int32} (C : am_Cx D cy H00 b Ln xs adK adV q p R s m args meth c) (hd : decode (am_ms q).2.1 pc = .ok (.invokestatic idx, 3)) (hX : am_hasX (am_ms q).2.2.2.2 idx 9003 = true) (hcat : am_cat S ≤ 8) (ha : (μ.2.2.2.1 a).1 = 14) (hdk : (μ.2.2.2.1 d).1 = 14) (h3 : ¬ n < 0) (h1 : ¬ sp < 0) (h2 : ¬ dp < 0) (h4 : sp.toNatClampNeg + n.toNatClampNeg ≤ (μ.2.2.2.1 a).2) (h5 : dp.toNatClampNeg + n.toNatClampNeg ≤ (μ.2.2.2.1 d).2)
    (K : am_K D cy H00 b Ln xs adK c0 z0 p l e R s m args below meth c Q (q, pc + 3, L, S) (va_up μ.1 d (va_cpy (μ.1 a) (μ.1 d) sp.toNatClampNeg dp.toNatClampNeg n.toNatClampNeg), μ.2)) : am_K D cy H00 b Ln xs adK c0 z0 p l e R s m args below meth c Q (q, pc, L, .int n :: .int dp :: .ref d :: .int sp :: .ref a :: S) μ := by
  intro H locs cells slots ls hR hL hlo hc hz T hT X
  have hts := C.2.2.2.2.2.1
  have hf := C.2.2.2.2.2.2.2.2.2.1
  have hlc := C.2.2.2.2.2.2.2.2.2.2
  have hK := C.2.2.2.2.2.2.2.2.1.1
  have hc0 : H[H00.size + a]? = some (vp_cell (cy 14) ((μ.2.2.2.1 a).2, .inl (μ.1 a))) := hR.arr ha (by decide)
  have hc1 : H[H00.size + d]? = some (vp_cell (cy 14) ((μ.2.2.2.1 d).2, .inl (μ.1 d))) := hR.arr hdk (by decide)
  obtain ⟨-, k0, hk0, cm0, hkk0⟩ := (hK.2 1 (cy 14, .int) rfl).1 (μ.2.2.2.1 a).2 (fun j => .int (μ.1 a j))
  obtain ⟨-, k1, hk1, cm1, hkk1⟩ := (hK.2 1 (cy 14, .int) rfl).1 (μ.2.2.2.1 d).2 (fun j => .int (μ.1 d j))
  obtain ⟨vm', X', step⟩ := X.arraycopy C.1 C.2.2.2.2.1 (am_hasX_link hts hX) (hts _ am_a1.1) (hts _ am_a1.2.1) (hts _ am_a1.2.2) (src := H00.size + a) (dst := H00.size + d) (cs := vp_cell (cy 14) ((μ.2.2.2.1 a).2, .inl (μ.1 a))) (cd := vp_cell (cy 14) ((μ.2.2.2.1 d).2, .inl (μ.1 d))) (srcPos := sp) (destPos := dp) (n := n) (by rw [hT]; exact hc0) (by rw [hT]; exact hc1)
    (fun _ h => by cases h) (fun _ h => by cases h) (fun h => by cases h) (fun h => by cases h) hk0 hk1 hkk0 hkk1 (by simp [refKind]) h1 h2 h3
    (by rw [am_nn h1, am_nn h3]; show ¬ _ > ((arrV _ _ _).slots.size : Int); rw [arrV_size]; omega)
    (by rw [am_nn h2, am_nn h3]; show ¬ _ > ((arrV _ _ _).slots.size : Int); rw [arrV_size]; omega)
    (fun vm₁ _ i hi => by
      have e : (vp_cell (cy 14) ((μ.2.2.2.1 a).2, .inl (μ.1 a))).slots.getD (sp.toNatClampNeg + i) .null = .int (μ.1 a (sp.toNatClampNeg + i)) := by
        show (arrV _ _ (fun j => .int (μ.1 a j))).slots.getD _ _ = _
        rw [Array.getD_eq_getD_getElem?, arrV_read _ _ (by omega)]
        rfl
      refine ⟨?_, ?_⟩
      · rw [e]; rfl
      · rw [e]; exact trivial)
    (g := F0 m pc ls (.int n :: .int dp :: .ref (H00.size + d) :: .int sp :: .ref (H00.size + a) :: S.map (am_cv H00.size b adK))) rfl (by rw [C.2.2.1]; exact hL.1) (rest := S.map (am_cv H00.size b adK)) rfl (by rw [C.2.1]; exact hd) (by omega) (by
      have := am_cat_cv (z := H00.size) (b := b) (adK := adK) S
      show 2 * 0 + ((S.map (am_cv H00.size b adK)).map fun v => v.category).sum + (nativeFrameWords "java/lang/System" "arraycopy" 5 + 11) ≤ R.locals
      rw [this]
      have hw : nativeFrameWords "java/lang/System" "arraycopy" 5 ≤ 40 := by decide +kernel
      omega)
  have e1 : copied (vp_cell (cy 14) ((μ.2.2.2.1 a).2, .inl (μ.1 a))) (vp_cell (cy 14) ((μ.2.2.2.1 d).2, .inl (μ.1 d))) sp dp n = vp_cell (cy 14) ((μ.2.2.2.1 d).2, .inl (va_cpy (μ.1 a) (μ.1 d) sp.toNatClampNeg dp.toNatClampNeg n.toNatClampNeg)) := va_copied (fun z => .int z) _ _ _ _ h4
  rw [e1] at X' step
  have hl : H00.size + d < H.size := (Array.getElem?_eq_some_iff.mp hc1).1
  generalize hcell : vp_cell (cy 14) ((μ.2.2.2.1 d).2, .inl (va_cpy (μ.1 a) (μ.1 d) sp.toNatClampNeg dp.toNatClampNeg n.toNatClampNeg)) = cell at X' step
  have hheap : ((T.setVm vm').setCell (H00.size + d) cell).heap = H.setIfInBounds (H00.size + d) cell := by rw [← hT]; rfl
  obtain ⟨t, a1, b1⟩ := K (H.setIfInBounds (H00.size + d) cell) _ cells slots ls (hR.upd (a := d) (by omega) (by simp) (fun r hr => by simp [Array.getElem?_setIfInBounds, Ne.symm hr]) (fun b hb => ⟨by simp [va_up, hb], rfl, rfl⟩) rfl (by
      rw [hdk]
      show (H.setIfInBounds (H00.size + d) cell)[H00.size + d]? = some (vp_cell _ _)
      rw [← hcell]
      simp [Array.getElem?_setIfInBounds, hl, va_up])) hL (fun y hy => by
      rcases List.mem_append.mp hy with h | h
      · exact hlo y h
      · obtain ⟨z, -, hz⟩ := List.mem_map.mp h
        rw [← hz]
        exact Nat.le_add_right _ _) hc hz _ hheap X'
  exact ⟨t, step t a1, b1⟩
end EXT
