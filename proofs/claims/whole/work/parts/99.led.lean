/-! TenthBean.led, TenthBeanLaw.led -/
def ax_NS : String := "java/util/NoSuchElementException"
def ax_at : List Cond := (ax_ownX "TenthBean" 381 ax_NS 13 prog_29_method_4_code "java/lang/RuntimeException" ["java/lang/Exception"]).filter vx_no
def ax_nw : List Cond := [.castable ax_NS ax_NS, .declares (Bundle.initS "java/lang/RuntimeException"), .declares (Bundle.initS "java/lang/Exception"), .declares (Bundle.initS Bundle.tN)]
theorem ax_at_in : ∀ w ∈ ax_at.filter goodWord, w ∈ am_gw := by decide +kernel
theorem ax_at_ng : ∀ w ∈ ax_at.filter (fun w => !goodWord w), w ∈ ax_nw := by decide +kernel
theorem ax_nw_at {args : Array Value} {s : State} (h : am_WW s) : ∀ w ∈ ax_nw, w.before args s = true := by
  intro w hw
  simp only [ax_nw, List.mem_cons, List.not_mem_nil, or_false] at hw
  rcases hw with rfl | rfl | rfl | rfl
  · exact va_Nw.use rfl h.1
  · exact va_Nw.use rfl h.2.1
  · exact va_Nw.use rfl h.2.2.1
  · exact va_Nw.use rfl h.2.2.2
theorem ax_at_ot : ∀ w ∈ Cond.classLink "TenthBean" 377 ax_NS :: Cond.initialized ax_NS :: ax_at, vx_ot w = true := by decide +kernel
theorem ax_cl377 : Cond.classLink "TenthBean" 377 ax_NS ∈ am_gw := by decide +kernel
theorem ax_iniN : Cond.initialized ax_NS ∈ am_gw := by decide +kernel
theorem ax_iniB : Cond.initialized "TenthBean" ∈ am_gw := by decide +kernel
theorem ax_iniW : Cond.initialized "TenthBeanLaw" ∈ am_gw := by decide +kernel
theorem ax_cd_has : Cond.code yX11_has cX11_has 2 (some .boolean) ∈ am_gw := by decide +kernel
theorem ax_st_has : Cond.static yX11_has ∈ am_gw := by decide +kernel
theorem ax_l146 : Cond.methodLink "TenthBean" 146 yX11_has ∈ am_gw := by decide +kernel
theorem ax_cd_led : Cond.code yX11_led cX11_led 4 (some .int) ∈ am_gw := by decide +kernel
theorem ax_in_led : Cond.instanceMethod yX11_led ∈ am_gw := by decide +kernel
theorem ax_se_led : Cond.selects "TenthBean" yX11_led yX11_led ∈ am_gw := by decide +kernel
theorem ax_l7 : Cond.methodLink "TenthBeanLaw" 7 yX11_led ∈ am_gw := by decide +kernel
theorem ax_cw_led : Cond.codeWith yL_led cL_led 4 (some .int) [(0, 9, 12, 13)] ∈ am_gw := by decide +kernel
theorem ax_st_law : Cond.static yL_led ∈ am_gw := by decide +kernel
theorem ax_cl13 : Cond.classLink "TenthBeanLaw" 13 ax_NS ∈ am_gw := by decide +kernel
theorem ax_d_has : yX11_has.cls ≠ "java/lang/invoke/MethodHandle" ∧ yX11_has.cls ≠ "java/lang/invoke/VarHandle" ∧ (parseMethodDescriptor yX11_has.desc).map (fun d => d.parameters.length) = some 2 := by decide +kernel
theorem ax_d_led : yX11_led.cls ≠ "java/lang/invoke/MethodHandle" ∧ yX11_led.cls ≠ "java/lang/invoke/VarHandle" ∧ (parseMethodDescriptor yX11_led.desc).map (fun d => d.parameters.length) = some 1 := by decide +kernel
theorem ax_d_law : yL_led.cls ≠ "java/lang/invoke/MethodHandle" ∧ yL_led.cls ≠ "java/lang/invoke/VarHandle" ∧ (parseMethodDescriptor yL_led.desc).map (fun d => d.parameters.length) = some 3 := by decide +kernel
def ax_bit (a k : Int32) : Int32 := if a >>> (k &&& 31) &&& 1 = 0 then 0 else 1
theorem ax_has {l : Launch} {H0 : Heap} {a k : Int32} : Met l yX11_has (Cond.code yX11_has cX11_has 2 (some .boolean) :: am_gw) { frames := 0, cells := 0, slots := 0, locals := 0 } (fun B U => B = [Value.int a, .int k].toArray ∧ U.heap = H0) (fun _ _ o t => o = .returned (some (.int (ax_bit a k))) ∧ t.heap = H0) 0 0 (fun _ => False) := by
  refine Met.ofW (cc := cX11_has) (maxL := 2) (ret := some .boolean) (by decide) rfl ?_
  intro p e s m args below meth c s₁ B hml hv
  obtain ⟨rfl, hH⟩ := hv
  subst hH
  have hx := B.exec
  have hb := B.bytes
  have hr := B.returns
  have hlocks := B.notSynchronized
  have hl := lv_entry ([.int a, .int k]) (n := 2) (Nat.le_of_ble_eq_true rfl)
  rw [lg_entry_eq]
  generalize (lg_sl ([.int a, .int k]) ++ List.replicate (2 - (lg_sl ([.int a, .int k])).length) Slot.unset).toArray = ls at hl ⊢
  have hl : lv_has ls 2 [(0, .int a), (1, .int k)] := hl
  refine lv_iload_n hx hb (show decode cX11_has 0 = .ok (.iload_n 0, 1) by decide +kernel) rfl (lv_at hl 0 rfl) ?_
  refine lv_iload_n hx hb (show decode cX11_has 1 = .ok (.iload_n 1, 1) by decide +kernel) rfl (lv_at hl 1 rfl) ?_
  refine lv_ishr hx hb (show decode cX11_has 2 = .ok (.ishr, 1) by decide +kernel) ?_
  refine lv_iconst (v := 1) hx hb (show decode cX11_has 3 = .ok (.iconst 1, 1) by decide +kernel) rfl ?_
  refine lv_iand hx hb (show decode cX11_has 4 = .ok (.iand, 1) by decide +kernel) ?_
  refine lv_if_eq hx hb (show decode cX11_has 5 = .ok (.ifCond .eq 7, 3) by decide +kernel) (tgt := 12) (by decide) (fun h => ?_) (fun h => ?_)
  · refine lv_iconst (v := 0) hx hb (show decode cX11_has 12 = .ok (.iconst 0, 1) by decide +kernel) rfl ?_
    refine W.zret (v := 0) hx hb hr rfl (fun t ht hW => ⟨?_, ht⟩) (fun q hq => by cases hq) (show decode cX11_has 13 = .ok (.ireturn, 1) by decide +kernel)
    unfold ax_bit; rw [if_pos h]
  · refine lv_iconst (v := 1) hx hb (show decode cX11_has 8 = .ok (.iconst 1, 1) by decide +kernel) rfl ?_
    refine lv_goto hx hb (show decode cX11_has 9 = .ok (.goto 4, 3) by decide +kernel) (tgt := 13) (by decide) ?_
    refine W.zret (v := 1) hx hb hr rfl (fun t ht hW => ⟨?_, ht⟩) (fun q hq => by cases hq) (show decode cX11_has 13 = .ok (.ireturn, 1) by decide +kernel)
    unfold ax_bit; rw [if_neg h]
section AXL
variable {D : va_G} {cy : Nat → ClassId} {H00 : Heap} {b Ln : Nat} {xs : Nat → Int32} {adK adV : Nat → Nat} {μ : am_M} {x t w : Nat} {i : Int32} {l : Launch}
theorem ax_getf {p : Program} {e : Env} {R : Room} {s : State} {m : MethodId} {args : Array Value} {below : List Frame} {meth : Method} {c : Code} {Q : State → Prop} {H : Heap} {locs : List Loc} {cells slots pc : Nat} {ls : Array Slot} {rest : List Value} {cc : ByteArray} {a ci k idx : Nat} {v : Value} (hx : p.tables.exec = Jvm.exec) (hb : c.code = cc) (hown : s.vm.findClass "TenthBean" = some m.cls) (hts : ∀ w ∈ am_gw, w.before args s = true) (hR : am_Rel D cy H00 Ln xs μ H) (hK : am_KK D cy H00 b Ln xs adK adV s)
    (hF : am_hasF 11 idx ci k = true) (hi : ci < 13) (hk : k < am_N ci) (ha : (μ.2.2.2.1 a).1 = ci) (hv : am_fv H00.size μ a ci k = v) (hd : decode cc pc = .ok (.getfield idx, 3))
    (kk : W p l e R s m args below meth c H locs cells slots Q (F0 m (pc + 3) ls (v :: rest))) : W p l e R s m args below meth c H locs cells slots Q (F0 m pc ls (.ref (H00.size + a) :: rest)) := by
  subst hv
  exact va_get (own := am_own 11) (ref := (am_TT ci k).1) (C := am_RR ci) (T := am_TT ci) (N := am_N ci) (ci := ci) hx hb hts (am_inG _ hi) hown hK.1 (am_P1 (hR.obj ha hi)) 0 rfl (am_clv _ hi) k hk (am_hF hts hF) (fun x h => h) (am_fs_get hk) hd kk
theorem ax_loop {p : Program} {e : Env} {R : Room} {s : State} {m : MethodId} {args : Array Value} {below : List Frame} {meth : Method} {c : Code} {Q : State → Prop} {H : Heap} {locs : List Loc} {cells slots : Nat}
    (hx : p.tables.exec = Jvm.exec) (hb : c.code = cX11_led) (hml : c.maxLocals = 4) (hown : s.vm.findClass "TenthBean" = some m.cls) (hts : ∀ w ∈ am_gw, w.before args s = true) (hR : am_Rel D cy H00 Ln xs μ H) (hK : am_KK D cy H00 b Ln xs adK adV s) (hfr : 1 ≤ R.frames) (hlo : 21 ≤ R.locals) (hroom : cells ≤ R.cells ∧ slots ≤ R.slots)
    (hx11 : (μ.2.2.2.1 x).1 = 11) (hp3 : μ.2.2.1 x 3 = some t) (hp4 : μ.2.2.1 x 4 = some w) (ht4 : (μ.2.2.2.1 t).1 = 4) (hm8 : μ.1 t 5 ≤ 8) (hw6 : (μ.2.2.2.1 w).1 = 6)
    (kr : ∀ (k : Nat) (ls : Array Slot), am_led μ x i 0 0 9 = some k → ls[3]? = some (.val (.int (nI k))) → W p l e R s m args below meth c H locs cells slots Q (F0 m 34 ls []))
    (kt : ∀ (ls : Array Slot), am_led μ x i 0 0 9 = none → ls.size = 4 → W p l e R s m args below meth c H locs cells slots Q (F0 m 45 ls [])) :
    ∀ (F k : Nat) (n : Int32) (ls : Array Slot), k + F = 9 → k ≤ 8 → lv_has ls 4 [(3, .int (nI k)), (2, .int n), (0, .ref (H00.size + x)), (1, .int i)] → am_led μ x i k n F = am_led μ x i 0 0 9 → W p l e R s m args below meth c H locs cells slots Q (F0 m 4 ls []) := by
  intro F
  induction F with
  | zero => intro k n ls h1 h2; omega
  | succ F ih =>
    intro k n ls h1 h2 hl he
    have e1 : am_led μ x i k n (F + 1) = if nI k < μ.1 t 5 then (if μ.1 w 1 >>> (nI k &&& 31) &&& 1 = 0 then (if n = i then some k else am_led μ x i (k + 1) (n + 1) F) else am_led μ x i (k + 1) n F) else none := by
      rw [am_led, hp3]
      dsimp only
      rw [hp4]
    rw [e1] at he
    refine lv_iload_n hx hb (show decode cX11_led 4 = .ok (.iload_n 3, 1) by decide +kernel) rfl (lv_at hl 0 rfl) ?_
    refine lv_aload_n hx hb (show decode cX11_led 5 = .ok (.aload_n 0, 1) by decide +kernel) rfl (lv_at hl 2 rfl) ?_
    refine ax_getf (v := .ref (H00.size + t)) (ci := 11) (k := 3) hx hb hown hts hR hK (by decide +kernel) (by decide) (by decide) hx11 (by show va_rf ((μ.2.2.1 x 3).map fun r => H00.size + r) = _; rw [hp3]; rfl) (show decode cX11_led 6 = .ok (.getfield 29, 3) by decide +kernel) ?_
    refine ax_getf (v := .int (μ.1 t 5)) (ci := 4) (k := 5) hx hb hown hts hR hK (by decide +kernel) (by decide) (by decide) ht4 rfl (show decode cX11_led 9 = .ok (.getfield 113, 3) by decide +kernel) ?_
    refine lv_icmp_ge hx hb (show decode cX11_led 12 = .ok (.if_icmp .ge 33, 3) by decide +kernel) (tgt := 45) (by decide) (fun hge => ?_) (fun hlt => ?_)
    · rw [if_neg (Int32.not_lt.mpr hge)] at he
      exact kt ls he.symm hl.1
    · have hlt := Int32.not_le.mp hlt
      rw [if_pos hlt] at he
      have hk8 : k < 8 := by
        by_cases c8 : k = 8
        · subst c8
          exact absurd (Int32.lt_of_lt_of_le hlt hm8) (by decide)
        · omega
      have hnx : nI k + Int32.ofInt 1 = nI (k + 1) := (nI_succ k).symm
      refine lv_aload_n hx hb (show decode cX11_led 15 = .ok (.aload_n 0, 1) by decide +kernel) rfl (lv_at hl 2 rfl) ?_
      refine ax_getf (v := .ref (H00.size + w)) (ci := 11) (k := 4) hx hb hown hts hR hK (by decide +kernel) (by decide) (by decide) hx11 (by show va_rf ((μ.2.2.1 x 4).map fun r => H00.size + r) = _; rw [hp4]; rfl) (show decode cX11_led 16 = .ok (.getfield 38, 3) by decide +kernel) ?_
      refine ax_getf (v := .int (μ.1 w 1)) (ci := 6) (k := 1) hx hb hown hts hR hK (by decide +kernel) (by decide) (by decide) hw6 rfl (show decode cX11_led 19 = .ok (.getfield 143, 3) by decide +kernel) ?_
      refine lv_iload_n hx hb (show decode cX11_led 22 = .ok (.iload_n 3, 1) by decide +kernel) rfl (lv_at hl 0 rfl) ?_
      have hcb : CallB R s args "TenthBean" 146 yX11_has cX11_has 2 (some .boolean) (Cond.code yX11_has cX11_has 2 (some .boolean) :: am_gw) ({ frames := 0, cells := 0, slots := 0, locals := 0 } : Room) 0 0 2 := callB_of 2 hts (am_good ax_cd_has) rfl rfl rfl (hts _ ax_iniB) (hts _ ax_l146) ax_d_has ⟨hfr, hlo⟩
      refine ax_after (v := some (.int (ax_bit (μ.1 w 1) (nI k)))) (a0 := [Value.int (μ.1 w 1), .int (nI k)].toArray) (va_runS (g := F0 m 23 ls [.int (nI k), .int (μ.1 w 1)]) (As := [.int (μ.1 w 1), .int (nI k)]) (rest := []) ⟨hx, hb, hml, hown, hts⟩ ax_has ⟨hcb, hts _ ax_st_has⟩ ⟨fun _ _ _ _ h => h, fun U hU hW => ⟨rfl, hU⟩⟩ rfl rfl hl.1 rfl (by show 2 * 0 + _ ≤ 8; decide) (show decode cX11_led 23 = .ok (.invokestatic 146, 3) by decide +kernel) hroom) ?_
      refine lv_if_ne hx hb (show decode cX11_led 26 = .ok (.ifCond .ne 13, 3) by decide +kernel) (tgt := 39) (by decide) (fun hr1 => ?_) (fun hr0 => ?_)
      · have hbt : ¬ μ.1 w 1 >>> (nI k &&& 31) &&& 1 = 0 := fun h => hr1 (by unfold ax_bit; rw [if_pos h])
        rw [if_neg hbt] at he
        refine lv_iinc (k := 0) hx hb (show decode cX11_led 39 = .ok (.iinc 3 1, 3) by decide +kernel) hl rfl hnx (by decide) rfl (fun ls hl => ?_)
        refine lv_goto hx hb (show decode cX11_led 42 = .ok (.goto (-38), 3) by decide +kernel) (tgt := 4) (by decide) ?_
        exact ih (k + 1) n ls (by omega) (by omega) hl he
      · have hbt : μ.1 w 1 >>> (nI k &&& 31) &&& 1 = 0 := by
          by_cases h : μ.1 w 1 >>> (nI k &&& 31) &&& 1 = 0
          · exact h
          · unfold ax_bit at hr0; rw [if_neg h] at hr0; exact absurd hr0 (by decide)
        rw [if_pos hbt] at he
        refine lv_iload_n hx hb (show decode cX11_led 29 = .ok (.iload_n 2, 1) by decide +kernel) rfl (lv_at hl 1 rfl) ?_
        refine lv_iload_n hx hb (show decode cX11_led 30 = .ok (.iload_n 1, 1) by decide +kernel) rfl (lv_at hl 3 rfl) ?_
        refine lv_icmp_ne hx hb (show decode cX11_led 31 = .ok (.if_icmp .ne 5, 3) by decide +kernel) (tgt := 36) (by decide) (fun hne => ?_) (fun heq => ?_)
        · rw [if_neg hne] at he
          refine lv_iinc (k := 1) (v := n + 1) hx hb (show decode cX11_led 36 = .ok (.iinc 2 1, 3) by decide +kernel) hl rfl rfl (by decide) rfl (fun ls hl => ?_)
          refine lv_iinc (k := 1) hx hb (show decode cX11_led 39 = .ok (.iinc 3 1, 3) by decide +kernel) hl rfl hnx (by decide) rfl (fun ls hl => ?_)
          refine lv_goto hx hb (show decode cX11_led 42 = .ok (.goto (-38), 3) by decide +kernel) (tgt := 4) (by decide) ?_
          exact ih (k + 1) (n + 1) ls (by omega) (by omega) hl he
        · rw [if_pos heq] at he
          exact kr k ls he.symm (lv_at hl 0 rfl)
theorem ax_ledS (hx11 : (μ.2.2.2.1 x).1 = 11) (hp3 : μ.2.2.1 x 3 = some t) (hp4 : μ.2.2.1 x 4 = some w) (ht4 : (μ.2.2.2.1 t).1 = 4) (hm8 : μ.1 t 5 ≤ 8) (hw6 : (μ.2.2.2.1 w).1 = 6) {k : Nat} (hs : am_led μ x i 0 0 9 = some k) : Met l yX11_led (Cond.code yX11_led cX11_led 4 (some .int) :: am_gw) { frames := 8, cells := 0, slots := 0, locals := 200 } (fun (B : Array Value) (U : State) => B = [Value.ref (H00.size + x), .int i].toArray ∧ am_Rel D cy H00 Ln xs μ U.heap ∧ am_KK D cy H00 b Ln xs adK adV U) (fun _ _ o t => o = .returned (some (.int (nI k))) ∧ am_Rel D cy H00 Ln xs μ t.heap) 0 0 (fun q => H00.size ≤ q) := by
  refine Met.ofW (cc := cX11_led) (maxL := 4) (ret := some .int) (by decide) rfl ?_
  intro p e s m args below meth c s₁ B hml hv
  obtain ⟨rfl, hR, hK⟩ := hv
  have hx := B.exec
  have hb := B.bytes
  have hr := B.returns
  have hts0 := atoms_spec (ws := Cond.code yX11_led cX11_led 4 (some .int) :: am_gw) B.pre
  have hts : ∀ w ∈ am_gw, w.before [Value.ref (H00.size + x), .int i].toArray s = true := fun w hw => hts0 w (List.mem_cons_of_mem _ hw)
  have hown : s.vm.findClass "TenthBean" = some m.cls := findClass_of_methodNamed B.named
  have hlocks := B.notSynchronized
  have hl := lv_entry ([Value.ref (H00.size + x), .int i]) (n := 4) (Nat.le_of_ble_eq_true rfl)
  rw [lg_entry_eq]
  generalize (lg_sl ([Value.ref (H00.size + x), .int i]) ++ List.replicate (4 - (lg_sl ([Value.ref (H00.size + x), .int i])).length) Slot.unset).toArray = ls at hl ⊢
  have hl : lv_has ls 4 [(0, .ref (H00.size + x)), (1, .int i)] := hl
  refine lv_iconst (v := 0) hx hb (show decode cX11_led 0 = .ok (.iconst 0, 1) by decide +kernel) rfl ?_
  refine lv_istore_n hx hb (show decode cX11_led 1 = .ok (.istore_n 2, 1) by decide +kernel) rfl hl (by decide) rfl (fun ls hl => ?_)
  refine lv_iconst (v := 0) hx hb (show decode cX11_led 2 = .ok (.iconst 0, 1) by decide +kernel) rfl ?_
  refine lv_istore_n hx hb (show decode cX11_led 3 = .ok (.istore_n 3, 1) by decide +kernel) rfl hl (by decide) rfl (fun ls hl => ?_)
  refine ax_loop hx hb hml hown hts hR hK (Nat.le_of_ble_eq_true rfl) (Nat.le_of_ble_eq_true rfl) ⟨Nat.le_refl _, Nat.le_refl _⟩ hx11 hp3 hp4 ht4 hm8 hw6 (fun k1 ls1 h1 h2 => ?_) (fun ls1 h1 => absurd (hs.symm.trans h1) (by simp)) 9 0 0 ls rfl (by decide) hl rfl
  have h1 := Option.some.inj (hs.symm.trans h1)
  subst h1
  refine lv_iload_n hx hb (show decode cX11_led 34 = .ok (.iload_n 3, 1) by decide +kernel) rfl h2 ?_
  exact W.iret (v := nI k) hx hb hr (fun t ht hW => ⟨rfl, by rw [ht]; exact hR⟩) (fun q hq => by cases hq) (show decode cX11_led 35 = .ok (.ireturn, 1) by decide +kernel)
theorem ax_ledN (hst : l.stackTraces = false) (hx11 : (μ.2.2.2.1 x).1 = 11) (hp3 : μ.2.2.1 x 3 = some t) (hp4 : μ.2.2.1 x 4 = some w) (ht4 : (μ.2.2.2.1 t).1 = 4) (hm8 : μ.1 t 5 ≤ 8) (hw6 : (μ.2.2.2.1 w).1 = 6) (hs : am_led μ x i 0 0 9 = none) : vx_Met l yX11_led (Cond.code yX11_led cX11_led 4 (some .int) :: am_gw) { frames := 8, cells := 1, slots := 6, locals := 200 } (fun (B : Array Value) (U : State) => B = [Value.ref (H00.size + x), .int i].toArray ∧ am_Rel D cy H00 Ln xs μ U.heap ∧ am_KK D cy H00 b Ln xs adK adV U) (fun _ _ _ _ => False) (fun E st t => E = ax_NS ∧ t.heap.size = st.heap.size + 1 ∧ ∀ q : Nat, q < st.heap.size → t.heap[q]? = st.heap[q]?) 1 6 (fun q => H00.size ≤ q) := by
  refine vx_ofW (cc := cX11_led) (maxL := 4) (ret := some .int) (by decide) rfl ?_
  intro p e s m args below meth c s₁ B hml hout hv
  obtain ⟨rfl, hR, hK⟩ := hv
  have hx := B.exec
  have hb := B.bytes
  have hr := B.returns
  have hts0 := atoms_spec (ws := Cond.code yX11_led cX11_led 4 (some .int) :: am_gw) B.pre
  have hts : ∀ w ∈ am_gw, w.before [Value.ref (H00.size + x), .int i].toArray s = true := fun w hw => hts0 w (List.mem_cons_of_mem _ hw)
  have hown : s.vm.findClass "TenthBean" = some m.cls := findClass_of_methodNamed B.named
  have hlocks := B.notSynchronized
  have hl := lv_entry ([Value.ref (H00.size + x), .int i]) (n := 4) (Nat.le_of_ble_eq_true rfl)
  rw [lg_entry_eq]
  generalize (lg_sl ([Value.ref (H00.size + x), .int i]) ++ List.replicate (4 - (lg_sl ([Value.ref (H00.size + x), .int i])).length) Slot.unset).toArray = ls at hl ⊢
  have hl : lv_has ls 4 [(0, .ref (H00.size + x)), (1, .int i)] := hl
  have hZ : am_ZZ (fun q => H00.size ≤ q) s s.heap := am_ZZ.kept hK.2.2.2.2.1.2 (fun a ha _ => hR.1 a ha)
  have hstr : ∃ j, vk_R "TenthBean" 379 "so many are not gone by lots" (adK j) s := ⟨23, hK.2.2.2.1 23 (11, 379, "so many are not gone by lots") (by decide +kernel) (by decide)⟩
  obtain ⟨j, hstr⟩ := hstr
  refine lv_iconst (v := 0) hx hb (show decode cX11_led 0 = .ok (.iconst 0, 1) by decide +kernel) rfl ?_
  refine lv_istore_n hx hb (show decode cX11_led 1 = .ok (.istore_n 2, 1) by decide +kernel) rfl hl (by decide) rfl (fun ls hl => ?_)
  refine lv_iconst (v := 0) hx hb (show decode cX11_led 2 = .ok (.iconst 0, 1) by decide +kernel) rfl ?_
  refine lv_istore_n hx hb (show decode cX11_led 3 = .ok (.istore_n 3, 1) by decide +kernel) rfl hl (by decide) rfl (fun ls hl => ?_)
  refine ax_loop hx hb hml hown hts hR hK (Nat.le_of_ble_eq_true rfl) (Nat.le_of_ble_eq_true rfl) ⟨Nat.zero_le _, Nat.zero_le _⟩ hx11 hp3 hp4 ht4 hm8 hw6 (fun k1 ls1 h1 h2 => absurd (hs.symm.trans h1) (by simp)) (fun ls1 h1 h2 => ?_) 9 0 0 ls rfl (by decide) hl rfl
  exact ax_throw (own := "TenthBean") (cls := ax_NS) (Y0 := "java/lang/RuntimeException") (names := ["java/lang/Exception"]) (ik := 377) (is := 379) (ic := 381) (ix := 13) (rx := prog_29_method_4_code) (A := fun q => H00.size ≤ q) hx hb hst (by decide +kernel) (by decide +kernel) (by decide +kernel) (by decide +kernel) hown (by decide +kernel) (by decide +kernel) (by decide +kernel) (hts _ ax_cl377) (hts _ ax_iniN) hstr (vx_hat (fun w hw => hts w (ax_at_in w hw)) ax_at_ng (ax_nw_at hK.2.2.2.2.2.2.2.2)) ax_at_ot hZ.2.2.1 hZ.2.2.2 va_S.rf (h2.trans hml.symm) (show decode cX11_led 45 = .ok (.new 377, 3) by decide +kernel) (show decode cX11_led 48 = .ok (.dup, 1) by decide +kernel) (show decode cX11_led 49 = .ok (.ldc_w 379, 3) by decide +kernel) (show decode cX11_led 52 = .ok (.invokespecial 381, 3) by decide +kernel) (show decode cX11_led 55 = .ok (.athrow, 1) by decide +kernel) (fun x hx => (hout x hx).elim) (by decide) (by decide) (Nat.le_refl _) (Nat.le_refl _) hlocks (fun t _ h1 h2 => ⟨rfl, h1, h2⟩) (fun z hz => by cases hz) (Nat.le_refl _) (Nat.le_refl _)
theorem ax_recvX {H : Heap} {s : State} (hR : am_Rel D cy H00 Ln xs μ H) (hK : am_KK D cy H00 b Ln xs adK adV s) (hx11 : (μ.2.2.2.1 x).1 = 11) : ∃ cellB : Cell, H[H00.size + x]? = some cellB ∧ cellB.vm.isStatics = false ∧ s.vm.findClass yX11_led.cls = some cellB.cls := by
  obtain ⟨cell, g1, g2, g3⟩ := va_recv (q0 := 0) hK.1 (am_P1 (hR.obj hx11 (by decide))) (am_clv 11 (by decide)) rfl
  exact ⟨cell, g1, g2, g3⟩
theorem ax_blind {as : List Value} : FrameBlind (fun (B : Array Value) (U : State) => B = as.toArray ∧ am_Rel D cy H00 Ln xs μ U.heap ∧ am_KK D cy H00 b Ln xs adK adV U) := fun _ _ _ _ h => ⟨h.1, h.2.1, am_KK.same rfl h.2.2⟩
theorem ax_lawS {d : Nat} (hd15 : μ.2.2.2.1 d = (15, 1)) (hx11 : (μ.2.2.2.1 x).1 = 11) (hp3 : μ.2.2.1 x 3 = some t) (hp4 : μ.2.2.1 x 4 = some w) (ht4 : (μ.2.2.2.1 t).1 = 4) (hm8 : μ.1 t 5 ≤ 8) (hw6 : (μ.2.2.2.1 w).1 = 6) {k : Nat} (hs : am_led μ x i 0 0 9 = some k) : Met l yL_led (Cond.codeWith yL_led cL_led 4 (some .int) [(0, 9, 12, 13)] :: am_gw) ({ frames := 9, cells := 0, slots := 0, locals := 223 } : Room) (fun (B : Array Value) (U : State) => B = [Value.ref (H00.size + x), .int i, .ref (H00.size + d)].toArray ∧ am_Rel D cy H00 Ln xs μ U.heap ∧ am_KK D cy H00 b Ln xs adK adV U) (fun _ _ o t => o = .returned (some (.int 0)) ∧ am_Rel D cy H00 Ln xs (am_sl μ d 0 (nI k).toInt64) t.heap) 0 0 (fun q => H00.size ≤ q) := by
  refine va_MetW (cc := cL_led) (maxL := 4) (ret := some .int) (by decide) rfl ?_
  intro p e s m args below meth c s₁ B hml hv
  obtain ⟨rfl, hR, hK⟩ := hv
  have hx := B.exec
  have hb := B.bytes
  have hr := B.returns
  have hts0 := atoms_spec (ws := Cond.codeWith yL_led cL_led 4 (some .int) [(0, 9, 12, 13)] :: am_gw) B.pre
  have hts : ∀ w ∈ am_gw, w.before [Value.ref (H00.size + x), .int i, .ref (H00.size + d)].toArray s = true := fun w hw => hts0 w (List.mem_cons_of_mem _ hw)
  have hown : s.vm.findClass "TenthBeanLaw" = some m.cls := findClass_of_methodNamed B.named
  have hlocks := B.notSynchronized
  have hl := lv_entry ([Value.ref (H00.size + x), .int i, .ref (H00.size + d)]) (n := 4) (Nat.le_of_ble_eq_true rfl)
  rw [lg_entry_eq]
  generalize (lg_sl ([Value.ref (H00.size + x), .int i, .ref (H00.size + d)]) ++ List.replicate (4 - (lg_sl ([Value.ref (H00.size + x), .int i, .ref (H00.size + d)])).length) Slot.unset).toArray = ls at hl ⊢
  have hl : lv_has ls 4 [(0, .ref (H00.size + x)), (1, .int i), (2, .ref (H00.size + d))] := hl
  refine lv_aload_n hx hb (show decode cL_led 0 = .ok (.aload_n 2, 1) by decide +kernel) rfl (lv_at hl 2 rfl) ?_
  refine lv_iconst (v := 0) hx hb (show decode cL_led 1 = .ok (.iconst 0, 1) by decide +kernel) rfl ?_
  refine lv_aload_n hx hb (show decode cL_led 2 = .ok (.aload_n 0, 1) by decide +kernel) rfl (lv_at hl 0 rfl) ?_
  refine lv_iload_n hx hb (show decode cL_led 3 = .ok (.iload_n 1, 1) by decide +kernel) rfl (lv_at hl 1 rfl) ?_
  have hcb : CallB (headSpec (Cond.codeWith yL_led cL_led 4 (some .int) [(0, 9, 12, 13)] :: am_gw) ({ frames := 9, cells := 0, slots := 0, locals := 223 } : Room)).room s [Value.ref (H00.size + x), .int i, .ref (H00.size + d)].toArray "TenthBeanLaw" 7 yX11_led cX11_led 4 (some .int) (Cond.code yX11_led cX11_led 4 (some .int) :: am_gw) ({ frames := 8, cells := 0, slots := 0, locals := 200 } : Room) 0 0 1 := callB_of 1 hts (am_good ax_cd_led) rfl rfl rfl (hts _ ax_iniB) (hts _ ax_l7) ax_d_led ⟨Nat.le_refl _, Nat.le_refl _⟩
  refine am_after (va_runV (g := F0 m 4 ls [.int i, .ref (H00.size + x), .int 0, .ref (H00.size + d)]) (As := [.int i]) (rest := [.int 0, .ref (H00.size + d)]) ⟨hx, hb, hml, hown, hts⟩ (ax_ledS hx11 hp3 hp4 ht4 hm8 hw6 hs) ⟨hcb, hts _ ax_in_led, hts _ ax_se_led⟩ ⟨ax_blind, ax_recvX hR hK hx11, fun U hU hW => ⟨rfl, by rw [hU]; exact hR, hK.warm hW⟩⟩ rfl rfl hl.1 rfl (by show 2 * 0 + _ ≤ 8; exact Nat.le_of_ble_eq_true rfl) (show decode cL_led 4 = .ok (.invokevirtual 7, 3) by decide +kernel) ⟨Nat.le_refl _, Nat.le_refl _⟩) (fun v st t1 Lc hq hLc => ?_)
  obtain ⟨hv, hR1⟩ := hq
  have hv := Outcome.returned.inj hv
  subst hv
  refine lv_i2l (x := nI k) hx hb (show decode cL_led 7 = .ok (.i2l, 1) by decide +kernel) rfl ?_
  have hin : vp_in (0 : Int32) 1 := by unfold vp_in; decide
  have hat : t1.heap[H00.size + d]? = some (vp_cell (cy 15) ((μ.2.2.2.1 d).2, .inr (.inl (μ.2.1 d)))) := hR1.arr (k := 15) (a := d) (by rw [hd15]) (by decide)
  refine W.last hx hb hat ((hK.1.2 2 _ rfl).1 _ (fun j => .long (μ.2.1 d j))) (fun g => by cases g) (by show ¬ ((0 : Int32) < 0 ∨ (arrV _ _ _).slots.size ≤ _); rw [arrV_size, hd15]; exact hin) rfl rfl (show decode cL_led 8 = .ok (.lastore, 1) by decide +kernel) fun H1 e1 e2 e3 => ?_
  have hR2 : am_Rel D cy H00 Ln xs (am_sl μ d 0 (nI k).toInt64) H1 := by
    refine hR1.upd (a := d) (by rw [hd15]; decide) e2 e3 (fun b hb => ⟨rfl, am_u_ne hb, rfl⟩) rfl ?_
    rw [hd15]
    show H1[H00.size + d]? = some (vp_cell _ _)
    rw [e1]
    dsimp only
    rw [hd15, vp_cell_l, vp_cell_l, arrV_store]
    congr 2
    funext j
    by_cases hj : j = 0
    · subst hj
      simp [updV, am_sl, am_u, va_up]
      try rfl
    · simp [updV, am_sl, am_u, va_up, hj]
  show W p l e _ s m _ below meth c H1 _ _ _ _ (F0 m 9 ls [])
  refine lv_goto hx hb (show decode cL_led 9 = .ok (.goto 6, 3) by decide +kernel) (tgt := 15) (by decide) ?_
  refine lv_iconst (v := 0) hx hb (show decode cL_led 15 = .ok (.iconst 0, 1) by decide +kernel) rfl ?_
  exact W.iret (v := 0) hx hb hr (fun t ht hW => ⟨rfl, by rw [ht]; exact hR2⟩) (fun q hq => by
    rcases List.mem_append.mp hq with h | h
    · exact hLc q h
    · rw [List.mem_singleton.mp h]; exact Nat.le_add_right _ _) (show decode cL_led 16 = .ok (.ireturn, 1) by decide +kernel)
theorem ax_relJ {H H1 : Heap} (hn : μ.2.2.2.2.1 < 600000) (h : am_Rel D cy H00 Ln xs μ H) (hz : H1.size = H.size + 1) (ho : ∀ q : Nat, q < H.size → H1[q]? = H[q]?) : am_Rel D cy H00 Ln xs (am_jk μ 6) H1 := by
  have h0 := h
  obtain ⟨h1, h2, h3, h4, h5, h6⟩ := h
  have hsc : am_SC ≠ μ.2.2.2.2.1 := fun e => by unfold am_SC at e; omega
  refine ⟨fun q hq => (ho q (by omega)).trans (h1 q hq), ?_, fun a ha => ?_, ?_, h5, ?_⟩
  · show H1.size = H00.size + (μ.2.2.2.2.1 + 1)
    omega
  · by_cases c : a = μ.2.2.2.2.1
    · subst c
      have e : ((am_jk μ 6).2.2.2.1 μ.2.2.2.2.1).1 = 99 := by show (va_up μ.2.2.2.1 μ.2.2.2.2.1 (99, 0) μ.2.2.2.2.1).1 = 99; rw [va_up_self]
      rw [e] at ha
      omega
    · have e : (am_jk μ 6).2.2.2.1 a = μ.2.2.2.1 a := va_up_ne _ _ c
      rw [e] at ha ⊢
      rw [am_ce_congr (μ := μ) (μ' := am_jk μ 6) rfl rfl rfl]
      have h9 := h3 a ha
      exact h9.kept (ho _ h9.lt)
  · show va_up μ.2.2.2.1 μ.2.2.2.2.1 (99, 0) am_SC = (18, Ln)
    rw [va_up_ne _ _ hsc]
    exact h4
  · show μ.2.2.2.2.1 + 1 ≤ 600000
    omega
theorem ax_lawN (hst : l.stackTraces = false) {d : Nat} (hn : μ.2.2.2.2.1 < 600000) (hx11 : (μ.2.2.2.1 x).1 = 11) (hp3 : μ.2.2.1 x 3 = some t) (hp4 : μ.2.2.1 x 4 = some w) (ht4 : (μ.2.2.2.1 t).1 = 4) (hm8 : μ.1 t 5 ≤ 8) (hw6 : (μ.2.2.2.1 w).1 = 6) (hs : am_led μ x i 0 0 9 = none) : Met l yL_led (Cond.codeWith yL_led cL_led 4 (some .int) [(0, 9, 12, 13)] :: am_gw) ({ frames := 9, cells := 1, slots := 6, locals := 223 } : Room) (fun (B : Array Value) (U : State) => B = [Value.ref (H00.size + x), .int i, .ref (H00.size + d)].toArray ∧ am_Rel D cy H00 Ln xs μ U.heap ∧ am_KK D cy H00 b Ln xs adK adV U) (fun _ _ o t => o = .returned (some (.int 1)) ∧ am_Rel D cy H00 Ln xs (am_jk μ 6) t.heap) 1 6 (fun q => H00.size ≤ q) := by
  refine va_MetW (cc := cL_led) (maxL := 4) (ret := some .int) (by decide) rfl ?_
  intro p e s m args below meth c s₁ B hml hv
  obtain ⟨rfl, hR, hK⟩ := hv
  have hx := B.exec
  have hb := B.bytes
  have hr := B.returns
  have hts0 := atoms_spec (ws := Cond.codeWith yL_led cL_led 4 (some .int) [(0, 9, 12, 13)] :: am_gw) B.pre
  have hts : ∀ w ∈ am_gw, w.before [Value.ref (H00.size + x), .int i, .ref (H00.size + d)].toArray s = true := fun w hw => hts0 w (List.mem_cons_of_mem _ hw)
  have hown : s.vm.findClass "TenthBeanLaw" = some m.cls := findClass_of_methodNamed B.named
  have hlocks := B.notSynchronized
  have hl := lv_entry ([Value.ref (H00.size + x), .int i, .ref (H00.size + d)]) (n := 4) (Nat.le_of_ble_eq_true rfl)
  rw [lg_entry_eq]
  generalize (lg_sl ([Value.ref (H00.size + x), .int i, .ref (H00.size + d)]) ++ List.replicate (4 - (lg_sl ([Value.ref (H00.size + x), .int i, .ref (H00.size + d)])).length) Slot.unset).toArray = ls at hl ⊢
  have hl : lv_has ls 4 [(0, .ref (H00.size + x)), (1, .int i), (2, .ref (H00.size + d))] := hl
  have htab := vx_table (x := yL_led) B (hts _ ax_cw_led)
  refine lv_aload_n hx hb (show decode cL_led 0 = .ok (.aload_n 2, 1) by decide +kernel) rfl (lv_at hl 2 rfl) ?_
  refine lv_iconst (v := 0) hx hb (show decode cL_led 1 = .ok (.iconst 0, 1) by decide +kernel) rfl ?_
  refine lv_aload_n hx hb (show decode cL_led 2 = .ok (.aload_n 0, 1) by decide +kernel) rfl (lv_at hl 0 rfl) ?_
  refine lv_iload_n hx hb (show decode cL_led 3 = .ok (.iload_n 1, 1) by decide +kernel) rfl (lv_at hl 1 rfl) ?_
  have hcb : CallB (headSpec (Cond.codeWith yL_led cL_led 4 (some .int) [(0, 9, 12, 13)] :: am_gw) ({ frames := 9, cells := 1, slots := 6, locals := 223 } : Room)).room s [Value.ref (H00.size + x), .int i, .ref (H00.size + d)].toArray "TenthBeanLaw" 7 yX11_led cX11_led 4 (some .int) (Cond.code yX11_led cX11_led 4 (some .int) :: am_gw) ({ frames := 8, cells := 1, slots := 6, locals := 200 } : Room) 1 6 1 := callB_of 1 hts (am_good ax_cd_led) rfl rfl rfl (hts _ ax_iniB) (hts _ ax_l7) ax_d_led ⟨Nat.le_refl _, Nat.le_refl _⟩
  have hrun := vx_runV (e := e) (below := below) (meth := meth) (locs := []) (cells := 0) (slots := 0) (R := (headSpec (Cond.codeWith yL_led cL_led 4 (some .int) [(0, 9, 12, 13)] :: am_gw) ({ frames := 9, cells := 1, slots := 6, locals := 223 } : Room)).room) (g := F0 m 4 ls [.int i, .ref (H00.size + x), .int 0, .ref (H00.size + d)]) (As := [.int i]) (rest := [.int 0, .ref (H00.size + d)]) ⟨hx, hb, hml, hown, hts⟩ (ax_ledN hst hx11 hp3 hp4 ht4 hm8 hw6 hs) ⟨hcb, hts _ ax_in_led, hts _ ax_se_led⟩ ⟨ax_blind, ax_recvX hR hK hx11, fun U hU hW => ⟨rfl, by rw [hU]; exact hR, hK.warm hW⟩⟩ rfl rfl hl.1 rfl (by show 2 * 0 + _ ≤ 8; exact Nat.le_of_ble_eq_true rfl) (show decode cL_led 4 = .ok (.invokevirtual 7, 3) by decide +kernel) ⟨Nat.le_refl _, Nat.le_refl _⟩
  intro T hT X
  rcases hrun T hT X with ⟨v, st₀, t, T', L, h0, X', hL, e1, e2, hq, st⟩ | ⟨q, st₀, t, T', L, E, ce, h0, X', hL, e1, e2, ⟨rfl, hsz, hsm⟩, hce, hcv, hcl, st⟩
  · exact hq.elim
  · rw [h0] at hsz hsm
    rw [← e1] at hce hsz hsm
    have hR2 := ax_relJ hn hR hsz hsm
    have k0 : vx_W p l e (headSpec (Cond.codeWith yL_led cL_led 4 (some .int) [(0, 9, 12, 13)] :: am_gw) ({ frames := 9, cells := 1, slots := 6, locals := 223 } : Room)).room s m [Value.ref (H00.size + x), .int i, .ref (H00.size + d)].toArray below meth c T'.heap ([] ++ L) (0 + 1) (0 + 6) (MQ below (fun _ _ o t => o = .returned (some (.int 1)) ∧ am_Rel D cy H00 Ln xs (am_jk μ 6) t.heap) [Value.ref (H00.size + x), .int i, .ref (H00.size + d)].toArray s 1 6 (fun q => H00.size ≤ q)) (F0 m 4 ls [.int 0, .ref (H00.size + d)]) q := by
      refine vx_catch (own := "TenthBeanLaw") (name := ax_NS) (E := ax_NS) (ce := ce) hown [] ⟨0, 9, 12, 13⟩ [] htab (fun z hz => by cases hz) (by decide) (by decide) (hts _ ax_cl13) (va_Nw.use rfl hK.2.2.2.2.2.2.2.2.1) hce hcv hcl ?_
      refine lv_astore_n hx hb (show decode cL_led 12 = .ok (.astore_n 3, 1) by decide +kernel) rfl hl (by decide) rfl (fun ls hl => ?_)
      refine lv_iconst (v := 1) hx hb (show decode cL_led 13 = .ok (.iconst 1, 1) by decide +kernel) rfl ?_
      exact W.iret (v := 1) hx hb hr (fun t ht hW => ⟨rfl, by rw [ht]; exact hR2⟩) (fun q hq => hL q hq) (show decode cL_led 14 = .ok (.ireturn, 1) by decide +kernel)
    obtain ⟨t2, a1, b1⟩ := k0 T' rfl X'
    exact ⟨t2, st.trans a1, b1⟩
end AXL
