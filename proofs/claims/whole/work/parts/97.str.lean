/-! THE JDK's OWN METHODS behind String.length, String.charAt -/
def ax_yck : MethodName := ⟨"java/lang/String", "checkIndex", "(II)V"⟩
def ax_ypc : MethodName := ⟨"jdk/internal/util/Preconditions", "checkIndex", "(IILjava/util/function/BiFunction;)I"⟩
def ax_K (a tv N : Nat) (f : Nat → Value) (A : Nat → Prop) (H0 : Heap) (U : State) : Prop :=
  va_Z "java/lang/String" "COMPACT_STRINGS" "Z" (.int 1) A U H0 ∧ va_Zq "jdk/internal/util/Preconditions" "SIOOBE_FORMATTER" "Ljava/util/function/BiFunction;" A U H0 ∧ va_O "java/lang/String" a A U H0 ∧ va_OF "java/lang/String" "coder" "B" (.int 0) a A U H0 ∧ va_OF "java/lang/String" "value" "[B" (.ref tv) a A U H0 ∧ va_T .byte tv N f A U H0
theorem ax_K.moved {a tv N : Nat} {f : Nat → Value} {A : Nat → Prop} {H0 : Heap} {u U : State} (hvm : u.vm.Alike U.vm) (h : ax_K a tv N f A H0 u) : ax_K a tv N f A H0 U :=
  ⟨va_Z.moved hvm h.1, va_Zq.moved hvm h.2.1, va_O.moved hvm h.2.2.1, va_OF.moved hvm h.2.2.2.1, va_OF.moved hvm h.2.2.2.2.1, va_T.moved hvm h.2.2.2.2.2⟩
def ax_M (l : Launch) (A : Nat → Prop) (a tv N : Nat) (f : Nat → Value) (H0 : Heap) (y : MethodName) (bytes : ByteArray) (maxL : Nat) (ret : Option FieldType) (fr lo : Nat) (as : List Value) (v : Option Value) : Prop :=
  Met l y (Cond.code y bytes maxL ret :: am_gw) { frames := fr, cells := 0, slots := 0, locals := lo } (fun B U => B = as.toArray ∧ U.heap = H0 ∧ ax_K a tv N f A H0 U) (fun _ _ o t => o = .returned v ∧ t.heap = H0) 0 0 (fun _ => False)
section AXC
variable {p : Program} {l : Launch} {e : Env} {R : Room} {s : State} {m : MethodId} {args : Array Value} {below : List Frame} {meth : Method} {c : Code} {Q : State → Prop}
variable {H : Heap} {locs : List Loc} {cells slots pc : Nat} {ls : Array Slot} {st0 rest As : List Value} {cc bytes : ByteArray} {nL maxL fr lo index : Nat} {own : String} {y : MethodName} {ret : Option FieldType} {v : Option Value}
variable {A : Nat → Prop} {a tv N b : Nat} {f : Nat → Value}
theorem ax_after {a0 : Array Value} (hr : va_Run p l e R s m args below meth c H locs cells slots 0 0 (F0 m pc ls st0) rest ((fun (_ : Array Value) (_ : State) (o : Outcome) (t : State) => o = .returned v ∧ t.heap = H) a0) (fun _ => False))
    (kk : W p l e R s m args below meth c H locs cells slots Q (F0 m (pc + 3) ls (v.toList ++ rest))) : W p l e R s m args below meth c H locs cells slots Q (F0 m pc ls st0) := by
  refine am_after hr fun v1 st t Lc hq hL => ?_
  obtain ⟨h1, h2⟩ := hq
  have h1 := Outcome.returned.inj h1
  subst h1
  have hLc : Lc = [] := by
    cases Lc with
    | nil => rfl
    | cons x t => exact (hL x List.mem_cons_self).elim
  subst hLc
  rw [h2, List.append_nil]
  exact kk
theorem ax_bl {as : List Value} : FrameBlind (fun (B : Array Value) (U : State) => B = as.toArray ∧ U.heap = H ∧ ax_K a tv N f A H U) := fun _ _ _ _ h => ⟨h.1, h.2.1, ax_K.moved (Vm.Alike.refl _) h.2.2⟩
theorem ax_cV (hx : p.tables.exec = Jvm.exec) (hb : c.code = cc) (hml : c.maxLocals = nL) (hown : s.vm.findClass own = some m.cls) (hts : ∀ w ∈ am_gw, w.before args s = true) (hK : ax_K a tv N f A H s) (hM : ax_M l A a tv N f H y bytes maxL ret fr lo (.ref b :: As) v) (hcd : Cond.code y bytes maxL ret ∈ am_gw) (hini : Cond.initialized y.cls ∈ am_gw) (hl : (Cond.methodLink own index y).before args s = true) (hin : Cond.instanceMethod y ∈ am_gw) (hse : Cond.selects y.cls y y ∈ am_gw)
    (hd : y.cls ≠ "java/lang/invoke/MethodHandle" ∧ y.cls ≠ "java/lang/invoke/VarHandle" ∧ (parseMethodDescriptor y.desc).map (fun d => d.parameters.length) = some As.length) (hR : fr + 1 ≤ R.frames ∧ 8 + (maxL + 11) + lo ≤ R.locals) (hb1 : ∃ cellB : Cell, H[b]? = some cellB ∧ cellB.vm.isStatics = false ∧ s.vm.findClass y.cls = some cellB.cls) (hsz : ls.size = nL) (hstk : st0 = As.reverse ++ .ref b :: rest) (hcat : (rest.map fun v => v.category).sum ≤ 8) (hroom : cells ≤ R.cells ∧ slots ≤ R.slots) (hdg : decode cc pc = .ok (.invokevirtual index, 3))
    (kk : W p l e R s m args below meth c H locs cells slots Q (F0 m (pc + 3) ls (v.toList ++ rest))) : W p l e R s m args below meth c H locs cells slots Q (F0 m pc ls st0) := by
  have hcb : CallB R s args own index y bytes maxL ret (Cond.code y bytes maxL ret :: am_gw) ({ frames := fr, cells := 0, slots := 0, locals := lo } : Room) 0 0 As.length := callB_of As.length hts (am_good hcd) rfl rfl rfl (hts _ hini) hl hd hR
  exact ax_after (a0 := (Value.ref b :: As).toArray) (va_runV (g := F0 m pc ls st0) ⟨hx, hb, hml, hown, hts⟩ hM ⟨hcb, hts _ hin, hts _ hse⟩ ⟨ax_bl, hb1, fun U hU hW => ⟨rfl, hU, ax_K.moved hW.alike hK⟩⟩ rfl rfl hsz hstk (by show 2 * 0 + _ ≤ 8; omega) hdg hroom) kk
theorem ax_cS (hx : p.tables.exec = Jvm.exec) (hb : c.code = cc) (hml : c.maxLocals = nL) (hown : s.vm.findClass own = some m.cls) (hts : ∀ w ∈ am_gw, w.before args s = true) (hK : ax_K a tv N f A H s) (hM : ax_M l A a tv N f H y bytes maxL ret fr lo As v) (hcd : Cond.code y bytes maxL ret ∈ am_gw) (hini : Cond.initialized y.cls ∈ am_gw) (hl : (Cond.methodLink own index y).before args s = true) (hst : Cond.static y ∈ am_gw)
    (hd : y.cls ≠ "java/lang/invoke/MethodHandle" ∧ y.cls ≠ "java/lang/invoke/VarHandle" ∧ (parseMethodDescriptor y.desc).map (fun d => d.parameters.length) = some As.length) (hR : fr + 1 ≤ R.frames ∧ 8 + (maxL + 11) + lo ≤ R.locals) (hsz : ls.size = nL) (hstk : st0 = As.reverse ++ rest) (hcat : (rest.map fun v => v.category).sum ≤ 8) (hroom : cells ≤ R.cells ∧ slots ≤ R.slots) (hdg : decode cc pc = .ok (.invokestatic index, 3))
    (kk : W p l e R s m args below meth c H locs cells slots Q (F0 m (pc + 3) ls (v.toList ++ rest))) : W p l e R s m args below meth c H locs cells slots Q (F0 m pc ls st0) := by
  have hcb : CallB R s args own index y bytes maxL ret (Cond.code y bytes maxL ret :: am_gw) ({ frames := fr, cells := 0, slots := 0, locals := lo } : Room) 0 0 As.length := callB_of As.length hts (am_good hcd) rfl rfl rfl (hts _ hini) hl hd hR
  exact ax_after (a0 := As.toArray) (va_runS (g := F0 m pc ls st0) ⟨hx, hb, hml, hown, hts⟩ hM ⟨hcb, hts _ hst⟩ ⟨ax_bl, fun U hU hW => ⟨rfl, hU, ax_K.moved hW.alike hK⟩⟩ rfl rfl hsz hstk (by show 2 * 0 + _ ≤ 8; omega) hdg hroom) kk
end AXC
theorem ax_d_pre : ax_ypc.cls ≠ "java/lang/invoke/MethodHandle" ∧ ax_ypc.cls ≠ "java/lang/invoke/VarHandle" ∧ (parseMethodDescriptor ax_ypc.desc).map (fun d => d.parameters.length) = some 3 := by decide +kernel
theorem ax_d_check : ax_yck.cls ≠ "java/lang/invoke/MethodHandle" ∧ ax_yck.cls ≠ "java/lang/invoke/VarHandle" ∧ (parseMethodDescriptor ax_yck.desc).map (fun d => d.parameters.length) = some 2 := by decide +kernel
theorem ax_d_charL : yJ1_charAt_3b067.cls ≠ "java/lang/invoke/MethodHandle" ∧ yJ1_charAt_3b067.cls ≠ "java/lang/invoke/VarHandle" ∧ (parseMethodDescriptor yJ1_charAt_3b067.desc).map (fun d => d.parameters.length) = some 2 := by decide +kernel
theorem ax_d_charAt : yJ0_charAt_5068e.cls ≠ "java/lang/invoke/MethodHandle" ∧ yJ0_charAt_5068e.cls ≠ "java/lang/invoke/VarHandle" ∧ (parseMethodDescriptor yJ0_charAt_5068e.desc).map (fun d => d.parameters.length) = some 1 := by decide +kernel
theorem ax_d_length : yJ0_length_8abf5.cls ≠ "java/lang/invoke/MethodHandle" ∧ yJ0_length_8abf5.cls ≠ "java/lang/invoke/VarHandle" ∧ (parseMethodDescriptor yJ0_length_8abf5.desc).map (fun d => d.parameters.length) = some 0 := by decide +kernel
theorem ax_w38 : Cond.fieldLink "java/lang/String" 38 "java/lang/String" "COMPACT_STRINGS" "Z" ∈ am_gw := by decide +kernel
theorem ax_w15 : Cond.fieldLink "java/lang/String" 15 "java/lang/String" "coder" "B" ∈ am_gw := by decide +kernel
theorem ax_w9 : Cond.fieldLink "java/lang/String" 9 "java/lang/String" "value" "[B" ∈ am_gw := by decide +kernel
theorem ax_wsi : Cond.fieldLink "java/lang/String" 1053 "jdk/internal/util/Preconditions" "SIOOBE_FORMATTER" "Ljava/util/function/BiFunction;" ∈ am_gw := by decide +kernel
theorem ax_ini0 : Cond.initialized "java/lang/String" ∈ am_gw := by decide +kernel
theorem ax_ini1 : Cond.initialized "java/lang/StringLatin1" ∈ am_gw := by decide +kernel
theorem ax_ini3 : Cond.initialized "jdk/internal/util/Preconditions" ∈ am_gw := by decide +kernel
theorem ax_cd_coder : Cond.code yJ0_coder_7d493 cJ0_coder_7d493 1 (some .byte) ∈ am_gw := by decide +kernel
theorem ax_in_coder : Cond.instanceMethod yJ0_coder_7d493 ∈ am_gw := by decide +kernel
theorem ax_se_coder : Cond.selects "java/lang/String" yJ0_coder_7d493 yJ0_coder_7d493 ∈ am_gw := by decide +kernel
theorem ax_cd_length : Cond.code yJ0_length_8abf5 cJ0_length_8abf5 1 (some .int) ∈ am_gw := by decide +kernel
theorem ax_in_length : Cond.instanceMethod yJ0_length_8abf5 ∈ am_gw := by decide +kernel
theorem ax_se_length : Cond.selects "java/lang/String" yJ0_length_8abf5 yJ0_length_8abf5 ∈ am_gw := by decide +kernel
theorem ax_cd_latin : Cond.code yJ0_isLatin1_aae02 cJ0_isLatin1_aae02 1 (some .boolean) ∈ am_gw := by decide +kernel
theorem ax_in_latin : Cond.instanceMethod yJ0_isLatin1_aae02 ∈ am_gw := by decide +kernel
theorem ax_se_latin : Cond.selects "java/lang/String" yJ0_isLatin1_aae02 yJ0_isLatin1_aae02 ∈ am_gw := by decide +kernel
theorem ax_cd_charAt : Cond.code yJ0_charAt_5068e cJ0_charAt_5068e 2 (some .char) ∈ am_gw := by decide +kernel
theorem ax_in_charAt : Cond.instanceMethod yJ0_charAt_5068e ∈ am_gw := by decide +kernel
theorem ax_se_charAt : Cond.selects "java/lang/String" yJ0_charAt_5068e yJ0_charAt_5068e ∈ am_gw := by decide +kernel
theorem ax_cd_charL : Cond.code yJ1_charAt_3b067 cJ1_charAt_3b067 2 (some .char) ∈ am_gw := by decide +kernel
theorem ax_st_charL : Cond.static yJ1_charAt_3b067 ∈ am_gw := by decide +kernel
theorem ax_cd_check : Cond.code ax_yck prog_22_method_155_code 2 none ∈ am_gw := by decide +kernel
theorem ax_st_check : Cond.static ax_yck ∈ am_gw := by decide +kernel
theorem ax_cd_pre : Cond.code ax_ypc prog_30_method_11_code 3 (some .int) ∈ am_gw := by decide +kernel
theorem ax_st_pre : Cond.static ax_ypc ∈ am_gw := by decide +kernel
theorem ax_l335 : Cond.methodLink "java/lang/String" 335 yJ0_coder_7d493 ∈ am_gw := by decide +kernel
theorem ax_l492 : Cond.methodLink "java/lang/String" 492 yJ0_isLatin1_aae02 ∈ am_gw := by decide +kernel
theorem ax_l495 : Cond.methodLink "java/lang/String" 495 yJ1_charAt_3b067 ∈ am_gw := by decide +kernel
theorem ax_l9 : Cond.methodLink "java/lang/StringLatin1" 9 ax_yck ∈ am_gw := by decide +kernel
theorem ax_l1059 : Cond.methodLink "java/lang/String" 1059 ax_ypc ∈ am_gw := by decide +kernel
theorem ax_coder {l : Launch} {A : Nat → Prop} {a tv N : Nat} {f : Nat → Value} {H0 : Heap} : ax_M l A a tv N f H0 yJ0_coder_7d493 cJ0_coder_7d493 1 (some .byte) 0 0 [.ref a] (some (.int 0)) := by
  refine Met.ofW (cc := cJ0_coder_7d493) (maxL := 1) (ret := (some .byte)) (by decide) rfl ?_
  intro p e s m args below meth c s₁ B hml hv
  obtain ⟨rfl, hH, hK⟩ := hv
  subst hH
  have hK0 := hK
  obtain ⟨k1, k2, k3, k4, k5, k6⟩ := hK
  have hx := B.exec
  have hb := B.bytes
  have hr := B.returns
  have hts0 := atoms_spec (ws := Cond.code yJ0_coder_7d493 cJ0_coder_7d493 1 (some .byte) :: am_gw) B.pre
  have hts : ∀ w ∈ am_gw, w.before [.ref a].toArray s = true := fun w hw => hts0 w (List.mem_cons_of_mem _ hw)
  have hown : s.vm.findClass "java/lang/String" = some m.cls := findClass_of_methodNamed B.named
  have hlocks := B.notSynchronized
  have hS : va_S A s.heap s.heap [] := va_S.rf
  have hl := lv_entry ([.ref a]) (n := 1) (Nat.le_of_ble_eq_true rfl)
  rw [lg_entry_eq]
  generalize (lg_sl ([.ref a]) ++ List.replicate (1 - (lg_sl ([.ref a])).length) Slot.unset).toArray = ls at hl ⊢
  have hl : lv_has ls 1 [(0, .ref a)] := hl
  refine va_gets hx hb k1 hS hown (hts _ ax_w38) (fun _ h => h) (show decode cJ0_coder_7d493 0 = .ok (.getstatic 38, 3) by decide +kernel) ?_
  refine lv_if_eq hx hb (show decode cJ0_coder_7d493 3 = .ok (.ifCond .eq 10, 3) by decide +kernel) (tgt := 13) (by decide) (fun h => absurd h (by decide)) (fun _ => ?_)
  refine lv_aload_n hx hb (show decode cJ0_coder_7d493 6 = .ok (.aload_n 0, 1) by decide +kernel) rfl (lv_at hl 0 rfl) ?_
  refine vk_getf hx hb k4 hS hown (hts _ ax_w15) (fun _ h => h) (show decode cJ0_coder_7d493 7 = .ok (.getfield 15, 3) by decide +kernel) ?_
  refine lv_goto hx hb (show decode cJ0_coder_7d493 10 = .ok (.goto 4, 3) by decide +kernel) (tgt := 14) (by decide) ?_
  exact W.zret (v := 0) hx hb hr rfl (fun t ht hW => ⟨rfl, ht⟩) (fun q hq => by cases hq) (show decode cJ0_coder_7d493 14 = .ok (.ireturn, 1) by decide +kernel)
theorem ax_latin {l : Launch} {A : Nat → Prop} {a tv N : Nat} {f : Nat → Value} {H0 : Heap} : ax_M l A a tv N f H0 yJ0_isLatin1_aae02 cJ0_isLatin1_aae02 1 (some .boolean) 0 0 [.ref a] (some (.int 1)) := by
  refine Met.ofW (cc := cJ0_isLatin1_aae02) (maxL := 1) (ret := (some .boolean)) (by decide) rfl ?_
  intro p e s m args below meth c s₁ B hml hv
  obtain ⟨rfl, hH, hK⟩ := hv
  subst hH
  have hK0 := hK
  obtain ⟨k1, k2, k3, k4, k5, k6⟩ := hK
  have hx := B.exec
  have hb := B.bytes
  have hr := B.returns
  have hts0 := atoms_spec (ws := Cond.code yJ0_isLatin1_aae02 cJ0_isLatin1_aae02 1 (some .boolean) :: am_gw) B.pre
  have hts : ∀ w ∈ am_gw, w.before [.ref a].toArray s = true := fun w hw => hts0 w (List.mem_cons_of_mem _ hw)
  have hown : s.vm.findClass "java/lang/String" = some m.cls := findClass_of_methodNamed B.named
  have hlocks := B.notSynchronized
  have hS : va_S A s.heap s.heap [] := va_S.rf
  have hl := lv_entry ([.ref a]) (n := 1) (Nat.le_of_ble_eq_true rfl)
  rw [lg_entry_eq]
  generalize (lg_sl ([.ref a]) ++ List.replicate (1 - (lg_sl ([.ref a])).length) Slot.unset).toArray = ls at hl ⊢
  have hl : lv_has ls 1 [(0, .ref a)] := hl
  refine va_gets hx hb k1 hS hown (hts _ ax_w38) (fun _ h => h) (show decode cJ0_isLatin1_aae02 0 = .ok (.getstatic 38, 3) by decide +kernel) ?_
  refine lv_if_eq hx hb (show decode cJ0_isLatin1_aae02 3 = .ok (.ifCond .eq 14, 3) by decide +kernel) (tgt := 17) (by decide) (fun h => absurd h (by decide)) (fun _ => ?_)
  refine lv_aload_n hx hb (show decode cJ0_isLatin1_aae02 6 = .ok (.aload_n 0, 1) by decide +kernel) rfl (lv_at hl 0 rfl) ?_
  refine vk_getf hx hb k4 hS hown (hts _ ax_w15) (fun _ h => h) (show decode cJ0_isLatin1_aae02 7 = .ok (.getfield 15, 3) by decide +kernel) ?_
  refine lv_if_ne hx hb (show decode cJ0_isLatin1_aae02 10 = .ok (.ifCond .ne 7, 3) by decide +kernel) (tgt := 17) (by decide) (fun h => absurd rfl h) (fun _ => ?_)
  refine lv_iconst (v := 1) hx hb (show decode cJ0_isLatin1_aae02 13 = .ok (.iconst 1, 1) by decide +kernel) rfl ?_
  refine lv_goto hx hb (show decode cJ0_isLatin1_aae02 14 = .ok (.goto 4, 3) by decide +kernel) (tgt := 18) (by decide) ?_
  exact W.zret (v := 1) hx hb hr rfl (fun t ht hW => ⟨rfl, ht⟩) (fun q hq => by cases hq) (show decode cJ0_isLatin1_aae02 18 = .ok (.ireturn, 1) by decide +kernel)
theorem ax_recv {a tv N : Nat} {f : Nat → Value} {A : Nat → Prop} {H : Heap} {s : State} (h : ax_K a tv N f A H s) : ∃ cellB : Cell, H[a]? = some cellB ∧ cellB.vm.isStatics = false ∧ s.vm.findClass "java/lang/String" = some cellB.cls := by
  obtain ⟨cell, h1, h2, h3, -⟩ := h.2.2.1
  exact ⟨cell, h1, h2, h3⟩
theorem ax_length {l : Launch} {A : Nat → Prop} {a tv N : Nat} {f : Nat → Value} {H0 : Heap} : ax_M l A a tv N f H0 yJ0_length_8abf5 cJ0_length_8abf5 1 (some .int) 1 20 [.ref a] (some (.int (nI N))) := by
  refine Met.ofW (cc := cJ0_length_8abf5) (maxL := 1) (ret := (some .int)) (by decide) rfl ?_
  intro p e s m args below meth c s₁ B hml hv
  obtain ⟨rfl, hH, hK⟩ := hv
  subst hH
  have hK0 := hK
  obtain ⟨k1, k2, k3, k4, k5, k6⟩ := hK
  have hx := B.exec
  have hb := B.bytes
  have hr := B.returns
  have hts0 := atoms_spec (ws := Cond.code yJ0_length_8abf5 cJ0_length_8abf5 1 (some .int) :: am_gw) B.pre
  have hts : ∀ w ∈ am_gw, w.before [.ref a].toArray s = true := fun w hw => hts0 w (List.mem_cons_of_mem _ hw)
  have hown : s.vm.findClass "java/lang/String" = some m.cls := findClass_of_methodNamed B.named
  have hlocks := B.notSynchronized
  have hS : va_S A s.heap s.heap [] := va_S.rf
  have hl := lv_entry ([.ref a]) (n := 1) (Nat.le_of_ble_eq_true rfl)
  rw [lg_entry_eq]
  generalize (lg_sl ([.ref a]) ++ List.replicate (1 - (lg_sl ([.ref a])).length) Slot.unset).toArray = ls at hl ⊢
  have hl : lv_has ls 1 [(0, .ref a)] := hl
  refine lv_aload_n hx hb (show decode cJ0_length_8abf5 0 = .ok (.aload_n 0, 1) by decide +kernel) rfl (lv_at hl 0 rfl) ?_
  refine vk_getf hx hb k5 hS hown (hts _ ax_w9) (fun _ h => h) (show decode cJ0_length_8abf5 1 = .ok (.getfield 9, 3) by decide +kernel) ?_
  refine va_tlen (v := nI N) hx hb k6 hS rfl (show decode cJ0_length_8abf5 4 = .ok (.arraylength, 1) by decide +kernel) ?_
  refine lv_aload_n hx hb (show decode cJ0_length_8abf5 5 = .ok (.aload_n 0, 1) by decide +kernel) rfl (lv_at hl 0 rfl) ?_
  refine ax_cV (As := []) (b := a) (rest := [.int (nI N)]) (v := some (.int 0)) hx hb hml hown hts hK0 ax_coder ax_cd_coder ax_ini0 (hts _ ax_l335) ax_in_coder ax_se_coder (by decide +kernel) ⟨Nat.le_refl _, Nat.le_refl _⟩ (ax_recv hK0) hl.1 rfl (Nat.le_of_ble_eq_true rfl) ⟨Nat.le_refl _, Nat.le_refl _⟩ (show decode cJ0_length_8abf5 6 = .ok (.invokevirtual 335, 3) by decide +kernel) ?_
  refine lv_ishr hx hb (show decode cJ0_length_8abf5 9 = .ok (.ishr, 1) by decide +kernel) ?_
  have e0 : nI N >>> ((0 : Int32) &&& 31) = nI N := by rw [show (0 : Int32) &&& 31 = 0 from rfl, Int32.shiftRight_zero]
  rw [e0]
  exact W.iret (v := nI N) hx hb hr (fun t ht hW => ⟨rfl, ht⟩) (fun q hq => by cases hq) (show decode cJ0_length_8abf5 10 = .ok (.ireturn, 1) by decide +kernel)
theorem ax_pre0 {l : Launch} {A : Nat → Prop} {a tv N : Nat} {f : Nat → Value} {H0 : Heap} {i j : Int32} (h0 : ¬ i < 0) (h1 : i < j) : ax_M l A a tv N f H0 ax_ypc prog_30_method_11_code 3 (some .int) 0 0 [.int i, .int j, .null] (some (.int i)) := by
  refine Met.ofW (cc := prog_30_method_11_code) (maxL := 3) (ret := (some .int)) (by decide) rfl ?_
  intro p e s m args below meth c s₁ B hml hv
  obtain ⟨rfl, hH, hK⟩ := hv
  subst hH
  have hK0 := hK
  obtain ⟨k1, k2, k3, k4, k5, k6⟩ := hK
  have hx := B.exec
  have hb := B.bytes
  have hr := B.returns
  have hts0 := atoms_spec (ws := Cond.code ax_ypc prog_30_method_11_code 3 (some .int) :: am_gw) B.pre
  have hts : ∀ w ∈ am_gw, w.before [.int i, .int j, .null].toArray s = true := fun w hw => hts0 w (List.mem_cons_of_mem _ hw)
  have hown : s.vm.findClass "jdk/internal/util/Preconditions" = some m.cls := findClass_of_methodNamed B.named
  have hlocks := B.notSynchronized
  have hS : va_S A s.heap s.heap [] := va_S.rf
  have hl := lv_entry ([.int i, .int j, .null]) (n := 3) (Nat.le_of_ble_eq_true rfl)
  rw [lg_entry_eq]
  generalize (lg_sl ([.int i, .int j, .null]) ++ List.replicate (3 - (lg_sl ([.int i, .int j, .null])).length) Slot.unset).toArray = ls at hl ⊢
  have hl : lv_has ls 3 [(0, .int i), (1, .int j), (2, .null)] := hl
  refine lv_iload_n hx hb (show decode prog_30_method_11_code 0 = .ok (.iload_n 0, 1) by decide +kernel) rfl (lv_at hl 0 rfl) ?_
  refine lv_if_lt hx hb (show decode prog_30_method_11_code 1 = .ok (.ifCond .lt 8, 3) by decide +kernel) (tgt := 9) (by decide) (fun h => absurd h h0) (fun _ => ?_)
  refine lv_iload_n hx hb (show decode prog_30_method_11_code 4 = .ok (.iload_n 0, 1) by decide +kernel) rfl (lv_at hl 0 rfl) ?_
  refine lv_iload_n hx hb (show decode prog_30_method_11_code 5 = .ok (.iload_n 1, 1) by decide +kernel) rfl (lv_at hl 1 rfl) ?_
  refine lv_icmp_lt hx hb (show decode prog_30_method_11_code 6 = .ok (.if_icmp .lt 10, 3) by decide +kernel) (tgt := 16) (by decide) (fun _ => ?_) (fun h => absurd h1 h)
  refine lv_iload_n hx hb (show decode prog_30_method_11_code 16 = .ok (.iload_n 0, 1) by decide +kernel) rfl (lv_at hl 0 rfl) ?_
  exact W.iret (v := i) hx hb hr (fun t ht hW => ⟨rfl, ht⟩) (fun q hq => by cases hq) (show decode prog_30_method_11_code 17 = .ok (.ireturn, 1) by decide +kernel)
theorem ax_pre1 {l : Launch} {A : Nat → Prop} {a tv N : Nat} {f : Nat → Value} {H0 : Heap} {x : Nat} {i j : Int32} (h0 : ¬ i < 0) (h1 : i < j) : ax_M l A a tv N f H0 ax_ypc prog_30_method_11_code 3 (some .int) 0 0 [.int i, .int j, .ref x] (some (.int i)) := by
  refine Met.ofW (cc := prog_30_method_11_code) (maxL := 3) (ret := (some .int)) (by decide) rfl ?_
  intro p e s m args below meth c s₁ B hml hv
  obtain ⟨rfl, hH, hK⟩ := hv
  subst hH
  have hK0 := hK
  obtain ⟨k1, k2, k3, k4, k5, k6⟩ := hK
  have hx := B.exec
  have hb := B.bytes
  have hr := B.returns
  have hts0 := atoms_spec (ws := Cond.code ax_ypc prog_30_method_11_code 3 (some .int) :: am_gw) B.pre
  have hts : ∀ w ∈ am_gw, w.before [.int i, .int j, .ref x].toArray s = true := fun w hw => hts0 w (List.mem_cons_of_mem _ hw)
  have hown : s.vm.findClass "jdk/internal/util/Preconditions" = some m.cls := findClass_of_methodNamed B.named
  have hlocks := B.notSynchronized
  have hS : va_S A s.heap s.heap [] := va_S.rf
  have hl := lv_entry ([.int i, .int j, .ref x]) (n := 3) (Nat.le_of_ble_eq_true rfl)
  rw [lg_entry_eq]
  generalize (lg_sl ([.int i, .int j, .ref x]) ++ List.replicate (3 - (lg_sl ([.int i, .int j, .ref x])).length) Slot.unset).toArray = ls at hl ⊢
  have hl : lv_has ls 3 [(0, .int i), (1, .int j), (2, .ref x)] := hl
  refine lv_iload_n hx hb (show decode prog_30_method_11_code 0 = .ok (.iload_n 0, 1) by decide +kernel) rfl (lv_at hl 0 rfl) ?_
  refine lv_if_lt hx hb (show decode prog_30_method_11_code 1 = .ok (.ifCond .lt 8, 3) by decide +kernel) (tgt := 9) (by decide) (fun h => absurd h h0) (fun _ => ?_)
  refine lv_iload_n hx hb (show decode prog_30_method_11_code 4 = .ok (.iload_n 0, 1) by decide +kernel) rfl (lv_at hl 0 rfl) ?_
  refine lv_iload_n hx hb (show decode prog_30_method_11_code 5 = .ok (.iload_n 1, 1) by decide +kernel) rfl (lv_at hl 1 rfl) ?_
  refine lv_icmp_lt hx hb (show decode prog_30_method_11_code 6 = .ok (.if_icmp .lt 10, 3) by decide +kernel) (tgt := 16) (by decide) (fun _ => ?_) (fun h => absurd h1 h)
  refine lv_iload_n hx hb (show decode prog_30_method_11_code 16 = .ok (.iload_n 0, 1) by decide +kernel) rfl (lv_at hl 0 rfl) ?_
  exact W.iret (v := i) hx hb hr (fun t ht hW => ⟨rfl, ht⟩) (fun q hq => by cases hq) (show decode prog_30_method_11_code 17 = .ok (.ireturn, 1) by decide +kernel)
theorem ax_check {l : Launch} {A : Nat → Prop} {a tv N : Nat} {f : Nat → Value} {H0 : Heap} {i j : Int32} (h0 : ¬ i < 0) (h1 : i < j) : ax_M l A a tv N f H0 ax_yck prog_22_method_155_code 2 none 1 22 [.int i, .int j] none := by
  refine Met.ofW (cc := prog_22_method_155_code) (maxL := 2) (ret := none) (by decide) rfl ?_
  intro p e s m args below meth c s₁ B hml hv
  obtain ⟨rfl, hH, hK⟩ := hv
  subst hH
  have hK0 := hK
  obtain ⟨k1, k2, k3, k4, k5, k6⟩ := hK
  have hx := B.exec
  have hb := B.bytes
  have hr := B.returns
  have hts0 := atoms_spec (ws := Cond.code ax_yck prog_22_method_155_code 2 none :: am_gw) B.pre
  have hts : ∀ w ∈ am_gw, w.before [.int i, .int j].toArray s = true := fun w hw => hts0 w (List.mem_cons_of_mem _ hw)
  have hown : s.vm.findClass "java/lang/String" = some m.cls := findClass_of_methodNamed B.named
  have hlocks := B.notSynchronized
  have hS : va_S A s.heap s.heap [] := va_S.rf
  have hl := lv_entry ([.int i, .int j]) (n := 2) (Nat.le_of_ble_eq_true rfl)
  rw [lg_entry_eq]
  generalize (lg_sl ([.int i, .int j]) ++ List.replicate (2 - (lg_sl ([.int i, .int j])).length) Slot.unset).toArray = ls at hl ⊢
  have hl : lv_has ls 2 [(0, .int i), (1, .int j)] := hl
  refine lv_iload_n hx hb (show decode prog_22_method_155_code 0 = .ok (.iload_n 0, 1) by decide +kernel) rfl (lv_at hl 0 rfl) ?_
  refine lv_iload_n hx hb (show decode prog_22_method_155_code 1 = .ok (.iload_n 1, 1) by decide +kernel) rfl (lv_at hl 1 rfl) ?_
  rcases k2 with k2 | ⟨x, k2⟩
  · refine va_gets hx hb k2 hS hown (hts _ ax_wsi) (fun _ h => h) (show decode prog_22_method_155_code 2 = .ok (.getstatic 1053, 3) by decide +kernel) ?_
    refine ax_cS (As := [.int i, .int j, .null]) (rest := []) (v := some (.int i)) hx hb hml hown hts hK0 (ax_pre0 h0 h1) ax_cd_pre ax_ini3 (hts _ ax_l1059) ax_st_pre ax_d_pre ⟨Nat.le_refl _, Nat.le_refl _⟩ hl.1 rfl (by decide) ⟨Nat.le_refl _, Nat.le_refl _⟩ (show decode prog_22_method_155_code 5 = .ok (.invokestatic 1059, 3) by decide +kernel) ?_
    refine lv_pop hx hb (show decode prog_22_method_155_code 8 = .ok (.pop, 1) by decide +kernel) rfl ?_
    exact W.vret hx hb hr (fun t ht hW => ⟨rfl, ht⟩) (fun q hq => by cases hq) (show decode prog_22_method_155_code 9 = .ok (.return_, 1) by decide +kernel)
  · refine va_gets hx hb k2 hS hown (hts _ ax_wsi) (fun _ h => h) (show decode prog_22_method_155_code 2 = .ok (.getstatic 1053, 3) by decide +kernel) ?_
    refine ax_cS (As := [.int i, .int j, .ref x]) (rest := []) (v := some (.int i)) hx hb hml hown hts hK0 (ax_pre1 h0 h1) ax_cd_pre ax_ini3 (hts _ ax_l1059) ax_st_pre ax_d_pre ⟨Nat.le_refl _, Nat.le_refl _⟩ hl.1 rfl (by decide) ⟨Nat.le_refl _, Nat.le_refl _⟩ (show decode prog_22_method_155_code 5 = .ok (.invokestatic 1059, 3) by decide +kernel) ?_
    refine lv_pop hx hb (show decode prog_22_method_155_code 8 = .ok (.pop, 1) by decide +kernel) rfl ?_
    exact W.vret hx hb hr (fun t ht hW => ⟨rfl, ht⟩) (fun q hq => by cases hq) (show decode prog_22_method_155_code 9 = .ok (.return_, 1) by decide +kernel)
theorem ax_ch : ∀ k, k < 128 → nI k &&& 255 = nI k ∧ ((nI k).toUInt32 % 65536).toInt32 = nI k ∧ narrow .char (.int (nI k)) = .int (nI k) := by decide +kernel
theorem ax_charL {l : Launch} {A : Nat → Prop} {a tv N : Nat} {f : Nat → Value} {H0 : Heap} {i : Int32} {k : Nat} (h0 : ¬ i < 0) (h1 : i < nI N) (h2 : vp_in i N) (hf : f i.toNatClampNeg = .int (nI k)) (hk : k < 128) : ax_M l A a tv N f H0 yJ1_charAt_3b067 cJ1_charAt_3b067 2 (some .char) 2 43 [.ref tv, .int i] (some (.int (nI k))) := by
  refine Met.ofW (cc := cJ1_charAt_3b067) (maxL := 2) (ret := (some .char)) (by decide) rfl ?_
  intro p e s m args below meth c s₁ B hml hv
  obtain ⟨rfl, hH, hK⟩ := hv
  subst hH
  have hK0 := hK
  obtain ⟨k1, k2, k3, k4, k5, k6⟩ := hK
  have hx := B.exec
  have hb := B.bytes
  have hr := B.returns
  have hts0 := atoms_spec (ws := Cond.code yJ1_charAt_3b067 cJ1_charAt_3b067 2 (some .char) :: am_gw) B.pre
  have hts : ∀ w ∈ am_gw, w.before [.ref tv, .int i].toArray s = true := fun w hw => hts0 w (List.mem_cons_of_mem _ hw)
  have hown : s.vm.findClass "java/lang/StringLatin1" = some m.cls := findClass_of_methodNamed B.named
  have hlocks := B.notSynchronized
  have hS : va_S A s.heap s.heap [] := va_S.rf
  have hl := lv_entry ([.ref tv, .int i]) (n := 2) (Nat.le_of_ble_eq_true rfl)
  rw [lg_entry_eq]
  generalize (lg_sl ([.ref tv, .int i]) ++ List.replicate (2 - (lg_sl ([.ref tv, .int i])).length) Slot.unset).toArray = ls at hl ⊢
  have hl : lv_has ls 2 [(0, .ref tv), (1, .int i)] := hl
  obtain ⟨c1, c2, c3⟩ := ax_ch k hk
  refine lv_iload_n hx hb (show decode cJ1_charAt_3b067 0 = .ok (.iload_n 1, 1) by decide +kernel) rfl (lv_at hl 1 rfl) ?_
  refine lv_aload_n hx hb (show decode cJ1_charAt_3b067 1 = .ok (.aload_n 0, 1) by decide +kernel) rfl (lv_at hl 0 rfl) ?_
  refine va_tlen (v := nI N) hx hb k6 hS rfl (show decode cJ1_charAt_3b067 2 = .ok (.arraylength, 1) by decide +kernel) ?_
  refine ax_cS (As := [.int i, .int (nI N)]) (rest := []) (v := none) hx hb hml hown hts hK0 (ax_check h0 h1) ax_cd_check ax_ini0 (hts _ ax_l9) ax_st_check ax_d_check ⟨Nat.le_refl _, Nat.le_of_ble_eq_true rfl⟩ hl.1 rfl (by decide) ⟨Nat.le_refl _, Nat.le_refl _⟩ (show decode cJ1_charAt_3b067 3 = .ok (.invokestatic 9, 3) by decide +kernel) ?_
  refine lv_aload_n hx hb (show decode cJ1_charAt_3b067 6 = .ok (.aload_n 0, 1) by decide +kernel) rfl (lv_at hl 0 rfl) ?_
  refine lv_iload_n hx hb (show decode cJ1_charAt_3b067 7 = .ok (.iload_n 1, 1) by decide +kernel) rfl (lv_at hl 1 rfl) ?_
  refine va_tb hx hb k6 hS h2 hf (show decode cJ1_charAt_3b067 8 = .ok (.baload, 1) by decide +kernel) ?_
  refine lv_sipush (v := 255) hx hb (show decode cJ1_charAt_3b067 9 = .ok (.sipush 255, 3) by decide +kernel) rfl ?_
  refine lv_iand hx hb (show decode cJ1_charAt_3b067 12 = .ok (.iand, 1) by decide +kernel) ?_
  rw [c1]
  refine lv_i2c hx hb (show decode cJ1_charAt_3b067 13 = .ok (.i2c, 1) by decide +kernel) c2 ?_
  exact W.zret (v := nI k) hx hb hr c3 (fun t ht hW => ⟨rfl, ht⟩) (fun q hq => by cases hq) (show decode cJ1_charAt_3b067 14 = .ok (.ireturn, 1) by decide +kernel)
theorem ax_charAt {l : Launch} {A : Nat → Prop} {a tv N : Nat} {f : Nat → Value} {H0 : Heap} {i : Int32} {k : Nat} (h0 : ¬ i < 0) (h1 : i < nI N) (h2 : vp_in i N) (hf : f i.toNatClampNeg = .int (nI k)) (hk : k < 128) : ax_M l A a tv N f H0 yJ0_charAt_5068e cJ0_charAt_5068e 2 (some .char) 3 64 [.ref a, .int i] (some (.int (nI k))) := by
  refine Met.ofW (cc := cJ0_charAt_5068e) (maxL := 2) (ret := (some .char)) (by decide) rfl ?_
  intro p e s m args below meth c s₁ B hml hv
  obtain ⟨rfl, hH, hK⟩ := hv
  subst hH
  have hK0 := hK
  obtain ⟨k1, k2, k3, k4, k5, k6⟩ := hK
  have hx := B.exec
  have hb := B.bytes
  have hr := B.returns
  have hts0 := atoms_spec (ws := Cond.code yJ0_charAt_5068e cJ0_charAt_5068e 2 (some .char) :: am_gw) B.pre
  have hts : ∀ w ∈ am_gw, w.before [.ref a, .int i].toArray s = true := fun w hw => hts0 w (List.mem_cons_of_mem _ hw)
  have hown : s.vm.findClass "java/lang/String" = some m.cls := findClass_of_methodNamed B.named
  have hlocks := B.notSynchronized
  have hS : va_S A s.heap s.heap [] := va_S.rf
  have hl := lv_entry ([.ref a, .int i]) (n := 2) (Nat.le_of_ble_eq_true rfl)
  rw [lg_entry_eq]
  generalize (lg_sl ([.ref a, .int i]) ++ List.replicate (2 - (lg_sl ([.ref a, .int i])).length) Slot.unset).toArray = ls at hl ⊢
  have hl : lv_has ls 2 [(0, .ref a), (1, .int i)] := hl
  obtain ⟨c1, c2, c3⟩ := ax_ch k hk
  refine lv_aload_n hx hb (show decode cJ0_charAt_5068e 0 = .ok (.aload_n 0, 1) by decide +kernel) rfl (lv_at hl 0 rfl) ?_
  refine ax_cV (As := []) (b := a) (rest := []) (v := some (.int 1)) hx hb hml hown hts hK0 ax_latin ax_cd_latin ax_ini0 (hts _ ax_l492) ax_in_latin ax_se_latin (by decide +kernel) ⟨Nat.le_of_ble_eq_true rfl, Nat.le_of_ble_eq_true rfl⟩ (ax_recv hK0) hl.1 rfl (by decide) ⟨Nat.le_refl _, Nat.le_refl _⟩ (show decode cJ0_charAt_5068e 1 = .ok (.invokevirtual 492, 3) by decide +kernel) ?_
  refine lv_if_eq hx hb (show decode cJ0_charAt_5068e 4 = .ok (.ifCond .eq 12, 3) by decide +kernel) (tgt := 16) (by decide) (fun h => absurd h (by decide)) (fun _ => ?_)
  refine lv_aload_n hx hb (show decode cJ0_charAt_5068e 7 = .ok (.aload_n 0, 1) by decide +kernel) rfl (lv_at hl 0 rfl) ?_
  refine vk_getf hx hb k5 hS hown (hts _ ax_w9) (fun _ h => h) (show decode cJ0_charAt_5068e 8 = .ok (.getfield 9, 3) by decide +kernel) ?_
  refine lv_iload_n hx hb (show decode cJ0_charAt_5068e 11 = .ok (.iload_n 1, 1) by decide +kernel) rfl (lv_at hl 1 rfl) ?_
  refine ax_cS (As := [.ref tv, .int i]) (rest := []) (v := some (.int (nI k))) hx hb hml hown hts hK0 (ax_charL h0 h1 h2 hf hk) ax_cd_charL ax_ini1 (hts _ ax_l495) ax_st_charL ax_d_charL ⟨Nat.le_refl _, Nat.le_of_ble_eq_true rfl⟩ hl.1 rfl (by decide) ⟨Nat.le_refl _, Nat.le_refl _⟩ (show decode cJ0_charAt_5068e 12 = .ok (.invokestatic 495, 3) by decide +kernel) ?_
  exact W.zret (v := nI k) hx hb hr c3 (fun t ht hW => ⟨rfl, ht⟩) (fun q hq => by cases hq) (show decode cJ0_charAt_5068e 15 = .ok (.ireturn, 1) by decide +kernel)
