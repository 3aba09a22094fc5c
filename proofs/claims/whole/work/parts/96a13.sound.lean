/-! SOUNDNESS: calls, returns, whole runs -/
def am_mt (c : Nat) : Nat × Nat × Nat × Nat × Nat := am_mx.getD c (0, 9, 0, 0, 0)
theorem am_Qf {c : Nat} (h : c < 327) : Cond.initialized (am_ms c).1.cls ∈ am_gw ∧ (parseMethodDescriptor (am_ms c).1.desc).map (fun d => d.parameters.length) = some (am_mt c).2.2.2.2 ∧
    ((am_ms c).1.cls = am_own (am_ms c).2.2.2.2 ∧ (am_ms c).1.cls ≠ "java/lang/invoke/MethodHandle" ∧ (am_ms c).1.cls ≠ "java/lang/invoke/VarHandle" ∧ (am_ms c).2.2.1 ≤ 40) ∧ plainName (am_ms c).1.cls = true ∧
    ((am_mt c).2.1 = 1 → Cond.static (am_ms c).1 ∈ am_gw) ∧ ((am_mt c).2.1 = 2 → Cond.instanceMethod (am_ms c).1 ∈ am_gw ∧ (am_ms c).1.name = "<init>") ∧
    ((am_mt c).2.1 = 0 → Cond.instanceMethod (am_ms c).1 ∈ am_gw ∧ Cond.selects (am_ms c).1.cls (am_ms c).1 (am_ms c).1 ∈ am_gw ∧ (am_ms c).2.2.2.2 < 13 ∧ (am_ms c).1.cls = am_RR (am_ms c).2.2.2.2) := by
  have hk := am_Q_ok c h
  unfold am_okQ at hk
  split at hk
  · next i2 t i3 i4 np y cc ml ret o hm hms =>
    have e : am_mt c = (i2, t, i3, i4, np) := by
      unfold am_mt
      rw [List.getD_eq_getElem?_getD, hm]
      rfl
    rw [e, hms]
    simp only [Bool.and_eq_true, decide_eq_true_eq] at hk
    obtain ⟨⟨⟨⟨h1, h2⟩, h3⟩, h4⟩, h5⟩ := hk
    refine ⟨am_at_in h1, h2, h3, h4, fun ht => ?_, fun ht => ?_, fun ht => ?_⟩
    · dsimp only at ht
      subst ht
      exact am_at_in h5
    · dsimp only at ht
      subst ht
      simp only [Bool.and_eq_true, decide_eq_true_eq] at h5
      exact ⟨am_at_in h5.1, h5.2⟩
    · dsimp only at ht
      subst ht
      simp only [Bool.and_eq_true, decide_eq_true_eq] at h5
      exact ⟨am_at_in h5.1.1, am_at_in h5.1.2, h5.2⟩
  · cases hk
theorem am_initret0 : ∀ c, c < 327 → (am_mt c).2.1 = 2 → (am_ms c).2.2.2.1 = none := by decide +kernel
theorem am_initret {c : Nat} (h : c < 327) (h2 : (am_mt c).2.1 = 2) : (am_ms c).2.2.2.1 = none := am_initret0 c h h2
theorem am_good {w0 : Cond} (h : w0 ∈ am_gw) : GoodIn am_gw (w0 :: am_gw) := by
  intro w hw
  have hg : w ∈ am_gw := by
    rcases List.mem_cons.mp hw with e | e
    · rw [e]; exact h
    · exact e
  exact ⟨hg, good_of_word (List.mem_filter.mp hg).2⟩
def am_rm (q mc ms : Nat) : Room := { frames := q + 1, cells := mc, slots := ms, locals := 64 * (q + 1) }
def am_ws (c : Nat) : List Cond := Cond.code (am_ms c).1 (am_ms c).2.1 (am_ms c).2.2.1 (am_ms c).2.2.2.1 :: am_gw
theorem am_lc_get {z b : Nat} {adK : Nat → Nat} : ∀ (as : List Value) (k : Nat) (v : Value), (am_lc as)[k]? = some v → v ≠ .retAddr 0 → (lg_sl (as.map (am_cv z b adK)))[k]? = some (.val (am_cv z b adK v))
  | [], k, v, h, _ => by simp [am_lc] at h
  | u :: t, k, v, h, hv => by
    unfold am_lc at h
    unfold lg_sl
    rw [List.map_cons, List.flatMap_cons, am_cv_cat]
    by_cases hc : u.category = 2
    · rw [if_pos hc] at h ⊢
      match k with
      | 0 => simp at h; subst h; simp
      | 1 => simp at h; exact absurd h.symm hv
      | k + 2 => simp only [List.getElem?_cons_succ] at h; exact am_lc_get t k v h hv
    · rw [if_neg hc] at h ⊢
      match k with
      | 0 => simp at h; subst h; simp
      | k + 1 => simp only [List.getElem?_cons_succ] at h; exact am_lc_get t k v h hv
theorem am_lc_len {z b : Nat} {adK : Nat → Nat} : ∀ as : List Value, (lg_sl (as.map (am_cv z b adK))).length = (am_lc as).length
  | [] => rfl
  | u :: t => by
    have ih := am_lc_len (z := z) (b := b) (adK := adK) t
    unfold lg_sl at ih ⊢
    unfold am_lc
    rw [List.map_cons, List.flatMap_cons, am_cv_cat]
    by_cases hc : u.category = 2
    · rw [if_pos hc, if_pos hc]; simp [ih]
    · rw [if_neg hc, if_neg hc]; simp [ih]
theorem am_LR_en {z b : Nat} {adK : Nat → Nat} {as : List Value} {n : Nat} (h : (am_lc as).length ≤ n) : am_LR (am_cv z b adK) ((lg_sl (as.map (am_cv z b adK)) ++ List.replicate (n - (lg_sl (as.map (am_cv z b adK))).length) Slot.unset).toArray) n (am_pad (am_lc as) n) := by
  have hl := am_lc_len (z := z) (b := b) (adK := adK) as
  have hh := lv_entry (as.map (am_cv z b adK)) (n := n) (by rw [hl]; exact h)
  refine ⟨hh.1, hh.2.1, by simp [am_pad]; omega, fun k v hk hv => ?_⟩
  unfold am_pad at hk
  by_cases hlt : k < (am_lc as).length
  · rw [List.getElem?_append_left hlt] at hk
    rw [List.getElem?_toArray, List.getElem?_append_left (by rw [hl]; exact hlt)]
    exact am_lc_get as k v hk hv
  · rw [List.getElem?_append_right (by omega), List.getElem?_replicate] at hk
    split at hk
    · exact absurd (Option.some.inj hk).symm hv
    · cases hk
section SND4
variable {p : Program} {l : Launch} {e : Env} {R : Room} {s : State} {m : MethodId} {args : Array Value} {below : List Frame} {meth : Method} {c : Code} {Q : State → Prop}
variable {D : va_G} {cy : Nat → ClassId} {H00 : Heap} {b Ln : Nat} {xs : Nat → Int32} {adK adV : Nat → Nat} {c0 z0 q pc : Nat} {L S : List Value} {μ μ' : am_M} {f' : am_F} {inf : am_I}
/-- the place of a return, by the answer -/
def am_isR (q pc : Nat) (v : Option Value) : Prop := match v with
  | none => decode (am_ms q).2.1 pc = .ok (.return_, 1) ∧ (am_ms q).2.2.2.1 = none
  | some (.int x) => decode (am_ms q).2.1 pc = .ok (.ireturn, 1) ∧ ((am_ms q).2.2.2.1 = some .int ∨ ((am_ms q).2.2.2.1 = some .boolean ∧ (x = 0 ∨ x = 1)))
  | some (.long _) => decode (am_ms q).2.1 pc = .ok (.lreturn, 1) ∧ (am_ms q).2.2.2.1 = some .long
  | some (.ref _) => decode (am_ms q).2.1 pc = .ok (.areturn, 1) ∧ (am_ms q).2.2.2.1 = some (.object "TenthBean$Legion")
  | _ => False
def am_Rt (D : va_G) (cy : Nat → ClassId) (H00 : Heap) (b Ln : Nat) (xs : Nat → Int32) (adK : Nat → Nat) (c0 z0 : Nat) (p : Program) (l : Launch) (e : Env) (R : Room) (s : State) (m : MethodId) (args : Array Value) (below : List Frame) (meth : Method) (c : Code) (Q : State → Prop) (q : Nat) (r : am_X) : Prop :=
  ∀ (H : Heap) (locs : List Loc) (cells slots pc : Nat) (ls : Array Slot), am_Rel D cy H00 Ln xs r.2 H → (∀ x ∈ locs, H00.size ≤ x.base) → c0 + cells = r.2.2.2.2.2.1 → z0 + slots = r.2.2.2.2.2.2 → am_isR q pc r.1 →
    W p l e R s m args below meth c H locs cells slots Q (F0 m pc ls (r.1.toList.map (am_cv H00.size b adK)))
/-- a method's contract out of one run of the small machine -/
def am_Met (l : Launch) (D : va_G) (cy : Nat → ClassId) (H00 : Heap) (b Ln : Nat) (xs : Nat → Int32) (adK adV : Nat → Nat) (c : Nat) (as : List Value) (μ : am_M) (r : am_X) : Prop :=
  Met l (am_ms c).1 (am_ws c) (am_rm c (r.2.2.2.2.2.1 - μ.2.2.2.2.1) (r.2.2.2.2.2.2 - μ.2.2.2.2.2)) (fun A U => A = (as.map (am_cv H00.size b adK)).toArray ∧ am_Rel D cy H00 Ln xs μ U.heap ∧ am_KK D cy H00 b Ln xs adK adV U)
    (fun _ _ o t => o = .returned (r.1.map (am_cv H00.size b adK)) ∧ am_Rel D cy H00 Ln xs r.2 t.heap) (r.2.2.2.2.2.1 - μ.2.2.2.2.1) (r.2.2.2.2.2.2 - μ.2.2.2.2.2) (fun x => H00.size ≤ x)
theorem am_blind {as : List Value} : FrameBlind (fun A U => A = (as.map (am_cv H00.size b adK)).toArray ∧ am_Rel D cy H00 Ln xs μ U.heap ∧ am_KK D cy H00 b Ln xs adK adV U) :=
  fun _ _ _ _ h => ⟨h.1, h.2.1, am_KK.same rfl h.2.2⟩
theorem am_after {H : Heap} {locs : List Loc} {cells slots mc ms : Nat} {ls : Array Slot} {st0 rest : List Value} {Qa : State → Outcome → State → Prop} {free : Addr → Prop} (hr : va_Run p l e R s m args below meth c H locs cells slots mc ms (F0 m pc ls st0) rest Qa free)
    (kk : ∀ (v : Option Value) (st t : State) (Lc : List Loc), Qa st (.returned v) t → (∀ x ∈ Lc, free x.base) → W p l e R s m args below meth c t.heap (locs ++ Lc) (cells + mc) (slots + ms) Q (F0 m (pc + 3) ls (v.toList ++ rest))) : W p l e R s m args below meth c H locs cells slots Q (F0 m pc ls st0) := by
  intro T hT X
  obtain ⟨v, st₀, t, T', Lc, h0, X', hL, e1, e2, hq, st⟩ := hr T hT X
  obtain ⟨t2, a1, b1⟩ := kk v st₀ t Lc hq hL T' e1 X'
  exact ⟨t2, st t2 a1, b1⟩
/-- a call: by the callee's contract -/
theorem am_s_call {idx cq n : Nat} {i : Instr} {as rest : List Value} {r : am_X} {kind ci : Nat} (C : am_Cx D cy H00 b Ln xs adK adV q p R s m args meth c) (hcq : cq < q ∧ q < 328) (hd : decode (am_ms q).2.1 pc = .ok (i, 3)) (hM : am_Met l D cy H00 b Ln xs adK adV cq as μ r)
    (hmem : ∃ x ∈ am_lkM, x.1 = (am_ms q).2.2.2.2 ∧ x.2.1 = idx ∧ x.2.2.1 = cq ∧ x.2.2.2.1 = n ∧ x.2.2.2.2.1 = kind ∧ x.2.2.2.2.2.1 = ci)
    (hi : (i = .invokestatic idx ∧ (kind = 1 ∨ kind = 4) ∧ S = as.reverse ++ rest ∧ as.length = n) ∨ (i = .invokespecial idx ∧ (kind = 2 ∨ kind = 5) ∧ ∃ a as', as = .ref a :: as' ∧ S = as'.reverse ++ .ref a :: rest ∧ as'.length = n) ∨ (i = .invokevirtual idx ∧ (kind = 0 ∨ kind = 3) ∧ ∃ a as', as = .ref a :: as' ∧ S = as'.reverse ++ .ref a :: rest ∧ as'.length = n ∧ (μ.2.2.2.1 a).1 = ci))
    (hcat : am_cat rest ≤ 8) (hle : μ.2.2.2.2.1 ≤ r.2.2.2.2.2.1 ∧ μ.2.2.2.2.2 ≤ r.2.2.2.2.2.2) (hr1 : r.2.2.2.2.2.1 ≤ c0 + R.cells) (hr2 : r.2.2.2.2.2.2 ≤ z0 + R.slots)
    (K : am_K D cy H00 b Ln xs adK c0 z0 p l e R s m args below meth c Q (q, pc + 3, L, r.1.toList ++ rest) r.2) : am_K D cy H00 b Ln xs adK c0 z0 p l e R s m args below meth c Q (q, pc, L, S) μ := by
  intro H locs cells slots ls hR hL hlo hc hz
  obtain ⟨x, hx, e1, e2, e3, e4, e5, e6⟩ := hmem
  have hok := am_M_ok x hx
  obtain ⟨o, idx1, cq1, n1, kind1, ci1, wi⟩ := x
  dsimp only at e1 e2 e3 e4 e5 e6
  subst e2; subst e3; subst e4; subst e5; subst e6
  unfold am_okM at hok
  simp only [Bool.and_eq_true, decide_eq_true_eq] at hok
  obtain ⟨⟨hc1, hc2, hc3, hc4⟩, hlk⟩ := hok
  have hq := am_Qf hc1
  have hts := C.2.2.2.2.2.1
  have hKK := C.2.2.2.2.2.2.2.2.1
  have hfr : (am_rm cq1 (r.2.2.2.2.2.1 - μ.2.2.2.2.1) (r.2.2.2.2.2.2 - μ.2.2.2.2.2)).frames + 1 ≤ R.frames ∧ 8 + ((am_ms cq1).2.2.1 + 11) + (am_rm cq1 (r.2.2.2.2.2.1 - μ.2.2.2.2.1) (r.2.2.2.2.2.2 - μ.2.2.2.2.2)).locals ≤ R.locals := by
    have h1 := C.2.2.2.2.2.2.2.2.2.1
    have h2 := C.2.2.2.2.2.2.2.2.2.2
    have h3 := hq.2.2.1.2.2.2
    have h4 := hcq.1
    constructor
    · show cq1 + 1 + 1 ≤ R.frames
      omega
    · show 8 + ((am_ms cq1).2.2.1 + 11) + 64 * (cq1 + 1) ≤ R.locals
      omega
  have hpn : (am_ms cq1).1.cls ≠ "java/lang/invoke/MethodHandle" ∧ (am_ms cq1).1.cls ≠ "java/lang/invoke/VarHandle" ∧ (parseMethodDescriptor (am_ms cq1).1.desc).map (fun d => d.parameters.length) = some n1 := by
    refine ⟨hq.2.2.1.2.1, hq.2.2.1.2.2.1, ?_⟩
    rw [hq.2.1]
    exact congrArg some hc2
  have hS : CallFix p m c (am_ms q).2.1 (am_ms q).2.2.1 s args am_gw (am_own o) := ⟨C.1, C.2.1, C.2.2.1, by rw [e1]; exact C.2.2.2.2.1, hts⟩
  have hpre : PreS s H (fun A U => A = (as.map (am_cv H00.size b adK)).toArray ∧ am_Rel D cy H00 Ln xs μ U.heap ∧ am_KK D cy H00 b Ln xs adK adV U) (as.map (am_cv H00.size b adK)) := ⟨am_blind, fun U hU hW => ⟨rfl, by rw [hU]; exact hR, hKK.warm hW⟩⟩
  have hini := hts _ hq.1
  have hroom : cells + (r.2.2.2.2.2.1 - μ.2.2.2.2.1) ≤ R.cells ∧ slots + (r.2.2.2.2.2.2 - μ.2.2.2.2.2) ≤ R.slots := by omega
  have hcw : 2 * (F0 m pc ls (S.map (am_cv H00.size b adK))).monitorRoom + ((rest.map (am_cv H00.size b adK)).map fun v => v.category).sum ≤ 8 := by
    rw [am_cat_cv]
    show 2 * 0 + _ ≤ 8
    omega
  have fin : ∀ {Qa : State → Outcome → State → Prop}, (∀ st o t, Qa st o t → o = .returned (r.1.map (am_cv H00.size b adK)) ∧ am_Rel D cy H00 Ln xs r.2 t.heap) → va_Run p l e R s m args below meth c H locs cells slots (r.2.2.2.2.2.1 - μ.2.2.2.2.1) (r.2.2.2.2.2.2 - μ.2.2.2.2.2) (F0 m pc ls (S.map (am_cv H00.size b adK))) (rest.map (am_cv H00.size b adK)) Qa (fun x => H00.size ≤ x) →
      W p l e R s m args below meth c H locs cells slots Q (F0 m pc ls (S.map (am_cv H00.size b adK))) := by
    intro Qa hQa hrun
    refine am_after hrun fun v st t Lc hqa hLc => ?_
    obtain ⟨hv, hR1⟩ := hQa _ _ _ hqa
    have hv := Outcome.returned.inj hv
    subst hv
    have hk := K t.heap (locs ++ Lc) (cells + (r.2.2.2.2.2.1 - μ.2.2.2.2.1)) (slots + (r.2.2.2.2.2.2 - μ.2.2.2.2.2)) ls hR1 hL (fun y hy => (List.mem_append.mp hy).elim (hlo y) (hLc y)) (by omega) (by omega)
    rw [List.map_append] at hk
    cases hr : r.1 with
    | none => rw [hr] at hk; exact hk
    | some u => rw [hr] at hk; exact hk
  have hcb : ∀ hl : (Cond.methodLink (am_own o) idx1 (am_ms cq1).1).before args s = true, CallB R s args (am_own o) idx1 (am_ms cq1).1 (am_ms cq1).2.1 (am_ms cq1).2.2.1 (am_ms cq1).2.2.2.1 (am_ws cq1) (am_rm cq1 (r.2.2.2.2.2.1 - μ.2.2.2.2.1) (r.2.2.2.2.2.2 - μ.2.2.2.2.2)) (r.2.2.2.2.2.1 - μ.2.2.2.2.1) (r.2.2.2.2.2.2 - μ.2.2.2.2.2) n1 :=
    fun hl => callB_of n1 hts (am_good (am_qc cq1 hc1)) rfl rfl rfl hini hl hpn hfr
  have hcn : (lw_tbl[wi]? = some (.methodLinkNest (am_own o) idx1 (am_ms cq1).1 "TenthBean")) → va_CN R s args (am_own o) idx1 (am_ms cq1).1 "TenthBean" (am_ms cq1).2.1 (am_ms cq1).2.2.1 (am_ms cq1).2.2.2.1 (am_ws cq1) (am_rm cq1 (r.2.2.2.2.2.1 - μ.2.2.2.2.1) (r.2.2.2.2.2.2 - μ.2.2.2.2.2)) (r.2.2.2.2.2.1 - μ.2.2.2.2.1) (r.2.2.2.2.2.2 - μ.2.2.2.2.2) n1 := by
    intro hl
    have hn : (am_own o, idx1, (am_ms cq1).1, "TenthBean") ∈ am_nest := List.mem_filterMap.mpr ⟨_, List.mem_of_getElem? hl, rfl⟩
    exact va_cnB n1 hts (am_good (am_qc cq1 hc1)) rfl rfl rfl (hKK.2.2.1 _ hn) hini hpn hfr
  rcases hi with ⟨rfl, hk, rfl, hn⟩ | ⟨rfl, hk, a, as', rfl, rfl, hn⟩ | ⟨rfl, hk, a, as', rfl, rfl, hn, hci⟩
  · have hst : (Cond.static (am_ms cq1).1).before args s = true := hts _ (hq.2.2.2.2.1 (by show (am_mt cq1).2.1 = 1; unfold am_mt; rw [hc3]; rcases hk with rfl | rfl <;> rfl))
    have hstk : (as.reverse ++ rest).map (am_cv H00.size b adK) = (as.map (am_cv H00.size b adK)).reverse ++ rest.map (am_cv H00.size b adK) := by rw [List.map_append, List.map_reverse]
    rcases hk with rfl | rfl
    · exact fin (fun st o t h => h) (va_runS hS hM ⟨hcb (hts _ (am_at_in hlk)), hst⟩ hpre rfl (by rw [List.length_map]; exact hn) hL.1 hstk hcw hd hroom)
    · exact fin (fun st o t h => h) (va_runSN hS hM ⟨hcn (of_decide_eq_true hlk), hst, trivial⟩ hpre rfl (by rw [List.length_map]; exact hn) hL.1 hstk hcw hd hroom)
  · have hst := hq.2.2.2.2.2.1 (by show (am_mt cq1).2.1 = 2; unfold am_mt; rw [hc3]; rcases hk with rfl | rfl <;> rfl)
    have hret : (am_ms cq1).2.2.2.1 = none := am_initret hc1 (by show (am_mt cq1).2.1 = 2; unfold am_mt; rw [hc3]; rcases hk with rfl | rfl <;> rfl)
    have hstk : (as'.reverse ++ .ref a :: rest).map (am_cv H00.size b adK) = (as'.map (am_cv H00.size b adK)).reverse ++ .ref (H00.size + a) :: rest.map (am_cv H00.size b adK) := by rw [List.map_append, List.map_reverse]; rfl
    rcases hk with rfl | rfl
    · have hcb' := hcb (hts _ (am_at_in hlk))
      unfold am_ws at hcb'
      rw [hret] at hcb'
      have hM' := hM
      unfold am_Met am_ws at hM'
      rw [hret] at hM'
      exact fin (fun st o t h => h) (va_runI hS hM' ⟨hcb', hst.2, hts _ hst.1⟩ hpre rfl (by rw [List.length_map]; exact hn) hL.1 hstk hcw hd hroom)
    · have hcn' := hcn (of_decide_eq_true hlk)
      unfold am_ws at hcn'
      rw [hret] at hcn'
      have hM' := hM
      unfold am_Met am_ws at hM'
      rw [hret] at hM'
      exact fin (fun st o t h => h) (va_runIN hS hM' ⟨hcn', hst.2, hts _ hst.1⟩ hpre rfl (by rw [List.length_map]; exact hn) hL.1 hstk hcw hd hroom)
  · have hst := hq.2.2.2.2.2.2 (by show (am_mt cq1).2.1 = 0; unfold am_mt; rw [hc3]; rcases hk with rfl | rfl <;> rfl)
    have hci2 : ci1 = (am_ms cq1).2.2.2.2 := hc4 hk
    have hstk : (as'.reverse ++ .ref a :: rest).map (am_cv H00.size b adK) = (as'.map (am_cv H00.size b adK)).reverse ++ .ref (H00.size + a) :: rest.map (am_cv H00.size b adK) := by rw [List.map_append, List.map_reverse]; rfl
    have hlt : ci1 < 13 := by rw [hci2]; exact hst.2.2.1
    obtain ⟨cell, g1, g2, g3⟩ := va_recv (q0 := 0) hKK.1 (am_P1 (hR.obj hci hlt)) (am_clv _ hlt) rfl
    have hpv : PreV s H (am_ms cq1).1.cls (H00.size + a) (fun A U => A = ((.ref a :: as').map (am_cv H00.size b adK)).toArray ∧ am_Rel D cy H00 Ln xs μ U.heap ∧ am_KK D cy H00 b Ln xs adK adV U) (as'.map (am_cv H00.size b adK)) :=
      ⟨hpre.1, ⟨cell, g1, g2, by rw [hst.2.2.2, ← hci2]; exact g3⟩, hpre.2⟩
    rcases hk with rfl | rfl
    · exact fin (fun st o t h => h) (va_runV hS hM ⟨hcb (hts _ (am_at_in hlk)), hts _ hst.1, hts _ hst.2.1⟩ hpv rfl (by rw [List.length_map]; exact hn) hL.1 hstk hcw hd hroom)
    · exact fin (fun st o t h => h) (va_runVN hS hM ⟨hcn (of_decide_eq_true hlk), hts _ hst.1, hts _ hst.2.1⟩ hpv rfl (by rw [List.length_map]; exact hn) hL.1 hstk hcw hd hroom)
end SND4
