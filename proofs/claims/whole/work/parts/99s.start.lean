/-! AT THE LAW'S ENTRY: what the tables and the premises say there -/
theorem as_arr {args : Array Value} {s : State} {ty : FieldType} (hp : ∀ C, ty ≠ .object C) (h : (Cond.arrayClass ty).before args s = true) : ∃ cA : ClassId, ArrOfT s cA ty ∧ va_RA s cA ty := by
  obtain ⟨c, k, comp, h1, h2, h3⟩ := Cond.arrayClass_spec h
  refine ⟨c, fun n z => ⟨fun k h => (by cases h), k, h2, comp, h3⟩, ?_⟩
  cases ty with
  | object C => exact absurd rfl (hp C)
  | _ => exact h1
theorem as_arrO {args : Array Value} {s : State} {C : String} (h : (Cond.arrayOver (.object C)).before args s = true) : ∃ cA : ClassId, ArrOfT s cA (.object C) ∧ va_RA s cA (.object C) := by
  obtain ⟨comp, c, k, h1, h2, h3, h4, h5⟩ := Cond.arrayOver_spec h
  exact ⟨c, fun n z => ⟨fun k h => (by cases h), k, h3, comp, h4⟩, k, comp, h3, h4, h1, h5⟩
theorem as_ab : Cond.arrayClass .byte ∈ lw_tbl := List.mem_of_getElem? (i := 178) (by decide +kernel)
theorem as_ai : Cond.arrayClass .int ∈ lw_tbl := List.mem_of_getElem? (i := 180) (by decide +kernel)
theorem as_al : Cond.arrayClass .long ∈ lw_tbl := List.mem_of_getElem? (i := 179) (by decide +kernel)
theorem as_az : Cond.arrayClass .boolean ∈ lw_tbl := List.mem_of_getElem? (i := 181) (by decide +kernel)
theorem as_ao : Cond.arrayOver (.object "TenthBean$Now") ∈ lw_tbl := List.mem_of_getElem? (i := 447) (by decide +kernel)
theorem as_l1 : Cond.laysStatic "java/lang/String" "COMPACT_STRINGS" "Z" ∈ lw_tbl := List.mem_of_getElem? (i := 666) (by decide +kernel)
theorem as_l2 : Cond.laysStatic "jdk/internal/util/Preconditions" "SIOOBE_FORMATTER" "Ljava/util/function/BiFunction;" ∈ lw_tbl := List.mem_of_getElem? (i := 682) (by decide +kernel)
theorem as_l3 : Cond.laysStatic "java/lang/Throwable" "UNASSIGNED_STACK" "[Ljava/lang/StackTraceElement;" ∈ lw_tbl := List.mem_of_getElem? (i := 1392) (by decide +kernel)
theorem as_l4 : Cond.laysStatic "java/lang/Throwable" "SUPPRESSED_SENTINEL" "Ljava/util/List;" ∈ lw_tbl := List.mem_of_getElem? (i := 1394) (by decide +kernel)
theorem as_w1 : Cond.castable "java/util/NoSuchElementException" "java/util/NoSuchElementException" ∈ lw_tbl := List.mem_of_getElem? (i := 1367) (by decide +kernel)
theorem as_w2 : Cond.declares (Bundle.initS "java/lang/RuntimeException") ∈ lw_tbl := List.mem_of_getElem? (i := 1369) (by decide +kernel)
theorem as_w3 : Cond.declares (Bundle.initS "java/lang/Exception") ∈ lw_tbl := List.mem_of_getElem? (i := 1371) (by decide +kernel)
theorem as_w4d : Cond.declares (Bundle.initS "java/lang/Throwable") ∈ lw_tbl := List.mem_of_getElem? (i := 1373) (by decide +kernel)
theorem as_i1 : Cond.initialized "java/lang/String" ∈ lw_tbl := List.mem_of_getElem? (i := 126) (by decide +kernel)
theorem as_i2 : Cond.initialized "jdk/internal/util/Preconditions" ∈ lw_tbl := List.mem_of_getElem? (i := 128) (by decide +kernel)
theorem as_i3 : Cond.initialized "java/lang/Throwable" ∈ lw_tbl := List.mem_of_getElem? (i := 133) (by decide +kernel)
theorem as_K {args : Array Value} {s : State} (hts : ∀ w ∈ lw_tbl, w.before args s = true) : ∃ (D : va_G) (cy : Nat → ClassId), va_K D vwCl (am_tys cy) s := by
  have hg : ∀ w ∈ am_gw, w.before args s = true := fun w hw => hts w (List.mem_filter.mp hw).1
  have h0 : ∀ c : Nat, ∃ q : ClassId × (Nat → Nat), c < 13 → u_Kn s (am_RR c) (am_TT c) (am_N c) q.1 q.2 := by
    intro c
    by_cases hc : c < 13
    · obtain ⟨cC, iS, h⟩ := u_known (n := am_N c) hg (am_inG c hc) (hg _ (am_at_in (am_cxok c hc).1))
      exact ⟨(cC, iS), fun _ => h⟩
    · exact ⟨(0, fun _ => 0), fun h => absurd h hc⟩
  obtain ⟨ch, hch⟩ := Classical.axiomOfChoice h0
  obtain ⟨c13, h13⟩ := as_arr (ty := .byte) (fun C h => by cases h) (hts _ as_ab)
  obtain ⟨c14, h14⟩ := as_arr (ty := .int) (fun C h => by cases h) (hts _ as_ai)
  obtain ⟨c15, h15⟩ := as_arr (ty := .long) (fun C h => by cases h) (hts _ as_al)
  obtain ⟨c16, h16⟩ := as_arr (ty := .boolean) (fun C h => by cases h) (hts _ as_az)
  obtain ⟨c17, h17⟩ := as_arrO (hts _ as_ao)
  refine ⟨(fun c => (ch c).1, fun c => (ch c).2), fun k => if k = 13 then c13 else if k = 14 then c14 else if k = 15 then c15 else if k = 16 then c16 else c17, fun c q hq => ?_, fun k q hq => ?_⟩
  · have hc : c < 13 := (List.getElem?_eq_some_iff.mp hq).1
    have e := Option.some.inj (hq.symm.trans (am_clv c hc))
    subst e
    exact hch c hc
  · match k, hq with
    | 0, hq => cases hq; exact h13
    | 1, hq => cases hq; exact h14
    | 2, hq => cases hq; exact h15
    | 3, hq => cases hq; exact h16
    | 4, hq => cases hq; exact h17
    | k + 5, hq => simp [am_tys] at hq
theorem as_nest {args : Array Value} {s : State} (hts : ∀ w ∈ lw_tbl, w.before args s = true) : ∀ x ∈ am_nest, va_Nw (.methodLinkNest x.1 x.2.1 x.2.2.1 x.2.2.2) s := by
  intro x hx
  unfold am_nest at hx
  obtain ⟨w, hw, hf⟩ := List.mem_filterMap.mp hx
  split at hf
  · next a i y h =>
    have e := Option.some.inj hf
    subst e
    exact va_Nw.of rfl (hts _ hw)
  · cases hf
/-! the Strings -/
def as_st (i : Nat) : Nat × Nat × String := am_strT.getD i (0, 0, "")
def as_tm (i : Nat) : Term := .string (am_own (as_st i).1) (as_st i).2.1
def as_vl (i : Nat) : Term := .field (as_tm i) "java/lang/String" "value" "[B"
def as_el (i j : Nat) : Cond := .eq (.elem (as_vl i) (.int (Int32.ofNat j))) (.int (nI (am_sch i j)))
def as_w4 (i : Nat) : List Cond := [.exactly (as_tm i) "java/lang/String", .eq (.field (as_tm i) "java/lang/String" "coder" "B") (.int 0), .arrayOf (as_vl i) .byte, .eq (.length (as_vl i)) (.int (Int32.ofNat (am_slen i)))]
def as_ws (i : Nat) : List Cond := as_w4 i ++ (List.range (am_slen i)).map (as_el i)
def as_fl : List Cond := flatC (Jvm.Cond.and given_1 narrow_1)
def as_bs : List Nat := [24, 34, 41, 48, 58, 68, 76, 84, 93, 102, 110, 118, 128, 137, 148, 158, 169, 175, 184, 193, 202, 212, 219, 228, 260, 271, 281, 290, 299, 310, 318, 326, 337, 348, 357, 366, 376, 386, 398, 409, 421, 428, 438, 448, 458, 469, 477]
def as_sx : List Nat := [652, 705, 706, 707, 708, 709, 710, 711, 736, 754, 755, 756, 781, 782, 783, 784, 785, 790, 814, 815, 816, 817, 826, 1404, 1640, 1655, 1672, 1673, 1674, 1675, 1692, 1693, 1694, 1695, 1696, 1697, 1706, 1707, 1708, 1709, 1710, 1715, 1735, 1736, 1737, 1738, 1747]
def as_ok (i : Nat) : Bool := decide ((as_fl.drop (as_bs.getD i 0)).take (4 + am_slen i) = as_ws i)
theorem as_ok0 : ∀ i, i < 16 → as_ok i = true := by decide +kernel
theorem as_ok1 : ∀ i, i < 16 → as_ok (16 + i) = true := by decide +kernel
theorem as_ok2 : ∀ i, i < 15 → as_ok (32 + i) = true := by decide +kernel
theorem as_okA {i : Nat} (h : i < 47) : as_ok i = true := by
  by_cases h1 : i < 16
  · exact as_ok0 i h1
  · by_cases h2 : i < 32
    · have := as_ok1 (i - 16) (by omega)
      rwa [show 16 + (i - 16) = i by omega] at this
    · have := as_ok2 (i - 32) (by omega)
      rwa [show 32 + (i - 32) = i by omega] at this
theorem as_in {i : Nat} (h : i < 47) : ∀ w ∈ as_ws i, w ∈ as_fl := by
  intro w hw
  rw [← of_decide_eq_true (as_okA h)] at hw
  exact List.mem_of_mem_drop (List.mem_of_mem_take hw)
def as_sk (i : Nat) : Bool := decide (lw_tbl[as_sx.getD i 0]? = some (.stringRef (am_own (as_st i).1) (as_st i).2.1 (as_st i).2.2))
theorem as_sk0 : ∀ i, i < 24 → as_sk i = true := by decide +kernel
theorem as_sk1 : ∀ i, i < 23 → as_sk (24 + i) = true := by decide +kernel
theorem as_sr {i : Nat} (h : i < 47) : Cond.stringRef (am_own (as_st i).1) (as_st i).2.1 (as_st i).2.2 ∈ lw_tbl := by
  have h1 : as_sk i = true := by
    by_cases h1 : i < 24
    · exact as_sk0 i h1
    · have := as_sk1 (i - 24) (by omega)
      rwa [show 24 + (i - 24) = i by omega] at this
  exact List.mem_of_getElem? (of_decide_eq_true h1)
theorem as_str {args : Array Value} {s : State} {A : Nat → Prop} (h : ∀ i, i < 47 → ∀ w ∈ as_ws i, w.before args s = true) (hA : ∀ a : Nat, a < s.heap.size → ¬ A a) : ∃ adK adV : Nat → Nat, ∀ i, i < 47 → (as_tm i).eval args s none [] s = some (.ref (adK i)) ∧ va_O "java/lang/String" (adK i) A s s.heap ∧ va_OF "java/lang/String" "coder" "B" (.int 0) (adK i) A s s.heap ∧ va_OF "java/lang/String" "value" "[B" (.ref (adV i)) (adK i) A s s.heap ∧ va_T .byte (adV i) (am_slen i) (fun j => .int (nI (am_sch i j))) A s s.heap := by
  have h0 : ∀ i : Nat, ∃ q : Nat × Nat, i < 47 → (as_tm i).eval args s none [] s = some (.ref q.1) ∧ va_O "java/lang/String" q.1 A s s.heap ∧ va_OF "java/lang/String" "coder" "B" (.int 0) q.1 A s s.heap ∧ va_OF "java/lang/String" "value" "[B" (.ref q.2) q.1 A s s.heap ∧ va_T .byte q.2 (am_slen i) (fun j => .int (nI (am_sch i j))) A s s.heap := by
    intro i
    by_cases hi : i < 47
    · have hw := h i hi
      have h4 : ∀ w ∈ as_w4 i, w.before args s = true := fun w hm => hw w (List.mem_append_left _ hm)
      have hex : (Cond.exactly (as_tm i) "java/lang/String").before args s = true := h4 _ List.mem_cons_self
      have hco : (Cond.eq (.field (as_tm i) "java/lang/String" "coder" "B") (.int 0)).before args s = true := h4 _ (List.mem_cons_of_mem _ List.mem_cons_self)
      have har : (Cond.arrayOf (as_vl i) .byte).before args s = true := h4 _ (List.mem_cons_of_mem _ (List.mem_cons_of_mem _ List.mem_cons_self))
      have hle : (Cond.eq (.length (as_vl i)) (.int (Int32.ofNat (am_slen i)))).before args s = true := h4 _ (List.mem_cons_of_mem _ (List.mem_cons_of_mem _ (List.mem_cons_of_mem _ List.mem_cons_self)))
      have hel : ∀ j : Nat, j < am_slen i → (as_el i j).before args s = true := fun j hj => hw _ (List.mem_append_right _ (List.mem_map.mpr ⟨j, List.mem_range.mpr hj, rfl⟩))
      obtain ⟨a, c, cA, kA, q1, q2, q3, q4, q5, q6, -⟩ := Cond.exactly_spec (args := args) (first := s) (o := none) (s := s) (idx := []) (t := as_tm i) (cls := "java/lang/String") hex
      have h9 := ax_slen i hi
      obtain ⟨t, ht, hT⟩ := va_Tof (tm := as_vl i) (f := fun j => .int (nI (am_sch i j))) (A := A) (by omega) har (va_eqt hle) (fun j hj => va_eqt (hel j hj)) hA
      exact ⟨(a, t), fun _ => ⟨q1, ⟨cA, q3, q5, by rw [q6]; exact q2, hA a (Array.getElem?_eq_some_iff.mp q3).1⟩, vk_OFof q1 (va_eqt hco) hA, vk_OFof q1 ht hA, hT⟩⟩
    · exact ⟨(0, 0), fun h => absurd h hi⟩
  obtain ⟨ad, had⟩ := Classical.axiomOfChoice h0
  exact ⟨fun i => (ad i).1, fun i => (ad i).2, fun i hi => had i hi⟩
theorem as_f1 : Cond.eq (.static "java/lang/String" "COMPACT_STRINGS" "Z") (.int 1) ∈ as_fl := by decide +kernel
theorem as_f2 : Cond.isRef (.static "jdk/internal/util/Preconditions" "SIOOBE_FORMATTER" "Ljava/util/function/BiFunction;") ∈ as_fl := by decide +kernel
theorem as_f3 : Cond.isRef (.static Bundle.tN "UNASSIGNED_STACK" Bundle.steD) ∈ as_fl := by decide +kernel
theorem as_f4 : Cond.isRef (.static Bundle.tN "SUPPRESSED_SENTINEL" Bundle.listD) ∈ as_fl := by decide +kernel
theorem as_ZZ {args : Array Value} {s : State} {A : Nat → Prop} (hts : ∀ w ∈ lw_tbl, w.before args s = true) (hf : ∀ w ∈ as_fl, w.before args s = true) (hA : ∀ a : Nat, a < s.heap.size → ¬ A a) : am_ZZ A s s.heap :=
  ⟨va_Zof (hts _ as_l1) (hts _ as_i1) (va_eqi (hf _ as_f1)) hA, va_Zqof (hts _ as_l2) (hts _ as_i2) (hf _ as_f2) hA, vx_Zqof (hts _ as_l3) (hts _ as_i3) (hf _ as_f3) hA, vx_Zqof (hts _ as_l4) (hts _ as_i3) (hf _ as_f4) hA⟩
theorem as_KK {args : Array Value} {s : State} {b Ln : Nat} {xs : Nat → Int32} (hts : ∀ w ∈ lw_tbl, w.before args s = true) (hgv : (Jvm.Cond.and given_1 narrow_1).before args s = true) (hX : va_X b Ln xs s s.heap) (hbl : b < s.heap.size) : ∃ (D : va_G) (cy : Nat → ClassId) (adK adV : Nat → Nat), am_KK D cy s.heap b Ln xs adK adV s := by
  have hf : ∀ w ∈ as_fl, w.before args s = true := flat_of_before _ hgv
  have hA : ∀ a : Nat, a < s.heap.size → ¬ (fun q : Nat => s.heap.size ≤ q) a := fun a h => Nat.not_le.mpr h
  obtain ⟨D, cy, hK⟩ := as_K hts
  obtain ⟨adK, adV, had⟩ := as_str (A := fun q : Nat => s.heap.size ≤ q) (fun i hi w hw => hf w (as_in hi w hw)) hA
  refine ⟨D, cy, adK, adV, hK, hX, as_nest hts, fun j x hj hx => ?_, ⟨fun i hi => (had i hi).2, as_ZZ hts hf hA⟩, hbl, fun i hi => ?_, va_AO.of (hts _ as_ao), va_Nw.of rfl (hts _ as_w1), va_Nw.of rfl (hts _ as_w2), va_Nw.of rfl (hts _ as_w3), va_Nw.of rfl (hts _ as_w4d)⟩
  · have hlt : j < 47 := (List.getElem?_eq_some_iff.mp hj).1
    have e : as_st j = x := by unfold as_st; rw [List.getD_eq_getElem?_getD, hj]; rfl
    have h1 := hts _ (as_sr hlt)
    have h2 := (had j hlt).1
    unfold as_tm at h2
    rw [e] at h1 h2
    exact vk_R.of h1 h2
  · obtain ⟨cell, h1, -⟩ := (had i hi).2.1
    exact (Array.getElem?_eq_some_iff.mp h1).1
