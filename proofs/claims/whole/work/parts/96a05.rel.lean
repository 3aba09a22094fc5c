/-! WHAT A MEMORY OF THE SMALL MACHINE SAYS OF THE HEAP -/
def am_cv (z b : Nat) (adK : Nat → Nat) : Value → Value
  | .ref a => .ref (z + a)
  | .float j => .ref (adK j.toNat)
  | .retAddr 1 => .ref b
  | v => v
theorem am_cv_cat {z b : Nat} {adK : Nat → Nat} (v : Value) : (am_cv z b adK v).category = v.category := by
  unfold am_cv
  split <;> rfl
theorem am_cat_cv {z b : Nat} {adK : Nat → Nat} (S : List Value) : ((S.map (am_cv z b adK)).map fun v => v.category).sum = am_cat S := by
  unfold am_cat
  rw [List.map_map]
  congr 1
  exact List.map_congr_left fun v _ => am_cv_cat v
def am_fv (z : Nat) (μ : am_M) (a k i : Nat) : Value := match am_tt k i with
  | 1 => .long (μ.2.1 a i)
  | 2 => va_rf ((μ.2.2.1 a i).map fun r => z + r)
  | _ => .int (μ.1 a i)
def am_fs (z : Nat) (μ : am_M) (a k : Nat) : List Value := (List.range (am_N k)).map (am_fv z μ a k)
def am_ce (z : Nat) (cy : Nat → ClassId) (μ : am_M) (a k len : Nat) : va_E := match k with
  | 13 => .inl (cy 13, len, .inl (μ.1 a))
  | 14 => .inl (cy 14, len, .inl (μ.1 a))
  | 15 => .inl (cy 15, len, .inr (.inl (μ.2.1 a)))
  | 16 => .inl (cy 16, len, .inl (μ.1 a))
  | 17 => .inl (cy 17, len, .inr (.inr (.inr (.inr fun i => (μ.2.2.1 a i).map fun r => z + r))))
  | k => .inr (k, am_fs z μ a k)
def am_Rel (D : va_G) (cy : Nat → ClassId) (H00 : Heap) (Ln : Nat) (xs : Nat → Int32) (μ : am_M) (H : Heap) : Prop :=
  (∀ q, q < H00.size → H[q]? = H00[q]?) ∧ H.size = H00.size + μ.2.2.2.2.1 ∧ (∀ a, (μ.2.2.2.1 a).1 < 18 → va_at D vwCl (H00.size + a, am_ce H00.size cy μ a (μ.2.2.2.1 a).1 (μ.2.2.2.1 a).2) H) ∧ μ.2.2.2.1 am_SC = (18, Ln) ∧ (∀ j, j < Ln → μ.1 am_SC j = xs j) ∧ μ.2.2.2.2.1 ≤ 600000
def am_tys (cy : Nat → ClassId) : List (ClassId × FieldType) := [(cy 13, .byte), (cy 14, .int), (cy 15, .long), (cy 16, .boolean), (cy 17, .object "TenthBean$Now")]
/-- the statics of the JDK that are read -/
def am_ZZ (A : Nat → Prop) (U : State) (H : Heap) : Prop := va_Z "java/lang/String" "COMPACT_STRINGS" "Z" (.int 1) A U H ∧ va_Zq "jdk/internal/util/Preconditions" "SIOOBE_FORMATTER" "Ljava/util/function/BiFunction;" A U H ∧ vx_Zq Bundle.tN "UNASSIGNED_STACK" Bundle.steD A U H ∧ vx_Zq Bundle.tN "SUPPRESSED_SENTINEL" Bundle.listD A U H
theorem am_ZZ.moved {A : Nat → Prop} {u U : State} {H : Heap} (hvm : u.vm.Alike U.vm) (h : am_ZZ A u H) : am_ZZ A U H := ⟨va_Z.moved hvm h.1, va_Zq.moved hvm h.2.1, vx_Zq.moved hvm h.2.2.1, vx_Zq.moved hvm h.2.2.2⟩
theorem am_ZZ.kept {A : Nat → Prop} {U : State} {H H1 : Heap} (h : am_ZZ A U H) (hq : ∀ a : Nat, a < H.size → ¬ A a → H1[a]? = H[a]?) : am_ZZ A U H1 := ⟨va_Z.kept h.1 hq, va_Zq.kept h.2.1 hq, vx_Zq.kept h.2.2.1 hq, vx_Zq.kept h.2.2.2 hq⟩
def am_SO (adK adV : Nat → Nat) (A : Nat → Prop) (U : State) (H : Heap) : Prop := (∀ i : Nat, i < 47 → va_O "java/lang/String" (adK i) A U H ∧ va_OF "java/lang/String" "coder" "B" (.int 0) (adK i) A U H ∧ va_OF "java/lang/String" "value" "[B" (.ref (adV i)) (adK i) A U H ∧ va_T .byte (adV i) (am_slen i) (fun j => .int (nI (am_sch i j))) A U H) ∧ am_ZZ A U H
/-- the words of the throw that a method's own list can't hold -/
def am_WW (U : State) : Prop := va_Nw (.castable "java/util/NoSuchElementException" "java/util/NoSuchElementException") U ∧ va_Nw (.declares (Bundle.initS "java/lang/RuntimeException")) U ∧ va_Nw (.declares (Bundle.initS "java/lang/Exception")) U ∧ va_Nw (.declares (Bundle.initS Bundle.tN)) U
theorem am_WW.warm {s U : State} (hW : s.WarmedH U.vm) (h : am_WW s) : am_WW U := ⟨va_Nw.warmC hW h.1, va_Nw.warmD hW h.2.1, va_Nw.warmD hW h.2.2.1, va_Nw.warmD hW h.2.2.2⟩
theorem am_WW.same {s U : State} (hv : U.vm = s.vm) (h : am_WW s) : am_WW U := ⟨va_Nw.same rfl hv.symm h.1, va_Nw.same rfl hv.symm h.2.1, va_Nw.same rfl hv.symm h.2.2.1, va_Nw.same rfl hv.symm h.2.2.2⟩
/-- what the tables of a state say, wherever the run stands -/
def am_KK (D : va_G) (cy : Nat → ClassId) (H00 : Heap) (b Ln : Nat) (xs : Nat → Int32) (adK adV : Nat → Nat) (U : State) : Prop :=
  va_K D vwCl (am_tys cy) U ∧ va_X b Ln xs U H00 ∧ (∀ x ∈ am_nest, va_Nw (.methodLinkNest x.1 x.2.1 x.2.2.1 x.2.2.2) U) ∧
  (∀ (j : Nat) (x : Nat × Nat × String), am_strT[j]? = some x → x.1 < 99 → vk_R (am_own x.1) x.2.1 x.2.2 (adK j) U) ∧ am_SO adK adV (fun q => H00.size ≤ q) U H00 ∧ b < H00.size ∧ (∀ i, i < 47 → adK i < H00.size) ∧ va_AO "TenthBean$Now" U ∧ am_WW U
theorem am_KK.warm {D : va_G} {cy : Nat → ClassId} {H00 : Heap} {b Ln : Nat} {xs : Nat → Int32} {adK adV : Nat → Nat} {s U : State} (hW : s.WarmedH U.vm) (h : am_KK D cy H00 b Ln xs adK adV s) : am_KK D cy H00 b Ln xs adK adV U :=
  ⟨va_K.moved hW.alike h.1, va_X.moved hW.alike h.2.1, fun x hx => va_Nw.warmM hW (h.2.2.1 x hx), fun j x hj hx => vk_R.warm hW (h.2.2.2.1 j x hj hx), ⟨fun i hi => ⟨va_O.moved hW.alike (h.2.2.2.2.1.1 i hi).1, va_OF.moved hW.alike (h.2.2.2.2.1.1 i hi).2.1, va_OF.moved hW.alike (h.2.2.2.2.1.1 i hi).2.2.1, va_T.moved hW.alike (h.2.2.2.2.1.1 i hi).2.2.2⟩, am_ZZ.moved hW.alike h.2.2.2.2.1.2⟩, h.2.2.2.2.2.1, h.2.2.2.2.2.2.1, va_AO.moved hW.alike h.2.2.2.2.2.2.2.1, am_WW.warm hW h.2.2.2.2.2.2.2.2⟩
theorem am_KK.same {D : va_G} {cy : Nat → ClassId} {H00 : Heap} {b Ln : Nat} {xs : Nat → Int32} {adK adV : Nat → Nat} {s U : State} (hv : U.vm = s.vm) (h : am_KK D cy H00 b Ln xs adK adV s) : am_KK D cy H00 b Ln xs adK adV U := by
  have hA : s.vm.Alike U.vm := by rw [hv]; exact Vm.Alike.refl _
  exact ⟨va_K.moved hA h.1, va_X.moved hA h.2.1, fun x hx => va_Nw.same rfl hv.symm (h.2.2.1 x hx), fun j x hj hx => vk_R.same hv (h.2.2.2.1 j x hj hx), ⟨fun i hi => ⟨va_O.moved hA (h.2.2.2.2.1.1 i hi).1, va_OF.moved hA (h.2.2.2.2.1.1 i hi).2.1, va_OF.moved hA (h.2.2.2.2.1.1 i hi).2.2.1, va_T.moved hA (h.2.2.2.2.1.1 i hi).2.2.2⟩, am_ZZ.moved hA h.2.2.2.2.1.2⟩, h.2.2.2.2.2.1, h.2.2.2.2.2.2.1, va_AO.moved hA h.2.2.2.2.2.2.2.1, am_WW.same hv h.2.2.2.2.2.2.2.2⟩
/-- the locals -/
def am_LR (cv : Value → Value) (ls : Array Slot) (nL : Nat) (L : List Value) : Prop := ls.size = nL ∧ lv_wf ls ∧ L.length = nL ∧ ∀ (k : Nat) (v : Value), L[k]? = some v → v ≠ .retAddr 0 → ls[k]? = some (.val (cv v))
def am_lv (cv : Value → Value) (L : List Value) : List (Nat × Value) := (List.range L.length).filterMap fun k => match L[k]? with
  | some v => if v = .retAddr 0 then none else some (k, cv v)
  | none => none
theorem am_lv_mem {cv : Value → Value} {L : List Value} {k : Nat} {v : Value} (h : L[k]? = some v) (hv : v ≠ .retAddr 0) : (k, cv v) ∈ am_lv cv L := by
  unfold am_lv
  refine List.mem_filterMap.mpr ⟨k, List.mem_range.mpr (List.getElem?_eq_some_iff.mp h).1, ?_⟩
  simp [h, hv]
theorem am_lv_has {cv : Value → Value} {ls : Array Slot} {nL : Nat} {L : List Value} (h : am_LR cv ls nL L) : lv_has ls nL (am_lv cv L) := by
  refine ⟨h.1, h.2.1, fun q hq => ?_⟩
  unfold am_lv at hq
  obtain ⟨k, -, hk⟩ := List.mem_filterMap.mp hq
  cases hL : L[k]? with
  | none => simp [hL] at hk
  | some v =>
    simp only [hL] at hk
    split at hk
    · cases hk
    · next hv =>
      cases hk
      exact h.2.2.2 k v hL hv
theorem am_st_len : ∀ (L : List Value) (i : Nat) (v : Value), (am_st L i v).length = L.length
  | [], _, _ => by simp [am_st]
  | _ :: t, 0, v => by simp [am_st]
  | u :: t, 1, v => by simp [am_st, am_st_len t 0 v]
  | u :: t, i + 2, v => by simp [am_st, am_st_len t (i + 1) v]
theorem am_st_get : ∀ (L : List Value) (i : Nat) (v : Value) (k : Nat) (u : Value), (am_st L i v)[k]? = some u → (k = i ∧ u = v) ∨ (k ≠ i ∧ (u = .retAddr 0 ∨ (L[k]? = some u ∧ ¬ (k + 1 = i ∧ u.category = 2))))
  | [], i, v, k, u, h => by simp [am_st] at h
  | w :: t, 0, v, k, u, h => by
    cases k with
    | zero => simp [am_st] at h; exact Or.inl ⟨rfl, h.symm⟩
    | succ k => simp [am_st] at h; exact Or.inr ⟨by omega, Or.inr ⟨by simpa using h, by omega⟩⟩
  | w :: t, 1, v, k, u, h => by
    cases k with
    | zero =>
      simp only [am_st, List.getElem?_cons_zero] at h
      split at h
      · exact Or.inr ⟨by omega, Or.inl (Option.some.inj h).symm⟩
      · next hc => 
        have e := Option.some.inj h
        subst e
        exact Or.inr ⟨by omega, Or.inr ⟨by simp, fun q => hc q.2⟩⟩
    | succ k =>
      simp only [am_st, List.getElem?_cons_succ] at h
      rcases am_st_get t 0 v k u h with ⟨rfl, e⟩ | ⟨h1, h2⟩
      · exact Or.inl ⟨rfl, e⟩
      · refine Or.inr ⟨by omega, ?_⟩
        rcases h2 with h2 | ⟨h2, -⟩
        · exact Or.inl h2
        · exact Or.inr ⟨by simpa using h2, by omega⟩
  | w :: t, i + 2, v, k, u, h => by
    cases k with
    | zero =>
      simp only [am_st, List.getElem?_cons_zero] at h
      have e := Option.some.inj h
      subst e
      exact Or.inr ⟨by omega, Or.inr ⟨by simp, by omega⟩⟩
    | succ k =>
      simp only [am_st, List.getElem?_cons_succ] at h
      rcases am_st_get t (i + 1) v k u h with ⟨e1, e⟩ | ⟨h1, h2⟩
      · exact Or.inl ⟨by omega, e⟩
      · refine Or.inr ⟨by omega, ?_⟩
        rcases h2 with h2 | ⟨h2, h3⟩
        · exact Or.inl h2
        · exact Or.inr ⟨by simpa using h2, fun q => h3 ⟨by omega, q.2⟩⟩
/-- a store of one word -/
theorem am_LR.st {cv : Value → Value} (hcv : ∀ v, (cv v).category = v.category) {ls ls' : Array Slot} {nL i : Nat} {L : List Value} {v : Value} (h : am_LR cv ls nL L) (h' : lv_has ls' nL ((i, cv v) :: (am_lv cv L).filter (fun q => !(q.1 == i) && !(q.1 + 1 == i && q.2.category == 2)))) : am_LR cv ls' nL (am_st L i v) := by
  refine ⟨h'.1, h'.2.1, by rw [am_st_len]; exact h.2.2.1, fun k u hk hu => ?_⟩
  rcases am_st_get L i v k u hk with ⟨rfl, rfl⟩ | ⟨h1, h2 | ⟨h2, h3⟩⟩
  · exact h'.2.2 (k, cv u) List.mem_cons_self
  · exact absurd h2 hu
  · refine h'.2.2 (k, cv u) (List.mem_cons_of_mem _ (List.mem_filter.mpr ⟨am_lv_mem h2 hu, ?_⟩))
    simp only [Bool.and_eq_true, Bool.not_eq_true', beq_eq_false_iff_ne, Bool.and_eq_false_iff, beq_eq_false_iff_ne, hcv]
    refine ⟨h1, ?_⟩
    by_cases hki : k + 1 = i
    · exact Or.inr fun q => h3 ⟨hki, q⟩
    · exact Or.inl hki
/-- a store of two words -/
theorem am_LR.st2 {cv : Value → Value} (hcv : ∀ v, (cv v).category = v.category) {ls ls' : Array Slot} {nL i : Nat} {L : List Value} {v : Value} (h : am_LR cv ls nL L) (h' : lv_has ls' nL ((i, cv v) :: (am_lv cv L).filter (fun q => !(q.1 == i) && (!(q.1 == i + 1) && !(q.1 + 1 == i && q.2.category == 2))))) : am_LR cv ls' nL (am_st2 L i v) := by
  refine ⟨h'.1, h'.2.1, by unfold am_st2; rw [List.length_set, am_st_len]; exact h.2.2.1, fun k u hk hu => ?_⟩
  unfold am_st2 at hk
  by_cases hk1 : k = i + 1
  · subst hk1
    rw [List.getElem?_set] at hk
    simp only [if_true] at hk
    split at hk
    · exact absurd (Option.some.inj hk).symm hu
    · cases hk
  · rw [List.getElem?_set_ne (by omega)] at hk
    rcases am_st_get L i v k u hk with ⟨rfl, rfl⟩ | ⟨h1, h2 | ⟨h2, h3⟩⟩
    · exact h'.2.2 (k, cv u) List.mem_cons_self
    · exact absurd h2 hu
    · refine h'.2.2 (k, cv u) (List.mem_cons_of_mem _ (List.mem_filter.mpr ⟨am_lv_mem h2 hu, ?_⟩))
      simp only [Bool.and_eq_true, Bool.not_eq_true', beq_eq_false_iff_ne, Bool.and_eq_false_iff, beq_eq_false_iff_ne, hcv]
      refine ⟨h1, hk1, ?_⟩
      by_cases hki : k + 1 = i
      · exact Or.inr fun q => h3 ⟨hki, q⟩
      · exact Or.inl hki
