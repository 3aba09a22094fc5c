/-! SOUNDNESS: a step -/
def am_EX (l : Launch) (D : va_G) (cy : Nat → ClassId) (H00 : Heap) (b Ln : Nat) (xs : Nat → Int32) (adK adV : Nat → Nat) : Prop :=
  ∀ (p : Program) (e : Env) (R : Room) (s : State) (m : MethodId) (args : Array Value) (below : List Frame) (meth : Method) (c : Code) (Q : State → Prop) (c0 z0 q pc : Nat) (L S : List Value) (μ : am_M) (f' : am_F) (μ' : am_M) (idx ce : Nat) (i : Instr),
    ((i = .invokestatic idx ∧ 9003 ≤ ce) ∨ (i = .invokespecial idx ∧ ce = 9000) ∨ (i = .invokevirtual idx ∧ (ce = 9001 ∨ ce = 9002))) → am_Cx D cy H00 b Ln xs adK adV q p R s m args meth c → decode (am_ms q).2.1 pc = .ok (i, 3) → am_hasX (am_ms q).2.2.2.2 idx ce = true → am_ext q pc L S μ ce = some (.inl (f', μ')) →
    μ'.2.2.2.2.1 ≤ c0 + R.cells → μ'.2.2.2.2.2 ≤ z0 + R.slots → am_K D cy H00 b Ln xs adK c0 z0 p l e R s m args below meth c Q f' μ' → am_K D cy H00 b Ln xs adK c0 z0 p l e R s m args below meth c Q (q, pc, L, S) μ
section SND3
variable {p : Program} {l : Launch} {e : Env} {R : Room} {s : State} {m : MethodId} {args : Array Value} {below : List Frame} {meth : Method} {c : Code} {Q : State → Prop}
variable {D : va_G} {cy : Nat → ClassId} {H00 : Heap} {b Ln : Nat} {xs : Nat → Int32} {adK adV : Nat → Nat} {c0 z0 q pc : Nat} {L S : List Value} {μ μ' : am_M} {f' : am_F} {inf : am_I}
theorem am_LRlen (h : ∀ (H : Heap) (locs : List Loc) (cells slots : Nat) (ls : Array Slot), am_Rel D cy H00 Ln xs μ H → am_LR (am_cv H00.size b adK) ls (am_ms q).2.2.1 L → (∀ x ∈ locs, H00.size ≤ x.base) → c0 + cells = μ.2.2.2.2.1 → z0 + slots = μ.2.2.2.2.2 → L.length = (am_ms q).2.2.1 → W p l e R s m args below meth c H locs cells slots Q (F0 m pc ls (S.map (am_cv H00.size b adK)))) : am_K D cy H00 b Ln xs adK c0 z0 p l e R s m args below meth c Q (q, pc, L, S) μ :=
  fun H locs cells slots ls hR hL hlo hc hz => h H locs cells slots ls hR hL hlo hc hz hL.2.2.1
/-- a frame whose locals have not the method's length is met nowhere -/
theorem am_Klen (h : L.length = (am_ms q).2.2.1 → am_K D cy H00 b Ln xs adK c0 z0 p l e R s m args below meth c Q (q, pc, L, S) μ) : am_K D cy H00 b Ln xs adK c0 z0 p l e R s m args below meth c Q (q, pc, L, S) μ :=
  fun H locs cells slots ls hR hL hlo hc hz => h hL.2.2.1 H locs cells slots ls hR hL hlo hc hz
theorem am_ifc_snd {x y : Int32} {cd : ClassFile.Cond} {t : Nat} (h : am_ifc q pc L S μ cd x y t = some (.inl (f', μ'))) : μ' = μ ∧ ((f' = (q, t, L, S)) ∨ f' = (q, pc + 3, L, S)) := by
  unfold am_ifc at h
  split at h <;> (unfold am_b at h; split at h <;> (cases h; first | exact ⟨rfl, Or.inl rfl⟩ | exact ⟨rfl, Or.inr rfl⟩))
theorem am_ifc_icmp {x y : Int32} {cd : ClassFile.Cond} {t : Nat} {off : Int} (C : am_Cx D cy H00 b Ln xs adK adV q p R s m args meth c) (hd : decode (am_ms q).2.1 pc = .ok (.if_icmp cd off, 3)) (ht : (pc : Int) + off = (t : Int)) (h : am_ifc q pc L S μ cd x y t = some (.inl (f', μ'))) (K : am_K D cy H00 b Ln xs adK c0 z0 p l e R s m args below meth c Q f' μ') : am_K D cy H00 b Ln xs adK c0 z0 p l e R s m args below meth c Q (q, pc, L, .int y :: .int x :: S) μ := by
  unfold am_ifc at h
  cases cd
  case eq =>
    by_cases hb : x = y
    · have h := (if_pos hb).symm.trans h
      cases h
      exact am_s_icmp_eq C hd ht (fun _ => K) (fun g => absurd hb g)
    · have h := (if_neg hb).symm.trans h
      cases h
      exact am_s_icmp_eq C hd ht (fun g => absurd g hb) (fun _ => K)
  case ne =>
    by_cases hb : x = y
    · have h := (if_pos hb).symm.trans h
      cases h
      exact am_s_icmp_ne C hd ht (fun g => absurd hb g) (fun _ => K)
    · have h := (if_neg hb).symm.trans h
      cases h
      exact am_s_icmp_ne C hd ht (fun _ => K) (fun g => absurd hb g)
  case lt =>
    by_cases hb : x < y
    · have h := (if_pos hb).symm.trans h
      cases h
      exact am_s_icmp_lt C hd ht (fun _ => K) (fun g => absurd hb g)
    · have h := (if_neg hb).symm.trans h
      cases h
      exact am_s_icmp_lt C hd ht (fun g => absurd g hb) (fun _ => K)
  case ge =>
    by_cases hb : y ≤ x
    · have h := (if_pos hb).symm.trans h
      cases h
      exact am_s_icmp_ge C hd ht (fun _ => K) (fun g => absurd hb g)
    · have h := (if_neg hb).symm.trans h
      cases h
      exact am_s_icmp_ge C hd ht (fun g => absurd g hb) (fun _ => K)
  case gt =>
    by_cases hb : y < x
    · have h := (if_pos hb).symm.trans h
      cases h
      exact am_s_icmp_gt C hd ht (fun _ => K) (fun g => absurd hb g)
    · have h := (if_neg hb).symm.trans h
      cases h
      exact am_s_icmp_gt C hd ht (fun g => absurd g hb) (fun _ => K)
  case le =>
    by_cases hb : x ≤ y
    · have h := (if_pos hb).symm.trans h
      cases h
      exact am_s_icmp_le C hd ht (fun _ => K) (fun g => absurd hb g)
    · have h := (if_neg hb).symm.trans h
      cases h
      exact am_s_icmp_le C hd ht (fun g => absurd g hb) (fun _ => K)
theorem am_ifc_if {x : Int32} {cd : ClassFile.Cond} {t : Nat} {off : Int} (C : am_Cx D cy H00 b Ln xs adK adV q p R s m args meth c) (hd : decode (am_ms q).2.1 pc = .ok (.ifCond cd off, 3)) (ht : (pc : Int) + off = (t : Int)) (h : am_ifc q pc L S μ cd x 0 t = some (.inl (f', μ'))) (K : am_K D cy H00 b Ln xs adK c0 z0 p l e R s m args below meth c Q f' μ') : am_K D cy H00 b Ln xs adK c0 z0 p l e R s m args below meth c Q (q, pc, L, .int x :: S) μ := by
  unfold am_ifc at h
  cases cd
  case eq =>
    by_cases hb : x = 0
    · have h := (if_pos hb).symm.trans h
      cases h
      exact am_s_if_eq C hd ht (fun _ => K) (fun g => absurd hb g)
    · have h := (if_neg hb).symm.trans h
      cases h
      exact am_s_if_eq C hd ht (fun g => absurd g hb) (fun _ => K)
  case ne =>
    by_cases hb : x = 0
    · have h := (if_pos hb).symm.trans h
      cases h
      exact am_s_if_ne C hd ht (fun g => absurd hb g) (fun _ => K)
    · have h := (if_neg hb).symm.trans h
      cases h
      exact am_s_if_ne C hd ht (fun _ => K) (fun g => absurd hb g)
  case lt =>
    by_cases hb : x < 0
    · have h := (if_pos hb).symm.trans h
      cases h
      exact am_s_if_lt C hd ht (fun _ => K) (fun g => absurd hb g)
    · have h := (if_neg hb).symm.trans h
      cases h
      exact am_s_if_lt C hd ht (fun g => absurd g hb) (fun _ => K)
  case ge =>
    by_cases hb : 0 ≤ x
    · have h := (if_pos hb).symm.trans h
      cases h
      exact am_s_if_ge C hd ht (fun _ => K) (fun g => absurd hb g)
    · have h := (if_neg hb).symm.trans h
      cases h
      exact am_s_if_ge C hd ht (fun g => absurd g hb) (fun _ => K)
  case gt =>
    by_cases hb : 0 < x
    · have h := (if_pos hb).symm.trans h
      cases h
      exact am_s_if_gt C hd ht (fun _ => K) (fun g => absurd hb g)
    · have h := (if_neg hb).symm.trans h
      cases h
      exact am_s_if_gt C hd ht (fun g => absurd g hb) (fun _ => K)
  case le =>
    by_cases hb : x ≤ 0
    · have h := (if_pos hb).symm.trans h
      cases h
      exact am_s_if_le C hd ht (fun _ => K) (fun g => absurd hb g)
    · have h := (if_neg hb).symm.trans h
      cases h
      exact am_s_if_le C hd ht (fun g => absurd g hb) (fun _ => K)
theorem am_getf_snd {idx : Nat} (C : am_Cx D cy H00 b Ln xs adK adV q p R s m args meth c) (hd : decode (am_ms q).2.1 pc = .ok (.getfield idx, 3)) (hF : am_hasF (am_ms q).2.2.2.2 idx inf.1 inf.2.1 = true) (ht : am_tt inf.1 inf.2.1 = inf.2.2) (hi : inf.1 < 13 ∧ inf.2.1 < am_N inf.1) (h : am_getf q pc L S μ inf = some (.inl (f', μ'))) (K : am_K D cy H00 b Ln xs adK c0 z0 p l e R s m args below meth c Q f' μ') : am_K D cy H00 b Ln xs adK c0 z0 p l e R s m args below meth c Q (q, pc, L, S) μ := by
  unfold am_getf at h
  split at h
  · next a S' =>
    obtain ⟨ha, h⟩ := am_b_inv h
    split at h
    · next h1 =>
      cases h
      exact am_s_get C hd hF hi ha (by unfold am_fv; rw [ht, h1]; rfl) K
    · next h1 =>
      split at h
      · next r hr =>
        cases h
        exact am_s_get C hd hF hi ha (by unfold am_fv; rw [ht, h1]; simp only [hr]; rfl) K
      · cases h
    · next h1 h2 =>
      cases h
      refine am_s_get C hd hF hi ha ?_ K
      unfold am_fv
      rw [ht]
      split
      · next e => exact absurd e h1
      · next e => exact absurd e h2
      · rfl
  · cases h
theorem am_putf_snd {idx : Nat} (C : am_Cx D cy H00 b Ln xs adK adV q p R s m args meth c) (hd : decode (am_ms q).2.1 pc = .ok (.putfield idx, 3)) (hF : am_hasF (am_ms q).2.2.2.2 idx inf.1 inf.2.1 = true) (ht : am_tt inf.1 inf.2.1 = inf.2.2) (hi : inf.1 < 13 ∧ inf.2.1 < am_N inf.1)
    (hfin : (am_TT inf.1 inf.2.1).2.2.2 = false ∨ ((am_ms q).1.name = "<init>" ∧ (am_TT inf.1 inf.2.1).1 = am_own (am_ms q).2.2.2.2)) (h : am_putf q pc L S μ inf = some (.inl (f', μ'))) (K : am_K D cy H00 b Ln xs adK c0 z0 p l e R s m args below meth c Q f' μ') : am_K D cy H00 b Ln xs adK c0 z0 p l e R s m args below meth c Q (q, pc, L, S) μ := by
  unfold am_putf at h
  split at h
  · obtain ⟨⟨ha, h2⟩, h⟩ := am_b_inv h
    cases h
    exact am_s_putI C hd hF hi hfin ha (by rw [ht]; exact h2) K
  · obtain ⟨⟨ha, h2⟩, h⟩ := am_b_inv h
    cases h
    exact am_s_putL C hd hF hi hfin ha (by rw [ht]; exact h2) K
  · obtain ⟨⟨ha, h2⟩, h⟩ := am_b_inv h
    cases h
    exact am_s_putR C hd hF hi hfin ha (by rw [ht]; exact h2) K
  · cases h
/-- what a step that goes on leaves of the method's number -/
theorem am_getf_q (h : am_getf q pc L S μ inf = some (.inl (f', μ'))) : f'.1 = q := by
  unfold am_getf at h
  split at h
  · obtain ⟨ha, h⟩ := am_b_inv h
    split at h
    · cases h; rfl
    · split at h
      · cases h; rfl
      · cases h
    · cases h; rfl
  · cases h
theorem am_putf_q (h : am_putf q pc L S μ inf = some (.inl (f', μ'))) : f'.1 = q := by
  unfold am_putf at h
  split at h
  · obtain ⟨-, h⟩ := am_b_inv h; cases h; rfl
  · obtain ⟨-, h⟩ := am_b_inv h; cases h; rfl
  · obtain ⟨-, h⟩ := am_b_inv h; cases h; rfl
  · cases h
theorem am_ext_q {ce : Nat} (h : am_ext q pc L S μ ce = some (.inl (f', μ'))) : f'.1 = q := by
  unfold am_ext at h
  split at h
  · unfold am_oini at h
    split at h
    · obtain ⟨-, h⟩ := am_b_inv h; cases h; rfl
    · cases h
  · split at h
    · obtain ⟨-, h⟩ := am_b_inv h; cases h; rfl
    · cases h
  · split at h
    · obtain ⟨-, h⟩ := am_b_inv h; cases h; rfl
    · cases h
  · split at h
    · obtain ⟨-, h⟩ := am_b_inv h; cases h; rfl
    · cases h
  · split at h
    · obtain ⟨-, h⟩ := am_b_inv h; cases h; rfl
    · cases h
  · split at h
    · obtain ⟨-, h⟩ := am_b_inv h; cases h; rfl
    · cases h
  · split at h
    · obtain ⟨-, h⟩ := am_b_inv h
      split at h
      · cases h; rfl
      · cases h; rfl
    · cases h
  · cases h
theorem am_st_lt {k : Nat} {v : Value} (hL : L.length = (am_ms q).2.2.1) (h : k < (am_ms q).2.2.1) : k < L.length := by omega
set_option maxHeartbeats 4000000 in
theorem am_snd1 {n : Nat} {i : Instr} (C : am_Cx D cy H00 b Ln xs adK adV q p R s m args meth c) (hX : am_EX l D cy H00 b Ln xs adK adV) (hd : decode (am_ms q).2.1 pc = .ok (i, n)) (hik : am_ik (am_ms q).2.2.2.2 (am_ms q).2.2.2.1 (am_ms q).1.name pc i n inf = true) (hs : am_sem i n inf q pc L S μ = some (.inl (f', μ'))) (hr1 : μ'.2.2.2.2.1 ≤ c0 + R.cells) (hr2 : μ'.2.2.2.2.2 ≤ z0 + R.slots) : f'.1 = q ∧ (am_K D cy H00 b Ln xs adK c0 z0 p l e R s m args below meth c Q f' μ' → am_K D cy H00 b Ln xs adK c0 z0 p l e R s m args below meth c Q (q, pc, L, S) μ) := by
  cases i
  case iadd =>
    have hn : n = 1 := beq_iff_eq.mp (show (n == 1) = true from hik)
    subst hn
    obtain ⟨x, y, S', rfl, rfl, rfl⟩ := am_i2_inv hs
    exact ⟨rfl, am_s_iadd C hd⟩
  case isub =>
    have hn : n = 1 := beq_iff_eq.mp (show (n == 1) = true from hik)
    subst hn
    obtain ⟨x, y, S', rfl, rfl, rfl⟩ := am_i2_inv hs
    exact ⟨rfl, am_s_isub C hd⟩
  case imul =>
    have hn : n = 1 := beq_iff_eq.mp (show (n == 1) = true from hik)
    subst hn
    obtain ⟨x, y, S', rfl, rfl, rfl⟩ := am_i2_inv hs
    exact ⟨rfl, am_s_imul C hd⟩
  case iand =>
    have hn : n = 1 := beq_iff_eq.mp (show (n == 1) = true from hik)
    subst hn
    obtain ⟨x, y, S', rfl, rfl, rfl⟩ := am_i2_inv hs
    exact ⟨rfl, am_s_iand C hd⟩
  case ior =>
    have hn : n = 1 := beq_iff_eq.mp (show (n == 1) = true from hik)
    subst hn
    obtain ⟨x, y, S', rfl, rfl, rfl⟩ := am_i2_inv hs
    exact ⟨rfl, am_s_ior C hd⟩
  case ixor =>
    have hn : n = 1 := beq_iff_eq.mp (show (n == 1) = true from hik)
    subst hn
    obtain ⟨x, y, S', rfl, rfl, rfl⟩ := am_i2_inv hs
    exact ⟨rfl, am_s_ixor C hd⟩
  case ishl =>
    have hn : n = 1 := beq_iff_eq.mp (show (n == 1) = true from hik)
    subst hn
    obtain ⟨x, y, S', rfl, rfl, rfl⟩ := am_i2_inv hs
    exact ⟨rfl, am_s_ishl C hd⟩
  case ishr =>
    have hn : n = 1 := beq_iff_eq.mp (show (n == 1) = true from hik)
    subst hn
    obtain ⟨x, y, S', rfl, rfl, rfl⟩ := am_i2_inv hs
    exact ⟨rfl, am_s_ishr C hd⟩
  case iushr =>
    have hn : n = 1 := beq_iff_eq.mp (show (n == 1) = true from hik)
    subst hn
    obtain ⟨x, y, S', rfl, rfl, rfl⟩ := am_i2_inv hs
    exact ⟨rfl, am_s_iushr C hd⟩
  case ladd =>
    have hn : n = 1 := beq_iff_eq.mp (show (n == 1) = true from hik)
    subst hn
    obtain ⟨x, y, S', rfl, rfl, rfl⟩ := am_l2_inv hs
    exact ⟨rfl, am_s_ladd C hd⟩
  case lsub =>
    have hn : n = 1 := beq_iff_eq.mp (show (n == 1) = true from hik)
    subst hn
    obtain ⟨x, y, S', rfl, rfl, rfl⟩ := am_l2_inv hs
    exact ⟨rfl, am_s_lsub C hd⟩
  case lmul =>
    have hn : n = 1 := beq_iff_eq.mp (show (n == 1) = true from hik)
    subst hn
    obtain ⟨x, y, S', rfl, rfl, rfl⟩ := am_l2_inv hs
    exact ⟨rfl, am_s_lmul C hd⟩
  case idiv =>
    have hn : n = 1 := beq_iff_eq.mp (show (n == 1) = true from hik)
    subst hn
    change (match S with | .int y :: .int x :: S => am_b (y = 0) none _ | _ => none) = _ at hs
    split at hs
    · unfold am_b at hs
      split at hs
      · cases hs
      · next h0 => cases hs; exact ⟨rfl, am_s_idiv C hd h0⟩
    · cases hs
  case irem =>
    have hn : n = 1 := beq_iff_eq.mp (show (n == 1) = true from hik)
    subst hn
    change (match S with | .int y :: .int x :: S => am_b (y = 0) none _ | _ => none) = _ at hs
    split at hs
    · unfold am_b at hs
      split at hs
      · cases hs
      · next h0 => cases hs; exact ⟨rfl, am_s_irem C hd h0⟩
    · cases hs
  case ldiv =>
    have hn : n = 1 := beq_iff_eq.mp (show (n == 1) = true from hik)
    subst hn
    change (match S with | .long y :: .long x :: S => am_b (y = 0) none _ | _ => none) = _ at hs
    split at hs
    · unfold am_b at hs
      split at hs
      · cases hs
      · next h0 => cases hs; exact ⟨rfl, am_s_ldiv C hd h0⟩
    · cases hs
  case lrem =>
    have hn : n = 1 := beq_iff_eq.mp (show (n == 1) = true from hik)
    subst hn
    change (match S with | .long y :: .long x :: S => am_b (y = 0) none _ | _ => none) = _ at hs
    split at hs
    · unfold am_b at hs
      split at hs
      · cases hs
      · next h0 => cases hs; exact ⟨rfl, am_s_lrem C hd h0⟩
    · cases hs
  case lcmp =>
    have hn : n = 1 := beq_iff_eq.mp (show (n == 1) = true from hik)
    subst hn
    change (match S with | .long y :: .long x :: S => am_nx _ _ | _ => none) = _ at hs
    split at hs
    · cases hs; exact ⟨rfl, am_s_lcmp C hd⟩
    · cases hs
  case l2i =>
    have hn : n = 1 := beq_iff_eq.mp (show (n == 1) = true from hik)
    subst hn
    change (match S with | .long x :: S => am_nx _ _ | _ => none) = _ at hs
    split at hs
    · cases hs; exact ⟨rfl, am_s_l2i C hd⟩
    · cases hs
  case i2l =>
    have hn : n = 1 := beq_iff_eq.mp (show (n == 1) = true from hik)
    subst hn
    obtain ⟨x, S', rfl, rfl, rfl⟩ := am_i1_inv hs
    exact ⟨rfl, am_s_i2l C hd⟩
  case i2b =>
    have hn : n = 1 := beq_iff_eq.mp (show (n == 1) = true from hik)
    subst hn
    obtain ⟨x, S', rfl, rfl, rfl⟩ := am_i1_inv hs
    exact ⟨rfl, am_s_i2b C hd⟩
  case iconst v =>
    have hn : n = 1 := beq_iff_eq.mp (show (n == 1) = true from hik)
    subst hn
    cases hs
    exact ⟨rfl, am_s_iconst C hd⟩
  case lconst v =>
    have hn : n = 1 := beq_iff_eq.mp (show (n == 1) = true from hik)
    subst hn
    cases hs
    exact ⟨rfl, am_s_lconst C hd⟩
  case bipush v =>
    have hn : n = 2 := beq_iff_eq.mp (show (n == 2) = true from hik)
    subst hn
    cases hs
    exact ⟨rfl, am_s_bipush C hd⟩
  case sipush v =>
    have hn : n = 3 := beq_iff_eq.mp (show (n == 3) = true from hik)
    subst hn
    cases hs
    exact ⟨rfl, am_s_sipush C hd⟩
  case dup =>
    have hn : n = 1 := beq_iff_eq.mp (show (n == 1) = true from hik)
    subst hn
    change (match S with | v :: S => am_b _ _ none | _ => none) = _ at hs
    split at hs
    · obtain ⟨h1, hs⟩ := am_b_inv hs
      cases hs; exact ⟨rfl, am_s_dup C hd h1⟩
    · cases hs
  case pop =>
    have hn : n = 1 := beq_iff_eq.mp (show (n == 1) = true from hik)
    subst hn
    change (match S with | v :: S => am_b _ _ none | _ => none) = _ at hs
    split at hs
    · obtain ⟨h1, hs⟩ := am_b_inv hs
      cases hs; exact ⟨rfl, am_s_pop C hd h1⟩
    · cases hs
  case dup2 =>
    have hn : n = 1 := beq_iff_eq.mp (show (n == 1) = true from hik)
    subst hn
    change (match S with | v :: w :: S => am_b _ _ none | _ => none) = _ at hs
    split at hs
    · obtain ⟨h1, hs⟩ := am_b_inv hs
      cases hs; exact ⟨rfl, am_s_dup2 C hd h1.1 h1.2⟩
    · cases hs
  case iload_n k =>
    have hn : n = 1 := beq_iff_eq.mp (show (n == 1) = true from hik)
    subst hn
    obtain ⟨x, hx, rfl, rfl⟩ := am_ldi_inv hs
    exact ⟨rfl, am_s_iload_n C hd hx⟩
  case iload k =>
    have hn : n = 2 := beq_iff_eq.mp (show (n == 2) = true from hik)
    subst hn
    obtain ⟨x, hx, rfl, rfl⟩ := am_ldi_inv hs
    exact ⟨rfl, am_s_iload C hd hx⟩
  case lload_n k =>
    have hn : n = 1 := beq_iff_eq.mp (show (n == 1) = true from hik)
    subst hn
    obtain ⟨x, hx, rfl, rfl⟩ := am_ldl_inv hs
    exact ⟨rfl, am_s_lload_n C hd hx⟩
  case lload k =>
    have hn : n = 2 := beq_iff_eq.mp (show (n == 2) = true from hik)
    subst hn
    obtain ⟨x, hx, rfl, rfl⟩ := am_ldl_inv hs
    exact ⟨rfl, am_s_lload C hd hx⟩
  case aload_n k =>
    have hn : n = 1 := beq_iff_eq.mp (show (n == 1) = true from hik)
    subst hn
    obtain ⟨rfl, ⟨x, hx, rfl⟩ | ⟨x, hx, rfl⟩ | ⟨hx, rfl⟩⟩ := am_lda_inv hs
    · exact ⟨rfl, am_s_aload_n C hd hx⟩
    · exact ⟨rfl, am_s_aload_nf C hd hx⟩
    · exact ⟨rfl, am_s_aload_ns C hd hx⟩
  case aload k =>
    have hn : n = 2 := beq_iff_eq.mp (show (n == 2) = true from hik)
    subst hn
    obtain ⟨rfl, ⟨x, hx, rfl⟩ | ⟨x, hx, rfl⟩ | ⟨hx, rfl⟩⟩ := am_lda_inv hs
    · exact ⟨rfl, am_s_aload C hd hx⟩
    · exact ⟨rfl, am_s_aloadf C hd hx⟩
    · exact ⟨rfl, am_s_aloads C hd hx⟩
  case istore_n k =>
    have hn : n = 1 := beq_iff_eq.mp (show (n == 1) = true from hik)
    subst hn
    obtain ⟨hk, hs⟩ := am_lim_inv hs
    obtain ⟨x, S', rfl, rfl, rfl⟩ := am_sti_inv hs
    exact ⟨rfl, am_s_istore_n C hd hk⟩
  case istore k =>
    have hn : n = 2 := beq_iff_eq.mp (show (n == 2) = true from hik)
    subst hn
    obtain ⟨hk, hs⟩ := am_lim_inv hs
    obtain ⟨x, S', rfl, rfl, rfl⟩ := am_sti_inv hs
    exact ⟨rfl, am_s_istore C hd hk⟩
  case astore_n k =>
    have hn : n = 1 := beq_iff_eq.mp (show (n == 1) = true from hik)
    subst hn
    obtain ⟨hk, hs⟩ := am_lim_inv hs
    obtain ⟨x, S', rfl, rfl, rfl⟩ := am_sta_inv hs
    exact ⟨rfl, am_s_astore_n C hd hk⟩
  case astore k =>
    have hn : n = 2 := beq_iff_eq.mp (show (n == 2) = true from hik)
    subst hn
    obtain ⟨hk, hs⟩ := am_lim_inv hs
    obtain ⟨x, S', rfl, rfl, rfl⟩ := am_sta_inv hs
    exact ⟨rfl, am_s_astore C hd hk⟩
  case lstore_n k =>
    have hn : n = 1 := beq_iff_eq.mp (show (n == 1) = true from hik)
    subst hn
    obtain ⟨hk, hs⟩ := am_lim_inv hs
    obtain ⟨x, S', rfl, rfl, rfl⟩ := am_stl_inv hs
    exact ⟨rfl, am_s_lstore_n C hd hk⟩
  case lstore k =>
    have hn : n = 2 := beq_iff_eq.mp (show (n == 2) = true from hik)
    subst hn
    obtain ⟨hk, hs⟩ := am_lim_inv hs
    obtain ⟨x, S', rfl, rfl, rfl⟩ := am_stl_inv hs
    exact ⟨rfl, am_s_lstore C hd hk⟩
  case iinc k v =>
    have hn : n = 3 := beq_iff_eq.mp (show (n == 3) = true from hik)
    subst hn
    change (match L[k]? with | some (.int x) => am_nx _ _ | _ => none) = _ at hs
    split at hs
    · next x hx => cases hs; exact ⟨rfl, am_s_iinc C hd hx⟩
    · cases hs
  case goto off =>
    have hk : n = 3 ∧ (pc : Int) + off = (inf.1 : Int) := by
      have this : (n == 3 && decide ((pc : Int) + off = (inf.1 : Int))) = true := hik
      rw [Bool.and_eq_true, beq_iff_eq, decide_eq_true_eq] at this
      exact this
    obtain ⟨rfl, ht⟩ := hk
    cases hs
    exact ⟨rfl, am_s_goto C hd ht⟩
  case ifCond cd off =>
    have hk : n = 3 ∧ (pc : Int) + off = (inf.1 : Int) := by
      have this : (n == 3 && decide ((pc : Int) + off = (inf.1 : Int))) = true := hik
      rw [Bool.and_eq_true, beq_iff_eq, decide_eq_true_eq] at this
      exact this
    obtain ⟨rfl, ht⟩ := hk
    change (match S with | .int x :: S => am_ifc q pc L S μ cd x 0 inf.1 | _ => none) = _ at hs
    split at hs
    · exact ⟨by rcases (am_ifc_snd hs).2 with e | e <;> rw [e], am_ifc_if C hd ht hs⟩
    · cases hs
  case if_icmp cd off =>
    have hk : n = 3 ∧ (pc : Int) + off = (inf.1 : Int) := by
      have this : (n == 3 && decide ((pc : Int) + off = (inf.1 : Int))) = true := hik
      rw [Bool.and_eq_true, beq_iff_eq, decide_eq_true_eq] at this
      exact this
    obtain ⟨rfl, ht⟩ := hk
    change (match S with | .int y :: .int x :: S => am_ifc q pc L S μ cd x y inf.1 | _ => none) = _ at hs
    split at hs
    · exact ⟨by rcases (am_ifc_snd hs).2 with e | e <;> rw [e], am_ifc_icmp C hd ht hs⟩
    · cases hs
  case tableswitch d lo hi offs =>
    change (match S with | .int x :: S => am_sw q L S μ (am_tsw pc d lo hi offs x) | _ => none) = _ at hs
    split at hs
    · obtain ⟨t, ht, rfl, rfl⟩ := am_sw_inv hs
      exact ⟨rfl, am_s_tsw C hd ht⟩
    · cases hs
  case lookupswitch d ps =>
    change (match S with | .int x :: S => am_sw q L S μ (am_lsw pc d ps x) | _ => none) = _ at hs
    split at hs
    · obtain ⟨t, ht, rfl, rfl⟩ := am_sw_inv hs
      exact ⟨rfl, am_s_lsw C hd hik ht⟩
    · cases hs
  case ldc idx =>
    have hk : n = 2 ∧ (if inf.2.2 = 7 then am_hasS (am_ms q).2.2.2.2 idx inf.1 else am_hasI (am_ms q).2.2.2.2 idx inf.1) = true := by
      have this : (n == 2 && (if inf.2.2 = 7 then am_hasS (am_ms q).2.2.2.2 idx inf.1 else am_hasI (am_ms q).2.2.2.2 idx inf.1)) = true := hik
      rw [Bool.and_eq_true, beq_iff_eq] at this
      exact this
    obtain ⟨rfl, ht⟩ := hk
    change (if inf.2.2 = 7 then _ else _) = _ at hs
    split at hs
    · next h7 => rw [if_pos h7] at ht; cases hs; exact ⟨rfl, am_s_ldcS C hd ht⟩
    · next h7 => rw [if_neg h7] at ht; cases hs; exact ⟨rfl, am_s_ldcI C hd ht⟩
  case ldc_w idx =>
    have hk : n = 3 ∧ (if inf.2.2 = 7 then am_hasS (am_ms q).2.2.2.2 idx inf.1 else am_hasI (am_ms q).2.2.2.2 idx inf.1) = true := by
      have this : (n == 3 && (if inf.2.2 = 7 then am_hasS (am_ms q).2.2.2.2 idx inf.1 else am_hasI (am_ms q).2.2.2.2 idx inf.1)) = true := hik
      rw [Bool.and_eq_true, beq_iff_eq] at this
      exact this
    obtain ⟨rfl, ht⟩ := hk
    change (if inf.2.2 = 7 then _ else _) = _ at hs
    split at hs
    · next h7 => rw [if_pos h7] at ht; cases hs; exact ⟨rfl, am_s_ldcwS C hd ht⟩
    · next h7 => rw [if_neg h7] at ht; cases hs; exact ⟨rfl, am_s_ldcwI C hd ht⟩
  case ldc2_w idx =>
    have hk : n = 3 ∧ am_hasJ (am_ms q).2.2.2.2 idx inf.1 inf.2.1 = true := by
      have this : (n == 3 && am_hasJ (am_ms q).2.2.2.2 idx inf.1 inf.2.1) = true := hik
      rw [Bool.and_eq_true, beq_iff_eq] at this
      exact this
    obtain ⟨rfl, ht⟩ := hk
    cases hs
    exact ⟨rfl, am_s_ldc2 C hd ht⟩
  case getfield idx =>
    have hk : ((n = 3 ∧ am_hasF (am_ms q).2.2.2.2 idx inf.1 inf.2.1 = true) ∧ am_tt inf.1 inf.2.1 = inf.2.2) ∧ (inf.1 < 13 ∧ inf.2.1 < am_N inf.1) := by
      have this : (n == 3 && am_hasF (am_ms q).2.2.2.2 idx inf.1 inf.2.1 && am_tt inf.1 inf.2.1 == inf.2.2 && decide (inf.1 < 13 ∧ inf.2.1 < am_N inf.1)) = true := hik
      simp only [Bool.and_eq_true, beq_iff_eq, decide_eq_true_eq] at this
      exact this
    obtain ⟨⟨⟨rfl, hF⟩, ht⟩, hi⟩ := hk
    exact ⟨am_getf_q hs, am_getf_snd C hd hF ht hi hs⟩
  case putfield idx =>
    have hk : (((n = 3 ∧ am_hasF (am_ms q).2.2.2.2 idx inf.1 inf.2.1 = true) ∧ am_tt inf.1 inf.2.1 = inf.2.2) ∧ (inf.1 < 13 ∧ inf.2.1 < am_N inf.1)) ∧ ((am_TT inf.1 inf.2.1).2.2.2 = false ∨ ((am_ms q).1.name = "<init>" ∧ (am_TT inf.1 inf.2.1).1 = am_own (am_ms q).2.2.2.2)) := by
      have this : (n == 3 && am_hasF (am_ms q).2.2.2.2 idx inf.1 inf.2.1 && am_tt inf.1 inf.2.1 == inf.2.2 && decide (inf.1 < 13 ∧ inf.2.1 < am_N inf.1) && (!(am_TT inf.1 inf.2.1).2.2.2 || decide ((am_ms q).1.name = "<init>" ∧ (am_TT inf.1 inf.2.1).1 = am_own (am_ms q).2.2.2.2))) = true := hik
      simp only [Bool.and_eq_true, Bool.or_eq_true, Bool.not_eq_true', beq_iff_eq, decide_eq_true_eq] at this
      exact this
    obtain ⟨⟨⟨⟨rfl, hF⟩, ht⟩, hi⟩, hfin⟩ := hk
    exact ⟨am_putf_q hs, am_putf_snd C hd hF ht hi hfin hs⟩
  case iaload =>
    have hn : n = 1 := beq_iff_eq.mp (show (n == 1) = true from hik)
    subst hn
    change am_iald q pc L S μ = _ at hs
    unfold am_iald at hs
    split at hs
    · obtain ⟨h1, hs⟩ := am_b_inv hs
      cases hs; exact ⟨rfl, am_s_iald C hd h1.1 h1.2⟩
    · obtain ⟨h1, hs⟩ := am_b_inv hs
      cases hs; exact ⟨rfl, am_s_sald C hd h1⟩
    · cases hs
  case laload =>
    have hn : n = 1 := beq_iff_eq.mp (show (n == 1) = true from hik)
    subst hn
    change am_lald q pc L S μ = _ at hs
    unfold am_lald at hs
    split at hs
    · obtain ⟨h1, hs⟩ := am_b_inv hs
      cases hs; exact ⟨rfl, am_s_lald C hd h1.1 h1.2⟩
    · cases hs
  case baload =>
    have hn : n = 1 := beq_iff_eq.mp (show (n == 1) = true from hik)
    subst hn
    change am_bald q pc L S μ = _ at hs
    unfold am_bald at hs
    split at hs
    · obtain ⟨h1, hs⟩ := am_b_inv hs
      cases hs
      rcases h1.1 with h | h
      · exact ⟨rfl, am_s_bald C hd h h1.2⟩
      · exact ⟨rfl, am_s_zald C hd h h1.2⟩
    · cases hs
  case aaload =>
    have hn : n = 1 := beq_iff_eq.mp (show (n == 1) = true from hik)
    subst hn
    change am_aald q pc L S μ = _ at hs
    unfold am_aald at hs
    split at hs
    · obtain ⟨h1, hs⟩ := am_b_inv hs
      split at hs
      · next r hr => cases hs; exact ⟨rfl, am_s_aald C hd h1.1 h1.2 hr⟩
      · cases hs
    · cases hs
  case iastore =>
    have hn : n = 1 := beq_iff_eq.mp (show (n == 1) = true from hik)
    subst hn
    change am_iast q pc L S μ = _ at hs
    unfold am_iast at hs
    split at hs
    · obtain ⟨h1, hs⟩ := am_b_inv hs
      cases hs; exact ⟨rfl, am_s_iast C hd h1.1 h1.2⟩
    · cases hs
  case lastore =>
    have hn : n = 1 := beq_iff_eq.mp (show (n == 1) = true from hik)
    subst hn
    change am_last q pc L S μ = _ at hs
    unfold am_last at hs
    split at hs
    · obtain ⟨h1, hs⟩ := am_b_inv hs
      cases hs; exact ⟨rfl, am_s_last C hd h1.1 h1.2⟩
    · cases hs
  case bastore =>
    have hn : n = 1 := beq_iff_eq.mp (show (n == 1) = true from hik)
    subst hn
    change am_bast q pc L S μ = _ at hs
    unfold am_bast at hs
    split at hs
    · unfold am_b at hs
      split at hs
      · next h1 => cases hs; exact ⟨rfl, am_s_bast C hd h1.1 h1.2⟩
      · split at hs
        · next h1 => cases hs; exact ⟨rfl, am_s_zast C hd h1.1 h1.2⟩
        · cases hs
    · cases hs
  case aastore =>
    have hn : n = 1 := beq_iff_eq.mp (show (n == 1) = true from hik)
    subst hn
    change am_aast q pc L S μ = _ at hs
    unfold am_aast at hs
    split at hs
    · obtain ⟨h1, hs⟩ := am_b_inv hs
      cases hs; exact ⟨rfl, am_s_aast C hd h1.1 h1.2.1 h1.2.2⟩
    · cases hs
  case arraylength =>
    have hn : n = 1 := beq_iff_eq.mp (show (n == 1) = true from hik)
    subst hn
    change am_alen q pc L S μ = _ at hs
    unfold am_alen at hs
    split at hs
    · obtain ⟨h1, hs⟩ := am_b_inv hs
      cases hs; exact ⟨rfl, am_s_alen C hd h1⟩
    · cases hs; exact ⟨rfl, am_s_slen C hd⟩
    · cases hs
  case new idx =>
    have hk : (n = 3 ∧ am_hasC (am_ms q).2.2.2.2 idx inf.1 = true) ∧ inf.1 < 13 := by
      have this : (n == 3 && am_hasC (am_ms q).2.2.2.2 idx inf.1 && decide (inf.1 < 13)) = true := hik
      simp only [Bool.and_eq_true, beq_iff_eq, decide_eq_true_eq] at this
      exact this
    obtain ⟨⟨rfl, hC⟩, hi⟩ := hk
    change am_new q pc 3 L S μ inf.1 = _ at hs
    obtain ⟨h1, hs⟩ := am_b_inv hs
    cases hs
    exact ⟨rfl, am_s_new C hd hC hi h1.1 hr1 hr2⟩
  case anewarray idx =>
    have hk : (n = 3 ∧ am_hasC (am_ms q).2.2.2.2 idx 6 = true) ∧ inf.1 = 17 := by
      have this : (n == 3 && am_hasC (am_ms q).2.2.2.2 idx 6 && inf.1 == 17) = true := hik
      simp only [Bool.and_eq_true, beq_iff_eq, decide_eq_true_eq] at this
      exact this
    obtain ⟨⟨rfl, hC⟩, hi⟩ := hk
    change am_newa q pc 3 L S μ inf.1 = _ at hs
    rw [hi] at hs
    unfold am_newa at hs
    split at hs
    · obtain ⟨h1, hs⟩ := am_b_inv hs
      cases hs
      exact ⟨rfl, am_s_anew C hd hC h1.1 h1.2.1 h1.2.2.1 hr1 hr2⟩
    · cases hs
  case newarray t =>
    change am_newa q pc 2 L S μ inf.1 = _ at hs
    cases t
    case byte =>
      have this : (n == 2 && inf.1 == 13) = true := hik
      rw [Bool.and_eq_true, beq_iff_eq, beq_iff_eq] at this
      obtain ⟨rfl, hk⟩ := this
      rw [hk] at hs
      unfold am_newa at hs
      split at hs
      · obtain ⟨h1, hs⟩ := am_b_inv hs
        cases hs
        exact ⟨rfl, am_s_newa13 C hd h1.1 h1.2.1 h1.2.2.1 hr1 hr2⟩
      · cases hs
    case int =>
      have this : (n == 2 && inf.1 == 14) = true := hik
      rw [Bool.and_eq_true, beq_iff_eq, beq_iff_eq] at this
      obtain ⟨rfl, hk⟩ := this
      rw [hk] at hs
      unfold am_newa at hs
      split at hs
      · obtain ⟨h1, hs⟩ := am_b_inv hs
        cases hs
        exact ⟨rfl, am_s_newa14 C hd h1.1 h1.2.1 h1.2.2.1 hr1 hr2⟩
      · cases hs
    case long =>
      have this : (n == 2 && inf.1 == 15) = true := hik
      rw [Bool.and_eq_true, beq_iff_eq, beq_iff_eq] at this
      obtain ⟨rfl, hk⟩ := this
      rw [hk] at hs
      unfold am_newa at hs
      split at hs
      · obtain ⟨h1, hs⟩ := am_b_inv hs
        cases hs
        exact ⟨rfl, am_s_newa15 C hd h1.1 h1.2.1 h1.2.2.1 hr1 hr2⟩
      · cases hs
    case boolean =>
      have this : (n == 2 && inf.1 == 16) = true := hik
      rw [Bool.and_eq_true, beq_iff_eq, beq_iff_eq] at this
      obtain ⟨rfl, hk⟩ := this
      rw [hk] at hs
      unfold am_newa at hs
      split at hs
      · obtain ⟨h1, hs⟩ := am_b_inv hs
        cases hs
        exact ⟨rfl, am_s_newa16 C hd h1.1 h1.2.1 h1.2.2.1 hr1 hr2⟩
      · cases hs
    all_goals
      have this : (n == 2 && false) = true := hik
      rw [Bool.and_false] at this
      cases this
  case invokestatic idx =>
    change (if inf.1 < 9000 then am_calls q pc L S μ inf.1 inf.2.1 else am_ext q pc L S μ inf.1) = _ at hs
    split at hs
    · exact absurd hs (by unfold am_calls; intro g; obtain ⟨-, g⟩ := am_b_inv g; cases g)
    · next h9 =>
      have hk : n = 3 ∧ (am_hasX (am_ms q).2.2.2.2 idx inf.1 = true ∧ 9003 ≤ inf.1) := by
        have this : (n == 3 && (if inf.1 < 9000 then am_hasM (am_ms q).2.2.2.2 idx inf.1 inf.2.1 1 4 13 else am_hasX (am_ms q).2.2.2.2 idx inf.1 && decide (9003 ≤ inf.1))) = true := hik
        simp only [if_neg h9, Bool.and_eq_true, beq_iff_eq, decide_eq_true_eq] at this
        exact this
      obtain ⟨rfl, hXX, h0⟩ := hk
      exact ⟨am_ext_q hs, hX p e R s m args below meth c Q c0 z0 q pc L S μ f' μ' idx inf.1 _ (Or.inl ⟨rfl, by omega⟩) C hd hXX hs hr1 hr2⟩
  case invokespecial idx =>
    change (if inf.1 < 9000 then am_callv q pc L S μ inf.1 inf.2.1 13 else am_ext q pc L S μ inf.1) = _ at hs
    split at hs
    · exact absurd hs (by unfold am_callv; intro g; split at g; obtain ⟨-, g⟩ := am_b_inv g; cases g; cases g)
    · next h9 =>
      have hk : n = 3 ∧ (am_hasX (am_ms q).2.2.2.2 idx inf.1 = true ∧ inf.1 = 9000) := by
        have this : (n == 3 && (if inf.1 < 9000 then am_hasM (am_ms q).2.2.2.2 idx inf.1 inf.2.1 2 5 13 else am_hasX (am_ms q).2.2.2.2 idx inf.1 && inf.1 == 9000)) = true := hik
        simp only [if_neg h9, Bool.and_eq_true, beq_iff_eq, decide_eq_true_eq] at this
        exact this
      obtain ⟨rfl, hXX, h0⟩ := hk
      exact ⟨am_ext_q hs, hX p e R s m args below meth c Q c0 z0 q pc L S μ f' μ' idx inf.1 _ (Or.inr (Or.inl ⟨rfl, by omega⟩)) C hd hXX hs hr1 hr2⟩
  case invokevirtual idx =>
    change (if inf.1 < 9000 then am_callv q pc L S μ inf.1 inf.2.1 inf.2.2 else am_ext q pc L S μ inf.1) = _ at hs
    split at hs
    · exact absurd hs (by unfold am_callv; intro g; split at g; obtain ⟨-, g⟩ := am_b_inv g; cases g; cases g)
    · next h9 =>
      have hk : n = 3 ∧ (inf.1 = 9999 ∨ (am_hasX (am_ms q).2.2.2.2 idx inf.1 = true ∧ (inf.1 = 9001 ∨ inf.1 = 9002))) := by
        have this : (n == 3 && (if inf.1 < 9000 then am_hasM (am_ms q).2.2.2.2 idx inf.1 inf.2.1 0 3 inf.2.2 else inf.1 == 9999 || (am_hasX (am_ms q).2.2.2.2 idx inf.1 && (inf.1 == 9001 || inf.1 == 9002)))) = true := hik
        simp only [if_neg h9, Bool.and_eq_true, Bool.or_eq_true, beq_iff_eq, decide_eq_true_eq] at this
        exact this
      obtain ⟨rfl, h0 | ⟨hXX, h0⟩⟩ := hk
      · rw [h0] at hs
        cases hs
      · exact ⟨am_ext_q hs, hX p e R s m args below meth c Q c0 z0 q pc L S μ f' μ' idx inf.1 _ (Or.inr (Or.inr ⟨rfl, h0⟩)) C hd hXX hs hr1 hr2⟩
  case ireturn =>
    refine absurd hs ?_
    intro g
    change (match S with | [.int v] => _ | _ => none) = _ at g
    split at g
    · obtain ⟨-, g⟩ := am_b_inv g; cases g
    · cases g
  case lreturn =>
    refine absurd hs ?_
    intro g
    change (match S with | [.long v] => _ | _ => none) = _ at g
    split at g
    · cases g
    · cases g
  case areturn =>
    refine absurd hs ?_
    intro g
    change (match S with | [.ref v] => _ | _ => none) = _ at g
    split at g
    · cases g
    · cases g
  case return_ =>
    refine absurd hs ?_
    intro g
    change (match S with | [] => _ | _ => none) = _ at g
    split at g
    · cases g
    · cases g
  all_goals (exact absurd hs (by intro g; cases g))
end SND3
