/-! FORGETTING: a local of which nothing is known may stand for any; a run that ends with less known ends so with more -/
def am_kw (v w : Value) : Prop := v = .retAddr 0 ∨ v = w
def am_lL : List Value → List Value → Prop
  | [], [] => True
  | v :: t, w :: u => am_kw v w ∧ am_lL t u
  | _, _ => False
theorem am_lL_rfl : ∀ L : List Value, am_lL L L
  | [] => trivial
  | _ :: t => ⟨Or.inr rfl, am_lL_rfl t⟩
theorem am_lL_len : ∀ {L L' : List Value}, am_lL L L' → L.length = L'.length
  | [], [], _ => rfl
  | _ :: t, _ :: u, h => by
    have := am_lL_len (L := t) (L' := u) h.2
    rw [List.length_cons, List.length_cons, this]
  | [], _ :: _, h => h.elim
  | _ :: _, [], h => h.elim
theorem am_lL_get : ∀ {L L' : List Value} {k : Nat} {v : Value}, am_lL L L' → L[k]? = some v → v ≠ .retAddr 0 → L'[k]? = some v
  | [], _, _, _, _, h, _ => by simp at h
  | _ :: _, [], _, _, h, _, _ => h.elim
  | a :: t, b :: u, 0, v, h, hk, hv => by
    have hk : some a = some v := hk
    have ha : a = v := Option.some.inj hk
    rcases h.1 with e | e
    · exact absurd (ha.symm.trans e) hv
    · show some b = some v
      rw [← e, ha]
  | a :: t, b :: u, k + 1, v, h, hk, hv => by
    have hk : t[k]? = some v := hk
    show u[k]? = some v
    exact am_lL_get h.2 hk hv
theorem am_lL_st : ∀ {L L' : List Value} (k : Nat) (v : Value), am_lL L L' → am_lL (am_st L k v) (am_st L' k v)
  | [], [], _, _, _ => trivial
  | [], _ :: _, _, _, h => h.elim
  | _ :: _, [], _, _, h => h.elim
  | a :: t, b :: u, 0, v, h => ⟨Or.inr rfl, h.2⟩
  | a :: t, b :: u, 1, v, h => by
    refine ⟨?_, am_lL_st 0 v h.2⟩
    rcases h.1 with e | e
    · left
      show (if a.category = 2 then Value.retAddr 0 else a) = _
      rw [e]
      split <;> rfl
    · right
      show (if a.category = 2 then Value.retAddr 0 else a) = (if b.category = 2 then Value.retAddr 0 else b)
      rw [e]
  | a :: t, b :: u, k + 2, v, h => ⟨h.1, am_lL_st (k + 1) v h.2⟩
theorem am_lL_set : ∀ {L L' : List Value} (k : Nat) (v : Value), am_lL L L' → am_lL (L.set k v) (L'.set k v)
  | [], [], _, _, _ => trivial
  | [], _ :: _, _, _, h => h.elim
  | _ :: _, [], _, _, h => h.elim
  | a :: t, b :: u, 0, v, h => ⟨Or.inr rfl, h.2⟩
  | a :: t, b :: u, k + 1, v, h => ⟨h.1, am_lL_set k v h.2⟩
theorem am_lL_st2 {L L' : List Value} (k : Nat) (v : Value) (h : am_lL L L') : am_lL (am_st2 L k v) (am_st2 L' k v) := am_lL_set _ _ (am_lL_st k v h)
def am_Rle (r r' : am_R) : Prop := match r with
  | none => True
  | some (.inl (f, μ)) => ∃ L', r' = some (.inl ((f.1, f.2.1, L', f.2.2.2), μ)) ∧ am_lL f.2.2.1 L'
  | some (.inr (.inl x)) => r' = some (.inr (.inl x))
  | some (.inr (.inr (c, as, f, μ))) => ∃ L', r' = some (.inr (.inr (c, as, (f.1, f.2.1, L', f.2.2.2), μ))) ∧ am_lL f.2.2.1 L'
section AMM
variable {q pc n : Nat} {i : Instr} {inf : am_I} {L L' S : List Value} {μ μ' : am_M} {P : Prop}
theorem am_u_nx {a b : Nat} (h : am_lL L L') : am_Rle (am_nx (a, b, L, S) μ) (am_nx (a, b, L', S) μ) := ⟨L', rfl, h⟩
theorem am_u_ca {a b c : Nat} {as : List Value} (h : am_lL L L') : am_Rle (am_ca c as (a, b, L, S) μ) (am_ca c as (a, b, L', S) μ) := ⟨L', rfl, h⟩
theorem am_u_rt {v : Option Value} : am_Rle (am_rt v μ) (am_rt v μ) := rfl
theorem am_u_no {r : am_R} : am_Rle none r := trivial
theorem am_u_b [Decidable P] {x y x' y' : am_R} (h1 : am_Rle x x') (h2 : am_Rle y y') : am_Rle (am_b P x y) (am_b P x' y') := by
  unfold am_b
  by_cases hp : P
  · rw [if_pos hp, if_pos hp]; exact h1
  · rw [if_neg hp, if_neg hp]; exact h2
theorem am_u_ite [Decidable P] {x y x' y' : am_R} (h1 : am_Rle x x') (h2 : am_Rle y y') : am_Rle (if P then x else y) (if P then x' else y') := am_u_b h1 h2
theorem am_u_ldi {k : Nat} (h : am_lL L L') : am_Rle (am_ldi q pc n k L S μ) (am_ldi q pc n k L' S μ) := by
  unfold am_ldi
  split
  · next x hx => rw [am_lL_get h hx (by simp)]; exact am_u_nx h
  · trivial
theorem am_u_ldl {k : Nat} (h : am_lL L L') : am_Rle (am_ldl q pc n k L S μ) (am_ldl q pc n k L' S μ) := by
  unfold am_ldl
  split
  · next x hx => rw [am_lL_get h hx (by simp)]; exact am_u_nx h
  · trivial
theorem am_u_lda {k : Nat} (h : am_lL L L') : am_Rle (am_lda q pc n k L S μ) (am_lda q pc n k L' S μ) := by
  unfold am_lda
  split
  · next x hx => rw [am_lL_get h hx (by simp)]; exact am_u_nx h
  · next x hx => rw [am_lL_get h hx (by simp)]; exact am_u_nx h
  · next hx => rw [am_lL_get h hx (by simp)]; exact am_u_nx h
  · trivial
theorem am_u_sti {k : Nat} (h : am_lL L L') : am_Rle (am_sti q pc n k L S μ) (am_sti q pc n k L' S μ) := by
  unfold am_sti
  split
  · exact am_u_nx (am_lL_st _ _ h)
  · trivial
theorem am_u_stl {k : Nat} (h : am_lL L L') : am_Rle (am_stl q pc n k L S μ) (am_stl q pc n k L' S μ) := by
  unfold am_stl
  split
  · exact am_u_nx (am_lL_st2 _ _ h)
  · trivial
theorem am_u_sta {k : Nat} (h : am_lL L L') : am_Rle (am_sta q pc n k L S μ) (am_sta q pc n k L' S μ) := by
  unfold am_sta
  split
  · exact am_u_nx (am_lL_st _ _ h)
  · trivial
theorem am_u_lim {k : Nat} {r r' : am_R} (h : am_lL L L') (hr : am_Rle r r') : am_Rle (am_lim k L r) (am_lim k L' r') := by
  unfold am_lim
  rw [← am_lL_len h]
  cases Nat.blt k L.length
  · trivial
  · exact hr
theorem am_u_i2 {op : Int32 → Int32 → Int32} (h : am_lL L L') : am_Rle (am_i2 q pc L S μ op) (am_i2 q pc L' S μ op) := by
  unfold am_i2
  split
  · exact am_u_nx h
  · trivial
theorem am_u_l2 {op : Int64 → Int64 → Int64} (h : am_lL L L') : am_Rle (am_l2 q pc L S μ op) (am_l2 q pc L' S μ op) := by
  unfold am_l2
  split
  · exact am_u_nx h
  · trivial
theorem am_u_i1 {op : Int32 → Value} (h : am_lL L L') : am_Rle (am_i1 q pc L S μ op) (am_i1 q pc L' S μ op) := by
  unfold am_i1
  split
  · exact am_u_nx h
  · trivial
theorem am_u_ifc {c : ClassFile.Cond} {x y : Int32} {t : Nat} (h : am_lL L L') : am_Rle (am_ifc q pc L S μ c x y t) (am_ifc q pc L' S μ c x y t) := by
  unfold am_ifc
  cases c <;> exact am_u_b (am_u_nx h) (am_u_nx h)
theorem am_u_getf (h : am_lL L L') : am_Rle (am_getf q pc L S μ inf) (am_getf q pc L' S μ inf) := by
  unfold am_getf
  split
  · refine am_u_b ?_ trivial
    split
    · exact am_u_nx h
    · split
      · exact am_u_nx h
      · trivial
    · exact am_u_nx h
  · trivial
theorem am_u_putf (h : am_lL L L') : am_Rle (am_putf q pc L S μ inf) (am_putf q pc L' S μ inf) := by
  unfold am_putf
  split
  · exact am_u_b (am_u_nx h) trivial
  · exact am_u_b (am_u_nx h) trivial
  · exact am_u_b (am_u_nx h) trivial
  · trivial
theorem am_u_iald (h : am_lL L L') : am_Rle (am_iald q pc L S μ) (am_iald q pc L' S μ) := by
  unfold am_iald
  split
  · exact am_u_b (am_u_nx h) trivial
  · exact am_u_b (am_u_nx h) trivial
  · trivial
theorem am_u_lald (h : am_lL L L') : am_Rle (am_lald q pc L S μ) (am_lald q pc L' S μ) := by
  unfold am_lald
  split
  · exact am_u_b (am_u_nx h) trivial
  · trivial
theorem am_u_bald (h : am_lL L L') : am_Rle (am_bald q pc L S μ) (am_bald q pc L' S μ) := by
  unfold am_bald
  split
  · exact am_u_b (am_u_nx h) trivial
  · trivial
theorem am_u_aald (h : am_lL L L') : am_Rle (am_aald q pc L S μ) (am_aald q pc L' S μ) := by
  unfold am_aald
  split
  · refine am_u_b ?_ trivial
    split
    · exact am_u_nx h
    · trivial
  · trivial
theorem am_u_iast (h : am_lL L L') : am_Rle (am_iast q pc L S μ) (am_iast q pc L' S μ) := by
  unfold am_iast
  split
  · exact am_u_b (am_u_nx h) trivial
  · trivial
theorem am_u_last (h : am_lL L L') : am_Rle (am_last q pc L S μ) (am_last q pc L' S μ) := by
  unfold am_last
  split
  · exact am_u_b (am_u_nx h) trivial
  · trivial
theorem am_u_bast (h : am_lL L L') : am_Rle (am_bast q pc L S μ) (am_bast q pc L' S μ) := by
  unfold am_bast
  split
  · exact am_u_b (am_u_nx h) (am_u_b (am_u_nx h) trivial)
  · trivial
theorem am_u_aast (h : am_lL L L') : am_Rle (am_aast q pc L S μ) (am_aast q pc L' S μ) := by
  unfold am_aast
  split
  · exact am_u_b (am_u_nx h) trivial
  · trivial
theorem am_u_alen (h : am_lL L L') : am_Rle (am_alen q pc L S μ) (am_alen q pc L' S μ) := by
  unfold am_alen
  split
  · exact am_u_b (am_u_nx h) trivial
  · exact am_u_nx h
  · trivial
theorem am_u_new {k : Nat} (h : am_lL L L') : am_Rle (am_new q pc n L S μ k) (am_new q pc n L' S μ k) := am_u_b (am_u_nx h) trivial
theorem am_u_newa {k : Nat} (h : am_lL L L') : am_Rle (am_newa q pc n L S μ k) (am_newa q pc n L' S μ k) := by
  unfold am_newa
  split
  · exact am_u_b (am_u_nx h) trivial
  · trivial
theorem am_u_sw {t : Option Nat} (h : am_lL L L') : am_Rle (am_sw q L S μ t) (am_sw q L' S μ t) := by
  unfold am_sw
  split
  · exact am_u_nx h
  · trivial
theorem am_u_calls {c m : Nat} (h : am_lL L L') : am_Rle (am_calls q pc L S μ c m) (am_calls q pc L' S μ c m) := am_u_b (am_u_ca h) trivial
theorem am_u_callv {c m ci : Nat} (h : am_lL L L') : am_Rle (am_callv q pc L S μ c m ci) (am_callv q pc L' S μ c m ci) := by
  unfold am_callv
  split
  · exact am_u_b (am_u_ca h) trivial
  · trivial
theorem am_u_oini (h : am_lL L L') : am_Rle (am_oini q pc L S μ) (am_oini q pc L' S μ) := by
  unfold am_oini
  split
  · exact am_u_b (am_u_nx h) trivial
  · trivial
theorem am_u_ext {c : Nat} (h : am_lL L L') : am_Rle (am_ext q pc L S μ c) (am_ext q pc L' S μ c) := by
  unfold am_ext
  split
  · exact am_u_oini h
  · split
    · exact am_u_b (am_u_nx h) trivial
    · trivial
  · split
    · exact am_u_b (am_u_nx h) trivial
    · trivial
  · split
    · exact am_u_b (am_u_nx h) trivial
    · trivial
  · split
    · exact am_u_b (am_u_nx h) trivial
    · trivial
  · split
    · exact am_u_b (am_u_nx h) trivial
    · trivial
  · split
    · refine am_u_b ?_ trivial
      split
      · exact am_u_nx h
      · exact am_u_nx h
    · trivial
  · trivial
theorem am_u_sem (h : am_lL L L') : am_Rle (am_sem i n inf q pc L S μ) (am_sem i n inf q pc L' S μ) := by
  cases i
  all_goals first
    | exact am_u_ldi h
    | exact am_u_ldl h
    | exact am_u_lda h
    | exact am_u_lim h (am_u_sti h)
    | exact am_u_lim h (am_u_stl h)
    | exact am_u_lim h (am_u_sta h)
    | exact am_u_nx h
    | exact am_u_ite (am_u_nx h) (am_u_nx h)
    | exact am_u_ite trivial (am_u_nx h)
    | exact am_u_i2 h
    | exact am_u_l2 h
    | exact am_u_i1 h
    | exact am_u_getf h
    | exact am_u_putf h
    | exact am_u_iald h
    | exact am_u_lald h
    | exact am_u_bald h
    | exact am_u_aald h
    | exact am_u_iast h
    | exact am_u_last h
    | exact am_u_bast h
    | exact am_u_aast h
    | exact am_u_alen h
    | exact am_u_new h
    | exact am_u_newa h
    | exact am_u_ite (am_u_calls h) (am_u_ext h)
    | exact am_u_ite (am_u_callv h) (am_u_ext h)
    | skip
  all_goals first
    | exact (trivial : am_Rle none _)
    | skip
  all_goals
    unfold am_sem
    dsimp only
    split
    all_goals first
      | exact True.intro
      | exact am_u_b trivial (am_u_nx h)
      | exact am_u_b (am_u_nx h) trivial
      | exact am_u_nx h
      | exact am_u_ifc h
      | exact am_u_sw h
      | exact am_u_b am_u_rt trivial
      | exact am_u_rt
      | (rename_i hx; rw [am_lL_get h hx (by simp)]; exact am_u_nx (am_lL_st _ _ h))
theorem am_u_chk {r r' : am_R} (h : am_Rle r r') : am_Rle (am_chk i μ r) (am_chk i μ r') := by
  unfold am_chk
  rcases r with _ | (x | x | x)
  · trivial
  · obtain ⟨f, μ'⟩ := x
    obtain ⟨L1, rfl, hl⟩ := h
    dsimp only
    cases am_leb μ μ'
    · trivial
    · exact ⟨L1, rfl, hl⟩
  · have h : r' = some (.inr (.inl x)) := h
    subst h
    dsimp only
    cases am_leb μ x.2 && am_isret i
    · trivial
    · rfl
  · obtain ⟨c, as, f, μ'⟩ := x
    obtain ⟨L1, rfl, hl⟩ := h
    dsimp only
    cases am_leb μ μ' && (am_isinv i && Nat.ble (am_lc as).length (am_ms c).2.2.1)
    · trivial
    · exact ⟨L1, rfl, hl⟩
end AMM
theorem am_u_run : ∀ (n : Nat) (q pc : Nat) (L L' S : List Value) (μ : am_M) (x : am_X), am_lL L L' → am_run n (q, pc, L, S) μ = some x → am_run n (q, pc, L', S) μ = some x := by
  intro n
  induction n with
  | zero => intro q pc L L' S μ x _ h; simp [am_run] at h
  | succ n ih =>
    intro q pc L L' S μ x hl h
    rw [am_run] at h ⊢
    unfold am_step at h ⊢
    cases hf : am_fetch q pc with
    | none => rw [hf] at h; exact absurd h (by simp)
    | some y =>
      obtain ⟨i, m, inf⟩ := y
      rw [hf] at h
      dsimp only at h ⊢
      have hr := am_u_chk (i := i) (μ := μ) (am_u_sem (i := i) (n := m) (inf := inf) (q := q) (pc := pc) (S := S) (μ := μ) hl)
      cases hs : am_chk i μ (am_sem i m inf q pc L S μ) with
      | none => rw [hs] at h; exact absurd h (by simp)
      | some z =>
        rw [hs] at h hr
        rcases z with z | z | z
        · obtain ⟨f, μ'⟩ := z
          obtain ⟨L1, e, hl1⟩ := hr
          rw [e]
          exact ih _ _ _ _ _ _ _ hl1 h
        · have e : am_chk i μ (am_sem i m inf q pc L' S μ) = some (.inr (.inl z)) := hr
          rw [e]
          exact h
        · obtain ⟨c, as, f, μ'⟩ := z
          obtain ⟨L1, e, hl1⟩ := hr
          rw [e]
          dsimp only at h ⊢
          cases hc : am_run n (am_en c as) μ' with
          | none => rw [hc] at h; exact absurd h (by simp)
          | some y =>
            rw [hc] at h
            exact ih _ _ _ _ _ _ _ hl1 h
/-- at least so much: whatever y ends with, x ends with -/
def am_ge (x y : Option am_X) : Prop := ∀ r, y = some r → x = some r
theorem am_ge_rfl {x : Option am_X} : am_ge x x := fun _ h => h
theorem am_gt {x y z : Option am_X} (h : x = y) (g : am_ge y z) : am_ge x z := h ▸ g
theorem am_gge {x y z : Option am_X} (h : am_ge x y) (g : am_ge y z) : am_ge x z := fun r e => h r (g r e)
theorem am_ge_eq {x : Option am_X} {y : am_X} (h : am_ge x (some y)) : x = some y := h y rfl
theorem am_gf {q pc : Nat} {L L' S : List Value} {μ : am_M} {z : Option am_X} (h : am_lL L L') (g : am_ge (am_runs (q, pc, L, S) μ) z) : am_ge (am_runs (q, pc, L', S) μ) z := by
  intro r e
  obtain ⟨n, hn⟩ := am_runs_iff.mp (g r e)
  exact am_runs_iff.mpr ⟨n, am_u_run n q pc L L' S μ r h hn⟩
theorem am_git {P : Prop} [Decidable P] {a b a' b' : Option am_X} (h1 : P → am_ge a a') (h2 : ¬ P → am_ge b b') : am_ge (if P then a else b) (if P then a' else b') := by
  by_cases h : P
  · rw [if_pos h, if_pos h]; exact h1 h
  · rw [if_neg h, if_neg h]; exact h2 h
/-- both sides of a branch come to the same -/
theorem am_gif {P : Prop} [Decidable P] {a b z : Option am_X} (h1 : P → am_ge a z) (h2 : ¬ P → am_ge b z) : am_ge (if P then a else b) z := by
  by_cases h : P
  · rw [if_pos h]; exact h1 h
  · rw [if_neg h]; exact h2 h
/-! LOOPS that may end early: a turn goes on (inl) or ends (inr) -/
def am_fe {σ ρ : Type} (step : Nat → σ → σ ⊕ ρ) : Nat → σ → σ ⊕ ρ
  | 0, s => .inl s
  | n + 1, s => match am_fe step n s with
    | .inl t => step n t
    | .inr r => .inr r
def am_ir {σ ρ : Type} (x : σ ⊕ ρ) : Bool := match x with
  | .inl _ => false
  | .inr _ => true
def am_lg {σ ρ : Type} (d : σ) (x : σ ⊕ ρ) : σ := match x with
  | .inl s => s
  | .inr _ => d
def am_rg {σ ρ : Type} (d : ρ) (x : σ ⊕ ρ) : ρ := match x with
  | .inl _ => d
  | .inr r => r
theorem am_forG {σ : Type} (n : Nat) (F : Nat → σ → Option am_X) (z : Option am_X) (step : Nat → σ → σ) (s : σ) (hx : am_ge (F n (am_fo step n s)) z) (hs : ∀ k, k < n → am_ge (F k (am_fo step k s)) (F (k + 1) (step k (am_fo step k s)))) : am_ge (F 0 s) z := by
  have h : ∀ k, k ≤ n → am_ge (F 0 s) (F k (am_fo step k s)) := by
    intro k
    induction k with
    | zero => intro _; exact am_ge_rfl
    | succ k ih => intro hk; exact am_gge (ih (by omega)) (hs k (by omega))
  exact am_gge (h n (Nat.le_refl n)) hx
/-- a loop that may end early: within n turns it ends (inr), or it has gone n turns (inl) -/
theorem am_forE {σ ρ : Type} (n : Nat) (F : Nat → σ → Option am_X) (z : Option am_X) (Y : ρ → Option am_X) (step : Nat → σ → σ ⊕ ρ) (s : σ) (hx : ∀ t, am_fe step n s = .inl t → am_ge (F n t) z) (hy : ∀ r, am_fe step n s = .inr r → am_ge (Y r) z) (hs : ∀ k t, k < n → am_fe step k s = .inl t → am_ge (F k t) (match step k t with | .inl u => F (k + 1) u | .inr r => Y r)) : am_ge (F 0 s) z := by
  have h : ∀ k, k ≤ n → am_ge (F 0 s) (match am_fe step k s with | .inl u => F k u | .inr r => Y r) := by
    intro k
    induction k with
    | zero => intro _; exact am_ge_rfl
    | succ k ih =>
      intro hk
      refine am_gge (ih (by omega)) ?_
      show am_ge _ (match (match am_fe step k s with | .inl t => step k t | .inr r => .inr r) with | .inl u => F (k + 1) u | .inr r => Y r)
      cases he : am_fe step k s with
      | inl t => exact hs k t (by omega) he
      | inr r => exact am_ge_rfl
  refine am_gge (h n (Nat.le_refl n)) ?_
  cases he : am_fe step n s with
  | inl t => exact hx t he
  | inr r => exact hy r he
theorem am_nI_cl {x : Int32} (h : ¬ x < 0) : nI x.toNatClampNeg = x := by
  have h0 : 0 ≤ x.toInt := by
    rw [Int32.lt_iff_toInt_lt] at h
    have : (0 : Int32).toInt = 0 := by decide
    omega
  apply Int32.toInt_inj.mp
  have hl := Int32.toInt_lt x
  have : x.toNatClampNeg < 2 ^ 31 := by
    show x.toInt.toNat < _
    omega
  rw [nI_toInt this]
  show ((x.toInt.toNat : Nat) : Int) = _
  omega
theorem am_cl_lt (x : Int32) : x.toNatClampNeg < 2 ^ 31 := by
  have hl := Int32.toInt_lt x
  show x.toInt.toNat < _
  omega
