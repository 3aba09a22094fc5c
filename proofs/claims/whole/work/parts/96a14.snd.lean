/-! SOUNDNESS: every run of the small machine is one of the machine -/
section SND5
variable {l : Launch} {D : va_G} {cy : Nat → ClassId} {H00 : Heap} {b Ln : Nat} {xs : Nat → Int32} {adK adV : Nat → Nat}
def am_Snd (l : Launch) (D : va_G) (cy : Nat → ClassId) (H00 : Heap) (b Ln : Nat) (xs : Nat → Int32) (adK adV : Nat → Nat) (n : Nat) : Prop :=
  ∀ (p : Program) (e : Env) (R : Room) (s : State) (m : MethodId) (args : Array Value) (below : List Frame) (meth : Method) (c : Code) (Q : State → Prop) (c0 z0 : Nat) (f : am_F) (μ : am_M) (r : am_X), am_run n f μ = some r → am_Cx D cy H00 b Ln xs adK adV f.1 p R s m args meth c → r.2.2.2.2.2.1 ≤ c0 + R.cells → r.2.2.2.2.2.2 ≤ z0 + R.slots →
    am_Rt D cy H00 b Ln xs adK c0 z0 p l e R s m args below meth c Q f.1 r → am_K D cy H00 b Ln xs adK c0 z0 p l e R s m args below meth c Q f μ
theorem am_Met_of {n c : Nat} {as : List Value} {μ : am_M} {r : am_X} (ih : am_Snd l D cy H00 b Ln xs adK adV n) (hc : c < 327) (hl : (am_lc as).length ≤ (am_ms c).2.2.1) (h : am_run n (am_en c as) μ = some r) : am_Met l D cy H00 b Ln xs adK adV c as μ r := by
  have hq := am_Qf hc
  have hn := am_run_n n _ _ _ h
  refine Met.ofW (cc := (am_ms c).2.1) (maxL := (am_ms c).2.2.1) (ret := (am_ms c).2.2.2.1) hq.2.2.2.1 rfl ?_
  intro p e s m args below meth cd s₁ B hml hv
  obtain ⟨rfl, hR, hK⟩ := hv
  have hts := atoms_spec (ws := am_ws c) B.pre
  have hown : s.vm.findClass (am_own (am_ms c).2.2.2.2) = some m.cls := by rw [← hq.2.2.1.1]; exact findClass_of_methodNamed B.named
  have C : am_Cx D cy H00 b Ln xs adK adV c p (headSpec (am_ws c) (am_rm c (r.2.2.2.2.2.1 - μ.2.2.2.2.1) (r.2.2.2.2.2.2 - μ.2.2.2.2.2))).room s m (as.map (am_cv H00.size b adK)).toArray meth cd :=
    ⟨B.exec, B.bytes, hml, B.returns, hown, fun w hw => hts w (List.mem_cons_of_mem _ hw), B.notSynchronized, (name_of_methodNamed B.named B.method).1, hK, Nat.le_refl _, Nat.le_refl _⟩
  rw [lg_entry_eq]
  refine ih p e _ s m _ below meth cd _ μ.2.2.2.2.1 μ.2.2.2.2.2 (am_en c as) μ r h C ?_ ?_ ?_ s.heap [] 0 0 _ hR (am_LR_en hl) (fun x hx => by cases hx) rfl rfl
  · show r.2.2.2.2.2.1 ≤ μ.2.2.2.2.1 + (r.2.2.2.2.2.1 - μ.2.2.2.2.1)
    omega
  · show r.2.2.2.2.2.2 ≤ μ.2.2.2.2.2 + (r.2.2.2.2.2.2 - μ.2.2.2.2.2)
    omega
  · intro H locs cells slots pc ls hR1 hlo hc1 hz1 hret
    have e1 : r.2.2.2.2.2.1 - μ.2.2.2.2.1 = cells := by omega
    have e2 : r.2.2.2.2.2.2 - μ.2.2.2.2.2 = slots := by omega
    rw [e1, e2]
    have hlk := B.notSynchronized
    cases hv : r.1 with
    | none =>
      rw [hv] at hret
      obtain ⟨hd, hrt⟩ := hret
      exact W.vret B.exec B.bytes (B.returns.trans hrt) (fun t ht _ => ⟨rfl, by rw [ht]; exact hR1⟩) hlo hd hlk
    | some v =>
      rw [hv] at hret
      cases v with
      | int x =>
        obtain ⟨hd, hrt⟩ := hret
        rcases hrt with hrt | ⟨hrt, hx⟩
        · exact W.iret B.exec B.bytes (B.returns.trans hrt) (fun t ht _ => ⟨rfl, by rw [ht]; exact hR1⟩) hlo hd hlk
        · exact W.zret B.exec B.bytes (B.returns.trans hrt) (by rcases hx with rfl | rfl <;> rfl) (fun t ht _ => ⟨rfl, by rw [ht]; exact hR1⟩) hlo hd hlk
      | long x =>
        obtain ⟨hd, hrt⟩ := hret
        exact W.lret B.exec B.bytes (B.returns.trans hrt) (fun t ht _ => ⟨rfl, by rw [ht]; exact hR1⟩) hlo hd hlk
      | ref x =>
        obtain ⟨hd, hrt⟩ := hret
        exact W.aret B.exec B.bytes (B.returns.trans hrt) (Or.inl ⟨_, rfl⟩) (Or.inr ⟨_, rfl⟩) (fun t ht _ => ⟨rfl, by rw [ht]; exact hR1⟩) hlo hd hlk
      | float x => exact hret.elim
      | double x => exact hret.elim
      | null => exact hret.elim
      | retAddr x => exact hret.elim
theorem am_calls_inv {q pc n cq cq' : Nat} {L S as : List Value} {μ μ' : am_M} {f' : am_F} (h : am_calls q pc L S μ cq n = some (.inr (.inr (cq', as, f', μ')))) : cq' = cq ∧ cq < q ∧ μ' = μ ∧ ∃ rest, S = as.reverse ++ rest ∧ as.length = n ∧ am_cat rest ≤ 8 ∧ f' = (q, pc + 3, L, rest) := by
  unfold am_calls at h
  obtain ⟨⟨h1, h2, h3⟩, h⟩ := am_b_inv h
  cases h
  refine ⟨rfl, h1, rfl, S.drop n, ?_, ?_, h3, rfl⟩
  · rw [List.reverse_reverse, List.take_append_drop]
  · rw [List.length_reverse, List.length_take]; omega
theorem am_callv_inv {q pc n cq cq' ci : Nat} {L S as : List Value} {μ μ' : am_M} {f' : am_F} (h : am_callv q pc L S μ cq n ci = some (.inr (.inr (cq', as, f', μ')))) : cq' = cq ∧ cq < q ∧ μ' = μ ∧ ∃ a as' rest, as = .ref a :: as' ∧ S = as'.reverse ++ .ref a :: rest ∧ as'.length = n ∧ am_cat rest ≤ 8 ∧ f' = (q, pc + 3, L, rest) ∧ (ci = 13 ∨ (μ.2.2.2.1 a).1 = ci) := by
  unfold am_callv at h
  split at h
  · next a rest hS =>
    obtain ⟨⟨h1, h2, h3, h4⟩, h⟩ := am_b_inv h
    cases h
    refine ⟨rfl, h1, rfl, a, (S.take n).reverse, rest, rfl, ?_, ?_, h3, rfl, h4⟩
    · rw [List.reverse_reverse, ← hS, List.take_append_drop]
    · rw [List.length_reverse, List.length_take]; omega
  · cases h
theorem am_hasM_mem {o idx c n k1 k2 ci : Nat} (h : am_hasM o idx c n k1 k2 ci = true) : ∃ kind, (kind = k1 ∨ kind = k2) ∧ ∃ x ∈ am_lkM, x.1 = o ∧ x.2.1 = idx ∧ x.2.2.1 = c ∧ x.2.2.2.1 = n ∧ x.2.2.2.2.1 = kind ∧ x.2.2.2.2.2.1 = ci := by
  obtain ⟨x, hx, h⟩ := List.any_eq_true.mp h
  simp only [Bool.and_eq_true, Bool.or_eq_true, beq_iff_eq] at h
  obtain ⟨⟨⟨⟨⟨h1, h2⟩, h3⟩, h4⟩, h5⟩, h6⟩ := h
  exact ⟨x.2.2.2.2.1, h5, x, hx, h1, h2, h3, h4, rfl, h6⟩
theorem am_ext_nc {q pc ce : Nat} {L S : List Value} {μ : am_M} {x : Nat × List Value × am_F × am_M} : ¬ am_ext q pc L S μ ce = some (.inr (.inr x)) := by
  intro h
  unfold am_ext at h
  split at h
  · unfold am_oini at h
    split at h
    · obtain ⟨-, h⟩ := am_b_inv h; cases h
    · cases h
  · split at h
    · obtain ⟨-, h⟩ := am_b_inv h; cases h
    · cases h
  · split at h
    · obtain ⟨-, h⟩ := am_b_inv h; cases h
    · cases h
  · split at h
    · obtain ⟨-, h⟩ := am_b_inv h; cases h
    · cases h
  · split at h
    · obtain ⟨-, h⟩ := am_b_inv h; cases h
    · cases h
  · split at h
    · obtain ⟨-, h⟩ := am_b_inv h; cases h
    · cases h
  · split at h
    · obtain ⟨-, h⟩ := am_b_inv h
      split at h
      · cases h
      · cases h
    · cases h
  · cases h
set_option maxHeartbeats 1000000 in
theorem am_snd (hX : am_EX l D cy H00 b Ln xs adK adV) : ∀ n, am_Snd l D cy H00 b Ln xs adK adV n := by
  intro n
  induction n with
  | zero => intro p e R s m args below meth c Q c0 z0 f μ r h; simp [am_run] at h
  | succ n ih =>
    intro p e R s m args below meth c Q c0 z0 f μ r h C hr1 hr2 hRt
    obtain ⟨q, pc, L, S⟩ := f
    rw [am_run] at h
    cases hs : am_step (q, pc, L, S) μ with
    | none => rw [hs] at h; cases h
    | some x =>
      rw [hs] at h
      unfold am_step at hs
      split at hs
      · cases hs
      · next i k inf hf =>
        obtain ⟨hq, hd, hik⟩ := am_fetch_ok hf
        rcases x with ⟨f', μ'⟩ | ⟨v, μ'⟩ | ⟨cq, as, f', μ'⟩
        · have hs' := (am_chk1 hs).1
          have hn := am_run_n n _ _ _ h
          dsimp only at hn
          obtain ⟨hq', go⟩ := am_snd1 (below := below) (e := e) (Q := Q) (c0 := c0) (z0 := z0) C hX hd hik hs' (Nat.le_trans hn.1 hr1) (Nat.le_trans hn.2 hr2)
          exact go (ih p e R s m args below meth c Q c0 z0 f' μ' r h (by rw [hq']; exact C) hr1 hr2 (by rw [hq']; exact hRt))
        · obtain ⟨hs', -, hir⟩ := am_chk2 hs
          have hr : (v, μ') = r := Option.some.inj h
          subst hr
          have key : μ' = μ ∧ am_isR q pc v ∧ S = v.toList := by
            cases i
            case ireturn =>
              change (match S with | [.int v] => am_b (inf.1 = 0 ∨ v = 0 ∨ v = 1) (am_rt (some (.int v)) μ) none | _ => none) = _ at hs'
              split at hs'
              · obtain ⟨h1, hs'⟩ := am_b_inv hs'
                cases hs'
                have hk : k = 1 ∧ (((am_ms q).2.2.2.1 = some .int ∧ inf.1 = 0) ∨ ((am_ms q).2.2.2.1 = some .boolean ∧ inf.1 = 1)) := by
                  have this : (k == 1 && decide ((((am_ms q).2.2.2.1 = some .int ∧ inf.1 = 0) ∨ ((am_ms q).2.2.2.1 = some .boolean ∧ inf.1 = 1)))) = true := hik
                  simp only [Bool.and_eq_true, beq_iff_eq, decide_eq_true_eq] at this
                  exact this
                obtain ⟨rfl, hk⟩ := hk
                refine ⟨rfl, ⟨hd, ?_⟩, rfl⟩
                rcases hk with hk | hk
                · exact Or.inl hk.1
                · refine Or.inr ⟨hk.1, ?_⟩
                  rcases h1 with h1 | h1
                  · omega
                  · exact h1
              · cases hs'
            case lreturn =>
              change (match S with | [.long v] => am_rt (some (.long v)) μ | _ => none) = _ at hs'
              split at hs'
              · cases hs'
                have hk : k = 1 ∧ (am_ms q).2.2.2.1 = some .long := by
                  have this : (k == 1 && decide ((am_ms q).2.2.2.1 = some .long)) = true := hik
                  simp only [Bool.and_eq_true, beq_iff_eq, decide_eq_true_eq] at this
                  exact this
                obtain ⟨rfl, hk⟩ := hk
                exact ⟨rfl, ⟨hd, hk⟩, rfl⟩
              · cases hs'
            case areturn =>
              change (match S with | [.ref v] => am_rt (some (.ref v)) μ | _ => none) = _ at hs'
              split at hs'
              · cases hs'
                have hk : k = 1 ∧ (am_ms q).2.2.2.1 = some (.object "TenthBean$Legion") := by
                  have this : (k == 1 && decide ((am_ms q).2.2.2.1 = some (.object "TenthBean$Legion"))) = true := hik
                  simp only [Bool.and_eq_true, beq_iff_eq, decide_eq_true_eq] at this
                  exact this
                obtain ⟨rfl, hk⟩ := hk
                exact ⟨rfl, ⟨hd, hk⟩, rfl⟩
              · cases hs'
            case return_ =>
              change (match S with | [] => am_rt none μ | _ => none) = _ at hs'
              split at hs'
              · cases hs'
                have hk : k = 1 ∧ (am_ms q).2.2.2.1 = none := by
                  have this : (k == 1 && decide ((am_ms q).2.2.2.1 = none)) = true := hik
                  simp only [Bool.and_eq_true, beq_iff_eq, decide_eq_true_eq] at this
                  exact this
                obtain ⟨rfl, hk⟩ := hk
                exact ⟨rfl, ⟨hd, hk⟩, rfl⟩
              · cases hs'
            all_goals exact absurd (show false = true from hir) (by decide)
          obtain ⟨rfl, hisr, rfl⟩ := key
          intro H locs cells slots ls hR hL hlo hc hz
          exact hRt H locs cells slots pc ls hR hlo hc hz hisr
        · obtain ⟨hs', -, hiv, hlen⟩ := am_chk3 hs
          dsimp only at h
          have key : cq < q ∧ μ' = μ ∧ k = 3 ∧ ∃ (idx nn kind ci : Nat) (rest : List Value), f' = (q, pc + 3, L, rest) ∧ am_cat rest ≤ 8 ∧ (∃ x ∈ am_lkM, x.1 = (am_ms q).2.2.2.2 ∧ x.2.1 = idx ∧ x.2.2.1 = cq ∧ x.2.2.2.1 = nn ∧ x.2.2.2.2.1 = kind ∧ x.2.2.2.2.2.1 = ci) ∧
              ((i = .invokestatic idx ∧ (kind = 1 ∨ kind = 4) ∧ S = as.reverse ++ rest ∧ as.length = nn) ∨ (i = .invokespecial idx ∧ (kind = 2 ∨ kind = 5) ∧ ∃ a as', as = .ref a :: as' ∧ S = as'.reverse ++ .ref a :: rest ∧ as'.length = nn) ∨ (i = .invokevirtual idx ∧ (kind = 0 ∨ kind = 3) ∧ ∃ a as', as = .ref a :: as' ∧ S = as'.reverse ++ .ref a :: rest ∧ as'.length = nn ∧ (μ.2.2.2.1 a).1 = ci)) := by
            cases i
            case invokestatic idx =>
              change (if inf.1 < 9000 then am_calls q pc L S μ inf.1 inf.2.1 else am_ext q pc L S μ inf.1) = _ at hs'
              split at hs'
              · next h9 =>
                obtain ⟨rfl, h1, rfl, rest, h2, h3, h4, h5⟩ := am_calls_inv hs'
                have hk : k = 3 ∧ am_hasM (am_ms q).2.2.2.2 idx inf.1 inf.2.1 1 4 13 = true := by
                  have this : (k == 3 && (if inf.1 < 9000 then am_hasM (am_ms q).2.2.2.2 idx inf.1 inf.2.1 1 4 13 else am_hasX (am_ms q).2.2.2.2 idx inf.1 && decide (9003 ≤ inf.1))) = true := hik
                  simp only [if_pos h9, Bool.and_eq_true, beq_iff_eq] at this
                  exact this
                obtain ⟨kind, hkd, hx⟩ := am_hasM_mem hk.2
                exact ⟨h1, rfl, hk.1, idx, inf.2.1, kind, 13, rest, h5, h4, hx, Or.inl ⟨rfl, hkd, h2, h3⟩⟩
              · exact absurd hs' (am_ext_nc)
            case invokespecial idx =>
              change (if inf.1 < 9000 then am_callv q pc L S μ inf.1 inf.2.1 13 else am_ext q pc L S μ inf.1) = _ at hs'
              split at hs'
              · next h9 =>
                obtain ⟨rfl, h1, rfl, a, as', rest, h2, h3, h4, h5, h6, -⟩ := am_callv_inv hs'
                have hk : k = 3 ∧ am_hasM (am_ms q).2.2.2.2 idx inf.1 inf.2.1 2 5 13 = true := by
                  have this : (k == 3 && (if inf.1 < 9000 then am_hasM (am_ms q).2.2.2.2 idx inf.1 inf.2.1 2 5 13 else am_hasX (am_ms q).2.2.2.2 idx inf.1 && inf.1 == 9000)) = true := hik
                  simp only [if_pos h9, Bool.and_eq_true, beq_iff_eq] at this
                  exact this
                obtain ⟨kind, hkd, hx⟩ := am_hasM_mem hk.2
                exact ⟨h1, rfl, hk.1, idx, inf.2.1, kind, 13, rest, h6, h5, hx, Or.inr (Or.inl ⟨rfl, hkd, a, as', h2, h3, h4⟩)⟩
              · exact absurd hs' (am_ext_nc)
            case invokevirtual idx =>
              change (if inf.1 < 9000 then am_callv q pc L S μ inf.1 inf.2.1 inf.2.2 else am_ext q pc L S μ inf.1) = _ at hs'
              split at hs'
              · next h9 =>
                obtain ⟨rfl, h1, rfl, a, as', rest, h2, h3, h4, h5, h6, h7⟩ := am_callv_inv hs'
                have hk : k = 3 ∧ am_hasM (am_ms q).2.2.2.2 idx inf.1 inf.2.1 0 3 inf.2.2 = true := by
                  have this : (k == 3 && (if inf.1 < 9000 then am_hasM (am_ms q).2.2.2.2 idx inf.1 inf.2.1 0 3 inf.2.2 else inf.1 == 9999 || (am_hasX (am_ms q).2.2.2.2 idx inf.1 && (inf.1 == 9001 || inf.1 == 9002)))) = true := hik
                  simp only [if_pos h9, Bool.and_eq_true, beq_iff_eq] at this
                  exact this
                obtain ⟨kind, hkd, hx⟩ := am_hasM_mem hk.2
                refine ⟨h1, rfl, hk.1, idx, inf.2.1, kind, inf.2.2, rest, h6, h5, hx, Or.inr (Or.inr ⟨rfl, hkd, a, as', h2, h3, h4, ?_⟩)⟩
                rcases h7 with h7 | h7
                · obtain ⟨x, hxm, -, -, e3, -, e5, e6⟩ := hx
                  have hok := am_M_ok x hxm
                  obtain ⟨o, idx1, cq1, n1, kind1, ci1, wi⟩ := x
                  dsimp only at e3 e5 e6
                  unfold am_okM at hok
                  simp only [Bool.and_eq_true, decide_eq_true_eq] at hok
                  have h8 := hok.1.2.2.2 (by rw [e5]; exact hkd)
                  have h10 := (am_Qf hok.1.1).2.2.2.2.2.2 (by show (am_mt cq1).2.1 = 0; unfold am_mt; rw [hok.1.2.2.1, e5]; rcases hkd with rfl | rfl <;> rfl)
                  omega
                · exact h7
              · exact absurd hs' (am_ext_nc)
            all_goals exact absurd (show false = true from hiv) (by decide)
          obtain ⟨hlt, rfl, rfl, idx, nn, kind, ci, rest, rfl, hcat, hmem, hi⟩ := key
          cases hc : am_run n (am_en cq as) μ' with
          | none => rw [hc] at h; cases h
          | some y =>
            rw [hc] at h
            have hn1 := am_run_n n _ _ _ hc
            have hn2 := am_run_n n _ _ _ h
            have hMet := am_Met_of ih (by omega) hlen hc
            exact am_s_call C ⟨hlt, hq⟩ hd hMet hmem hi hcat hn1 (Nat.le_trans hn2.1 hr1) (Nat.le_trans hn2.2 hr2) (ih p e R s m args below meth c Q c0 z0 _ _ r h C hr1 hr2 hRt)
end SND5
