/-! THE LAW FROM ITS ENTRY -/
theorem dd_SC (n Ln : Nat) (h : n ≤ 192) : dd n Ln am_SC = (18, Ln) := by
  unfold dd
  rw [if_neg (by unfold am_SC; omega), if_pos rfl]
set_option maxRecDepth 20000 in
theorem law_entry (xs : Nat → Int32) (Ln : Nat) (hL : Ln ≤ 3072) : ∃ r, am_runs (327, 0, [.retAddr 1, .retAddr 0, .retAddr 0, .retAddr 0, .retAddr 0, .retAddr 0, .retAddr 0], []) (ff_0 xs, gg_0, pp_0, dd 0 Ln, 0, 0) = some (some (.int 1), r) ∧ r.2.2.2.2.1 ≤ 704 ∧ r.2.2.2.2.2 ≤ 7481 := by
  obtain ⟨r, h1, h2, h3⟩ := law_loop hL 512 (g := gg_206) (n := 192) (s := 4409) (i := 0) (Inv_start xs) (start_T0 Ln) (dd_SC 192 Ln (by decide)) (Nat.zero_le _) (by omega) (Nat.le_refl _) (by decide)
  refine ⟨r, ?_, by omega, by omega⟩
  refine Eq.trans (b := am_runs (327, 3, [.retAddr 1, .retAddr 0, .retAddr 0, .retAddr 0, .retAddr 0, .retAddr 0, .retAddr 0], [.ref 0]) (ff_1 xs, gg_1, pp_1, dd 1 Ln, 1, 13)) (am_tnw rfl (by decide) (by decide) (dd_s rfl) rfl) ?_
  refine (am_bl 1 (f' := (327, 4, [.retAddr 1, .retAddr 0, .retAddr 0, .retAddr 0, .retAddr 0, .retAddr 0, .retAddr 0], [.ref 0, .ref 0])) rfl).trans ?_
  refine Eq.trans (b := am_runs (327, 7, [.retAddr 1, .retAddr 0, .retAddr 0, .retAddr 0, .retAddr 0, .retAddr 0, .retAddr 0], [.ref 0]) (ff_186 xs, gg_191, pp_379, dd 177 Ln, 177, 2225)) (ar_cI0 rfl rfl rfl rfl rfl rfl rfl rfl (kc_44 xs Ln)) ?_
  refine (am_bl 1 (f' := (327, 8, [.retAddr 1, .ref 0, .retAddr 0, .retAddr 0, .retAddr 0, .retAddr 0, .retAddr 0], [])) rfl).trans ?_
  refine Eq.trans (b := am_runs (327, 11, [.retAddr 1, .ref 0, .retAddr 0, .retAddr 0, .retAddr 0, .retAddr 0, .retAddr 0], [.ref 177]) (ff_187 xs, gg_192, pp_380, dd 178 Ln, 178, 2279)) (am_tnw rfl (by decide) (by decide) (dd_s rfl) rfl) ?_
  refine (am_bl 1 (f' := (327, 12, [.retAddr 1, .ref 0, .retAddr 0, .retAddr 0, .retAddr 0, .retAddr 0, .retAddr 0], [.ref 177, .ref 177])) rfl).trans ?_
  refine Eq.trans (b := am_runs (327, 15, [.retAddr 1, .ref 0, .retAddr 0, .retAddr 0, .retAddr 0, .retAddr 0, .retAddr 0], [.ref 177]) (ff_202 xs, gg_205, pp_406, dd 191 Ln, 191, 4408)) (ar_cI0 rfl rfl rfl rfl rfl rfl rfl rfl (kc_45 xs Ln)) ?_
  refine (am_bl 2 (f' := (327, 17, [.retAddr 1, .ref 0, .ref 177, .retAddr 0, .retAddr 0, .retAddr 0, .retAddr 0], [.int 1])) rfl).trans ?_
  refine Eq.trans (b := am_runs (327, 19, [.retAddr 1, .ref 0, .ref 177, .retAddr 0, .retAddr 0, .retAddr 0, .retAddr 0], [.ref 191]) (ff_203 xs, gg_206, pp_407, dd 192 Ln, 192, 4409)) (am_tna rfl rfl (by decide) (by decide) (by decide) (by decide) (by decide) (dd_s rfl) rfl) ?_
  refine (am_bl 3 (f' := (327, 23, [.retAddr 1, .ref 0, .ref 177, .ref 191, .int (nI 0), .retAddr 0, .retAddr 0], [])) rfl).trans ?_
  exact h1
