section SND2
variable {p : Program} {l : Launch} {e : Env} {R : Room} {s : State} {m : MethodId} {args : Array Value} {below : List Frame} {meth : Method} {c : Code} {Q : State → Prop}
variable {D : va_G} {cy : Nat → ClassId} {H00 : Heap} {b Ln : Nat} {xs : Nat → Int32} {adK adV : Nat → Nat} {c0 z0 q pc : Nat} {L S : List Value} {μ : am_M} {inf : am_I}

theorem am_ac13 : Cond.arrayClass .byte ∈ am_gw := by decide +kernel
theorem am_ac14 : Cond.arrayClass .int ∈ am_gw := by decide +kernel
theorem am_ac15 : Cond.arrayClass .long ∈ am_gw := by decide +kernel
theorem am_ac16 : Cond.arrayClass .boolean ∈ am_gw := by decide +kernel

theorem am_out_in {i : Int32} {n : Nat} (h : am_out i n = false) : vp_in i n := by
  unfold am_out at h
  simp only [Bool.or_eq_false_iff, decide_eq_false_iff_not] at h
  exact fun g => g.elim h.1 h.2
theorem am_hF {o idx ci k : Nat} (hts : ∀ w ∈ am_gw, w.before args s = true) (h : am_hasF o idx ci k = true) : (Cond.fieldLink (am_own o) idx (am_TT ci k).1 (am_TT ci k).2.1 (am_TT ci k).2.2.1).before args s = true := by
  obtain ⟨x, hx, h⟩ := List.any_eq_true.mp h
  simp only [Bool.and_eq_true, beq_iff_eq] at h
  have hw := hts _ (am_at_in (List.all_eq_true.mp am_F_ok x hx))
  rw [h.1.1.1, h.1.1.2, h.1.2, h.2] at hw
  exact hw
theorem am_s_get {idx a : Nat} {v : Value} (C : am_Cx D cy H00 b Ln xs adK adV q p R s m args meth c) (hd : decode (am_ms q).2.1 pc = .ok (.getfield idx, 3)) (hF : am_hasF (am_ms q).2.2.2.2 idx inf.1 inf.2.1 = true) (hi : inf.1 < 13 ∧ inf.2.1 < am_N inf.1) (ha : (μ.2.2.2.1 a).1 = inf.1)
    (hv : am_cv H00.size b adK v = am_fv H00.size μ a inf.1 inf.2.1) (K : am_K D cy H00 b Ln xs adK c0 z0 p l e R s m args below meth c Q (q, pc + 3, L, v :: S) μ) : am_K D cy H00 b Ln xs adK c0 z0 p l e R s m args below meth c Q (q, pc, L, .ref a :: S) μ := by
  intro H locs cells slots ls hR hL hlo hc hz
  have hk := K H locs cells slots ls hR hL hlo hc hz
  rw [List.map_cons, hv] at hk
  exact va_get (own := am_own (am_ms q).2.2.2.2) (ref := (am_TT inf.1 inf.2.1).1) (C := am_RR inf.1) (T := am_TT inf.1) (N := am_N inf.1) (ci := inf.1) C.1 C.2.1 C.2.2.2.2.2.1 (am_inG _ hi.1) C.2.2.2.2.1 C.2.2.2.2.2.2.2.2.1.1 (am_P1 (hR.obj ha hi.1)) 0 rfl (am_clv _ hi.1) inf.2.1 hi.2 (am_hF C.2.2.2.2.2.1 hF) (fun x h => h) (am_fs_get hi.2) hd hk
theorem am_Wput {idx a : Nat} {w : Value} {H : Heap} {locs : List Loc} {cells slots : Nat} {ls : Array Slot} {rest : List Value} (C : am_Cx D cy H00 b Ln xs adK adV q p R s m args meth c) (hd : decode (am_ms q).2.1 pc = .ok (.putfield idx, 3)) (hF : am_hasF (am_ms q).2.2.2.2 idx inf.1 inf.2.1 = true) (hi : inf.1 < 13 ∧ inf.2.1 < am_N inf.1)
    (hfin : (am_TT inf.1 inf.2.1).2.2.2 = false ∨ ((am_ms q).1.name = "<init>" ∧ (am_TT inf.1 inf.2.1).1 = am_own (am_ms q).2.2.2.2)) (ha : (μ.2.2.2.1 a).1 = inf.1) (hn : narrow (am_fty inf.1 inf.2.1) w = w) (hfit : fits (am_fty inf.1 inf.2.1) w = true) (hR : am_Rel D cy H00 Ln xs μ H)
    (kk : ∀ (H1 : Heap) (k1 : Nat), H1.size = H.size → (∀ r, r ≠ H00.size + a → H1[r]? = H[r]?) → t_OB (H00.size + a) (D.1 inf.1) (am_N inf.1) (D.2 inf.1) H1 (updV (vp_V (am_fs H00.size μ a inf.1)) inf.2.1 w) → W p l e R s m args below meth c H1 (locs ++ [⟨H00.size + a, k1⟩]) cells slots Q (F0 m (pc + 3) ls rest)) :
    W p l e R s m args below meth c H locs cells slots Q (F0 m pc ls (w :: .ref (H00.size + a) :: rest)) := by
  have hts := C.2.2.2.2.2.1
  have hin := am_inG _ hi.1
  have hown := C.2.2.2.2.1
  have hK := C.2.2.2.2.2.2.2.2.1.1
  have hcl := am_clv _ hi.1
  have hap := va_apart (own := am_own (am_ms q).2.2.2.2) hts hin (am_fty inf.1) (am_tyok _ hi.1) (am_nmok _ hi.1) hK hcl
  obtain ⟨r, h1, cell, q1, q2, q3, q4⟩ := hR.obj ha hi.1
  have hr : r = (am_RR inf.1, am_TT inf.1, am_N inf.1) := Option.some.inj (h1.symm.trans hcl)
  subst hr
  obtain ⟨hS, hfc, kC, hkC, hkind⟩ := hK.1 _ _ hcl
  obtain ⟨cf, kf, fi, f, hfi, hsl⟩ := hS _ hi.2
  have hlay := hts _ (hin _ (u_in_lay hi.2))
  unfold u_lay at hlay
  have hst := (u_facts hfc hkC (u_lays hts hin hi.2) hfi).1
  have hlink := am_hF hts hF
  cases hb : (am_TT inf.1 inf.2.1).2.2.2 with
  | false =>
    rw [if_neg (by rw [hb]; decide)] at hlay
    have h6 := u_store hfc hkC hkind hlay hfi (am_tyok _ hi.1 _ hi.2) hn hfit
    refine W.putK C.1 C.2.1 (f := f) ⟨hown, hlink, ⟨_, _, _, hfi⟩, hst⟩ (by rw [q2]; exact h6) q1 q3 (by rw [hsl]; exact k2_hasslot (q4 _ hi.2)) rfl rfl hd fun H' e1 e2 e3 => ?_
    rw [hsl] at e1
    exact kk H' _ e2 e3 ⟨_, e1, q2, q3, t_set q4 hap hi.2 w⟩
  | true =>
    obtain ⟨hin2, hdecl⟩ := hfin.resolve_left (by rw [hb]; decide)
    rw [if_pos hb] at hlay
    have hcf : m.cls = cf := by
      obtain ⟨_, _, c', _, _, _, -, -, hf', -, -, -, hown2, -⟩ := Cond.laysFinal_spec hlay
      have e1 : c' = cf := by have := hfi.symm.trans hf'; simp at this; exact this.1.symm
      rw [hdecl] at hown2
      rw [← e1]; exact Option.some.inj (hown.symm.trans hown2)
    have h6 := u_fits hfc hkC hkind (Or.inr hlay) hfi (am_tyok _ hi.1 _ hi.2) hn hfit
    refine W.putFinK C.1 C.2.1 hown hlink hfi hst hcf (C.2.2.2.2.2.2.2.1.trans hin2) (by rw [q2]; exact h6) q1 q3 (by rw [hsl]; exact k2_hasslot (q4 _ hi.2)) rfl rfl hd fun H' e1 e2 e3 => ?_
    rw [hsl] at e1
    exact kk H' _ e2 e3 ⟨_, e1, q2, q3, t_set q4 hap hi.2 w⟩
theorem am_put_at {μ' : am_M} {H1 : Heap} {a : Nat} {w : Value} (hi : inf.1 < 13 ∧ inf.2.1 < am_N inf.1) (ha : (μ.2.2.2.1 a).1 = inf.1) (hT : t_OB (H00.size + a) (D.1 inf.1) (am_N inf.1) (D.2 inf.1) H1 (updV (vp_V (am_fs H00.size μ a inf.1)) inf.2.1 w))
    (h1 : am_fv H00.size μ' a inf.1 inf.2.1 = w) (h2 : ∀ j, j ≠ inf.2.1 → am_fv H00.size μ' a inf.1 j = am_fv H00.size μ a inf.1 j) : va_at D vwCl (H00.size + a, am_ce H00.size cy μ' a (μ.2.2.2.1 a).1 (μ.2.2.2.1 a).2) H1 := by
  rw [ha, am_ce_obj hi.1]
  refine ⟨_, am_clv _ hi.1, hT.to fun j hj => ?_⟩
  have hj : j < am_N inf.1 := hj
  rw [am_vp hj]
  unfold updV
  by_cases hji : j = inf.2.1
  · rw [if_pos hji, hji, h1]
  · rw [if_neg hji, am_vp hj, h2 j hji]
theorem am_tyI {ci k : Nat} {x : Int32} (hi : ci < 13 ∧ k < am_N ci) (ht : am_tt ci k = 0 ∨ (am_tt ci k = 3 ∧ (x = 0 ∨ x = 1))) : narrow (am_fty ci k) (.int x) = .int x ∧ fits (am_fty ci k) (.int x) = true := by
  have h := am_ttok ci hi.1 k hi.2
  rcases ht with ht | ⟨ht, hx⟩
  · rw [ht] at h
    unfold am_tyB at h
    split at h <;> first | (exact absurd h (by decide)) | skip
    · next e => rw [e]; exact ⟨rfl, rfl⟩
  · rw [ht] at h
    unfold am_tyB at h
    split at h <;> first | (exact absurd h (by decide)) | skip
    · next e => rw [e]; rcases hx with rfl | rfl <;> exact ⟨rfl, rfl⟩
theorem am_tyL {ci k : Nat} {x : Int64} (hi : ci < 13 ∧ k < am_N ci) (ht : am_tt ci k = 1) : narrow (am_fty ci k) (.long x) = .long x ∧ fits (am_fty ci k) (.long x) = true := by
  have h := am_ttok ci hi.1 k hi.2
  rw [ht] at h
  unfold am_tyB at h
  split at h <;> first | (exact absurd h (by decide)) | skip
  · next e => rw [e]; exact ⟨rfl, rfl⟩
theorem am_tyR {ci k : Nat} {x : Nat} (hi : ci < 13 ∧ k < am_N ci) (ht : am_tt ci k = 2) : narrow (am_fty ci k) (.ref x) = .ref x ∧ fits (am_fty ci k) (.ref x) = true := by
  have h := am_ttok ci hi.1 k hi.2
  rw [ht] at h
  unfold am_tyB at h
  split at h <;> first | (exact absurd h (by decide)) | skip
  · next e => rw [e]; exact ⟨rfl, rfl⟩
  · next e => rw [e]; exact ⟨rfl, rfl⟩
theorem am_s_putI {idx a : Nat} {x : Int32} (C : am_Cx D cy H00 b Ln xs adK adV q p R s m args meth c) (hd : decode (am_ms q).2.1 pc = .ok (.putfield idx, 3)) (hF : am_hasF (am_ms q).2.2.2.2 idx inf.1 inf.2.1 = true) (hi : inf.1 < 13 ∧ inf.2.1 < am_N inf.1)
    (hfin : (am_TT inf.1 inf.2.1).2.2.2 = false ∨ ((am_ms q).1.name = "<init>" ∧ (am_TT inf.1 inf.2.1).1 = am_own (am_ms q).2.2.2.2)) (ha : (μ.2.2.2.1 a).1 = inf.1) (ht : am_tt inf.1 inf.2.1 = 0 ∨ (am_tt inf.1 inf.2.1 = 3 ∧ (x = 0 ∨ x = 1))) (K : am_K D cy H00 b Ln xs adK c0 z0 p l e R s m args below meth c Q (q, pc + 3, L, S) (am_si μ a inf.2.1 x)) : am_K D cy H00 b Ln xs adK c0 z0 p l e R s m args below meth c Q (q, pc, L, .int x :: .ref a :: S) μ := by
  intro H locs cells slots ls hR hL hlo hc hz
  obtain ⟨hn, hfit⟩ := am_tyI hi ht
  refine am_Wput (w := .int x) C hd hF hi hfin ha hn hfit hR fun H1 k1 e2 e3 hT => ?_
  refine K H1 _ cells slots ls (hR.upd (by omega) e2 e3 (fun b hb => ⟨am_u_ne hb, rfl, rfl⟩) rfl (am_put_at hi ha hT ?_ ?_)) hL (fun y hy => ?_) hc hz
  · unfold am_fv
    split
    · next h => omega
    · next h => omega
    · simp [am_si, am_u, va_up]
  · intro j hj
    unfold am_fv
    simp [am_si, am_sl, am_sr, am_u, va_up, hj]
  · rcases List.mem_append.mp hy with h | h
    · exact hlo y h
    · rw [List.mem_singleton.mp h]; exact Nat.le_add_right _ _
theorem am_s_putL {idx a : Nat} {x : Int64} (C : am_Cx D cy H00 b Ln xs adK adV q p R s m args meth c) (hd : decode (am_ms q).2.1 pc = .ok (.putfield idx, 3)) (hF : am_hasF (am_ms q).2.2.2.2 idx inf.1 inf.2.1 = true) (hi : inf.1 < 13 ∧ inf.2.1 < am_N inf.1)
    (hfin : (am_TT inf.1 inf.2.1).2.2.2 = false ∨ ((am_ms q).1.name = "<init>" ∧ (am_TT inf.1 inf.2.1).1 = am_own (am_ms q).2.2.2.2)) (ha : (μ.2.2.2.1 a).1 = inf.1) (ht : am_tt inf.1 inf.2.1 = 1) (K : am_K D cy H00 b Ln xs adK c0 z0 p l e R s m args below meth c Q (q, pc + 3, L, S) (am_sl μ a inf.2.1 x)) : am_K D cy H00 b Ln xs adK c0 z0 p l e R s m args below meth c Q (q, pc, L, .long x :: .ref a :: S) μ := by
  intro H locs cells slots ls hR hL hlo hc hz
  obtain ⟨hn, hfit⟩ := am_tyL hi ht
  refine am_Wput (w := .long x) C hd hF hi hfin ha hn hfit hR fun H1 k1 e2 e3 hT => ?_
  refine K H1 _ cells slots ls (hR.upd (by omega) e2 e3 (fun b hb => ⟨rfl, am_u_ne hb, rfl⟩) rfl (am_put_at hi ha hT ?_ ?_)) hL (fun y hy => ?_) hc hz
  · unfold am_fv
    rw [ht]
    
    
    simp [am_sl, am_u, va_up]
  · intro j hj
    unfold am_fv
    simp [am_si, am_sl, am_sr, am_u, va_up, hj]
  · rcases List.mem_append.mp hy with h | h
    · exact hlo y h
    · rw [List.mem_singleton.mp h]; exact Nat.le_add_right _ _
theorem am_s_putR {idx a : Nat} {x : Nat} (C : am_Cx D cy H00 b Ln xs adK adV q p R s m args meth c) (hd : decode (am_ms q).2.1 pc = .ok (.putfield idx, 3)) (hF : am_hasF (am_ms q).2.2.2.2 idx inf.1 inf.2.1 = true) (hi : inf.1 < 13 ∧ inf.2.1 < am_N inf.1)
    (hfin : (am_TT inf.1 inf.2.1).2.2.2 = false ∨ ((am_ms q).1.name = "<init>" ∧ (am_TT inf.1 inf.2.1).1 = am_own (am_ms q).2.2.2.2)) (ha : (μ.2.2.2.1 a).1 = inf.1) (ht : am_tt inf.1 inf.2.1 = 2) (K : am_K D cy H00 b Ln xs adK c0 z0 p l e R s m args below meth c Q (q, pc + 3, L, S) (am_sr μ a inf.2.1 (some x))) : am_K D cy H00 b Ln xs adK c0 z0 p l e R s m args below meth c Q (q, pc, L, .ref x :: .ref a :: S) μ := by
  intro H locs cells slots ls hR hL hlo hc hz
  obtain ⟨hn, hfit⟩ := am_tyR hi ht
  refine am_Wput (w := .ref (H00.size + x)) C hd hF hi hfin ha hn hfit hR fun H1 k1 e2 e3 hT => ?_
  refine K H1 _ cells slots ls (hR.upd (by omega) e2 e3 (fun b hb => ⟨rfl, rfl, am_u_ne hb⟩) rfl (am_put_at hi ha hT ?_ ?_)) hL (fun y hy => ?_) hc hz
  · unfold am_fv
    rw [ht]
    
    
    simp [am_sr, am_u, va_up, va_rf]
  · intro j hj
    unfold am_fv
    simp [am_si, am_sl, am_sr, am_u, va_up, hj]
  · rcases List.mem_append.mp hy with h | h
    · exact hlo y h
    · rw [List.mem_singleton.mp h]; exact Nat.le_add_right _ _
theorem am_s_iald {a : Nat} {i : Int32} (C : am_Cx D cy H00 b Ln xs adK adV q p R s m args meth c) (hd : decode (am_ms q).2.1 pc = .ok (.iaload, 1)) (ha : (μ.2.2.2.1 a).1 = 14) (ho : am_out i (μ.2.2.2.1 a).2 = false) (K : am_K D cy H00 b Ln xs adK c0 z0 p l e R s m args below meth c Q (q, pc + 1, L, .int (μ.1 a i.toNatClampNeg) :: S) μ) : am_K D cy H00 b Ln xs adK c0 z0 p l e R s m args below meth c Q (q, pc, L, .int i :: .ref a :: S) μ :=
  fun H locs cells slots ls hR hL hlo hc hz => va_iald (D := D) (cl := vwCl) (ws := [(H00.size + a, .inl (cy 14, (μ.2.2.2.1 a).2, .inl (μ.1 a)))]) C.1 C.2.1 C.2.2.2.2.2.2.2.2.1.1 (am_P1 (hR.arr ha (by decide))) 0 1 rfl rfl (am_out_in ho) hd (K H locs cells slots ls hR hL hlo hc hz)
theorem am_s_bald {a : Nat} {i : Int32} (C : am_Cx D cy H00 b Ln xs adK adV q p R s m args meth c) (hd : decode (am_ms q).2.1 pc = .ok (.baload, 1)) (ha : (μ.2.2.2.1 a).1 = 13) (ho : am_out i (μ.2.2.2.1 a).2 = false) (K : am_K D cy H00 b Ln xs adK c0 z0 p l e R s m args below meth c Q (q, pc + 1, L, .int (μ.1 a i.toNatClampNeg) :: S) μ) : am_K D cy H00 b Ln xs adK c0 z0 p l e R s m args below meth c Q (q, pc, L, .int i :: .ref a :: S) μ :=
  fun H locs cells slots ls hR hL hlo hc hz => va_bald (D := D) (cl := vwCl) (ws := [(H00.size + a, .inl (cy 13, (μ.2.2.2.1 a).2, .inl (μ.1 a)))]) C.1 C.2.1 C.2.2.2.2.2.2.2.2.1.1 (am_P1 (hR.arr ha (by decide))) 0 0 rfl rfl (am_out_in ho) hd (K H locs cells slots ls hR hL hlo hc hz)
theorem am_s_zald {a : Nat} {i : Int32} (C : am_Cx D cy H00 b Ln xs adK adV q p R s m args meth c) (hd : decode (am_ms q).2.1 pc = .ok (.baload, 1)) (ha : (μ.2.2.2.1 a).1 = 16) (ho : am_out i (μ.2.2.2.1 a).2 = false) (K : am_K D cy H00 b Ln xs adK c0 z0 p l e R s m args below meth c Q (q, pc + 1, L, .int (μ.1 a i.toNatClampNeg) :: S) μ) : am_K D cy H00 b Ln xs adK c0 z0 p l e R s m args below meth c Q (q, pc, L, .int i :: .ref a :: S) μ :=
  fun H locs cells slots ls hR hL hlo hc hz => va_zald (D := D) (cl := vwCl) (ws := [(H00.size + a, .inl (cy 16, (μ.2.2.2.1 a).2, .inl (μ.1 a)))]) C.1 C.2.1 C.2.2.2.2.2.2.2.2.1.1 (am_P1 (hR.arr ha (by decide))) 0 3 rfl rfl (am_out_in ho) hd (K H locs cells slots ls hR hL hlo hc hz)
theorem am_s_lald {a : Nat} {i : Int32} (C : am_Cx D cy H00 b Ln xs adK adV q p R s m args meth c) (hd : decode (am_ms q).2.1 pc = .ok (.laload, 1)) (ha : (μ.2.2.2.1 a).1 = 15) (ho : am_out i (μ.2.2.2.1 a).2 = false) (K : am_K D cy H00 b Ln xs adK c0 z0 p l e R s m args below meth c Q (q, pc + 1, L, .long (μ.2.1 a i.toNatClampNeg) :: S) μ) : am_K D cy H00 b Ln xs adK c0 z0 p l e R s m args below meth c Q (q, pc, L, .int i :: .ref a :: S) μ :=
  fun H locs cells slots ls hR hL hlo hc hz => va_lald (D := D) (cl := vwCl) (ws := [(H00.size + a, .inl (cy 15, (μ.2.2.2.1 a).2, .inr (.inl (μ.2.1 a))))]) C.1 C.2.1 C.2.2.2.2.2.2.2.2.1.1 (am_P1 (hR.arr ha (by decide))) 0 2 rfl rfl (am_out_in ho) hd (K H locs cells slots ls hR hL hlo hc hz)
theorem am_s_aald {a r : Nat} {i : Int32} (C : am_Cx D cy H00 b Ln xs adK adV q p R s m args meth c) (hd : decode (am_ms q).2.1 pc = .ok (.aaload, 1)) (ha : (μ.2.2.2.1 a).1 = 17) (ho : am_out i (μ.2.2.2.1 a).2 = false) (hr : μ.2.2.1 a i.toNatClampNeg = some r) (K : am_K D cy H00 b Ln xs adK c0 z0 p l e R s m args below meth c Q (q, pc + 1, L, .ref r :: S) μ) : am_K D cy H00 b Ln xs adK c0 z0 p l e R s m args below meth c Q (q, pc, L, .int i :: .ref a :: S) μ := by
  intro H locs cells slots ls hR hL hlo hc hz
  refine va_aldq (D := D) (cl := vwCl) (C := "TenthBean$Now") (ws := [(H00.size + a, .inl (cy 17, (μ.2.2.2.1 a).2, .inr (.inr (.inr (.inr fun i => (μ.2.2.1 a i).map fun r => H00.size + r)))))]) C.1 C.2.1 C.2.2.2.2.2.2.2.2.1.1 (am_P1 (hR.arr ha (by decide))) 0 4 rfl rfl (am_out_in ho) hd ?_
  rw [hr]
  exact K H locs cells slots ls hR hL hlo hc hz
theorem am_vaS {H : Heap} {locs : List Loc} (hR : am_Rel D cy H00 Ln xs μ H) (hlo : ∀ x ∈ locs, H00.size ≤ x.base) : va_S (fun q => H00.size ≤ q) H00 H locs := ⟨by rw [hR.2.1]; exact Nat.le_add_right _ _, fun q hq _ => hR.1 q hq, hlo⟩
theorem am_s_sald {i : Int32} (C : am_Cx D cy H00 b Ln xs adK adV q p R s m args meth c) (hd : decode (am_ms q).2.1 pc = .ok (.iaload, 1)) (ho : am_out i (μ.2.2.2.1 am_SC).2 = false) (K : am_K D cy H00 b Ln xs adK c0 z0 p l e R s m args below meth c Q (q, pc + 1, L, .int (μ.1 am_SC i.toNatClampNeg) :: S) μ) : am_K D cy H00 b Ln xs adK c0 z0 p l e R s m args below meth c Q (q, pc, L, .int i :: .retAddr 1 :: S) μ := by
  intro H locs cells slots ls hR hL hlo hc hz
  have hX := C.2.2.2.2.2.2.2.2.1.2.1
  have hb := C.2.2.2.2.2.2.2.2.1.2.2.2.2.2.1
  have ho := am_out_in ho
  rw [hR.2.2.2.1] at ho
  refine va_sld C.1 C.2.1 hX hb (A := fun q => H00.size ≤ q) (Nat.not_le.mpr hb) (am_vaS hR hlo) ho hd ?_
  rw [← hR.2.2.2.2.1 _ (Nat.not_le.mp fun g => ho (Or.inr g))]
  exact K H locs cells slots ls hR hL hlo hc hz
theorem am_s_slen (C : am_Cx D cy H00 b Ln xs adK adV q p R s m args meth c) (hd : decode (am_ms q).2.1 pc = .ok (.arraylength, 1)) (K : am_K D cy H00 b Ln xs adK c0 z0 p l e R s m args below meth c Q (q, pc + 1, L, .int (nI (μ.2.2.2.1 am_SC).2) :: S) μ) : am_K D cy H00 b Ln xs adK c0 z0 p l e R s m args below meth c Q (q, pc, L, .retAddr 1 :: S) μ := by
  intro H locs cells slots ls hR hL hlo hc hz
  have hX := C.2.2.2.2.2.2.2.2.1.2.1
  have hb := C.2.2.2.2.2.2.2.2.1.2.2.2.2.2.1
  have hk := K H locs cells slots ls hR hL hlo hc hz
  rw [hR.2.2.2.1] at hk
  exact va_slen C.1 C.2.1 hX hb (A := fun q => H00.size ≤ q) (Nat.not_le.mpr hb) (am_vaS hR hlo) hd hk
theorem am_s_alen {a : Nat} (C : am_Cx D cy H00 b Ln xs adK adV q p R s m args meth c) (hd : decode (am_ms q).2.1 pc = .ok (.arraylength, 1)) (ha : 12 < (μ.2.2.2.1 a).1 ∧ (μ.2.2.2.1 a).1 < 18) (K : am_K D cy H00 b Ln xs adK c0 z0 p l e R s m args below meth c Q (q, pc + 1, L, .int (nI (μ.2.2.2.1 a).2) :: S) μ) : am_K D cy H00 b Ln xs adK c0 z0 p l e R s m args below meth c Q (q, pc, L, .ref a :: S) μ := by
  intro H locs cells slots ls hR hL hlo hc hz
  have hk := K H locs cells slots ls hR hL hlo hc hz
  have hK := C.2.2.2.2.2.2.2.2.1.1
  have h5 : (μ.2.2.2.1 a).1 = 13 ∨ (μ.2.2.2.1 a).1 = 14 ∨ (μ.2.2.2.1 a).1 = 15 ∨ (μ.2.2.2.1 a).1 = 16 ∨ (μ.2.2.2.1 a).1 = 17 := by omega
  rcases h5 with h | h | h | h | h
  · exact va_alen (D := D) (cl := vwCl) C.1 C.2.1 hK (am_P1 (hR.arr h (by decide))) 0 0 rfl rfl rfl hd hk
  · exact va_alen (D := D) (cl := vwCl) C.1 C.2.1 hK (am_P1 (hR.arr h (by decide))) 0 1 rfl rfl rfl hd hk
  · exact va_alen (D := D) (cl := vwCl) C.1 C.2.1 hK (am_P1 (hR.arr h (by decide))) 0 2 rfl rfl rfl hd hk
  · exact va_alen (D := D) (cl := vwCl) C.1 C.2.1 hK (am_P1 (hR.arr h (by decide))) 0 3 rfl rfl rfl hd hk
  · exact va_alen (D := D) (cl := vwCl) C.1 C.2.1 hK (am_P1 (hR.arr h (by decide))) 0 4 rfl rfl rfl hd hk
theorem am_s_iast {a : Nat} {i : Int32} {x : Int32} (C : am_Cx D cy H00 b Ln xs adK adV q p R s m args meth c) (hd : decode (am_ms q).2.1 pc = .ok (.iastore, 1)) (ha : (μ.2.2.2.1 a).1 = 14) (ho : am_out i (μ.2.2.2.1 a).2 = false) (K : am_K D cy H00 b Ln xs adK c0 z0 p l e R s m args below meth c Q (q, pc + 1, L, S) (am_si μ a i.toNatClampNeg x)) : am_K D cy H00 b Ln xs adK c0 z0 p l e R s m args below meth c Q (q, pc, L, .int x :: .int i :: .ref a :: S) μ := by
  intro H locs cells slots ls hR hL hlo hc hz
  have hin := am_out_in ho
  have hat : H[H00.size + a]? = some (vp_cell (cy 14) ((μ.2.2.2.1 a).2, .inl (μ.1 a))) := hR.arr ha (by decide)
  refine W.iast C.1 C.2.1 hat ((C.2.2.2.2.2.2.2.2.1.1.2 1 _ rfl).1 _ (fun j => .int (μ.1 a j))) (fun g => by cases g) (by show ¬ (i < 0 ∨ (arrV _ _ _).slots.size ≤ _); rw [arrV_size]; exact hin) rfl rfl hd fun H1 e1 e2 e3 => ?_
  refine K H1 _ cells slots ls (hR.upd (by omega) e2 e3 (fun b hb => ⟨am_u_ne hb, rfl, rfl⟩) rfl ?_) hL (fun y hy => ?_) hc hz
  · rw [ha]
    show H1[H00.size + a]? = some (vp_cell _ _)
    rw [e1]
    dsimp only
    rw [vp_cell_i, vp_cell_i, arrV_store]
    congr 2
    funext j
    by_cases hj : j = i.toNatClampNeg
    · subst hj
      simp [updV, am_si, am_sl, am_u, va_up, vp_nar]
      try rfl
    · simp [updV, am_si, am_sl, am_u, va_up, hj]
  · rcases List.mem_append.mp hy with h | h
    · exact hlo y h
    · rw [List.mem_singleton.mp h]; exact Nat.le_add_right _ _
theorem am_s_bast {a : Nat} {i : Int32} {x : Int32} (C : am_Cx D cy H00 b Ln xs adK adV q p R s m args meth c) (hd : decode (am_ms q).2.1 pc = .ok (.bastore, 1)) (ha : (μ.2.2.2.1 a).1 = 13) (ho : am_out i (μ.2.2.2.1 a).2 = false) (K : am_K D cy H00 b Ln xs adK c0 z0 p l e R s m args below meth c Q (q, pc + 1, L, S) (am_si μ a i.toNatClampNeg (vp_nar .byte x))) : am_K D cy H00 b Ln xs adK c0 z0 p l e R s m args below meth c Q (q, pc, L, .int x :: .int i :: .ref a :: S) μ := by
  intro H locs cells slots ls hR hL hlo hc hz
  have hin := am_out_in ho
  have hat : H[H00.size + a]? = some (vp_cell (cy 13) ((μ.2.2.2.1 a).2, .inl (μ.1 a))) := hR.arr ha (by decide)
  refine W.bast C.1 C.2.1 hat ((C.2.2.2.2.2.2.2.2.1.1.2 0 _ rfl).1 _ (fun j => .int (μ.1 a j))) (fun g => by cases g) (by show ¬ (i < 0 ∨ (arrV _ _ _).slots.size ≤ _); rw [arrV_size]; exact hin) rfl rfl hd fun H1 e1 e2 e3 => ?_
  refine K H1 _ cells slots ls (hR.upd (by omega) e2 e3 (fun b hb => ⟨am_u_ne hb, rfl, rfl⟩) rfl ?_) hL (fun y hy => ?_) hc hz
  · rw [ha]
    show H1[H00.size + a]? = some (vp_cell _ _)
    rw [e1]
    dsimp only
    rw [vp_cell_i, vp_cell_i, arrV_store]
    congr 2
    funext j
    by_cases hj : j = i.toNatClampNeg
    · subst hj
      simp [updV, am_si, am_sl, am_u, va_up, vp_nar]
      try rfl
    · simp [updV, am_si, am_sl, am_u, va_up, hj]
  · rcases List.mem_append.mp hy with h | h
    · exact hlo y h
    · rw [List.mem_singleton.mp h]; exact Nat.le_add_right _ _
theorem am_s_zast {a : Nat} {i : Int32} {x : Int32} (C : am_Cx D cy H00 b Ln xs adK adV q p R s m args meth c) (hd : decode (am_ms q).2.1 pc = .ok (.bastore, 1)) (ha : (μ.2.2.2.1 a).1 = 16) (ho : am_out i (μ.2.2.2.1 a).2 = false) (K : am_K D cy H00 b Ln xs adK c0 z0 p l e R s m args below meth c Q (q, pc + 1, L, S) (am_si μ a i.toNatClampNeg (vp_nar .boolean x))) : am_K D cy H00 b Ln xs adK c0 z0 p l e R s m args below meth c Q (q, pc, L, .int x :: .int i :: .ref a :: S) μ := by
  intro H locs cells slots ls hR hL hlo hc hz
  have hin := am_out_in ho
  have hat : H[H00.size + a]? = some (vp_cell (cy 16) ((μ.2.2.2.1 a).2, .inl (μ.1 a))) := hR.arr ha (by decide)
  refine W.zast C.1 C.2.1 hat ((C.2.2.2.2.2.2.2.2.1.1.2 3 _ rfl).1 _ (fun j => .int (μ.1 a j))) (fun g => by cases g) (by show ¬ (i < 0 ∨ (arrV _ _ _).slots.size ≤ _); rw [arrV_size]; exact hin) rfl rfl hd fun H1 e1 e2 e3 => ?_
  refine K H1 _ cells slots ls (hR.upd (by omega) e2 e3 (fun b hb => ⟨am_u_ne hb, rfl, rfl⟩) rfl ?_) hL (fun y hy => ?_) hc hz
  · rw [ha]
    show H1[H00.size + a]? = some (vp_cell _ _)
    rw [e1]
    dsimp only
    rw [vp_cell_i, vp_cell_i, arrV_store]
    congr 2
    funext j
    by_cases hj : j = i.toNatClampNeg
    · subst hj
      simp [updV, am_si, am_sl, am_u, va_up, vp_nar]
      try rfl
    · simp [updV, am_si, am_sl, am_u, va_up, hj]
  · rcases List.mem_append.mp hy with h | h
    · exact hlo y h
    · rw [List.mem_singleton.mp h]; exact Nat.le_add_right _ _
theorem am_s_last {a : Nat} {i : Int32} {x : Int64} (C : am_Cx D cy H00 b Ln xs adK adV q p R s m args meth c) (hd : decode (am_ms q).2.1 pc = .ok (.lastore, 1)) (ha : (μ.2.2.2.1 a).1 = 15) (ho : am_out i (μ.2.2.2.1 a).2 = false) (K : am_K D cy H00 b Ln xs adK c0 z0 p l e R s m args below meth c Q (q, pc + 1, L, S) (am_sl μ a i.toNatClampNeg x)) : am_K D cy H00 b Ln xs adK c0 z0 p l e R s m args below meth c Q (q, pc, L, .long x :: .int i :: .ref a :: S) μ := by
  intro H locs cells slots ls hR hL hlo hc hz
  have hin := am_out_in ho
  have hat : H[H00.size + a]? = some (vp_cell (cy 15) ((μ.2.2.2.1 a).2, .inr (.inl (μ.2.1 a)))) := hR.arr ha (by decide)
  refine W.last C.1 C.2.1 hat ((C.2.2.2.2.2.2.2.2.1.1.2 2 _ rfl).1 _ (fun j => .long (μ.2.1 a j))) (fun g => by cases g) (by show ¬ (i < 0 ∨ (arrV _ _ _).slots.size ≤ _); rw [arrV_size]; exact hin) rfl rfl hd fun H1 e1 e2 e3 => ?_
  refine K H1 _ cells slots ls (hR.upd (by omega) e2 e3 (fun b hb => ⟨rfl, am_u_ne hb, rfl⟩) rfl ?_) hL (fun y hy => ?_) hc hz
  · rw [ha]
    show H1[H00.size + a]? = some (vp_cell _ _)
    rw [e1]
    dsimp only
    rw [vp_cell_l, vp_cell_l, arrV_store]
    congr 2
    funext j
    by_cases hj : j = i.toNatClampNeg
    · subst hj
      simp [updV, am_si, am_sl, am_u, va_up, vp_nar]
      try rfl
    · simp [updV, am_si, am_sl, am_u, va_up, hj]
  · rcases List.mem_append.mp hy with h | h
    · exact hlo y h
    · rw [List.mem_singleton.mp h]; exact Nat.le_add_right _ _
theorem am_s_aast {a r : Nat} {i : Int32} (C : am_Cx D cy H00 b Ln xs adK adV q p R s m args meth c) (hd : decode (am_ms q).2.1 pc = .ok (.aastore, 1)) (ha : (μ.2.2.2.1 a).1 = 17) (hr : (μ.2.2.2.1 r).1 = 6) (ho : am_out i (μ.2.2.2.1 a).2 = false) (K : am_K D cy H00 b Ln xs adK c0 z0 p l e R s m args below meth c Q (q, pc + 1, L, S) (am_sr μ a i.toNatClampNeg (some r))) : am_K D cy H00 b Ln xs adK c0 z0 p l e R s m args below meth c Q (q, pc, L, .ref r :: .int i :: .ref a :: S) μ := by
  intro H locs cells slots ls hR hL hlo hc hz
  have hin := am_out_in ho
  have hlt : i.toNatClampNeg < (μ.2.2.2.1 a).2 := Nat.not_le.mp fun g => hin (Or.inr g)
  have hat : H[H00.size + a]? = some (vp_cell (cy 17) ((μ.2.2.2.1 a).2, .inr (.inr (.inr (.inr fun i => (μ.2.2.1 a i).map fun r => H00.size + r))))) := hR.arr ha (by decide)
  obtain ⟨r', hr', cellV, g1, g2, g3, -⟩ := hR.obj hr (by decide)
  have hK := C.2.2.2.2.2.2.2.2.1.1
  have hcls := (hK.1 6 _ (am_clv 6 (by decide))).2
  obtain ⟨kA, comp, k1, k2, k3, -⟩ := (hK.2 4 (cy 17, .object "TenthBean$Now") rfl).2
  have hcomp : comp = D.1 6 := Option.some.inj (k3.symm.trans hcls.1)
  subst hcomp
  obtain ⟨kC, hkC, -⟩ := hcls.2
  refine W.aast C.1 C.2.1 hat (fun q h => by cases h) (fun h => by cases h) k1 k2 rfl hkC ⟨fun g => hin (Or.inl g), by show _ < (arrV _ _ _).slots.size; rw [arrV_size]; exact hlt⟩ g1 (fun q h => by rw [g3] at h; cases h) (by rw [g2]; exact hkC) (by rw [g2]; exact va_assign hcls) rfl rfl hd fun H1 e1 e2 e3 => ?_
  refine K H1 _ cells slots ls (hR.upd (by omega) e2 e3 (fun b hb => ⟨rfl, rfl, am_u_ne hb⟩) rfl ?_) hL (fun y hy => ?_) hc hz
  · rw [ha]
    show H1[H00.size + a]? = some (vp_cell _ _)
    rw [e1]
    dsimp only
    rw [vp_cell_q, vp_cell_q, arrV_store]
    congr 2
    funext j
    by_cases hj : j = i.toNatClampNeg
    · subst hj
      simp [updV, am_sr, am_u, va_up, va_rf]
    · simp [updV, am_sr, am_u, va_up, hj]
  · rcases List.mem_append.mp hy with h | h
    · exact hlo y h
    · rw [List.mem_singleton.mp h]; exact Nat.le_add_right _ _
theorem am_dflt {ci k : Nat} (hi : ci < 13 ∧ k < am_N ci) {μ' : am_M} {a : Nat} (h1 : μ'.1 a k = 0) (h2 : μ'.2.1 a k = 0) (h3 : μ'.2.2.1 a k = none) : defaultValue (am_fty ci k) = am_fv H00.size μ' a ci k := by
  have h := am_ttok ci hi.1 k hi.2
  unfold am_tyB at h
  unfold am_fv
  split at h <;> first | (exact absurd h (by decide)) | skip
  all_goals (next e => rw [e, beq_iff_eq.mp h]; simp [h1, h2, h3, defaultValue, va_rf])
theorem am_s_new {idx ci : Nat} (C : am_Cx D cy H00 b Ln xs adK adV q p R s m args meth c) (hd : decode (am_ms q).2.1 pc = .ok (.new idx, 3)) (hC : am_hasC (am_ms q).2.2.2.2 idx ci = true) (hi : ci < 13) (hn : μ.2.2.2.2.1 < 600000) (hr1 : μ.2.2.2.2.1 + 1 ≤ c0 + R.cells) (hr2 : μ.2.2.2.2.2 + am_N ci ≤ z0 + R.slots)
    (K : am_K D cy H00 b Ln xs adK c0 z0 p l e R s m args below meth c Q (q, pc + 3, L, .ref μ.2.2.2.2.1 :: S) (am_nw μ ci 0 (am_N ci))) : am_K D cy H00 b Ln xs adK c0 z0 p l e R s m args below meth c Q (q, pc, L, S) μ := by
  intro H locs cells slots ls hR hL hlo hc hz
  obtain ⟨x, hx, h⟩ := List.any_eq_true.mp hC
  simp only [Bool.and_eq_true, beq_iff_eq] at h
  have hw := C.2.2.2.2.2.1 _ (am_at_in (List.all_eq_true.mp am_C_ok x hx))
  rw [h.1.1, h.1.2, h.2] at hw
  have hts := C.2.2.2.2.2.1
  have hKn := C.2.2.2.2.2.2.2.2.1.1.1 ci _ (am_clv ci hi)
  refine W.newcK C.1 C.2.1 C.2.2.2.2.1 hw (hts _ (am_at_in (am_cxok ci hi).1)) (hts _ (am_at_in (am_cxok ci hi).2)) rfl hd (by omega) (by omega) hKn.2.1 hR.2.1 fun H1 kC hkC e1 z1 o1 => ?_
  refine K H1 locs _ _ ls (hR.nw hn (by rw [z1, hR.2.1]) (fun q hq => o1 q (by rw [← hR.2.1]; exact hq)) ?_) hL hlo ?_ ?_
  · rw [am_ce_obj hi]
    refine ⟨_, am_clv ci hi, (u_born (am_fty ci) hts (am_inG ci hi) hKn hkC e1 (am_tyok ci hi)).to fun j hj => ?_⟩
    have hj : j < am_N ci := hj
    rw [am_vp hj]
    exact am_dflt ⟨hi, hj⟩ (by simp [am_nw, va_up]) (by simp [am_nw, va_up]) (by simp [am_nw, va_up])
  · show c0 + (cells + 1) = μ.2.2.2.2.1 + 1
    omega
  · show z0 + (slots + am_N ci) = μ.2.2.2.2.2 + am_N ci
    omega
theorem am_s_newa13 {x : Int32} (C : am_Cx D cy H00 b Ln xs adK adV q p R s m args meth c) (hd : decode (am_ms q).2.1 pc = .ok (.newarray .byte, 2)) (hn : μ.2.2.2.2.1 < 600000) (hx0 : ¬ x < 0) (hx : x.toNatClampNeg ≤ 60000) (hr1 : μ.2.2.2.2.1 + 1 ≤ c0 + R.cells) (hr2 : μ.2.2.2.2.2 + x.toNatClampNeg ≤ z0 + R.slots)
    (K : am_K D cy H00 b Ln xs adK c0 z0 p l e R s m args below meth c Q (q, pc + 2, L, .ref μ.2.2.2.2.1 :: S) (am_nw μ 13 x.toNatClampNeg x.toNatClampNeg)) : am_K D cy H00 b Ln xs adK c0 z0 p l e R s m args below meth c Q (q, pc, L, .int x :: S) μ := by
  intro H locs cells slots ls hR hL hlo hc hz
  have hts := C.2.2.2.2.2.1
  refine va_newaK (atype := .byte) C.1 C.2.1 (hts (.arrayClass .byte) am_ac13) rfl hd rfl hx0 rfl (by simp only [newarray.typeOf, componentBytes]; omega) (by omega) (by omega) hR.2.1 fun H1 cA e1 z1 o1 hAr hNm => ?_
  have hcA : cA = cy 13 := by
    have h2 := (C.2.2.2.2.2.2.2.2.1.1.2 0 (cy 13, .byte) rfl).2
    exact Option.some.inj (hNm.symm.trans h2)
  subst hcA
  refine K H1 locs _ _ ls (hR.nw hn (by rw [z1, hR.2.1]) (fun q hq => o1 q (by rw [← hR.2.1]; exact hq)) ?_) hL hlo ?_ ?_
  · show H1[H00.size + μ.2.2.2.2.1]? = some (vp_cell _ _)
    rw [e1]
    dsimp only
    rw [vp_cell_i]
    congr 2
    funext j
    simp [am_nw, va_up, newarray.typeOf, defaultValue]
  · show c0 + (cells + 1) = μ.2.2.2.2.1 + 1
    omega
  · show z0 + (slots + x.toNatClampNeg) = μ.2.2.2.2.2 + x.toNatClampNeg
    omega
theorem am_s_newa14 {x : Int32} (C : am_Cx D cy H00 b Ln xs adK adV q p R s m args meth c) (hd : decode (am_ms q).2.1 pc = .ok (.newarray .int, 2)) (hn : μ.2.2.2.2.1 < 600000) (hx0 : ¬ x < 0) (hx : x.toNatClampNeg ≤ 60000) (hr1 : μ.2.2.2.2.1 + 1 ≤ c0 + R.cells) (hr2 : μ.2.2.2.2.2 + x.toNatClampNeg ≤ z0 + R.slots)
    (K : am_K D cy H00 b Ln xs adK c0 z0 p l e R s m args below meth c Q (q, pc + 2, L, .ref μ.2.2.2.2.1 :: S) (am_nw μ 14 x.toNatClampNeg x.toNatClampNeg)) : am_K D cy H00 b Ln xs adK c0 z0 p l e R s m args below meth c Q (q, pc, L, .int x :: S) μ := by
  intro H locs cells slots ls hR hL hlo hc hz
  have hts := C.2.2.2.2.2.1
  refine va_newaK (atype := .int) C.1 C.2.1 (hts (.arrayClass .int) am_ac14) rfl hd rfl hx0 rfl (by simp only [newarray.typeOf, componentBytes]; omega) (by omega) (by omega) hR.2.1 fun H1 cA e1 z1 o1 hAr hNm => ?_
  have hcA : cA = cy 14 := by
    have h2 := (C.2.2.2.2.2.2.2.2.1.1.2 1 (cy 14, .int) rfl).2
    exact Option.some.inj (hNm.symm.trans h2)
  subst hcA
  refine K H1 locs _ _ ls (hR.nw hn (by rw [z1, hR.2.1]) (fun q hq => o1 q (by rw [← hR.2.1]; exact hq)) ?_) hL hlo ?_ ?_
  · show H1[H00.size + μ.2.2.2.2.1]? = some (vp_cell _ _)
    rw [e1]
    dsimp only
    rw [vp_cell_i]
    congr 2
    funext j
    simp [am_nw, va_up, newarray.typeOf, defaultValue]
  · show c0 + (cells + 1) = μ.2.2.2.2.1 + 1
    omega
  · show z0 + (slots + x.toNatClampNeg) = μ.2.2.2.2.2 + x.toNatClampNeg
    omega
theorem am_s_newa15 {x : Int32} (C : am_Cx D cy H00 b Ln xs adK adV q p R s m args meth c) (hd : decode (am_ms q).2.1 pc = .ok (.newarray .long, 2)) (hn : μ.2.2.2.2.1 < 600000) (hx0 : ¬ x < 0) (hx : x.toNatClampNeg ≤ 60000) (hr1 : μ.2.2.2.2.1 + 1 ≤ c0 + R.cells) (hr2 : μ.2.2.2.2.2 + x.toNatClampNeg ≤ z0 + R.slots)
    (K : am_K D cy H00 b Ln xs adK c0 z0 p l e R s m args below meth c Q (q, pc + 2, L, .ref μ.2.2.2.2.1 :: S) (am_nw μ 15 x.toNatClampNeg x.toNatClampNeg)) : am_K D cy H00 b Ln xs adK c0 z0 p l e R s m args below meth c Q (q, pc, L, .int x :: S) μ := by
  intro H locs cells slots ls hR hL hlo hc hz
  have hts := C.2.2.2.2.2.1
  refine va_newaK (atype := .long) C.1 C.2.1 (hts (.arrayClass .long) am_ac15) rfl hd rfl hx0 rfl (by simp only [newarray.typeOf, componentBytes]; omega) (by omega) (by omega) hR.2.1 fun H1 cA e1 z1 o1 hAr hNm => ?_
  have hcA : cA = cy 15 := by
    have h2 := (C.2.2.2.2.2.2.2.2.1.1.2 2 (cy 15, .long) rfl).2
    exact Option.some.inj (hNm.symm.trans h2)
  subst hcA
  refine K H1 locs _ _ ls (hR.nw hn (by rw [z1, hR.2.1]) (fun q hq => o1 q (by rw [← hR.2.1]; exact hq)) ?_) hL hlo ?_ ?_
  · show H1[H00.size + μ.2.2.2.2.1]? = some (vp_cell _ _)
    rw [e1]
    dsimp only
    rw [vp_cell_l]
    congr 2
    funext j
    simp [am_nw, va_up, newarray.typeOf, defaultValue]
  · show c0 + (cells + 1) = μ.2.2.2.2.1 + 1
    omega
  · show z0 + (slots + x.toNatClampNeg) = μ.2.2.2.2.2 + x.toNatClampNeg
    omega
theorem am_s_newa16 {x : Int32} (C : am_Cx D cy H00 b Ln xs adK adV q p R s m args meth c) (hd : decode (am_ms q).2.1 pc = .ok (.newarray .boolean, 2)) (hn : μ.2.2.2.2.1 < 600000) (hx0 : ¬ x < 0) (hx : x.toNatClampNeg ≤ 60000) (hr1 : μ.2.2.2.2.1 + 1 ≤ c0 + R.cells) (hr2 : μ.2.2.2.2.2 + x.toNatClampNeg ≤ z0 + R.slots)
    (K : am_K D cy H00 b Ln xs adK c0 z0 p l e R s m args below meth c Q (q, pc + 2, L, .ref μ.2.2.2.2.1 :: S) (am_nw μ 16 x.toNatClampNeg x.toNatClampNeg)) : am_K D cy H00 b Ln xs adK c0 z0 p l e R s m args below meth c Q (q, pc, L, .int x :: S) μ := by
  intro H locs cells slots ls hR hL hlo hc hz
  have hts := C.2.2.2.2.2.1
  refine va_newaK (atype := .boolean) C.1 C.2.1 (hts (.arrayClass .boolean) am_ac16) rfl hd rfl hx0 rfl (by simp only [newarray.typeOf, componentBytes]; omega) (by omega) (by omega) hR.2.1 fun H1 cA e1 z1 o1 hAr hNm => ?_
  have hcA : cA = cy 16 := by
    have h2 := (C.2.2.2.2.2.2.2.2.1.1.2 3 (cy 16, .boolean) rfl).2
    exact Option.some.inj (hNm.symm.trans h2)
  subst hcA
  refine K H1 locs _ _ ls (hR.nw hn (by rw [z1, hR.2.1]) (fun q hq => o1 q (by rw [← hR.2.1]; exact hq)) ?_) hL hlo ?_ ?_
  · show H1[H00.size + μ.2.2.2.2.1]? = some (vp_cell _ _)
    rw [e1]
    dsimp only
    rw [vp_cell_i]
    congr 2
    funext j
    simp [am_nw, va_up, newarray.typeOf, defaultValue]
  · show c0 + (cells + 1) = μ.2.2.2.2.1 + 1
    omega
  · show z0 + (slots + x.toNatClampNeg) = μ.2.2.2.2.2 + x.toNatClampNeg
    omega
theorem am_s_anew {idx : Nat} {x : Int32} (C : am_Cx D cy H00 b Ln xs adK adV q p R s m args meth c) (hd : decode (am_ms q).2.1 pc = .ok (.anewarray idx, 3)) (hC : am_hasC (am_ms q).2.2.2.2 idx 6 = true) (hn : μ.2.2.2.2.1 < 600000) (hx0 : ¬ x < 0) (hx : x.toNatClampNeg ≤ 60000) (hr1 : μ.2.2.2.2.1 + 1 ≤ c0 + R.cells) (hr2 : μ.2.2.2.2.2 + x.toNatClampNeg ≤ z0 + R.slots)
    (K : am_K D cy H00 b Ln xs adK c0 z0 p l e R s m args below meth c Q (q, pc + 3, L, .ref μ.2.2.2.2.1 :: S) (am_nw μ 17 x.toNatClampNeg x.toNatClampNeg)) : am_K D cy H00 b Ln xs adK c0 z0 p l e R s m args below meth c Q (q, pc, L, .int x :: S) μ := by
  intro H locs cells slots ls hR hL hlo hc hz
  have hts := C.2.2.2.2.2.1
  obtain ⟨y, hy, h⟩ := List.any_eq_true.mp hC
  simp only [Bool.and_eq_true, beq_iff_eq] at h
  have hw := hts _ (am_at_in (List.all_eq_true.mp am_C_ok y hy))
  rw [h.1.1, h.1.2, h.2] at hw
  refine W.anew (C := "TenthBean$Now") C.1 C.2.1 C.2.2.2.2.1 hw C.2.2.2.2.2.2.2.2.1.2.2.2.2.2.2.2.1.use rfl hd rfl hx0 (by omega) (by omega) (by omega) fun cA kA comp hNm h2 h3 h4 => ?_
  have hcA : cA = cy 17 := by
    obtain ⟨_, _, -, -, -, h9⟩ := (C.2.2.2.2.2.2.2.2.1.1.2 4 (cy 17, .object "TenthBean$Now") rfl).2
    exact Option.some.inj (hNm.symm.trans h9)
  subst hcA
  have hz2 := hR.2.1
  have hsz : H.size = H00.size + μ.2.2.2.2.1 := hz2
  have hk := K (H.push { cls := cy 17, slots := Array.replicate x.toNatClampNeg .null, vm := .none }) locs (cells + 1) (slots + x.toNatClampNeg) ls (hR.nw hn (by simp) (fun q hq => by rw [Array.getElem?_push, if_neg (Nat.ne_of_lt hq)]) ?_) hL hlo ?_ ?_
  · rw [List.map_cons] at hk
    have e : am_cv H00.size b adK (.ref μ.2.2.2.2.1) = .ref H.size := by rw [hsz]; rfl
    rw [e] at hk
    exact hk
  · show (H.push _)[H00.size + μ.2.2.2.2.1]? = some (vp_cell _ _)
    rw [← hsz, arrV_new, Array.getElem?_push_size]
    dsimp only
    rw [vp_cell_q]
    congr 2
    funext j
    simp [am_nw, va_up, va_rf]
  · show c0 + (cells + 1) = μ.2.2.2.2.1 + 1
    omega
  · show z0 + (slots + x.toNatClampNeg) = μ.2.2.2.2.2 + x.toNatClampNeg
    omega
end SND2
