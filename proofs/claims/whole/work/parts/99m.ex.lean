/-! WHAT ISN'T A METHOD OF THE TABLES, all of it -/
theorem ax_lk : am_lkX.all (fun x => decide ((x.2.2.1 = 9001 ∨ x.2.2.1 = 9002 → x.1 ≠ 0 ∧ x.1 ≠ 6) ∧ (x.2.2.1 = 9004 → x.1 = 13))) = true := by decide +kernel
theorem ax_ow3 : ∀ q, q < 3 → (am_ms q).2.2.2.2 = 0 ∨ (am_ms q).2.2.2.2 = 6 := by decide +kernel
theorem ax_ow9 : ∀ q, q < 10 → (am_ms q).2.2.2.2 ≠ 13 := by decide +kernel
theorem ax_qX {q idx ce : Nat} (h : am_hasX (am_ms q).2.2.2.2 idx ce = true) : (ce = 9001 ∨ ce = 9002 → 3 ≤ q) ∧ (ce = 9004 → 10 ≤ q) := by
  obtain ⟨x, hx, h⟩ := List.any_eq_true.mp h
  simp only [Bool.and_eq_true, beq_iff_eq] at h
  have h1 := of_decide_eq_true (List.all_eq_true.mp ax_lk x hx)
  rw [h.1.1, h.2] at h1
  refine ⟨fun hc => Nat.not_lt.mp fun hq => ?_, fun hc => Nat.not_lt.mp fun hq => ax_ow9 q hq (h1.2 hc)⟩
  rcases ax_ow3 q hq with e | e
  · exact (h1.1 hc).1 e
  · exact (h1.1 hc).2 e
theorem ax_s128 : am_strs.all (fun l => l.all (fun c => decide (c < 128))) = true := by decide +kernel
theorem ax_sch (j i : Nat) : am_sch j i < 128 := by
  unfold am_sch
  rw [List.getD_eq_getElem?_getD, List.getD_eq_getElem?_getD]
  cases h : am_strs[j]? with
  | none => simp
  | some l =>
    have h1 := List.all_eq_true.mp ax_s128 l (List.mem_of_getElem? h)
    cases h2 : l[i]? with
    | none => simp [h2]
    | some v =>
      have h3 : v < 128 := of_decide_eq_true (List.all_eq_true.mp h1 v (List.mem_of_getElem? h2))
      simpa [h2] using h3
theorem ax_slen : ∀ j, j < 47 → am_slen j < 100 := by decide +kernel
theorem ax_ltn {i : Int32} {N : Nat} (hN : N < 2 ^ 31) (h0 : ¬ i < 0) (h : i.toNatClampNeg < N) : i < nI N := by
  rw [Int32.lt_iff_toInt_lt, am_nn h0, nI_toInt hN]
  omega
section AXE
variable {p : Program} {l : Launch} {e : Env} {R : Room} {s : State} {m : MethodId} {args : Array Value} {below : List Frame} {meth : Method} {c : Code} {Q : State → Prop}
variable {D : va_G} {cy : Nat → ClassId} {H00 : Heap} {b Ln : Nat} {xs : Nat → Int32} {adK adV : Nat → Nat} {c0 z0 q pc : Nat} {L S : List Value} {μ : am_M} {idx : Nat}
theorem ax_KK {H : Heap} (hK : am_KK D cy H00 b Ln xs adK adV s) (hR : am_Rel D cy H00 Ln xs μ H) {j : Nat} (hj : j < 47) : ax_K (adK j) (adV j) (am_slen j) (fun k => .int (nI (am_sch j k))) (fun q => H00.size ≤ q) H s := by
  have hq : ∀ a : Nat, a < H00.size → ¬ (H00.size ≤ a) → H[a]? = H00[a]? := fun a ha _ => hR.1 a ha
  have h1 := hK.2.2.2.2.1.1 j hj
  have h2 := am_ZZ.kept hK.2.2.2.2.1.2 hq
  exact ⟨h2.1, h2.2.1, h1.1.kept hq, h1.2.1.kept hq, h1.2.2.1.kept hq, h1.2.2.2.kept hq⟩
theorem am_x_len {j : UInt32} (C : am_Cx D cy H00 b Ln xs adK adV q p R s m args meth c) (hd : decode (am_ms q).2.1 pc = .ok (.invokevirtual idx, 3)) (hX : am_hasX (am_ms q).2.2.2.2 idx 9001 = true) (hcat : am_cat S ≤ 8) (hj : j.toNat < 47) (hr1 : μ.2.2.2.2.1 ≤ c0 + R.cells) (hr2 : μ.2.2.2.2.2 ≤ z0 + R.slots)
    (K : am_K D cy H00 b Ln xs adK c0 z0 p l e R s m args below meth c Q (q, pc + 3, L, .int (nI (am_slen j.toNat)) :: S) μ) : am_K D cy H00 b Ln xs adK c0 z0 p l e R s m args below meth c Q (q, pc, L, .float j :: S) μ := by
  intro H locs cells slots ls hR hL hlo hc hz
  have hts := C.2.2.2.2.2.1
  have hfr := C.2.2.2.2.2.2.2.2.2.1
  have hlc := C.2.2.2.2.2.2.2.2.2.2
  have h3 := (ax_qX hX).1 (Or.inl rfl)
  have hK' := ax_KK C.2.2.2.2.2.2.2.2.1 hR hj
  exact ax_cV (As := []) (b := adK j.toNat) (rest := S.map (am_cv H00.size b adK)) (v := some (.int (nI (am_slen j.toNat)))) C.1 C.2.1 C.2.2.1 C.2.2.2.2.1 hts hK' ax_length ax_cd_length ax_ini0 (am_hasX_link hts hX) ax_in_length ax_se_length ax_d_length ⟨by omega, by omega⟩ (ax_recv hK') hL.1 rfl (by rw [am_cat_cv]; exact hcat) ⟨by omega, by omega⟩ hd (K H locs cells slots ls hR hL hlo hc hz)
theorem am_x_chr {j : UInt32} {i : Int32} (C : am_Cx D cy H00 b Ln xs adK adV q p R s m args meth c) (hd : decode (am_ms q).2.1 pc = .ok (.invokevirtual idx, 3)) (hX : am_hasX (am_ms q).2.2.2.2 idx 9002 = true) (hcat : am_cat S ≤ 8) (hj : j.toNat < 47) (ho : am_out i (am_slen j.toNat) = false) (hr1 : μ.2.2.2.2.1 ≤ c0 + R.cells) (hr2 : μ.2.2.2.2.2 ≤ z0 + R.slots)
    (K : am_K D cy H00 b Ln xs adK c0 z0 p l e R s m args below meth c Q (q, pc + 3, L, .int (nI (am_sch j.toNat i.toNatClampNeg)) :: S) μ) : am_K D cy H00 b Ln xs adK c0 z0 p l e R s m args below meth c Q (q, pc, L, .int i :: .float j :: S) μ := by
  intro H locs cells slots ls hR hL hlo hc hz
  have hts := C.2.2.2.2.2.1
  have hfr := C.2.2.2.2.2.2.2.2.2.1
  have hlc := C.2.2.2.2.2.2.2.2.2.2
  have h3 := (ax_qX hX).1 (Or.inr rfl)
  have hK' := ax_KK C.2.2.2.2.2.2.2.2.1 hR hj
  have hin := am_out_in ho
  have h0 : ¬ i < 0 := fun h => hin (Or.inl h)
  have h1 : i.toNatClampNeg < am_slen j.toNat := Nat.not_le.mp fun h => hin (Or.inr h)
  have h9 := ax_slen j.toNat hj
  exact ax_cV (As := [.int i]) (b := adK j.toNat) (rest := S.map (am_cv H00.size b adK)) (v := some (.int (nI (am_sch j.toNat i.toNatClampNeg)))) C.1 C.2.1 C.2.2.1 C.2.2.2.2.1 hts hK' (ax_charAt h0 (ax_ltn (by omega) h0 h1) hin rfl (ax_sch _ _)) ax_cd_charAt ax_ini0 (am_hasX_link hts hX) ax_in_charAt ax_se_charAt ax_d_charAt ⟨by omega, by omega⟩ (ax_recv hK') hL.1 rfl (by rw [am_cat_cv]; exact hcat) ⟨by omega, by omega⟩ hd (K H locs cells slots ls hR hL hlo hc hz)
theorem ax_okl {x : Nat} (h : am_ledok μ x = true) : ∃ t w, μ.2.2.1 x 3 = some t ∧ μ.2.2.1 x 4 = some w ∧ (μ.2.2.2.1 t).1 = 4 ∧ μ.1 t 5 ≤ 8 ∧ (μ.2.2.2.1 w).1 = 6 := by
  unfold am_ledok at h
  split at h
  · next t w h1 h2 =>
    simp only [Bool.and_eq_true, decide_eq_true_eq] at h
    exact ⟨t, w, h1, h2, h.1.1, h.1.2, h.2⟩
  · cases h
theorem ax_sw {rm : Room} {mc ms : Nat} {o : Nat} (hts : ∀ w ∈ am_gw, w.before args s = true) (hX : am_hasX o idx 9004 = true) (hrc : rm.cells = mc) (hrs : rm.slots = ms) (hf : rm.frames + 1 ≤ R.frames) (hl : 8 + (4 + 11) + rm.locals ≤ R.locals) : vx_CSW R s args (am_own o) idx yL_led cL_led 4 (some .int) [(0, 9, 12, 13)] (Cond.codeWith yL_led cL_led 4 (some .int) [(0, 9, 12, 13)] :: am_gw) rm mc ms 3 := by
  refine ⟨⟨hrc, hrs, hf, hl, pay_in hts (am_good ax_cw_led), List.mem_cons_self⟩, hts _ ax_cw_led, hts _ ax_iniW, ⟨ax_d_law.1, ax_d_law.2.1⟩, fun sig h => ?_, am_hasX_link hts hX, hts _ ax_st_law⟩
  have h2 := ax_d_law.2.2
  rw [h] at h2
  exact (Option.some.inj h2).symm
theorem am_x_ledS {d x k : Nat} {i : Int32} (C : am_Cx D cy H00 b Ln xs adK adV q p R s m args meth c) (hd : decode (am_ms q).2.1 pc = .ok (.invokestatic idx, 3)) (hX : am_hasX (am_ms q).2.2.2.2 idx 9004 = true) (hcat : am_cat S ≤ 8) (hx : (μ.2.2.2.1 x).1 = 11) (hd15 : μ.2.2.2.1 d = (15, 1)) (hok : am_ledok μ x = true) (hs : am_led μ x i 0 0 9 = some k) (hr1 : μ.2.2.2.2.1 ≤ c0 + R.cells) (hr2 : μ.2.2.2.2.2 ≤ z0 + R.slots)
    (K : am_K D cy H00 b Ln xs adK c0 z0 p l e R s m args below meth c Q (q, pc + 3, L, .int 0 :: S) (am_sl μ d 0 (nI k).toInt64)) : am_K D cy H00 b Ln xs adK c0 z0 p l e R s m args below meth c Q (q, pc, L, .ref d :: .int i :: .ref x :: S) μ := by
  intro H locs cells slots ls hR hL hlo hc hz
  have hts := C.2.2.2.2.2.1
  have hfr := C.2.2.2.2.2.2.2.2.2.1
  have hlc := C.2.2.2.2.2.2.2.2.2.2
  have h3 := (ax_qX hX).2 rfl
  have hKK := C.2.2.2.2.2.2.2.2.1
  obtain ⟨t, w, h1, h2, h4, h5, h6⟩ := ax_okl hok
  refine am_after (vx_runSW (g := F0 m pc ls ((Value.ref d :: .int i :: .ref x :: S).map (am_cv H00.size b adK))) (As := [.ref (H00.size + x), .int i, .ref (H00.size + d)]) (rest := S.map (am_cv H00.size b adK)) ⟨C.1, C.2.1, C.2.2.1, C.2.2.2.2.1, hts⟩ (ax_lawS hd15 hx h1 h2 h4 h5 h6 hs) (ax_sw hts hX rfl rfl (by show 9 + 1 ≤ R.frames; omega) (by show 8 + (4 + 11) + 223 ≤ R.locals; omega)) ⟨ax_blind, fun U hU hW => ⟨rfl, by rw [hU]; exact hR, hKK.warm hW⟩⟩ rfl rfl hL.1 rfl (by rw [am_cat_cv]; show 2 * 0 + _ ≤ 8; omega) hd ⟨by omega, by omega⟩) (fun v st t1 Lc hq hLc => ?_)
  obtain ⟨hv, hR1⟩ := hq
  have hv := Outcome.returned.inj hv
  subst hv
  exact K t1.heap (locs ++ Lc) (cells + 0) (slots + 0) ls hR1 hL (fun y hy => (List.mem_append.mp hy).elim (hlo y) (hLc y)) hc hz
theorem am_x_ledN {d x : Nat} {i : Int32} (hst : l.stackTraces = false) (C : am_Cx D cy H00 b Ln xs adK adV q p R s m args meth c) (hd : decode (am_ms q).2.1 pc = .ok (.invokestatic idx, 3)) (hX : am_hasX (am_ms q).2.2.2.2 idx 9004 = true) (hcat : am_cat S ≤ 8) (hx : (μ.2.2.2.1 x).1 = 11) (hn : μ.2.2.2.2.1 < 600000) (hok : am_ledok μ x = true) (hs : am_led μ x i 0 0 9 = none) (hr1 : μ.2.2.2.2.1 + 1 ≤ c0 + R.cells) (hr2 : μ.2.2.2.2.2 + 6 ≤ z0 + R.slots)
    (K : am_K D cy H00 b Ln xs adK c0 z0 p l e R s m args below meth c Q (q, pc + 3, L, .int 1 :: S) (am_jk μ 6)) : am_K D cy H00 b Ln xs adK c0 z0 p l e R s m args below meth c Q (q, pc, L, .ref d :: .int i :: .ref x :: S) μ := by
  intro H locs cells slots ls hR hL hlo hc hz
  have hts := C.2.2.2.2.2.1
  have hfr := C.2.2.2.2.2.2.2.2.2.1
  have hlc := C.2.2.2.2.2.2.2.2.2.2
  have h3 := (ax_qX hX).2 rfl
  have hKK := C.2.2.2.2.2.2.2.2.1
  obtain ⟨t, w, h1, h2, h4, h5, h6⟩ := ax_okl hok
  refine am_after (vx_runSW (g := F0 m pc ls ((Value.ref d :: .int i :: .ref x :: S).map (am_cv H00.size b adK))) (As := [.ref (H00.size + x), .int i, .ref (H00.size + d)]) (rest := S.map (am_cv H00.size b adK)) ⟨C.1, C.2.1, C.2.2.1, C.2.2.2.2.1, hts⟩ (ax_lawN hst hn hx h1 h2 h4 h5 h6 hs) (ax_sw hts hX rfl rfl (by show 9 + 1 ≤ R.frames; omega) (by show 8 + (4 + 11) + 223 ≤ R.locals; omega)) ⟨ax_blind, fun U hU hW => ⟨rfl, by rw [hU]; exact hR, hKK.warm hW⟩⟩ rfl rfl hL.1 rfl (by rw [am_cat_cv]; show 2 * 0 + _ ≤ 8; omega) hd ⟨by omega, by omega⟩) (fun v st t1 Lc hq hLc => ?_)
  obtain ⟨hv, hR1⟩ := hq
  have hv := Outcome.returned.inj hv
  subst hv
  exact K t1.heap (locs ++ Lc) (cells + 1) (slots + 6) ls hR1 hL (fun y hy => (List.mem_append.mp hy).elim (hlo y) (hLc y)) (by show c0 + (cells + 1) = μ.2.2.2.2.1 + 1; omega) (by show z0 + (slots + 6) = μ.2.2.2.2.2 + 6; omega)
end AXE
theorem am_EX_all {l : Launch} (hst : l.stackTraces = false) {D : va_G} {cy : Nat → ClassId} {H00 : Heap} {b Ln : Nat} {xs : Nat → Int32} {adK adV : Nat → Nat} : am_EX l D cy H00 b Ln xs adK adV := by
  intro p e R s m args below meth c Q c0 z0 q pc L S μ f' μ' idx ce i hi C hd hX hext hr1 hr2 K
  rcases hi with ⟨rfl, hce⟩ | ⟨rfl, rfl⟩ | ⟨rfl, rfl | rfl⟩
  · unfold am_ext at hext
    split at hext
    · omega
    · omega
    · omega
    · split at hext
      · obtain ⟨⟨h1, h2, h3, -, h5, h6, h7, h8, h9⟩, he⟩ := am_b_inv hext
        cases he
        exact am_x_copy C hd hX h1 h2 h3 h5 h6 h7 h8 h9 K
      · cases hext
    · split at hext
      · obtain ⟨h1, he⟩ := am_b_inv hext
        cases he
        exact am_x_max C hd hX h1 hr1 hr2 K
      · cases hext
    · split at hext
      · obtain ⟨h1, he⟩ := am_b_inv hext
        cases he
        exact am_x_min C hd hX h1 hr1 hr2 K
      · cases hext
    · split at hext
      · obtain ⟨⟨h1, h2, h3, h4, h5⟩, he⟩ := am_b_inv hext
        split at he
        · next k hk =>
          cases he
          exact am_x_ledS C hd hX h1 h2 h3 h5 hk hr1 hr2 K
        · next hk =>
          cases he
          exact am_x_ledN hst C hd hX h1 h2 h4 h5 hk hr1 hr2 K
      · cases hext
    · cases hext
  · change am_oini q pc L S μ = _ at hext
    unfold am_oini at hext
    split at hext
    · obtain ⟨h1, he⟩ := am_b_inv hext
      cases he
      exact am_x_init C hd hX h1 K
    · cases hext
  · change (match S with | .float j :: S => am_b (am_cat S ≤ 8 ∧ j.toNat < 47) (am_nx (q, pc + 3, L, .int (nI (am_slen j.toNat)) :: S) μ) none | _ => none) = _ at hext
    split at hext
    · obtain ⟨⟨h1, h2⟩, he⟩ := am_b_inv hext
      cases he
      exact am_x_len C hd hX h1 h2 hr1 hr2 K
    · cases hext
  · change (match S with | .int i :: .float j :: S => am_b (am_cat S ≤ 8 ∧ j.toNat < 47 ∧ am_out i (am_slen j.toNat) = false) (am_nx (q, pc + 3, L, .int (nI (am_sch j.toNat i.toNatClampNeg)) :: S) μ) none | _ => none) = _ at hext
    split at hext
    · obtain ⟨⟨h1, h2, h3⟩, he⟩ := am_b_inv hext
      cases he
      exact am_x_chr C hd hX h1 h2 h3 hr1 hr2 K
    · cases hext
