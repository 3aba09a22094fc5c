/-! HOW THE RELATION MOVES: stores, new cells -/
theorem am_N_eq {k : Nat} {r : vw_C} (h : vwCl[k]? = some r) : am_N k = r.2.2 := by
  have hk : k < 13 := (List.getElem?_eq_some_iff.mp h).1
  match k, hk with
  | 0, _ => cases h; rfl
  | 1, _ => cases h; rfl
  | 2, _ => cases h; rfl
  | 3, _ => cases h; rfl
  | 4, _ => cases h; rfl
  | 5, _ => cases h; rfl
  | 6, _ => cases h; rfl
  | 7, _ => cases h; rfl
  | 8, _ => cases h; rfl
  | 9, _ => cases h; rfl
  | 10, _ => cases h; rfl
  | 11, _ => cases h; rfl
  | 12, _ => cases h; rfl
theorem am_cl {k : Nat} (hk : k < 13) : ∃ r : vw_C, vwCl[k]? = some r := ⟨_, List.getElem?_eq_getElem (h := hk)⟩
theorem am_vp {z : Nat} {μ : am_M} {a k j : Nat} (h : j < am_N k) : vp_V (am_fs z μ a k) j = am_fv z μ a k j := by
  simp [vp_V, am_fs, List.getD_eq_getElem?_getD, List.getElem?_map, List.getElem?_range h]
theorem am_fs_get {z : Nat} {μ : am_M} {a k j : Nat} (h : j < am_N k) : (am_fs z μ a k)[j]? = some (am_fv z μ a k j) := by
  simp [am_fs, List.getElem?_map, List.getElem?_range h]
theorem am_fs_len {z : Nat} {μ : am_M} {a k : Nat} : (am_fs z μ a k).length = am_N k := by simp [am_fs]
theorem am_ce_obj {z : Nat} {cy : Nat → ClassId} {μ : am_M} {a k len : Nat} (hk : k < 13) : am_ce z cy μ a k len = .inr (k, am_fs z μ a k) := by
  unfold am_ce
  split <;> first | omega | rfl
theorem am_ce_congr {z : Nat} {cy : Nat → ClassId} {μ μ' : am_M} {a k len : Nat} (h1 : μ'.1 a = μ.1 a) (h2 : μ'.2.1 a = μ.2.1 a) (h3 : μ'.2.2.1 a = μ.2.2.1 a) : am_ce z cy μ' a k len = am_ce z cy μ a k len := by
  have hf : am_fs z μ' a k = am_fs z μ a k := by
    unfold am_fs
    refine List.map_congr_left fun i _ => ?_
    unfold am_fv
    rw [h1, h2, h3]
  unfold am_ce
  split <;> simp [h1, h2, h3, hf]
section AMR
variable {D : va_G} {cy : Nat → ClassId} {H00 : Heap} {Ln : Nat} {xs : Nat → Int32}
theorem am_Rel.upd {μ μ' : am_M} {H H1 : Heap} {a : Nat} (h : am_Rel D cy H00 Ln xs μ H) (ha : (μ.2.2.2.1 a).1 < 18) (hz : H1.size = H.size) (ho : ∀ q : Nat, q ≠ H00.size + a → H1[q]? = H[q]?)
    (hs : ∀ b, b ≠ a → μ'.1 b = μ.1 b ∧ μ'.2.1 b = μ.2.1 b ∧ μ'.2.2.1 b = μ.2.2.1 b) (hk : μ'.2.2.2 = μ.2.2.2) (hat : va_at D vwCl (H00.size + a, am_ce H00.size cy μ' a (μ.2.2.2.1 a).1 (μ.2.2.2.1 a).2) H1) : am_Rel D cy H00 Ln xs μ' H1 := by
  obtain ⟨h1, h2, h3, h4, h5, h6⟩ := h
  have hsc : am_SC ≠ a := fun e => by rw [← e, h4] at ha; omega
  refine ⟨fun q hq => by rw [ho q (by omega)]; exact h1 q hq, by rw [hz, h2, hk], fun b hb => ?_, by rw [hk]; exact h4, fun j hj => by rw [(hs am_SC hsc).1]; exact h5 j hj, by rw [hk]; exact h6⟩
  rw [hk] at hb ⊢
  by_cases hba : b = a
  · subst hba
    exact hat
  · obtain ⟨e1, e2, e3⟩ := hs b hba
    rw [am_ce_congr e1 e2 e3]
    exact (h3 b hb).kept (ho _ (by show H00.size + b ≠ _; omega))
theorem am_u_ne {α : Type} {f : Nat → Nat → α} {a k b : Nat} {v : α} (h : b ≠ a) : am_u f a k v b = f b := by simp [am_u, va_up, h]
theorem am_u_eq {α : Type} {f : Nat → Nat → α} {a k : Nat} {v : α} : am_u f a k v a = va_up (f a) k v := by simp [am_u, va_up]
theorem am_Rel.nw {μ : am_M} {H H1 : Heap} {k len sl : Nat} (h : am_Rel D cy H00 Ln xs μ H) (hn : μ.2.2.2.2.1 < 600000) (hz : H1.size = H.size + 1) (ho : ∀ q : Nat, q < H.size → H1[q]? = H[q]?)
    (hat : va_at D vwCl (H00.size + μ.2.2.2.2.1, am_ce H00.size cy (am_nw μ k len sl) μ.2.2.2.2.1 k len) H1) : am_Rel D cy H00 Ln xs (am_nw μ k len sl) H1 := by
  obtain ⟨h1, h2, h3, h4, h5, h6⟩ := h
  have hsc : am_SC ≠ μ.2.2.2.2.1 := fun e => by unfold am_SC at e; omega
  refine ⟨fun q hq => by rw [ho q (by omega)]; exact h1 q hq, by rw [hz, h2]; rfl, fun b hb => ?_, by simp only [am_nw, va_up, if_neg hsc]; exact h4, fun j hj => by simp only [am_nw, va_up, if_neg hsc]; exact h5 j hj, hn⟩
  by_cases hba : b = μ.2.2.2.2.1
  · subst hba
    have e : (am_nw μ k len sl).2.2.2.1 μ.2.2.2.2.1 = (k, len) := by simp [am_nw, va_up]
    rw [e]
    exact hat
  · have e : (am_nw μ k len sl).2.2.2.1 b = μ.2.2.2.1 b := by simp [am_nw, va_up, hba]
    rw [e] at hb ⊢
    rw [am_ce_congr (μ := μ) (by simp [am_nw, va_up, hba]) (by simp [am_nw, va_up, hba]) (by simp [am_nw, va_up, hba])]
    have := h3 b hb
    exact this.kept (ho _ (this.lt))
theorem am_Rel.obj {μ : am_M} {H : Heap} {a k : Nat} (h : am_Rel D cy H00 Ln xs μ H) (ha : (μ.2.2.2.1 a).1 = k) (hk : k < 13) : va_at D vwCl (H00.size + a, .inr (k, am_fs H00.size μ a k)) H := by
  have := h.2.2.1 a (by omega)
  rw [ha, am_ce_obj hk] at this
  exact this
theorem am_Rel.arr {μ : am_M} {H : Heap} {a k : Nat} (h : am_Rel D cy H00 Ln xs μ H) (ha : (μ.2.2.2.1 a).1 = k) (hk : k < 18) : va_at D vwCl (H00.size + a, am_ce H00.size cy μ a k (μ.2.2.2.1 a).2) H := by
  have := h.2.2.1 a (by omega)
  rw [ha] at this
  exact this
end AMR
theorem am_P1 {D : va_G} {cl : List vw_C} {q : Nat × va_E} {H : Heap} (h : va_at D cl q H) : va_P D cl [q] H := fun k x hx => by
  have hz : k < 1 := (List.getElem?_eq_some_iff.mp hx).1
  rw [show k = 0 by omega] at hx
  cases hx
  exact h
theorem am_fty_in : ∀ w ∈ u_ws RX0 TX0 3, w ∈ am_gw := by decide +kernel
