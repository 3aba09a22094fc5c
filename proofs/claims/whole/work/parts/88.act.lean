/-! WHAT AN ACT CHANGES, and that the state's relation stands behind it -/
def KeS {α : Type} (S : Nat → Nat → Prop) (f f' : Nat → Nat → α) : Prop := ∀ a k, ¬ S a k → f' a k = f a k
section KES
variable {α : Type} {S : Nat → Nat → Prop} {f f' f'' : Nat → Nat → α} {a k : Nat}
theorem ks_rfl : KeS S f f := fun _ _ _ => rfl
theorem ks_u {x : α} (s : S a k) (h : KeS S f f') : KeS S f (am_u f' a k x) := fun b j n => by
  rw [au_ne, h b j n]
  by_cases c : b = a
  · refine Or.inr fun e => n ?_
    rw [c, e]; exact s
  · exact Or.inl c
theorem ks_v {x : Nat → α} (s : ∀ k, S a k) (h : KeS S f f') : KeS S f (va_up f' a x) := fun b j n => by
  have c : b ≠ a := fun e => n (by rw [e]; exact s j)
  rw [show va_up f' a x b = f' b from va_up_ne _ _ c, h b j n]
theorem ks_uo {x : α} (e : x = f a k) (h : KeS S f f') : KeS S f (am_u f' a k x) := fun b j n => by
  by_cases c : b = a ∧ j = k
  · obtain ⟨rfl, rfl⟩ := c
    rw [au_eq]; exact e
  · rw [au_ne _ _ (by omega), h b j n]
theorem ks_vo {x : Nat → α} (e : x = f a) (h : KeS S f f') : KeS S f (va_up f' a x) := fun b j n => by
  by_cases c : b = a
  · subst c
    rw [show va_up f' b x b = x from va_up_self _ _ _, e]
  · rw [show va_up f' a x b = f' b from va_up_ne _ _ c, h b j n]
theorem ks_tr (h : KeS S f f') (g : KeS S f' f'') : KeS S f f'' := fun a k n => (g a k n).trans (h a k n)
theorem ks_row (h : KeS S f f') (n : ∀ k, ¬ S a k) : f' a = f a := funext fun k => h a k (n k)
end KES
def S2 (l a k : Nat) : Prop := Scr l a k ∨ (40 ≤ a ∧ a ≤ 142) ∨ (182 ≤ a ∧ a ≤ 184) ∨ (a = 177 ∧ (k = 20 ∨ k = 21))
def P2 (a k : Nat) : Prop := (143 ≤ a ∧ a ≤ 176) ∨ (40 ≤ a ∧ a ≤ 142 ∧ k = 0)
theorem HistR_congr {M P A : Nat} {kp kb ks kp' kb' ks' : Nat → Int32} {kt kf ka kl kt' kf' ka' kl' : Nat → Nat → Int32} {u : Nat → Int32} (h : HistR M P A kp kb ks kt kf ka kl u) (e : ∀ i, i < 16 → kp' i = kp i ∧ kb' i = kb i ∧ ks' i = ks i ∧ kt' i = kt i ∧ kf' i = kf i ∧ ka' i = ka i ∧ kl' i = kl i) : HistR M P A kp' kb' ks' kt' kf' ka' kl' u :=
  ⟨h.1, h.2.1, fun i hi => by
    obtain ⟨e1, e2, e3, e4, e5, e6, e7⟩ := e _ (slot_lt P A i)
    rw [e1, e2, e3, e4, e5, e6, e7]; exact h.2.2 i hi⟩
theorem ImgR_congr {M I : Nat} {kp kb ks kp' kb' ks' : Nat → Int32} {kt kf ka kl kt' kf' ka' kl' : Nat → Nat → Int32} {u : Nat → Int32} (h : ImgR M I kp kb ks kt kf ka kl u) (e : ∀ i, i < 3 → kp' i = kp i ∧ kb' i = kb i ∧ ks' i = ks i ∧ kt' i = kt i ∧ kf' i = kf i ∧ ka' i = ka i ∧ kl' i = kl i) : ImgR M I kp' kb' ks' kt' kf' ka' kl' u :=
  ⟨h.1, fun i hi => by
    have := h.1
    obtain ⟨e1, e2, e3, e4, e5, e6, e7⟩ := e i (by omega)
    rw [e1, e2, e3, e4, e5, e6, e7]; exact h.2 i hi⟩
theorem hist_keep {M TP A : Nat} {f f' : Nat → Nat → Int32} (h : HistR M TP A (fun i => f (5 * i + 48) 1) (fun i => f (5 * i + 48) 2) (fun i => f (5 * i + 48) 3) (fun i => f (5 * i + 49)) (fun i => f (5 * i + 50)) (fun i => f (5 * i + 51)) (fun i => f (5 * i + 52)) (f 183)) (e : ∀ a k, (48 ≤ a ∧ a ≤ 127) ∨ a = 183 → f' a k = f a k) : HistR M TP A (fun i => f' (5 * i + 48) 1) (fun i => f' (5 * i + 48) 2) (fun i => f' (5 * i + 48) 3) (fun i => f' (5 * i + 49)) (fun i => f' (5 * i + 50)) (fun i => f' (5 * i + 51)) (fun i => f' (5 * i + 52)) (f' 183) := by
  have R : ∀ a, (48 ≤ a ∧ a ≤ 127) ∨ a = 183 → f' a = f a := fun a h => funext fun k => e a k h
  rw [R 183 (by omega)]
  exact HistR_congr h fun i hi => ⟨e _ _ (by omega), e _ _ (by omega), e _ _ (by omega), R _ (by omega), R _ (by omega), R _ (by omega), R _ (by omega)⟩
theorem img_keep {M I : Nat} {f f' : Nat → Nat → Int32} (h : ImgR M I (fun i => f (5 * i + 128) 1) (fun i => f (5 * i + 128) 2) (fun i => f (5 * i + 128) 3) (fun i => f (5 * i + 129)) (fun i => f (5 * i + 130)) (fun i => f (5 * i + 131)) (fun i => f (5 * i + 132)) (f 184)) (e : ∀ a k, (128 ≤ a ∧ a ≤ 142) ∨ a = 184 → f' a k = f a k) : ImgR M I (fun i => f' (5 * i + 128) 1) (fun i => f' (5 * i + 128) 2) (fun i => f' (5 * i + 128) 3) (fun i => f' (5 * i + 129)) (fun i => f' (5 * i + 130)) (fun i => f' (5 * i + 131)) (fun i => f' (5 * i + 132)) (f' 184) := by
  have R : ∀ a, (128 ≤ a ∧ a ≤ 142) ∨ a = 184 → f' a = f a := fun a h => funext fun k => e a k h
  rw [R 184 (by omega)]
  exact ImgR_congr h fun i hi => ⟨e _ _ (by omega), e _ _ (by omega), e _ _ (by omega), R _ (by omega), R _ (by omega), R _ (by omega), R _ (by omega)⟩
theorem now_keep {M : Nat} {f f' : Nat → Nat → Int32} (h : NowR M 0 (f 40 1) (f 40 2) (f 40 3) (f 41) (f 42) (f 43) (f 44) (f 182)) (e : ∀ a k, (40 ≤ a ∧ a ≤ 44) ∨ a = 182 → f' a k = f a k) : NowR M 0 (f' 40 1) (f' 40 2) (f' 40 3) (f' 41) (f' 42) (f' 43) (f' 44) (f' 182) := by
  have R : ∀ a, (40 ≤ a ∧ a ≤ 44) ∨ a = 182 → f' a = f a := fun a h => funext fun k => e a k h
  rw [R 40 (by omega), R 41 (by omega), R 42 (by omega), R 43 (by omega), R 44 (by omega), R 182 (by omega)]
  exact h
/-- the cells of the legion as it is told, and what the reference keeps of it -/
def LK (l a k : Nat) : Prop := a = l ∨ (l + 1 ≤ a ∧ a ≤ l + 6) ∨ (a = l + 7 ∧ k < 10) ∨ a = l + 8 ∨ a = l + 9 ∨ (a = l + 13 ∧ k < 2) ∨ a = l + 15 ∨ a = l + 16 ∨ a = 180 ∨ (a = 177 ∧ k = 14)
theorem Inv_gen {l r M A I TP n A' I' TP' n' : Nat} {f f' : Nat → Nat → Int32} {p p' : Nat → Nat → Option Nat} (hI : InvL l r M A I TP n f p) (hk : ∀ a k, LK l a k → f' a k = f a k) (h03 : p' 0 3 = some l) (h40 : p' 40 0 = some l) (h23 : p' 2 3 = some r)
    (psl' : ∀ i, i < 16 → ∃ m, (m = 5 ∨ m = 23) ∧ p' (5 * i + 48) 0 = some m) (pim' : ∀ i, i < 3 → ∃ m, (m = 5 ∨ m = 23) ∧ p' (5 * i + 128) 0 = some m)
    (hN' : NowR M 0 (f' 40 1) (f' 40 2) (f' 40 3) (f' 41) (f' 42) (f' 43) (f' 44) (f' 182)) (hS' : sub_men (f' 40 1) M) (hz' : f 177 14 = 0 → f' 182 29 = 0 ∧ A' = 0 ∧ I' = 0) (hq' : ∃ q, q < 65537 ∧ f' 40 3 = nI q)
    (hHi' : HistR M TP' A' (fun i => f' (5 * i + 48) 1) (fun i => f' (5 * i + 48) 2) (fun i => f' (5 * i + 48) 3) (fun i => f' (5 * i + 49)) (fun i => f' (5 * i + 50)) (fun i => f' (5 * i + 51)) (fun i => f' (5 * i + 52)) (f' 183))
    (hTP' : f' 45 2 = nI TP') (hA' : f' 45 3 = nI A') (hUn' : f' 177 20 = nI A') (hsA' : ∀ i, i < A' → p' (5 * slot TP' A' i + 48) 0 = some l)
    (hIm' : ImgR M I' (fun i => f' (5 * i + 128) 1) (fun i => f' (5 * i + 128) 2) (fun i => f' (5 * i + 128) 3) (fun i => f' (5 * i + 129)) (fun i => f' (5 * i + 130)) (fun i => f' (5 * i + 131)) (fun i => f' (5 * i + 132)) (f' 184))
    (hI4' : f' 45 4 = nI I') (hI21' : f' 177 21 = nI I') (hsI' : ∀ i, i < I' → p' (5 * i + 128) 0 = some l) (hn' : n' ≤ 1000) (ht1' : f' 0 1 = nI n') (ht2' : f' 177 2 = nI n') (hT' : TapR (f' 1) (f' 178)) (hfa' : f' 0 10 = f' 177 9) (hw : f' 0 12 = f' 177 11) (h4 : f' 0 12 = 4 → f' 0 11 = f' 177 10) : InvL l r M A' I' TP' n' f' p' := by
  obtain ⟨hlr, p03, p40, p23, psl, pim, hL, hM5, hP6, hN, hS, hh, hz, hH, hE, hPf, hsy, hq, hHi, hTP, hA, hUn, hsA, hIm, hI4, hI21, hsI, hn, ht1, ht2, hT, hfa, hwh, hpl⟩ := hI
  have c : ∀ a k, LK l a k → f' a k = f a k := hk
  have R : ∀ a, (∀ k, LK l a k) → f' a = f a := fun a h => funext fun k => hk a k (h k)
  have rr : f' 180 = f 180 := R 180 fun k => by unfold LK; omega
  have lg : ∀ k, f' l k = f l k := fun k => c _ _ (by unfold LK; omega)
  have lr : ∀ o, 1 ≤ o → o ≤ 6 → f' (l + o) = f (l + o) := fun o h1 h2 => R _ fun k => by unfold LK; omega
  have he : ∀ k, k < 10 → f' (l + 7) k = f (l + 7) k := fun k h => c _ _ (by unfold LK; omega)
  have ea : ∀ k, k < 2 → f' (l + 13) k = f (l + 13) k := fun k h => c _ _ (by unfold LK; omega)
  have hg : f' 177 14 = f 177 14 := c _ _ (by unfold LK; omega)
  refine ⟨hlr, h03, h40, h23, psl', pim', ?_, ?_, ?_, hN', hS', ?_, ?_, ?_, ?_, ?_, ?_, hq', hHi', hTP', hA', hUn', hsA', hIm', hI4', hI21', hsI', hn', ht1', ht2', hT', hfa', hw, h4⟩
  · rw [lg, lg, lg, lg, lg, lr 1 (by omega) (by omega), lr 3 (by omega) (by omega), lr 4 (by omega) (by omega), lr 5 (by omega) (by omega), lr 6 (by omega) (by omega), rr]; exact hL
  · rw [lg]; exact hM5
  · rw [lg, rr]; exact hP6
  · rw [hg, lg]; exact hh
  · rw [hg, rr]
    intro h0
    obtain ⟨z1, z2, z3⟩ := hz' h0
    exact ⟨(hz h0).1, (hz h0).2.1, z1, z2, z3⟩
  · rw [he _ (by omega), he _ (by omega), he _ (by omega), he _ (by omega), he _ (by omega), rr, R (l + 8) fun k => by unfold LK; omega, R (l + 9) fun k => by unfold LK; omega]; exact hH
  · rw [ea _ (by omega), ea _ (by omega), rr, R (l + 15) fun k => by unfold LK; omega, R (l + 16) fun k => by unfold LK; omega]; exact hE
  · rw [rr]; exact hPf
  · rw [rr]; exact hsy
theorem Inv_act {l r M A I TP n A' I' TP' : Nat} {f f' : Nat → Nat → Int32} {p p' : Nat → Nat → Option Nat} (hI : InvL l r M A I TP n f p) (hk : KeS (S2 l) f f') (hp : KeS P2 p p') (h40 : p' 40 0 = some l)
    (psl' : ∀ i, i < 16 → ∃ m, (m = 5 ∨ m = 23) ∧ p' (5 * i + 48) 0 = some m) (pim' : ∀ i, i < 3 → ∃ m, (m = 5 ∨ m = 23) ∧ p' (5 * i + 128) 0 = some m)
    (hN' : NowR M 0 (f' 40 1) (f' 40 2) (f' 40 3) (f' 41) (f' 42) (f' 43) (f' 44) (f' 182)) (hS' : sub_men (f' 40 1) M) (hz' : f 177 14 = 0 → f' 182 29 = 0 ∧ A' = 0 ∧ I' = 0) (hq' : ∃ q, q < 65537 ∧ f' 40 3 = nI q)
    (hHi' : HistR M TP' A' (fun i => f' (5 * i + 48) 1) (fun i => f' (5 * i + 48) 2) (fun i => f' (5 * i + 48) 3) (fun i => f' (5 * i + 49)) (fun i => f' (5 * i + 50)) (fun i => f' (5 * i + 51)) (fun i => f' (5 * i + 52)) (f' 183))
    (hTP' : f' 45 2 = nI TP') (hA' : f' 45 3 = nI A') (hUn' : f' 177 20 = nI A') (hsA' : ∀ i, i < A' → p' (5 * slot TP' A' i + 48) 0 = some l)
    (hIm' : ImgR M I' (fun i => f' (5 * i + 128) 1) (fun i => f' (5 * i + 128) 2) (fun i => f' (5 * i + 128) 3) (fun i => f' (5 * i + 129)) (fun i => f' (5 * i + 130)) (fun i => f' (5 * i + 131)) (fun i => f' (5 * i + 132)) (f' 184))
    (hI4' : f' 45 4 = nI I') (hI21' : f' 177 21 = nI I') (hsI' : ∀ i, i < I' → p' (5 * i + 128) 0 = some l) (hw : f' 0 12 = f' 177 11) (h4 : f' 0 12 = 4 → f 0 11 = f 177 10) : InvL l r M A' I' TP' n f' p' := by
  have hII := hI
  obtain ⟨hlr, p03, p40, p23, psl, pim, hL, hM5, hP6, hN, hS, hh, hz, hH, hE, hPf, hsy, hq, hHi, hTP, hA, hUn, hsA, hIm, hI4, hI21, hsI, hn, ht1, ht2, hT, hfa, hwh, hpl⟩ := hI
  have hl : l = 5 ∨ l = 23 := by omega
  have c : ∀ a k, ¬ S2 l a k → f' a k = f a k := hk
  have R : ∀ a, (∀ k, ¬ S2 l a k) → f' a = f a := fun a h => ks_row hk h
  have hps : ∀ a k, (a = 0 ∨ a = 2) → ¬ P2 a k := fun a k h => by unfold P2; omega
  refine Inv_gen hII (fun a k h => c a k (by unfold LK at h; unfold S2 Scr; omega)) ?_ h40 ?_ psl' pim' hN' hS' hz' hq' hHi' hTP' hA' hUn' hsA' hIm' hI4' hI21' hsI' hn ?_ ?_ ?_ ?_ hw (fun h => ?_)
  · rw [hp _ _ (hps _ _ (by omega))]; exact p03
  · rw [hp _ _ (hps _ _ (by omega))]; exact p23
  · rw [c 0 1 (by unfold S2 Scr; omega)]; exact ht1
  · rw [c 177 2 (by unfold S2 Scr; omega)]; exact ht2
  · rw [R 1 (fun k => by unfold S2 Scr; omega), R 178 (fun k => by unfold S2 Scr; omega)]; exact hT
  · rw [c 0 10 (by unfold S2 Scr; omega), c 177 9 (by unfold S2 Scr; omega)]; exact hfa
  · rw [c 0 11 (by unfold S2 Scr; omega), c 177 10 (by unfold S2 Scr; omega)]; exact h4 h
/-- an act that is kept for undoing: one slot of the ring is written, and the present state -/
def SA (l TP a k : Nat) : Prop := Scr l a k ∨ (40 ≤ a ∧ a ≤ 44) ∨ (a = 45 ∧ (k = 2 ∨ k = 3)) ∨ (5 * TP + 48 ≤ a ∧ a ≤ 5 * TP + 52) ∨ a = 182 ∨ a = 183 ∨ (a = 177 ∧ k = 20)
def PA (TP a k : Nat) : Prop := (143 ≤ a ∧ a ≤ 176) ∨ (a = 5 * TP + 48 ∧ k = 0)
theorem Inv_hist {l r M A I TP n : Nat} {f f' : Nat → Nat → Int32} {p p' : Nat → Nat → Option Nat} {t2 f2 a2 l2 : Nat → Int32} (hI : InvL l r M A I TP n f p) (hk : KeS (SA l TP) f f') (hp : KeS (PA TP) p p') (hpt : p' (5 * TP + 48) 0 = some l)
    (s1 : f' (5 * TP + 48) 1 = f 40 1) (s2 : f' (5 * TP + 48) 2 = f 40 2) (s3 : f' (5 * TP + 48) 3 = f 40 3) (s4 : f' (5 * TP + 49) = va_cpy (f 41) t2 0 0 8) (s5 : f' (5 * TP + 50) = va_cpy (f 42) f2 0 0 8) (s6 : f' (5 * TP + 51) = va_cpy (f 43) a2 0 0 8) (s7 : f' (5 * TP + 52) = va_cpy (f 44) l2 0 0 3)
    (h2 : f' 45 2 = jrm (f 45 2 + 1) 16) (h3 : f' 45 3 = if 16 < f 45 3 + 1 then 16 else f 45 3 + 1) (h183 : f' 183 = (D_X12_note (f 177 20) (f 183) (f 182)).1) (h20 : f' 177 20 = (D_X12_note (f 177 20) (f 183) (f 182)).2)
    (hN' : NowR M 0 (f' 40 1) (f' 40 2) (f' 40 3) (f' 41) (f' 42) (f' 43) (f' 44) (f' 182)) (hS' : sub_men (f' 40 1) M) (hq' : ∃ q, q < 65537 ∧ f' 40 3 = nI q) (hh0 : ¬ f 177 14 = 0) (hw : f' 0 12 = f' 177 11) (h4 : f' 0 12 = 4 → f 0 11 = f 177 10) : Inv f' p' := by
  have hII := hI
  obtain ⟨hlr, p03, p40, p23, psl, pim, hL, hM5, hP6, hN, hS, hh, hz, hH, hE, hPf, hsy, hq, hHi, hTP, hA, hUn, hsA, hIm, hI4, hI21, hsI, hn, ht1, ht2, hT, hfa, hwh, hpl⟩ := hI
  have hl : l = 5 ∨ l = 23 := by omega
  have hP : TP < 16 := hHi.1
  have hA16 : A ≤ 16 := hHi.2.1
  obtain ⟨n1, n2⟩ := note_rel hL.M8 hHi ⟨hN, hS, hq⟩ (t2 := t2) (f2 := f2) (a2 := a2) (l2 := l2)
  obtain ⟨m1, m2⟩ := keep_nums hP hA16
  have c : ∀ a k, ¬ SA l TP a k → f' a k = f a k := hk
  have R : ∀ a, (∀ k, ¬ SA l TP a k) → f' a = f a := fun a h => ks_row hk h
  have hs : ∀ a k, ((48 ≤ a ∧ a ≤ 142 ∧ ¬ (5 * TP + 48 ≤ a ∧ a ≤ 5 * TP + 52)) ∨ a = 184 ∨ (a = 45 ∧ k = 4) ∨ (a = 177 ∧ k = 21)) → ¬ SA l TP a k := fun a k h => by unfold SA Scr; omega
  have pc : ∀ a k, ¬ PA TP a k → p' a k = p a k := hp
  have hI3 := hIm.1
  refine ⟨l, r, M, mnA A, I, (TP + 1) % 16, n, Inv_act hII (fun a k h => c a k fun g => h ?_) (fun a k h => pc a k fun g => h ?_) ?_ (fun i hi => ?_) (fun i hi => ?_) hN' hS' (fun h => absurd h hh0) hq' ?_ ?_ ?_ ?_ (fun i hi => ?_) (img_keep hIm fun a k h => c a k (hs a k (by omega))) ?_ ?_ (fun i hi => ?_) hw h4⟩
  · unfold SA at g; unfold S2
    rcases g with g | g | g | g | g | g | g
    · exact Or.inl g
    all_goals (right; omega)
  · unfold PA at g; unfold P2; omega
  · rw [pc _ _ (by unfold PA; omega)]; exact p40
  · by_cases e : i = TP
    · rw [e]; exact ⟨l, hl, hpt⟩
    · rw [pc _ _ (by unfold PA; omega)]; exact psl i hi
  · rw [pc _ _ (by unfold PA; omega)]; exact pim i hi
  · rw [h183, hUn]
    refine HistR_congr n1 fun i hi => ?_
    by_cases e : i = TP
    · subst e
      rw [va_up_self, va_up_self, va_up_self, va_up_self, va_up_self, va_up_self, va_up_self]
      exact ⟨s1, s2, s3, s4, s5, s6, s7⟩
    · rw [va_up_ne _ _ e, va_up_ne _ _ e, va_up_ne _ _ e, va_up_ne _ _ e, va_up_ne _ _ e, va_up_ne _ _ e, va_up_ne _ _ e]
      exact ⟨c _ _ (hs _ _ (by omega)), c _ _ (hs _ _ (by omega)), c _ _ (hs _ _ (by omega)), R _ fun k => hs _ _ (by omega), R _ fun k => hs _ _ (by omega), R _ fun k => hs _ _ (by omega), R _ fun k => hs _ _ (by omega)⟩
  · rw [h2, hTP]; exact m1
  · rw [h3, hA]; exact m2
  · rw [h20, hUn]; exact n2
  · by_cases e : slot ((TP + 1) % 16) (mnA A) i = TP
    · rw [e]; exact hpt
    · have hsl := slot_lt ((TP + 1) % 16) (mnA A) i
      rw [pc _ _ (by unfold PA; omega)]
      by_cases cA : A = 16
      · have hmn : mnA A = 16 := by unfold mnA; rw [if_neg (by omega)]
        rw [hmn] at hi e hsl ⊢
        have e2 : slot ((TP + 1) % 16) 16 i = slot TP A (i + 1) := by unfold slot; omega
        rw [e2]; exact hsA _ (by unfold slot at e; omega)
      · have hmn : mnA A = A + 1 := by unfold mnA; rw [if_pos (by omega)]
        rw [hmn] at hi e hsl ⊢
        have e2 : slot ((TP + 1) % 16) (A + 1) i = slot TP A i := by unfold slot; omega
        rw [e2]; exact hsA _ (by unfold slot at e; omega)
  · rw [c _ _ (hs _ _ (by omega))]; exact hI4
  · rw [c _ _ (hs _ _ (by omega))]; exact hI21
  · rw [pc _ _ (by unfold PA; omega)]; exact hsI i hi
/-- what is fed -/
def SF (l a k : Nat) : Prop := Scr l a k ∨ a = 1 ∨ (a = 0 ∧ k = 1) ∨ a = 178 ∨ (a = 177 ∧ k = 2)
theorem Inv_feed {l r M A I TP n n' : Nat} {f f' : Nat → Nat → Int32} {p : Nat → Nat → Option Nat} (hI : InvL l r M A I TP n f p) (hk : KeS (SF l) f f') (hn' : n' ≤ 1000) (h1 : f' 0 1 = nI n') (h2 : f' 177 2 = nI n') (hT' : TapR (f' 1) (f' 178)) (hw1 : f' 0 12 = f 0 12) (hw2 : f' 177 11 = f 177 11) : InvL l r M A I TP n' f' p := by
  have hII := hI
  obtain ⟨hlr, p03, p40, p23, psl, pim, hL, hM5, hP6, hN, hS, hh, hz, hH, hE, hPf, hsy, hq, hHi, hTP, hA, hUn, hsA, hIm, hI4, hI21, hsI, hn, ht1, ht2, hT, hfa, hwh, hpl⟩ := hI
  have hl : l = 5 ∨ l = 23 := by omega
  have c : ∀ a k, ¬ SF l a k → f' a k = f a k := hk
  have R : ∀ a, (∀ k, ¬ SF l a k) → f' a = f a := fun a h => ks_row hk h
  refine Inv_gen hII (fun a k h => c a k (by unfold LK at h; unfold SF Scr; omega)) p03 p40 p23 psl pim (now_keep hN fun a k h => c a k (by unfold SF Scr; omega)) ?_ ?_ ?_ (hist_keep hHi fun a k h => c a k (by unfold SF Scr; omega)) ?_ ?_ ?_ hsA (img_keep hIm fun a k h => c a k (by unfold SF Scr; omega)) ?_ ?_ hsI hn' h1 h2 hT' ?_ ?_ ?_
  · rw [c 40 1 (by unfold SF Scr; omega)]; exact hS
  · rw [R 182 (fun k => by unfold SF Scr; omega)]; intro h0; exact (hz h0).2.2
  · rw [c 40 3 (by unfold SF Scr; omega)]; exact hq
  · rw [c 45 2 (by unfold SF Scr; omega)]; exact hTP
  · rw [c 45 3 (by unfold SF Scr; omega)]; exact hA
  · rw [c 177 20 (by unfold SF Scr; omega)]; exact hUn
  · rw [c 45 4 (by unfold SF Scr; omega)]; exact hI4
  · rw [c 177 21 (by unfold SF Scr; omega)]; exact hI21
  · rw [c 0 10 (by unfold SF Scr; omega), c 177 9 (by unfold SF Scr; omega)]; exact hfa
  · rw [hw1, hw2]; exact hwh
  · rw [hw1, c 0 11 (by unfold SF Scr; omega), c 177 10 (by unfold SF Scr; omega)]; exact hpl
/-- the present state is another one: seed, undo, back -/
def SUn (l a k : Nat) : Prop := Scr l a k ∨ (40 ≤ a ∧ a ≤ 44) ∨ (a = 45 ∧ (k = 2 ∨ k = 3)) ∨ a = 182 ∨ (a = 177 ∧ k = 20)
def PUn (a k : Nat) : Prop := (143 ≤ a ∧ a ≤ 176) ∨ (a = 40 ∧ k = 0)
theorem Inv_now {l r M A I TP n A' TP' : Nat} {f f' : Nat → Nat → Int32} {p p' : Nat → Nat → Option Nat} (hI : InvL l r M A I TP n f p) (hk : KeS (SUn l) f f') (hp : KeS PUn p p') (h40 : p' 40 0 = some l)
    (hK : KR M (f' 182) 0 (f' 40 1) (f' 40 2) (f' 40 3) (f' 41) (f' 42) (f' 43) (f' 44))
    (hHi' : HistR M TP' A' (fun i => f (5 * i + 48) 1) (fun i => f (5 * i + 48) 2) (fun i => f (5 * i + 48) 3) (fun i => f (5 * i + 49)) (fun i => f (5 * i + 50)) (fun i => f (5 * i + 51)) (fun i => f (5 * i + 52)) (f 183))
    (hTP' : f' 45 2 = nI TP') (hA' : f' 45 3 = nI A') (hUn' : f' 177 20 = nI A') (hsA' : ∀ i, i < A' → p (5 * slot TP' A' i + 48) 0 = some l) (hh0 : ¬ f 177 14 = 0) (hw : f' 0 12 = f' 177 11) (h4 : f' 0 12 = 4 → f 0 11 = f 177 10) : Inv f' p' := by
  have hII := hI
  obtain ⟨hlr, p03, p40, p23, psl, pim, hL, hM5, hP6, hN, hS, hh, hz, hH, hE, hPf, hsy, hq, hHi, hTP, hA, hUn, hsA, hIm, hI4, hI21, hsI, hn, ht1, ht2, hT, hfa, hwh, hpl⟩ := hI
  have hl : l = 5 ∨ l = 23 := by omega
  have c : ∀ a k, ¬ SUn l a k → f' a k = f a k := hk
  have pc : ∀ a k, ¬ PUn a k → p' a k = p a k := hp
  have hI3 := hIm.1
  refine ⟨l, r, M, A', I, TP', n, Inv_act hII (fun a k h => c a k fun g => h ?_) (fun a k h => pc a k fun g => h ?_) h40 (fun i hi => ?_) (fun i hi => ?_) hK.1 hK.2.1 (fun h => absurd h hh0) hK.2.2 (hist_keep hHi' fun a k h => c a k (by unfold SUn Scr; omega)) hTP' hA' hUn' (fun i hi => ?_) (img_keep hIm fun a k h => c a k (by unfold SUn Scr; omega)) ?_ ?_ (fun i hi => ?_) hw h4⟩
  · unfold SUn at g; unfold S2
    rcases g with g | g | g | g | g
    · exact Or.inl g
    all_goals (right; omega)
  · unfold PUn at g; unfold P2; omega
  · rw [pc _ _ (by unfold PUn; omega)]; exact psl i hi
  · rw [pc _ _ (by unfold PUn; omega)]; exact pim i hi
  · have := slot_lt TP' A' i
    rw [pc _ _ (by unfold PUn; omega)]; exact hsA' i hi
  · rw [c _ _ (by unfold SUn Scr; omega)]; exact hI4
  · rw [c _ _ (by unfold SUn Scr; omega)]; exact hI21
  · rw [pc _ _ (by unfold PUn; omega)]; exact hsI i hi
/-- an image more -/
def SIm (l I a k : Nat) : Prop := Scr l a k ∨ (a = 45 ∧ k = 4) ∨ (5 * I + 128 ≤ a ∧ a ≤ 5 * I + 132) ∨ a = 184 ∨ (a = 177 ∧ k = 21)
def PIm (I a k : Nat) : Prop := (143 ≤ a ∧ a ≤ 176) ∨ (a = 5 * I + 128 ∧ k = 0)
theorem Inv_img {l r M A I TP n : Nat} {f f' : Nat → Nat → Int32} {p p' : Nat → Nat → Option Nat} {t2 f2 a2 l2 : Nat → Int32} (hI : InvL l r M A I TP n f p) (hI3 : I < 3) (hk : KeS (SIm l I) f f') (hp : KeS (PIm I) p p') (hpt : p' (5 * I + 128) 0 = some l)
    (s1 : f' (5 * I + 128) 1 = f 40 1) (s2 : f' (5 * I + 128) 2 = f 40 2) (s3 : f' (5 * I + 128) 3 = f 40 3) (s4 : f' (5 * I + 129) = va_cpy (f 41) t2 0 0 8) (s5 : f' (5 * I + 130) = va_cpy (f 42) f2 0 0 8) (s6 : f' (5 * I + 131) = va_cpy (f 43) a2 0 0 8) (s7 : f' (5 * I + 132) = va_cpy (f 44) l2 0 0 3)
    (h4' : f' 45 4 = nI (I + 1)) (h184 : f' 184 = D_X12_copy_ne 0 (30 * I) 30 (f 182) (f 184)) (h21 : f' 177 21 = nI (I + 1)) (hh0 : ¬ f 177 14 = 0) (hw : f' 0 12 = f' 177 11) (h4 : f' 0 12 = 4 → f 0 11 = f 177 10) : Inv f' p' := by
  have hII := hI
  obtain ⟨hlr, p03, p40, p23, psl, pim, hL, hM5, hP6, hN, hS, hh, hz, hH, hE, hPf, hsy, hq, hHi, hTP, hA, hUn, hsA, hIm, hI4, hI21, hsI, hn, ht1, ht2, hT, hfa, hwh, hpl⟩ := hI
  have hl : l = 5 ∨ l = 23 := by omega
  have n1 := image_rel hL.M8 hI3 hIm ⟨hN, hS, hq⟩ (t2 := t2) (f2 := f2) (a2 := a2) (l2 := l2)
  have c : ∀ a k, ¬ SIm l I a k → f' a k = f a k := hk
  have R : ∀ a, (∀ k, ¬ SIm l I a k) → f' a = f a := fun a h => ks_row hk h
  have pc : ∀ a k, ¬ PIm I a k → p' a k = p a k := hp
  have hs : ∀ a k, (128 ≤ a ∧ a ≤ 142 ∧ ¬ (5 * I + 128 ≤ a ∧ a ≤ 5 * I + 132)) → ¬ SIm l I a k := fun a k h => by unfold SIm Scr; omega
  refine ⟨l, r, M, A, I + 1, TP, n, Inv_act hII (fun a k h => c a k fun g => h ?_) (fun a k h => pc a k fun g => h ?_) ?_ (fun i hi => ?_) (fun i hi => ?_) (now_keep hN fun a k h => c a k (by unfold SIm Scr; omega)) ?_ (fun h => absurd h hh0) ?_ (hist_keep hHi fun a k h => c a k (by unfold SIm Scr; omega)) ?_ ?_ ?_ (fun i hi => ?_) ?_ h4' h21 (fun i hi => ?_) hw h4⟩
  · unfold SIm at g; unfold S2
    rcases g with g | g | g | g | g
    · exact Or.inl g
    all_goals (right; omega)
  · unfold PIm at g; unfold P2; omega
  · rw [pc _ _ (by unfold PIm; omega)]; exact p40
  · rw [pc _ _ (by unfold PIm; omega)]; exact psl i hi
  · by_cases e : i = I
    · rw [e]; exact ⟨l, hl, hpt⟩
    · rw [pc _ _ (by unfold PIm; omega)]; exact pim i hi
  · rw [c _ _ (by unfold SIm Scr; omega)]; exact hS
  · rw [c _ _ (by unfold SIm Scr; omega)]; exact hq
  · rw [c _ _ (by unfold SIm Scr; omega)]; exact hTP
  · rw [c _ _ (by unfold SIm Scr; omega)]; exact hA
  · rw [c _ _ (by unfold SIm Scr; omega)]; exact hUn
  · have := slot_lt TP A i
    rw [pc _ _ (by unfold PIm; omega)]; exact hsA i hi
  · rw [h184]
    refine ImgR_congr n1 fun i hi => ?_
    by_cases e : i = I
    · subst e
      rw [va_up_self, va_up_self, va_up_self, va_up_self, va_up_self, va_up_self, va_up_self]
      exact ⟨s1, s2, s3, s4, s5, s6, s7⟩
    · rw [va_up_ne _ _ e, va_up_ne _ _ e, va_up_ne _ _ e, va_up_ne _ _ e, va_up_ne _ _ e, va_up_ne _ _ e, va_up_ne _ _ e]
      exact ⟨c _ _ (hs _ _ (by omega)), c _ _ (hs _ _ (by omega)), c _ _ (hs _ _ (by omega)), R _ fun k => hs _ _ (by omega), R _ fun k => hs _ _ (by omega), R _ fun k => hs _ _ (by omega), R _ fun k => hs _ _ (by omega)⟩
  · by_cases e : i = I
    · rw [e]; exact hpt
    · rw [pc _ _ (by unfold PIm; omega)]; exact hsI i (by omega)
