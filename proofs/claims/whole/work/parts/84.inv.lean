/-! THE STATE between two calls: class beside reference, cell by cell; and what a call leaves as it was -/
def Scr (l a k : Nat) : Prop := (a = 0 ∧ k = 12) ∨ (a = l + 7 ∧ 10 ≤ k) ∨ (a = l + 13 ∧ 2 ≤ k) ∨ a = l + 14 ∨ (143 ≤ a ∧ a ≤ 176) ∨ (a = 177 ∧ k ≠ 2 ∧ k ≠ 9 ∧ k ≠ 10 ∧ k ≠ 14 ∧ k ≠ 20 ∧ k ≠ 21) ∨ a = 179 ∨ a = 181 ∨ (185 ≤ a ∧ a ≤ 190)
def Keeps (l : Nat) (f f' : Nat → Nat → Int32) : Prop := ∀ a k, ¬ Scr l a k → f' a k = f a k
theorem kp_rfl {l : Nat} {f : Nat → Nat → Int32} : Keeps l f f := fun _ _ _ => rfl
theorem kp_u {l a k : Nat} {f f' : Nat → Nat → Int32} {x : Int32} (s : Scr l a k) (h : Keeps l f f') : Keeps l f (am_u f' a k x) := fun b j n => by
  rw [au_ne, h b j n]
  by_cases c : b = a
  · refine Or.inr fun e => n ?_
    rw [c, e]; exact s
  · exact Or.inl c
theorem kp_v {l a : Nat} {f f' : Nat → Nat → Int32} {x : Nat → Int32} (s : ∀ k, Scr l a k) (h : Keeps l f f') : Keeps l f (va_up f' a x) := fun b j n => by
  have c : b ≠ a := fun e => n (by rw [e]; exact s j)
  rw [show va_up f' a x b = f' b from va_up_ne _ _ c, h b j n]
theorem kp_tr {l : Nat} {f f' f'' : Nat → Nat → Int32} (h : Keeps l f f') (g : Keeps l f' f'') : Keeps l f f'' := fun a k n => (g a k n).trans (h a k n)
theorem kp_row {l a : Nat} {f f' : Nat → Nat → Int32} (h : Keeps l f f') (n : ∀ k, ¬ Scr l a k) : f' a = f a := funext fun k => h a k (n k)
def KeA (f f' : Nat → Nat → Int32) : Prop := ∀ a, 177 ≤ a → f' a = f a
theorem ka_rfl {f : Nat → Nat → Int32} : KeA f f := fun _ _ => rfl
theorem ka_u {a k : Nat} {f f' : Nat → Nat → Int32} {x : Int32} (s : a < 177) (h : KeA f f') : KeA f (am_u f' a k x) := fun b hb => by rw [am_urow (by omega), h b hb]
theorem ka_v {a : Nat} {f f' : Nat → Nat → Int32} {x : Nat → Int32} (s : a < 177) (h : KeA f f') : KeA f (va_up f' a x) := fun b hb => by rw [va_up_ne _ _ (by omega), h b hb]
def KeB (f f' : Nat → Nat → Int32) : Prop := ∀ a, a < 177 → f' a = f a
theorem kb_rfl {f : Nat → Nat → Int32} : KeB f f := fun _ _ => rfl
theorem kb_u {a k : Nat} {f f' : Nat → Nat → Int32} {x : Int32} (s : 177 ≤ a) (h : KeB f f') : KeB f (am_u f' a k x) := fun b hb => by rw [am_urow (by omega), h b hb]
theorem kb_v {a : Nat} {f f' : Nat → Nat → Int32} {x : Nat → Int32} (s : 177 ≤ a) (h : KeB f f') : KeB f (va_up f' a x) := fun b hb => by rw [va_up_ne _ _ (by omega), h b hb]
def KeP (p p' : Nat → Nat → Option Nat) : Prop := ∀ a k, ¬ (143 ≤ a ∧ a ≤ 176) → p' a k = p a k
theorem kq_rfl {p : Nat → Nat → Option Nat} : KeP p p := fun _ _ _ => rfl
theorem kq_u {a k : Nat} {p p' : Nat → Nat → Option Nat} {x : Option Nat} (s : 143 ≤ a ∧ a ≤ 176) (h : KeP p p') : KeP p (am_u p' a k x) := fun b j n => by
  rw [au_ne _ _ (Or.inl (fun e => n (by rw [e]; exact s))), h b j n]
theorem scr_l {l : Nat} (hl : l = 5 ∨ l = 23) {a k : Nat} (h : Scr l a k) : a ≤ 190 := by
  unfold Scr at h; omega
def InvL (l r M A I TP n : Nat) (f : Nat → Nat → Int32) (p : Nat → Nat → Option Nat) : Prop :=
  ((l = 5 ∧ r = 23) ∨ (l = 23 ∧ r = 5)) ∧ p 0 3 = some l ∧ p 40 0 = some l ∧ p 2 3 = some r ∧
  (∀ i, i < 16 → ∃ m, (m = 5 ∨ m = 23) ∧ p (5 * i + 48) 0 = some m) ∧ (∀ i, i < 3 → ∃ m, (m = 5 ∨ m = 23) ∧ p (5 * i + 128) 0 = some m) ∧
  LegR M (f l 0) (f l 1) (f l 2) (f l 3) (f l 4) (f (l + 1)) (f (l + 3)) (f (l + 4)) (f (l + 5)) (f (l + 6)) (f 180) ∧
  f l 5 = nI M ∧ f l 6 = f 180 6 ∧
  NowR M 0 (f 40 1) (f 40 2) (f 40 3) (f 41) (f 42) (f 43) (f 44) (f 182) ∧ sub_men (f 40 1) M ∧
  (f 177 14 = 0 ↔ f l 4 = 0) ∧ (f 177 14 = 0 → M = 0 ∧ (∀ i, i < 9 → f 180 i = 0) ∧ f 182 29 = 0 ∧ A = 0 ∧ I = 0) ∧
  HelR (f 180) (f (l + 7) 0) (f (l + 7) 1) (f (l + 7) 2) (f (l + 7) 3) (f (l + 7) 4) (f (l + 8)) (f (l + 9)) ∧
  EarR (f 180) (f (l + 13) 0) (f (l + 13) 1) (f (l + 15)) (f (l + 16)) ∧
  Pf (f 180) M ≤ 8 ∧ (∀ i j, i < M → j < M → bt (f 180 (33 + i)) j = bt (f 180 (33 + j)) i) ∧ (∃ q, q < 65537 ∧ f 40 3 = nI q) ∧
  HistR M TP A (fun i => f (5 * i + 48) 1) (fun i => f (5 * i + 48) 2) (fun i => f (5 * i + 48) 3) (fun i => f (5 * i + 49)) (fun i => f (5 * i + 50)) (fun i => f (5 * i + 51)) (fun i => f (5 * i + 52)) (f 183) ∧
  f 45 2 = nI TP ∧ f 45 3 = nI A ∧ f 177 20 = nI A ∧ (∀ i, i < A → p (5 * slot TP A i + 48) 0 = some l) ∧
  ImgR M I (fun i => f (5 * i + 128) 1) (fun i => f (5 * i + 128) 2) (fun i => f (5 * i + 128) 3) (fun i => f (5 * i + 129)) (fun i => f (5 * i + 130)) (fun i => f (5 * i + 131)) (fun i => f (5 * i + 132)) (f 184) ∧
  f 45 4 = nI I ∧ f 177 21 = nI I ∧ (∀ i, i < I → p (5 * i + 128) 0 = some l) ∧
  n ≤ 1000 ∧ f 0 1 = nI n ∧ f 177 2 = nI n ∧ TapR (f 1) (f 178) ∧
  f 0 10 = f 177 9 ∧ f 0 12 = f 177 11 ∧ (f 0 12 = 4 → f 0 11 = f 177 10)
def Inv (f : Nat → Nat → Int32) (p : Nat → Nat → Option Nat) : Prop := ∃ l r M A I TP n, InvL l r M A I TP n f p
theorem slot_lt (P A i : Nat) : slot P A i < 16 := Nat.mod_lt _ (by decide)
theorem Inv_keep {l r M A I TP n : Nat} {f f' : Nat → Nat → Int32} {p p' : Nat → Nat → Option Nat} (hI : InvL l r M A I TP n f p) (hk : Keeps l f f') (hp : KeP p p') (hw : f' 0 12 = f' 177 11) (h4 : f' 0 12 = 4 → f 0 11 = f 177 10) : InvL l r M A I TP n f' p' := by
  obtain ⟨hlr, p03, p40, p23, psl, pim, hL, hM5, hP6, hN, hS, hh, hz, hH, hE, hPf, hsy, hq, hHi, hTP, hA, hUn, hsA, hIm, hI4, hI21, hsI, hn, ht1, ht2, hT, hfa, hwh, hpl⟩ := hI
  have hl : l = 5 ∨ l = 23 := by omega
  have hI3 := hIm.1
  have c : ∀ a k, ¬ Scr l a k → f' a k = f a k := hk
  have R : ∀ a, (∀ k, ¬ Scr l a k) → f' a = f a := fun a h => kp_row hk h
  have hs : ∀ a k, (a = l ∨ (l + 1 ≤ a ∧ a ≤ l + 6) ∨ (a = l + 7 ∧ k < 10) ∨ a = l + 8 ∨ a = l + 9 ∨ (a = l + 13 ∧ k < 2) ∨ a = l + 15 ∨ a = l + 16 ∨ (40 ≤ a ∧ a ≤ 142) ∨ a = 178 ∨ a = 180 ∨ a = 182 ∨ a = 183 ∨ a = 184 ∨ (a = 0 ∧ k ≠ 12) ∨ a = 1 ∨ (a = 177 ∧ (k = 2 ∨ k = 9 ∨ k = 10 ∨ k = 14 ∨ k = 20 ∨ k = 21))) → ¬ Scr l a k := fun a k h => by unfold Scr; omega
  have rr : f' 180 = f 180 := R 180 fun k => hs _ _ (by omega)
  have s2 : f' 182 = f 182 := R 182 fun k => hs _ _ (by omega)
  have row : ∀ a, 40 ≤ a → a ≤ 142 → f' a = f a := fun a h1 h2 => R a fun k => hs _ _ (by omega)
  have lg : ∀ k, f' l k = f l k := fun k => c _ _ (hs _ _ (by omega))
  have lr : ∀ o, 1 ≤ o → o ≤ 6 → f' (l + o) = f (l + o) := fun o h1 h2 => R _ fun k => hs _ _ (by omega)
  have he : ∀ k, k < 10 → f' (l + 7) k = f (l + 7) k := fun k h => c _ _ (hs _ _ (by omega))
  have ea : ∀ k, k < 2 → f' (l + 13) k = f (l + 13) k := fun k h => c _ _ (hs _ _ (by omega))
  refine ⟨hlr, ?_, ?_, ?_, fun i hi => ?_, fun i hi => ?_, ?_, ?_, ?_, ?_, ?_, ?_, ?_, ?_, ?_, ?_, ?_, ?_, ?_, ?_, ?_, ?_, fun i hi => ?_, ?_, ?_, ?_, fun i hi => ?_, hn, ?_, ?_, ?_, ?_, hw, fun h => ?_⟩
  · rw [hp _ _ (by omega)]; exact p03
  · rw [hp _ _ (by omega)]; exact p40
  · rw [hp _ _ (by omega)]; exact p23
  · rw [hp _ _ (by omega)]; exact psl i hi
  · rw [hp _ _ (by omega)]; exact pim i hi
  · rw [lg, lg, lg, lg, lg, lr 1 (by omega) (by omega), lr 3 (by omega) (by omega), lr 4 (by omega) (by omega), lr 5 (by omega) (by omega), lr 6 (by omega) (by omega), rr]; exact hL
  · rw [lg]; exact hM5
  · rw [lg, rr]; exact hP6
  · rw [row 40 (by omega) (by omega), row 41 (by omega) (by omega), row 42 (by omega) (by omega), row 43 (by omega) (by omega), row 44 (by omega) (by omega), s2]; exact hN
  · rw [row 40 (by omega) (by omega)]; exact hS
  · rw [c 177 14 (hs _ _ (by omega)), lg]; exact hh
  · rw [c 177 14 (hs _ _ (by omega)), rr, s2]; exact hz
  · rw [he _ (by omega), he _ (by omega), he _ (by omega), he _ (by omega), he _ (by omega), rr, R (l + 8) fun k => hs _ _ (by omega), R (l + 9) fun k => hs _ _ (by omega)]; exact hH
  · rw [ea _ (by omega), ea _ (by omega), rr, R (l + 15) fun k => hs _ _ (by omega), R (l + 16) fun k => hs _ _ (by omega)]; exact hE
  · rw [rr]; exact hPf
  · rw [rr]; exact hsy
  · rw [row 40 (by omega) (by omega)]; exact hq
  · rw [R 183 fun k => hs _ _ (by omega)]
    obtain ⟨h1, h2, h3⟩ := hHi
    refine ⟨h1, h2, fun i hi => ?_⟩
    have := slot_lt TP A i
    dsimp only
    rw [row (5 * slot TP A i + 48) (by omega) (by omega), row (5 * slot TP A i + 49) (by omega) (by omega), row (5 * slot TP A i + 50) (by omega) (by omega), row (5 * slot TP A i + 51) (by omega) (by omega), row (5 * slot TP A i + 52) (by omega) (by omega)]
    exact h3 i hi
  · rw [row 45 (by omega) (by omega)]; exact hTP
  · rw [row 45 (by omega) (by omega)]; exact hA
  · rw [c 177 20 (hs _ _ (by omega))]; exact hUn
  · have := slot_lt TP A i
    rw [hp _ _ (by omega)]; exact hsA i hi
  · rw [R 184 fun k => hs _ _ (by omega)]
    obtain ⟨h1, h2⟩ := hIm
    refine ⟨h1, fun i hi => ?_⟩
    dsimp only
    rw [row (5 * i + 128) (by omega) (by omega), row (5 * i + 129) (by omega) (by omega), row (5 * i + 130) (by omega) (by omega), row (5 * i + 131) (by omega) (by omega), row (5 * i + 132) (by omega) (by omega)]
    exact h2 i hi
  · rw [row 45 (by omega) (by omega)]; exact hI4
  · rw [c 177 21 (hs _ _ (by omega))]; exact hI21
  · rw [hp _ _ (by omega)]; exact hsI i hi
  · rw [c 0 1 (hs _ _ (by omega))]; exact ht1
  · rw [c 177 2 (hs _ _ (by omega))]; exact ht2
  · rw [R 1 fun k => hs _ _ (by omega), R 178 fun k => hs _ _ (by omega)]; exact hT
  · rw [c 0 10 (hs _ _ (by omega)), c 177 9 (hs _ _ (by omega))]; exact hfa
  · rw [c 0 11 (hs _ _ (by omega)), c 177 10 (hs _ _ (by omega))]; exact h4 h
