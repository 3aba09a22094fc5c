/-! THE ADDRESSES behind the constructors (wip/gen/top.py): kinds, and the pointers that never change -/
def am_kd (a : Nat) : Option (Nat × Nat) := (([[(11, 0), (13, 1000), (8, 0), (15, 3), (15, 8), (4, 0), (14, 8), (14, 8), (14, 8), (14, 8), (14, 8), (14, 8), (2, 0), (14, 6), (16, 6), (7, 0)], [(7, 0), (7, 0), (1, 0), (14, 8), (14, 5), (14, 5), (10, 0), (4, 0), (14, 8), (14, 8), (14, 8), (14, 8), (14, 8), (14, 8), (2, 0), (14, 6)], [(16, 6), (7, 0), (7, 0), (7, 0), (1, 0), (14, 8), (14, 5), (14, 5), (6, 0), (14, 8), (14, 8), (14, 8), (14, 3), (3, 0), (17, 16), (17, 3)], [(6, 0), (14, 8), (14, 8), (14, 8), (14, 3), (6, 0), (14, 8), (14, 8), (14, 8), (14, 3), (6, 0), (14, 8), (14, 8), (14, 8), (14, 3), (6, 0)], [(14, 8), (14, 8), (14, 8), (14, 3), (6, 0), (14, 8), (14, 8), (14, 8), (14, 3), (6, 0), (14, 8), (14, 8), (14, 8), (14, 3), (6, 0), (14, 8)], [(14, 8), (14, 8), (14, 3), (6, 0), (14, 8), (14, 8), (14, 8), (14, 3), (6, 0), (14, 8), (14, 8), (14, 8), (14, 3), (6, 0), (14, 8), (14, 8)], [(14, 8), (14, 3), (6, 0), (14, 8), (14, 8), (14, 8), (14, 3), (6, 0), (14, 8), (14, 8), (14, 8), (14, 3), (6, 0), (14, 8), (14, 8), (14, 8)], [(14, 3), (6, 0), (14, 8), (14, 8), (14, 8), (14, 3), (6, 0), (14, 8), (14, 8), (14, 8), (14, 3), (6, 0), (14, 8), (14, 8), (14, 8), (14, 3)], [(6, 0), (14, 8), (14, 8), (14, 8), (14, 3), (6, 0), (14, 8), (14, 8), (14, 8), (14, 3), (6, 0), (14, 8), (14, 8), (14, 8), (14, 3), (5, 0)], [(17, 4), (6, 0), (14, 8), (14, 8), (14, 8), (14, 3), (6, 0), (14, 8), (14, 8), (14, 8), (14, 3), (6, 0), (14, 8), (14, 8), (14, 8), (14, 3)], [(6, 0), (14, 8), (14, 8), (14, 8), (14, 3), (9, 0), (14, 8), (14, 8), (14, 3), (0, 0), (14, 8), (6, 0), (14, 8), (14, 8), (14, 8), (14, 3)], [(7, 0), (12, 0), (14, 1000), (14, 8), (14, 172), (14, 172), (14, 30), (14, 480), (14, 90), (14, 120), (14, 8), (14, 8), (14, 3), (14, 30), (14, 8), (15, 1)]] : List (List (Nat × Nat))).getD (a / 16) [])[a % 16]?
def am_pt (a k : Nat) : Option Nat := am_find ((([[[(0, 1), (2, 2), (4, 40), (5, 45), (6, 143), (7, 165), (8, 169), (9, 176)], [], [(0, 22), (1, 3), (2, 4)], [], [], [(7, 6), (8, 7), (9, 8), (10, 9), (11, 10), (12, 11), (13, 12), (14, 18)], [], [], [], [], [], [], [(5, 13), (6, 14), (7, 15), (8, 16), (9, 17)], [], [], []], [[], [], [(4, 19), (5, 20), (6, 21)], [], [], [], [(0, 1)], [(7, 24), (8, 25), (9, 26), (10, 27), (11, 28), (12, 29), (13, 30), (14, 36)], [], [], [], [], [], [], [(5, 31), (6, 32), (7, 33), (8, 34), (9, 35)], []], [[], [], [], [], [(4, 37), (5, 38), (6, 39)], [], [], [], [(4, 41), (5, 42), (6, 43), (7, 44)], [], [], [], [], [(0, 46), (1, 47)], [(0, 48), (1, 53), (2, 58), (3, 63), (4, 68), (5, 73), (6, 78), (7, 83), (8, 88), (9, 93), (10, 98), (11, 103), (12, 108), (13, 113), (14, 118), (15, 123)], [(0, 128), (1, 133), (2, 138)]], [[(4, 49), (5, 50), (6, 51), (7, 52)], [], [], [], [], [(4, 54), (5, 55), (6, 56), (7, 57)], [], [], [], [], [(4, 59), (5, 60), (6, 61), (7, 62)], [], [], [], [], [(4, 64), (5, 65), (6, 66), (7, 67)]], [[], [], [], [], [(4, 69), (5, 70), (6, 71), (7, 72)], [], [], [], [], [(4, 74), (5, 75), (6, 76), (7, 77)], [], [], [], [], [(4, 79), (5, 80), (6, 81), (7, 82)], []], [[], [], [], [(4, 84), (5, 85), (6, 86), (7, 87)], [], [], [], [], [(4, 89), (5, 90), (6, 91), (7, 92)], [], [], [], [], [(4, 94), (5, 95), (6, 96), (7, 97)], [], []], [[], [], [(4, 99), (5, 100), (6, 101), (7, 102)], [], [], [], [], [(4, 104), (5, 105), (6, 106), (7, 107)], [], [], [], [], [(4, 109), (5, 110), (6, 111), (7, 112)], [], [], []], [[], [(4, 114), (5, 115), (6, 116), (7, 117)], [], [], [], [], [(4, 119), (5, 120), (6, 121), (7, 122)], [], [], [], [], [(4, 124), (5, 125), (6, 126), (7, 127)], [], [], [], []], [[(4, 129), (5, 130), (6, 131), (7, 132)], [], [], [], [], [(4, 134), (5, 135), (6, 136), (7, 137)], [], [], [], [], [(4, 139), (5, 140), (6, 141), (7, 142)], [], [], [], [], [(0, 144)]], [[(0, 145), (1, 150), (2, 155), (3, 160)], [(4, 146), (5, 147), (6, 148), (7, 149)], [], [], [], [], [(4, 151), (5, 152), (6, 153), (7, 154)], [], [], [], [], [(4, 156), (5, 157), (6, 158), (7, 159)], [], [], [], []], [[(4, 161), (5, 162), (6, 163), (7, 164)], [], [], [], [], [(1, 166), (2, 167), (3, 168)], [], [], [], [(0, 171), (1, 170)], [], [(4, 172), (5, 173), (6, 174), (7, 175)], [], [], [], []], [[], [(1, 178), (12, 179), (15, 180), (16, 181), (17, 182), (18, 183), (19, 184), (25, 185), (36, 186), (37, 187), (38, 188), (51, 189), (52, 190)], [], [], [], [], [], [], [], [], [], [], [], [], [], []]] : List (List (List (Nat × Nat)))).getD (a / 16) []).getD (a % 16) []) k
/-- pointers p and kinds d as the constructors left them, but for the legion that is told (l), the one that is read into (r), and what the Nows were told of -/
def am_T (p : Nat → Nat → Option Nat) (d : Nat → Nat × Nat) (l r : Nat) : Prop := (∀ a x, am_kd a = some x → d a = x) ∧ (∀ a k x, am_pt a k = some x → p a k = some x) ∧ p 0 3 = some l ∧ p 40 0 = some l ∧ p 2 3 = some r ∧ (l = 5 ∧ r = 23 ∨ l = 23 ∧ r = 5)
theorem am_kd_lt {a : Nat} {x : Nat × Nat} (h : am_kd a = some x) : a < 192 := by
  refine Decidable.byContradiction fun g => ?_
  unfold am_kd at h
  have h1 : 12 ≤ a / 16 := by omega
  rw [List.getD_eq_getElem?_getD, List.getElem?_eq_none (show _ ≤ a / 16 from h1)] at h
  simp at h
section AMT
variable {p : Nat → Nat → Option Nat} {d : Nat → Nat × Nat} {l r : Nat}
theorem am_Tk (h : am_T p d l r) {a : Nat} {x : Nat × Nat} (e : am_kd a = some x) : d a = x := h.1 a x e
theorem am_Tp (h : am_T p d l r) {a k x : Nat} (e : am_pt a k = some x) : p a k = some x := h.2.1 a k x e
theorem am_Ttold (h : am_T p d l r) : p 0 3 = some l := h.2.2.1
theorem am_Tnow (h : am_T p d l r) : p 40 0 = some l := h.2.2.2.1
theorem am_Tinto (h : am_T p d l r) : p 2 3 = some r := h.2.2.2.2.1
theorem am_Thl (h : am_T p d l r) : l = 5 ∨ l = 23 := h.2.2.2.2.2.elim (fun g => Or.inl g.1) (fun g => Or.inr g.1)
theorem am_Thr (h : am_T p d l r) : r = 5 ∨ r = 23 := h.2.2.2.2.2.elim (fun g => Or.inr g.2) (fun g => Or.inl g.2)
theorem am_Tlk (h : am_T p d l r) {v : Nat} (hv : v = 5 ∨ v = 23) {o : Nat} {x : Nat × Nat} (e5 : am_kd (5 + o) = some x) (e23 : am_kd (23 + o) = some x) : d (v + o) = x := by
  rcases hv with e | e
  · rw [e]; exact am_Tk h e5
  · rw [e]; exact am_Tk h e23
theorem am_Tlk0 (h : am_T p d l r) {v : Nat} (hv : v = 5 ∨ v = 23) : d v = (4, 0) := by
  rcases hv with e | e
  · rw [e]; exact am_Tk h rfl
  · rw [e]; exact am_Tk h rfl
theorem am_Tlp (h : am_T p d l r) {v : Nat} (hv : v = 5 ∨ v = 23) {o k x : Nat} (e5 : am_pt (5 + o) k = some (5 + x)) (e23 : am_pt (23 + o) k = some (23 + x)) : p (v + o) k = some (v + x) := by
  rcases hv with e | e
  · rw [e]; exact am_Tp h e5
  · rw [e]; exact am_Tp h e23
theorem am_Tlp0 (h : am_T p d l r) {v : Nat} (hv : v = 5 ∨ v = 23) {k x : Nat} (e5 : am_pt 5 k = some (5 + x)) (e23 : am_pt 23 k = some (23 + x)) : p v k = some (v + x) := by
  rcases hv with e | e
  · rw [e]; exact am_Tp h e5
  · rw [e]; exact am_Tp h e23
theorem am_now_all : ∀ a, a < 192 → am_kd a = some (6, 0) → am_kd (a + 1) = some (14, 8) ∧ am_kd (a + 2) = some (14, 8) ∧ am_kd (a + 3) = some (14, 8) ∧ am_kd (a + 4) = some (14, 3) ∧ am_pt a 0 = none ∧ am_pt a 4 = some (a + 1) ∧ am_pt a 5 = some (a + 2) ∧ am_pt a 6 = some (a + 3) ∧ am_pt a 7 = some (a + 4) := by decide +kernel
theorem am_Tn {a : Nat} (ha : am_kd a = some (6, 0)) : am_kd (a + 1) = some (14, 8) ∧ am_kd (a + 2) = some (14, 8) ∧ am_kd (a + 3) = some (14, 8) ∧ am_kd (a + 4) = some (14, 3) ∧ am_pt a 0 = none ∧ am_pt a 4 = some (a + 1) ∧ am_pt a 5 = some (a + 2) ∧ am_pt a 6 = some (a + 3) ∧ am_pt a 7 = some (a + 4) := am_now_all a (am_kd_lt ha) ha
theorem am_Tn1 (h : am_T p d l r) {a : Nat} (ha : am_kd a = some (6, 0)) : d (a + 1) = (14, 8) := am_Tk h (am_Tn ha).1
theorem am_Tn2 (h : am_T p d l r) {a : Nat} (ha : am_kd a = some (6, 0)) : d (a + 2) = (14, 8) := am_Tk h (am_Tn ha).2.1
theorem am_Tn3 (h : am_T p d l r) {a : Nat} (ha : am_kd a = some (6, 0)) : d (a + 3) = (14, 8) := am_Tk h (am_Tn ha).2.2.1
theorem am_Tn4 (h : am_T p d l r) {a : Nat} (ha : am_kd a = some (6, 0)) : d (a + 4) = (14, 3) := am_Tk h (am_Tn ha).2.2.2.1
theorem am_Tq4 (h : am_T p d l r) {a : Nat} (ha : am_kd a = some (6, 0)) : p a 4 = some (a + 1) := am_Tp h (am_Tn ha).2.2.2.2.2.1
theorem am_Tq5 (h : am_T p d l r) {a : Nat} (ha : am_kd a = some (6, 0)) : p a 5 = some (a + 2) := am_Tp h (am_Tn ha).2.2.2.2.2.2.1
theorem am_Tq6 (h : am_T p d l r) {a : Nat} (ha : am_kd a = some (6, 0)) : p a 6 = some (a + 3) := am_Tp h (am_Tn ha).2.2.2.2.2.2.2.1
theorem am_Tq7 (h : am_T p d l r) {a : Nat} (ha : am_kd a = some (6, 0)) : p a 7 = some (a + 4) := am_Tp h (am_Tn ha).2.2.2.2.2.2.2.2
theorem am_u_eq {α : Type} (f : Nat → Nat → α) (a k : Nat) (x : α) : am_u f a k x a k = x := by
  unfold am_u va_up
  rw [if_pos rfl]
  exact if_pos rfl
theorem am_u_ne {α : Type} (f : Nat → Nat → α) {a k b j : Nat} (x : α) (h : b ≠ a ∨ j ≠ k) : am_u f a k x b j = f b j := by
  unfold am_u va_up
  by_cases e : b = a
  · rw [if_pos e]
    by_cases e2 : j = k
    · exact (h.elim (fun g => absurd e g) (fun g => absurd e2 g))
    · exact (if_neg e2).trans (by rw [e])
  · rw [if_neg e]
/-- what a Now was told of may change (but not the one of the class itself) -/
theorem am_T_sr (h : am_T p d l r) {a : Nat} (ha : am_kd a = some (6, 0)) (h40 : a ≠ 40) {x : Option Nat} : am_T (am_u p a 0 x) d l r := by
  refine ⟨h.1, ?_, ?_, ?_, ?_, h.2.2.2.2.2⟩
  · intro b k y e
    rw [am_u_ne]
    · exact h.2.1 b k y e
    · refine Decidable.byContradiction fun g => ?_
      have hb : b = a := Decidable.byContradiction fun n => g (Or.inl n)
      have hk : k = 0 := Decidable.byContradiction fun n => g (Or.inr n)
      rw [hb, hk, (am_Tn ha).2.2.2.2.1] at e
      cases e
  · rw [am_u_ne _ _ (Or.inr (by decide))]; exact h.2.2.1
  · rw [am_u_ne _ _ (Or.inl (Ne.symm h40))]; exact h.2.2.2.1
  · rw [am_u_ne _ _ (Or.inr (by decide))]; exact h.2.2.2.2.1
theorem am_T_sr40 (h : am_T p d l r) {a : Nat} (ha : am_kd a = some (6, 0)) : am_T (am_u p a 0 (some l)) d l r := by
  by_cases h40 : a = 40
  · have e : am_u p a 0 (some l) = p := by
      funext b k
      by_cases hb : b = a ∧ k = 0
      · rw [hb.1, hb.2, am_u_eq, h40]; exact (am_Tnow h).symm
      · refine am_u_ne _ _ ?_
        by_cases e : b = a
        · exact Or.inr fun e2 => hb ⟨e, e2⟩
        · exact Or.inl e
    rw [e]; exact h
  · exact am_T_sr h ha h40
theorem am_kept_all : ∀ i, i < 16 → am_pt 46 i = some (48 + 5 * i) ∧ am_kd (48 + 5 * i) = some (6, 0) := by decide +kernel
theorem am_pics_all : ∀ i, i < 3 → am_pt 47 i = some (128 + 5 * i) ∧ am_kd (128 + 5 * i) = some (6, 0) := by decide +kernel
theorem am_after_all : ∀ i, i < 4 → am_pt 144 i = some (145 + 5 * i) ∧ am_kd (145 + 5 * i) = some (6, 0) := by decide +kernel
theorem am_out_lt {i : Int32} {n : Nat} (h : am_out i n = false) : i.toNatClampNeg < n := by
  unfold am_out at h
  rw [Bool.or_eq_false_iff, decide_eq_false_iff_not, decide_eq_false_iff_not] at h
  omega
theorem am_Tkept (h : am_T p d l r) {i : Int32} (hb : am_out i 16 = false) : p 46 i.toNatClampNeg = some (48 + 5 * i.toNatClampNeg) := am_Tp h (am_kept_all _ (am_out_lt hb)).1
theorem am_Tpics (h : am_T p d l r) {i : Int32} (hb : am_out i 3 = false) : p 47 i.toNatClampNeg = some (128 + 5 * i.toNatClampNeg) := am_Tp h (am_pics_all _ (am_out_lt hb)).1
theorem am_Tafter (h : am_T p d l r) {i : Int32} (hb : am_out i 4 = false) : p 144 i.toNatClampNeg = some (145 + 5 * i.toNatClampNeg) := am_Tp h (am_after_all _ (am_out_lt hb)).1
end AMT
