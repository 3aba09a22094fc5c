/-! THE READER: words and names -/
theorem slen_lt (w : Nat) (hw : w < 47) : am_slen w < 50 := (by decide +kernel : ∀ w, w < 47 → am_slen w < 50) w hw
section WORDS
variable {N p q : Nat} {bytes tape le fresh : Nat → Int32} {so ns wh tk en at_ ft plc : Int32}
theorem isWord_eq {w w' : Nat} (hN : N ≤ 1000) (hR : TokR N bytes p q so ns wh tk en le) (hw : am_strs.getD w [] = am_strs.getD w' []) (h47 : w' < 47) : D_X10_isWord w so (nI q) (nI p) (nI N) bytes = D_X12_isWord w' 0 tk ns le ∧ (D_X12_isWord w' 0 tk ns le = 0 ∨ D_X12_isWord w' 0 tk ns le = 1) ∧ G_X10_isWord w so (nI q) (nI p) (nI N) bytes ∧ G_X12_isWord w' 0 tk ns le := by
  have hl : am_slen w = am_slen w' := by unfold am_slen; rw [hw]
  have hc : ∀ k, am_sch w k = am_sch w' k := fun k => by unfold am_sch; rw [hw]
  have hlt := slen_lt w' h47
  obtain ⟨hq, h⟩ := hR
  have no : so ≠ 1 → tk ≠ 2 → D_X10_isWord w so (nI q) (nI p) (nI N) bytes = D_X12_isWord w' 0 tk ns le ∧ (D_X12_isWord w' 0 tk ns le = 0 ∨ D_X12_isWord w' 0 tk ns le = 1) ∧ G_X10_isWord w so (nI q) (nI p) (nI N) bytes ∧ G_X12_isWord w' 0 tk ns le := fun c1 c2 => by
    have e : D_X12_isWord w' 0 tk ns le = 0 := by unfold D_X12_isWord; rw [if_pos rfl, if_neg c2]
    rw [e]
    exact ⟨by unfold D_X10_isWord; rw [if_neg c1], Or.inl rfl, fun c => absurd c c1, fun _ c => absurd c c2, fun _ c => absurd c c2⟩
  rcases h with ⟨a, b⟩ | ⟨a, b, c⟩ | ⟨a, b, c⟩ | ⟨a, b, c, d, e, f, g⟩ | ⟨a, b, c⟩
  · exact no (by rw [a]; decide) (by rw [b]; decide)
  · exact no (by rw [a]; decide) (by rw [b]; decide)
  · exact no (by rw [a]; decide) (by rw [b]; decide)
  · subst a; subst b; subst f
    by_cases s : q = am_slen w'
    · have s1 : nI q = nI (am_slen w') := by rw [s]
      have inv : ∀ k, k ≤ q → (am_fe (st_X10_isWord_39 w (nI p) bytes) k () = .inl () ∧ am_fo (st_X12_isWord_32 w' le) k 1 = 1) ∨ (am_fe (st_X10_isWord_39 w (nI p) bytes) k () = .inr () ∧ am_fo (st_X12_isWord_32 w' le) k 1 = 0) := by
        intro k
        induction k with
        | zero => intro _; exact Or.inl ⟨rfl, rfl⟩
        | succ k ih =>
          intro hk
          have fs : am_fo (st_X12_isWord_32 w' le) (k + 1) 1 = st_X12_isWord_32 w' le k (am_fo (st_X12_isWord_32 w' le) k 1) := rfl
          rcases ih (by omega) with ⟨i1, i2⟩ | ⟨i1, i2⟩
          · rw [am_fe_s, am_sel_l i1, fs, i2]
            unfold st_X10_isWord_39 st_X12_isWord_32
            rw [nI_clamp (by omega), (g k (by omega)).1, hc k, if_neg (show ¬ (1 : Int32) = 0 by decide)]
            by_cases c2 : le k = nI (am_sch w' k)
            · rw [if_pos c2, if_pos c2]; exact Or.inl ⟨rfl, rfl⟩
            · rw [if_neg c2, if_neg c2]; exact Or.inr ⟨rfl, rfl⟩
          · rw [am_fe_s, am_sel_r i1, fs, i2]
            exact Or.inr ⟨rfl, rfl⟩
      have e2 : D_X12_isWord w' 0 2 (nI q) le = am_fo (st_X12_isWord_32 w' le) q 1 := by
        unfold D_X12_isWord D_X12_isWord_l1
        rw [if_pos rfl, if_pos rfl, if_pos s1, be_nI (by omega)]
      have e1 : D_X10_isWord w 1 (nI q) (nI p) (nI N) bytes = am_sel (am_fe (st_X10_isWord_39 w (nI p) bytes) q ()) (fun u1 => 1) (fun u2 => 0) := by
        unfold D_X10_isWord D_X10_isWord_l1
        rw [if_pos rfl, hl, if_pos s1, nI_add, if_pos (nI_le hq (by omega)), be_nI (by omega)]
      have g1 : G_X10_isWord w 1 (nI q) (nI p) (nI N) bytes := fun _ _ _ k s hk h => by
        rw [be_nI (by omega)] at hk
        exact ⟨nI_pos (by omega), by rw [nI_clamp (by omega)]; omega, by omega⟩
      have g2 : ∀ (k1 : Nat) (s1 : Int32), k1 < am_be (nI q) 0 → s1 = am_fo (st_X12_isWord_32 w' le) k1 1 → G_st_X12_isWord_32 w' k1 s1 := fun k s hk h => by
        rw [be_nI (by omega)] at hk
        exact ⟨fun _ => by omega, fun _ => by omega⟩
      have e3 : D_X12_isWord_l1 w' (nI q) le = am_fo (st_X12_isWord_32 w' le) q 1 := by
        unfold D_X12_isWord_l1; rw [be_nI (by omega)]
      unfold G_X12_isWord
      rw [e3]
      rcases inv q (Nat.le_refl q) with ⟨i1, i2⟩ | ⟨i1, i2⟩
      · rw [e1, e2, i2, am_sel_l i1]
        exact ⟨rfl, Or.inr rfl, g1, fun _ _ _ => g2, fun _ _ _ => Or.inr rfl⟩
      · rw [e1, e2, i2, am_sel_r i1]
        exact ⟨rfl, Or.inl rfl, g1, fun _ _ _ => g2, fun _ _ _ => Or.inl rfl⟩
    · have s1 : ¬ nI q = nI (am_slen w') := fun h => s ((nI_eq (by omega) (by omega)).mp h)
      have e : D_X12_isWord w' 0 2 (nI q) le = 0 := by unfold D_X12_isWord; rw [if_pos rfl, if_pos rfl, if_neg s1]
      rw [e]
      exact ⟨by unfold D_X10_isWord; rw [if_pos rfl, hl, if_neg s1], Or.inl rfl, fun _ c => absurd (by rw [← hl]; exact c) s1, fun _ _ c => absurd c s1, fun _ _ c => absurd c s1⟩
  · exact no (by rw [a]; decide) (by rw [b]; decide)
theorem isWord_f (w : Nat) : D_X12_isWord w 1 tk ns le = 0 := by unfold D_X12_isWord; rw [if_neg (by decide)]
theorem G_isWord_f (w : Nat) : G_X12_isWord w 1 tk ns le := ⟨fun c => absurd c (by decide), fun c => absurd c (by decide)⟩
theorem bad_0 (x y : Int32) : D_X12_bad x y 0 ft plc = (1, x, y) := by unfold D_X12_bad; rw [if_pos rfl]
theorem bad_1 (x y : Int32) : D_X12_bad x y 1 ft plc = (1, ft, plc) := by unfold D_X12_bad; rw [if_neg (by decide)]
theorem sort_eq (hN : N ≤ 1000) (hR : TokR N bytes p q so ns wh tk en le) : D_X10_wordSort so (nI q) (nI p) (nI N) bytes = if tk = 2 then (if D_X12_isWord 24 0 tk ns le = 0 then if D_X12_isWord 29 0 tk ns le = 0 then if D_X12_isWord 30 0 tk ns le = 0 then if D_X12_isWord 31 0 tk ns le = 0 then if D_X12_isWord 32 0 tk ns le = 0 then if D_X12_isWord 33 0 tk ns le = 0 then if D_X12_isWord 34 0 tk ns le = 0 then if D_X12_isWord 35 0 tk ns le = 0 then 8 else 7 else 6 else 5 else 4 else 3 else 2 else 1 else 0) else -1 := by
  have e0 := (isWord_eq (w := 0) (w' := 24) hN hR rfl (by decide)).1
  have e1 := (isWord_eq (w := 1) (w' := 29) hN hR rfl (by decide)).1
  have e2 := (isWord_eq (w := 2) (w' := 30) hN hR rfl (by decide)).1
  have e3 := (isWord_eq (w := 3) (w' := 31) hN hR rfl (by decide)).1
  have e4 := (isWord_eq (w := 4) (w' := 32) hN hR rfl (by decide)).1
  have e5 := (isWord_eq (w := 5) (w' := 33) hN hR rfl (by decide)).1
  have e6 := (isWord_eq (w := 6) (w' := 34) hN hR rfl (by decide)).1
  have e7 := (isWord_eq (w := 7) (w' := 35) hN hR rfl (by decide)).1
  have st : so = 1 ↔ tk = 2 := by
    obtain ⟨_, h⟩ := hR
    rcases h with ⟨a, b⟩ | ⟨a, b, _⟩ | ⟨a, b, _⟩ | ⟨a, b, _⟩ | ⟨a, b, _⟩ <;> rw [a, b] <;> decide
  unfold D_X10_wordSort
  rw [e0, e1, e2, e3, e4, e5, e6, e7]
  by_cases c : tk = 2
  · rw [if_pos (st.mpr c), if_pos c]
  · rw [if_neg (fun h => c (st.mp h)), if_neg c]
theorem G_sort (hN : N ≤ 1000) (hR : TokR N bytes p q so ns wh tk en le) : G_X10_wordSort so (nI q) (nI p) (nI N) bytes ∧ G_X12_mustName tk 0 ns le := by
  have e0 := (isWord_eq (w := 0) (w' := 24) hN hR rfl (by decide)).2.2
  have e1 := (isWord_eq (w := 1) (w' := 29) hN hR rfl (by decide)).2.2
  have e2 := (isWord_eq (w := 2) (w' := 30) hN hR rfl (by decide)).2.2
  have e3 := (isWord_eq (w := 3) (w' := 31) hN hR rfl (by decide)).2.2
  have e4 := (isWord_eq (w := 4) (w' := 32) hN hR rfl (by decide)).2.2
  have e5 := (isWord_eq (w := 5) (w' := 33) hN hR rfl (by decide)).2.2
  have e6 := (isWord_eq (w := 6) (w' := 34) hN hR rfl (by decide)).2.2
  have e7 := (isWord_eq (w := 7) (w' := 35) hN hR rfl (by decide)).2.2
  exact ⟨⟨fun _ => e0.1, fun _ _ => e1.1, fun _ _ _ => e2.1, fun _ _ _ _ => e3.1, fun _ _ _ _ _ => e4.1, fun _ _ _ _ _ _ => e5.1, fun _ _ _ _ _ _ _ => e6.1, fun _ _ _ _ _ _ _ _ => e7.1⟩, ⟨fun _ => e0.2, fun _ _ => e1.2, fun _ _ _ => e2.2, fun _ _ _ _ => e3.2, fun _ _ _ _ _ => e4.2, fun _ _ _ _ _ _ => e5.2, fun _ _ _ _ _ _ _ => e6.2, fun _ _ _ _ _ _ _ _ => e7.2⟩⟩
theorem mustName_eq (hN : N ≤ 1000) (hR : TokR N bytes p q so ns wh tk en le) : D_X12_mustName tk 0 ns le at_ ft plc = if D_X10_wordSort so (nI q) (nI p) (nI N) bytes = 8 then (0, ft, plc) else (1, 1, at_) := by
  rw [sort_eq hN hR]
  unfold D_X12_mustName D_X12_mustName_j1 D_X12_mustName_a1 D_X12_mustName_a2 D_X12_mustName_a3 D_X12_mustName_a4 D_X12_mustName_a5 D_X12_mustName_a6 D_X12_mustName_a7 D_X12_mustName_a8 D_X12_mustName_a9
  rw [bad_0]
  generalize D_X12_isWord 24 0 tk ns le = a0
  generalize D_X12_isWord 29 0 tk ns le = a1
  generalize D_X12_isWord 30 0 tk ns le = a2
  generalize D_X12_isWord 31 0 tk ns le = a3
  generalize D_X12_isWord 32 0 tk ns le = a4
  generalize D_X12_isWord 33 0 tk ns le = a5
  generalize D_X12_isWord 34 0 tk ns le = a6
  generalize D_X12_isWord 35 0 tk ns le = a7
  by_cases c : tk = 2
  · simp only [if_pos c]
    by_cases c0 : a0 = 0
    · simp only [if_pos c0]
      by_cases c1 : a1 = 0
      · simp only [if_pos c1]
        by_cases c2 : a2 = 0
        · simp only [if_pos c2]
          by_cases c3 : a3 = 0
          · simp only [if_pos c3]
            by_cases c4 : a4 = 0
            · simp only [if_pos c4]
              by_cases c5 : a5 = 0
              · simp only [if_pos c5]
                by_cases c6 : a6 = 0
                · simp only [if_pos c6]
                  by_cases c7 : a7 = 0
                  · simp only [if_pos c7]; rfl
                  · simp only [if_neg c7]; rfl
                · simp only [if_neg c6]; rfl
              · simp only [if_neg c5]; rfl
            · simp only [if_neg c4]; rfl
          · simp only [if_neg c3]; rfl
        · simp only [if_neg c2]; rfl
      · simp only [if_neg c1]; rfl
    · simp only [if_neg c0]; rfl
  · simp only [if_neg c]; rfl
end WORDS
