/-! HISTORY: the ring beside the shifted rows -/
def KR (M : Nat) (row : Nat → Int32) (o : Nat) (p b s : Int32) (t f a l : Nat → Int32) : Prop := NowR M o p b s t f a l row ∧ sub_men p M ∧ ∃ q, q < 65537 ∧ s = nI q
def slot (P A i : Nat) : Nat := (P + 16 - A + i) % 16
def HistR (M P A : Nat) (kp kb ks : Nat → Int32) (kt kf ka kl : Nat → Nat → Int32) (undone : Nat → Int32) : Prop := P < 16 ∧ A ≤ 16 ∧ ∀ i, i < A → KR M undone (30 * i) (kp (slot P A i)) (kb (slot P A i)) (ks (slot P A i)) (kt (slot P A i)) (kf (slot P A i)) (ka (slot P A i)) (kl (slot P A i))
theorem KR_row {M o o' : Nat} {p b s : Int32} {t f a l row row' : Nat → Int32} (hM : M ≤ 8) (h : KR M row o p b s t f a l) (e : ∀ i, i < 30 → row' (o' + i) = row (o + i)) : KR M row' o' p b s t f a l := ⟨NowR_row hM h.1 e, h.2⟩
theorem KR_cpy {M o : Nat} {p b s : Int32} {t f a l t2 f2 a2 l2 row : Nat → Int32} (hM : M ≤ 8) (h : KR M row o p b s t f a l) : KR M row o p b s (va_cpy t t2 0 0 8) (va_cpy f f2 0 0 8) (va_cpy a a2 0 0 8) (va_cpy l l2 0 0 3) := ⟨NowR_cpy hM h.1, h.2⟩
theorem note_l1_v (undone : Nat → Int32) (i : Nat) : D_X12_note_l1 undone i = if i < 450 then undone (i + 30) else undone i := by
  unfold D_X12_note_l1
  have : ∀ n, n ≤ 450 → ∀ i, am_fo st_X12_note_11 n undone i = if i < n then undone (i + 30) else undone i := by
    intro n
    induction n with
    | zero => intro _ i; rw [if_neg (Nat.not_lt_zero i)]; rfl
    | succ n ih =>
      intro hn i
      show va_up (am_fo st_X12_note_11 n undone) n (am_fo st_X12_note_11 n undone (n + 30)) i = _
      by_cases e : i = n
      · rw [e, va_up_self, ih (by omega), if_neg (by omega), if_pos (by omega)]
      · rw [va_up_ne _ _ e, ih (by omega)]
        by_cases c : i < n
        · rw [if_pos c, if_pos (by omega)]
        · rw [if_neg c, if_neg (by omega)]
  exact this 450 (Nat.le_refl _) i
section HIST
variable {M P A I : Nat} {present braced seed : Int32} {tenOf feared angerOf lotsOf st undone kept : Nat → Int32} {kp kb ks : Nat → Int32} {kt kf ka kl : Nat → Nat → Int32}
def mnA (A : Nat) : Nat := if A < 16 then A + 1 else 16
theorem keep_nums (hP : P < 16) (hA : A ≤ 16) : jrm (nI P + 1) 16 = nI ((P + 1) % 16) ∧ (if 16 < nI A + 1 then 16 else nI A + 1) = nI (mnA A) := by
  constructor
  · rw [nI_1, show (16 : Int32) = nI 16 from rfl, i_rem (by omega) (by omega)]
  · rw [nI_1]
    unfold mnA
    by_cases c : A < 16
    · rw [if_pos c, if_neg (nI_nlt (b := A + 1) (a := 16) (by omega) (by omega) |> fun h => by exact fun g => h g)]
    · rw [if_neg c, if_pos (show (16 : Int32) < nI (A + 1) from nI_lt (a := 16) (by omega) (by omega))]
      rfl
theorem note_rel (hM : M ≤ 8) (hH : HistR M P A kp kb ks kt kf ka kl undone) (hN : KR M st 0 present braced seed tenOf feared angerOf lotsOf) {t2 f2 a2 l2 : Nat → Int32} : HistR M ((P + 1) % 16) (mnA A) (va_up kp P present) (va_up kb P braced) (va_up ks P seed) (va_up kt P (va_cpy tenOf t2 0 0 8)) (va_up kf P (va_cpy feared f2 0 0 8)) (va_up ka P (va_cpy angerOf a2 0 0 8)) (va_up kl P (va_cpy lotsOf l2 0 0 3)) (D_X12_note (nI A) undone st).1 ∧ (D_X12_note (nI A) undone st).2 = nI (mnA A) := by
  obtain ⟨hP, hA, hK⟩ := hH
  have hv : ∀ i, (D_X12_note (nI A) undone st).1 i = if A = 16 then (if 450 ≤ i ∧ i < 480 then st (i - 450) else if i < 450 then undone (i + 30) else undone i) else (if 30 * A ≤ i ∧ i < 30 * A + 30 then st (i - 30 * A) else undone i) := by
    intro i
    unfold D_X12_note D_X12_note_a1 D_X12_note_j1
    by_cases c : A = 16
    · rw [if_pos c, if_pos (show nI A = 16 by rw [c]; rfl)]
      dsimp only
      rw [c, show nI 16 - 1 = nI 15 by decide, nI_clamp (by omega), copy_ne_v (by omega), note_l1_v]
      show (if 450 ≤ i ∧ i < 450 + 30 then st (0 + (i - 450)) else _) = _
      rw [Nat.zero_add]
    · rw [if_neg c, if_neg (show ¬ nI A = 16 from fun h => c ((nI_eq (b := 16) (by omega) (by omega)).mp h))]
      dsimp only
      rw [nI_clamp (by omega), copy_ne_v (by omega), Nat.zero_add]
  constructor
  · refine ⟨Nat.mod_lt _ (by omega), by unfold mnA; split <;> omega, fun i hi => ?_⟩
    by_cases c : A = 16
    · have hmn : mnA A = 16 := by unfold mnA; rw [if_neg (by omega)]
      rw [hmn] at hi ⊢
      by_cases e : i = 15
      · have hs : slot ((P + 1) % 16) 16 i = P := by unfold slot; omega
        rw [hs]
        simp only [va_up_self]
        refine KR_row hM (KR_cpy hM hN) fun k hk => ?_
        rw [hv, if_pos c, if_pos (by omega), Nat.zero_add, show 30 * i + k - 450 = k by omega]
      · have hs : slot ((P + 1) % 16) 16 i = slot P A (i + 1) := by unfold slot; omega
        have hne : slot P A (i + 1) ≠ P := by unfold slot; omega
        rw [hs]
        simp only [va_up_ne _ _ hne]
        refine KR_row hM (hK (i + 1) (by omega)) fun k hk => ?_
        rw [hv, if_pos c, if_neg (by omega), if_pos (by omega), show 30 * i + k + 30 = 30 * (i + 1) + k by omega]
    · have hmn : mnA A = A + 1 := by unfold mnA; rw [if_pos (by omega)]
      rw [hmn] at hi ⊢
      by_cases e : i = A
      · have hs : slot ((P + 1) % 16) (A + 1) i = P := by unfold slot; omega
        rw [hs]
        simp only [va_up_self]
        refine KR_row hM (KR_cpy hM hN) fun k hk => ?_
        rw [hv, if_neg c, if_pos (by omega), Nat.zero_add, show 30 * i + k - 30 * A = k by omega]
      · have hs : slot ((P + 1) % 16) (A + 1) i = slot P A i := by unfold slot; omega
        have hne : slot P A i ≠ P := by unfold slot; omega
        rw [hs]
        simp only [va_up_ne _ _ hne]
        refine KR_row hM (hK i (by omega)) fun k hk => ?_
        rw [hv, if_neg c, if_neg (by omega)]
  · unfold D_X12_note D_X12_note_j1 mnA
    by_cases c : A = 16
    · rw [if_pos (show nI A = 16 by rw [c]; rfl), if_neg (by omega), c]; rfl
    · rw [if_neg (show ¬ nI A = 16 from fun h => c ((nI_eq (b := 16) (by omega) (by omega)).mp h)), if_pos (by omega)]
      exact nI_1 A
theorem undo_rel (hM : M ≤ 8) (hH : HistR M P (A + 1) kp kb ks kt kf ka kl undone) {t2 f2 a2 l2 : Nat → Int32} : KR M (D_X12_copy_ne (30 * A) 0 30 undone st) 0 (kp ((P + 15) % 16)) (kb ((P + 15) % 16)) (ks ((P + 15) % 16)) (va_cpy (kt ((P + 15) % 16)) t2 0 0 8) (va_cpy (kf ((P + 15) % 16)) f2 0 0 8) (va_cpy (ka ((P + 15) % 16)) a2 0 0 8) (va_cpy (kl ((P + 15) % 16)) l2 0 0 3) ∧ HistR M ((P + 15) % 16) A kp kb ks kt kf ka kl undone ∧ jrm (nI P + 16 - 1) 16 = nI ((P + 15) % 16) := by
  obtain ⟨hP, hA, hK⟩ := hH
  refine ⟨?_, ⟨Nat.mod_lt _ (by omega), by omega, fun i hi => ?_⟩, ?_⟩
  · have := hK A (by omega)
    rw [show slot P (A + 1) A = (P + 15) % 16 by unfold slot; omega] at this
    refine KR_row hM (KR_cpy hM this) fun i hi => ?_
    rw [copy_ne_v (by omega), if_pos (by omega), Nat.zero_add, Nat.sub_zero]
  · have := hK i (by omega)
    rw [show slot P (A + 1) i = slot ((P + 15) % 16) A i by unfold slot; omega] at this
    exact this
  · rw [show (16 : Int32) = nI 16 from rfl, nI_add, show P + 16 = P + 15 + 1 by omega, nI_prd, i_rem (by omega) (by omega)]
/-! IMAGES -/
def ImgR (M I : Nat) (kp kb ks : Nat → Int32) (kt kf ka kl : Nat → Nat → Int32) (kept : Nat → Int32) : Prop := I ≤ 3 ∧ ∀ i, i < I → KR M kept (30 * i) (kp i) (kb i) (ks i) (kt i) (kf i) (ka i) (kl i)
theorem image_rel (hM : M ≤ 8) (hI : I < 3) (hH : ImgR M I kp kb ks kt kf ka kl kept) (hN : KR M st 0 present braced seed tenOf feared angerOf lotsOf) {t2 f2 a2 l2 : Nat → Int32} : ImgR M (I + 1) (va_up kp I present) (va_up kb I braced) (va_up ks I seed) (va_up kt I (va_cpy tenOf t2 0 0 8)) (va_up kf I (va_cpy feared f2 0 0 8)) (va_up ka I (va_cpy angerOf a2 0 0 8)) (va_up kl I (va_cpy lotsOf l2 0 0 3)) (D_X12_copy_ne 0 (30 * I) 30 st kept) := by
  obtain ⟨-, hK⟩ := hH
  refine ⟨by omega, fun i hi => ?_⟩
  by_cases e : i = I
  · rw [e]
    simp only [va_up_self]
    refine KR_row hM (KR_cpy hM hN) fun k hk => ?_
    rw [copy_ne_v (by omega), if_pos (by omega), show 30 * I + k - 30 * I = k by omega]
  · simp only [va_up_ne _ _ e]
    refine KR_row hM (hK i (by omega)) fun k hk => ?_
    rw [copy_ne_v (by omega), if_neg (by omega)]
theorem back_rel (hM : M ≤ 8) {i : Nat} (hi : i < I) (hH : ImgR M I kp kb ks kt kf ka kl kept) {t2 f2 a2 l2 : Nat → Int32} : KR M (D_X12_copy_ne (30 * i) 0 30 kept st) 0 (kp i) (kb i) (ks i) (va_cpy (kt i) t2 0 0 8) (va_cpy (kf i) f2 0 0 8) (va_cpy (ka i) a2 0 0 8) (va_cpy (kl i) l2 0 0 3) := by
  refine KR_row hM (KR_cpy hM (hH.2 i hi)) fun k hk => ?_
  rw [copy_ne_v (by omega), if_pos (by omega), Nat.zero_add, Nat.sub_zero]
end HIST
section UNDO
variable {A I : Nat} {x0 top hl tens p b s p2 b2 s2 : Int32} {t f an lo t2 f2 an2 l2 undone kept st : Nat → Int32} {ptr : Option Nat} {l : Nat} {acts undos : Int32}
theorem act_undo : (A = 0 ∧ D_X11_undo (nI A) top ptr p p2 b b2 s s2 t t2 f f2 an an2 lo l2 l = (0, nI A, top, p2, b2, s2, t2, f2, an2, l2, ptr, 6) ∧ D_X12_undo (nI A) undone st = (0, 0, 6, nI A, st)) ∨ (∃ B, A = B + 1 ∧ (A ≤ 16 → D_X11_undo (nI A) top ptr p p2 b b2 s s2 t t2 f f2 an an2 lo l2 l = (1, nI B, jrm (top + 16 - 1) 16, p, b, s, va_cpy t t2 0 0 8, va_cpy f f2 0 0 8, va_cpy an an2 0 0 8, va_cpy lo l2 0 0 3, some l, 0) ∧ D_X12_undo (nI A) undone st = (1, 0, 0, nI B, D_X12_copy_ne (30 * B) 0 30 undone st))) := by
  unfold D_X11_undo D_X12_undo D_X11_undo_j2 D_X11_undo_a2 D_X11_undo_j1 D_X11_undo_a1 D_X3_takeBack
  cases A with
  | zero =>
    refine Or.inl ⟨rfl, ?_, ?_⟩
    · rw [if_pos (show nI 0 = 0 from rfl), if_pos (show (0 : Int32) = 0 from rfl), if_neg (fun g => absurd ((refused1 _).mp g) (by decide)), refused2]
    · rw [if_pos (show nI 0 = 0 from rfl)]; rfl
  | succ B =>
    refine Or.inr ⟨B, rfl, fun h => ⟨?_, ?_⟩⟩
    · rw [if_neg (nI_ne0 (by omega) (by omega)), if_neg (show ¬ (1 : Int32) = 0 by decide), if_pos ((refused1 _).mpr rfl), refused2, nI_prd]
      rfl
    · rw [if_neg (nI_ne0 (by omega) (by omega)), nI_prd, nI_clamp (by omega)]; rfl
theorem act_image (hh : hl = 0 ↔ tens = 0) (hI : I ≤ 3) : (∃ w, ¬ w = 0 ∧ D_X11_image tens (nI I) ptr p p2 b b2 s s2 t t2 f f2 an an2 lo l2 l = ((-1), w, p2, b2, s2, t2, f2, an2, l2, nI I, ptr) ∧ D_X12_image hl (nI I) st kept = ((-1), 0, w, kept, nI I)) ∨ (I < 3 ∧ ¬ hl = 0 ∧ D_X11_image tens (nI I) ptr p p2 b b2 s s2 t t2 f f2 an an2 lo l2 l = (nI I, 0, p, b, s, va_cpy t t2 0 0 8, va_cpy f f2 0 0 8, va_cpy an an2 0 0 8, va_cpy lo l2 0 0 3, nI (I + 1), some l) ∧ D_X12_image hl (nI I) st kept = (nI I, 0, 0, D_X12_copy_ne 0 (30 * I) 30 st kept, nI (I + 1))) := by
  unfold D_X11_image D_X12_image D_X11_image_a1 D_X11_image_j2 D_X11_image_a3 D_X11_image_j1 D_X11_image_a2 D_X3_addImage D_X11_troubleOfLegion
  by_cases h0 : hl = 0
  · rw [if_pos h0, if_pos (hh.mp h0), if_neg (fun g => absurd ((refused1 _).mp g) (by decide)), refused2]
    exact Or.inl ⟨1, by decide, rfl, rfl⟩
  · rw [if_neg h0, if_neg (fun g => h0 (hh.mpr g)), if_pos ((refused1 _).mpr rfl)]
    by_cases c : I = 3
    · rw [c, if_neg (show ¬ nI 3 < 3 by decide), if_pos (show (-1 : Int32) = -1 from rfl), if_pos (show nI 3 = 3 from rfl), if_neg (fun g => absurd ((refused1 _).mp g) (by decide)), refused2]
      exact Or.inl ⟨3, by decide, rfl, rfl⟩
    · have h3 : ¬ nI I = 3 := fun h => c ((nI_eq (b := 3) (by omega) (by omega)).mp h)
      have hn1 : ¬ nI I = -1 := fun h => by
        have := congrArg Int32.toInt h
        rw [nI_toInt (by omega), show (-1 : Int32).toInt = -1 by decide] at this
        omega
      refine Or.inr ⟨by omega, h0, ?_, ?_⟩
      · rw [if_pos (show nI I < 3 from nI_lt (b := 3) (by omega) (by omega)), nI_1, nI_prd, if_neg hn1, if_pos ((refused1 _).mpr rfl), refused2]
        rfl
      · rw [if_neg h3, nI_1, nI_prd, nI_clamp (by omega)]; rfl
theorem act_back (hI : I ≤ 3) : (D_X11_back x0 (nI I) ptr p p2 b b2 s s2 t t2 f f2 an an2 lo l2 acts l = (0, p2, b2, s2, t2, f2, an2, l2, acts, ptr, 1) ∧ D_X12_back x0 (nI I) kept st undos = (0, 0, 1, st, undos)) ∨ (∃ i, i < I ∧ x0 = nI i ∧ D_X11_back x0 (nI I) ptr p p2 b b2 s s2 t t2 f f2 an an2 lo l2 acts l = (1, p, b, s, va_cpy t t2 0 0 8, va_cpy f f2 0 0 8, va_cpy an an2 0 0 8, va_cpy lo l2 0 0 3, 0, some l, 0) ∧ D_X12_back x0 (nI I) kept st undos = (1, 0, 0, D_X12_copy_ne (30 * i) 0 30 kept st, 0)) := by
  unfold D_X11_back D_X12_back D_X11_back_j2 D_X11_back_a2 D_X11_back_j1 D_X11_back_a1 D_X3_goBack
  rcases in_spec (x := x0) (T := I) (by omega) with ⟨h1, h2⟩ | ⟨h1, h2, m, h3, h4⟩
  · refine Or.inl ⟨?_, by rw [h1, if_pos rfl]; rfl⟩
    by_cases c : x0 < 0
    · rw [if_pos c, if_pos (show (0 : Int32) = 0 from rfl), if_neg (fun g => absurd ((refused1 _).mp g) (by decide)), refused2]
    · rw [if_neg c] at h2 ⊢
      by_cases c2 : x0 < nI I
      · rw [if_pos c2] at h2; exact absurd h2 (by decide)
      · rw [if_neg c2, if_pos (show (0 : Int32) = 0 from rfl), if_neg (fun g => absurd ((refused1 _).mp g) (by decide)), refused2]
  · refine Or.inr ⟨m, h3, h4, ?_, by rw [h1, if_neg (by decide), h4, nI_clamp (by omega)]; rfl⟩
    rw [h4, if_neg (nI_pos (by omega)), if_pos (nI_lt h3 (by omega)), if_neg (show ¬ (1 : Int32) = 0 by decide), if_pos ((refused1 _).mpr rfl), refused2]
    rfl
end UNDO
