/-! LEGION: the text read, class beside reference -/
abbrev T34 : Type := Int32 × Int32 × Int32 × Int32 × Int32 × Int32 × Int32 × Int32 × Int32 × Int32 × Int32 × Int32 × Int32 × Int32 × Int32 × Int32 × Int32 × Int32 × Int32 × (Nat → Int64) × (Nat → Int32) × (Nat → Int32) × (Nat → Int32) × (Nat → Int32) × (Nat → Int32) × (Nat → Int32) × (Nat → Int64) × Int32 × Int32 × Int32 × (Nat → Int32) × (Nat → Int32) × (Nat → Int32) × (Nat → Int32)
def rt (sd e fm pm : Int32) (s : S32) : T34 := (sd, s.1, s.2.1, s.2.2.1, s.2.2.2.1, s.2.2.2.2.1, s.2.2.2.2.2.1, s.2.2.2.2.2.2.1, s.2.2.2.2.2.2.2.1, s.2.2.2.2.2.2.2.2.1, s.2.2.2.2.2.2.2.2.2.1, s.2.2.2.2.2.2.2.2.2.2.1, s.2.2.2.2.2.2.2.2.2.2.2.1, fm, pm, e, s.2.2.2.2.2.2.2.2.2.2.2.2.2.2.1, s.2.2.2.2.2.2.2.2.2.2.2.2.2.2.2.1, s.2.2.2.2.2.2.2.2.2.2.2.2.2.2.2.2.1, s.2.2.2.2.2.2.2.2.2.2.2.2.2.2.2.2.2.1, s.2.2.2.2.2.2.2.2.2.2.2.2.2.2.2.2.2.2.2.1, s.2.2.2.2.2.2.2.2.2.2.2.2.2.2.2.2.2.2.2.2.1, s.2.2.2.2.2.2.2.2.2.2.2.2.2.2.2.2.2.2.2.2.2.1, s.2.2.2.2.2.2.2.2.2.2.2.2.2.2.2.2.2.2.2.2.2.2.1, s.2.2.2.2.2.2.2.2.2.2.2.2.2.2.2.2.2.2.2.2.2.2.2.1, s.2.2.2.2.2.2.2.2.2.2.2.2.2.2.2.2.2.2.2.2.2.2.2.2.1, s.2.2.2.2.2.2.2.2.2.2.2.2.2.2.2.2.2.2.1, s.2.2.2.2.2.2.2.2.2.2.2.2.2.2.2.2.2.2.2.2.2.2.2.2.2.1, s.2.2.2.2.2.2.2.2.2.2.2.2.2.2.2.2.2.2.2.2.2.2.2.2.2.2.1, s.2.2.2.2.2.2.2.2.2.2.2.2.2.2.2.2.2.2.2.2.2.2.2.2.2.2.2.1, s.2.2.2.2.2.2.2.2.2.2.2.2.2.2.2.2.2.2.2.2.2.2.2.2.2.2.2.2.1, s.2.2.2.2.2.2.2.2.2.2.2.2.2.2.2.2.2.2.2.2.2.2.2.2.2.2.2.2.2.1, s.2.2.2.2.2.2.2.2.2.2.2.2.2.2.2.2.2.2.2.2.2.2.2.2.2.2.2.2.2.2.1, s.2.2.2.2.2.2.2.2.2.2.2.2.2.2.2.2.2.2.2.2.2.2.2.2.2.2.2.2.2.2.2)
section RT
variable {x0 : Int32} {bytes tape : Nat → Int32} {N : Nat} {tn mn : Nat → Int64} {kind firstTen nerve friendsOf fearTimes weight drawer wb pair ofPair : Nat → Int32} {black shaken fav : Int32}
theorem rt_1 {n : Int32} {s : S32} (h : D_X8_readText_l1 x0 bytes tn mn kind firstTen nerve friendsOf fearTimes weight black shaken fav drawer wb pair ofPair = .inr (.inl (n, s))) : D_X8_readText x0 bytes tn mn kind firstTen nerve friendsOf fearTimes weight black shaken fav drawer wb pair ofPair = rt 0 (D_X8_readText_a2 x0 bytes).1 n s.2.2.2.2.2.2.2.2.2.2.2.2.2.2.1 s := by
  unfold D_X8_readText; rw [am_sel_r h]; rfl
theorem rt_2 {s : S32} (h : D_X8_readText_l1 x0 bytes tn mn kind firstTen nerve friendsOf fearTimes weight black shaken fav drawer wb pair ofPair = .inr (.inr (.inl s))) : D_X8_readText x0 bytes tn mn kind firstTen nerve friendsOf fearTimes weight black shaken fav drawer wb pair ofPair = rt 0 (D_X8_readText_a2 x0 bytes).1 s.2.2.2.2.2.2.2.2.2.2.2.2.1 s.2.2.2.2.2.2.2.2.2.2.2.2.2.1 s := by
  unfold D_X8_readText; rw [am_sel_r h]; rfl
theorem rt_3 {s : S32} (h : D_X8_readText_l1 x0 bytes tn mn kind firstTen nerve friendsOf fearTimes weight black shaken fav drawer wb pair ofPair = .inr (.inr (.inr (.inl s)))) : D_X8_readText x0 bytes tn mn kind firstTen nerve friendsOf fearTimes weight black shaken fav drawer wb pair ofPair = rt (D_X8_readText_j2 s).1 (D_X8_readText_a2 x0 bytes).1 (D_X8_readText_j2 s).2.1 (D_X8_readText_j2 s).2.2 s := by
  unfold D_X8_readText; rw [am_sel_r h]; rfl
theorem rt_4 {s : S32} (h : D_X8_readText_l1 x0 bytes tn mn kind firstTen nerve friendsOf fearTimes weight black shaken fav drawer wb pair ofPair = .inr (.inr (.inr (.inr s)))) : D_X8_readText x0 bytes tn mn kind firstTen nerve friendsOf fearTimes weight black shaken fav drawer wb pair ofPair = rt 0 (D_X8_readText_a2 x0 bytes).1 1 s.2.2.2.2.2.2.2.2.2.2.2.2.2.2.1 s := by
  unfold D_X8_readText; rw [am_sel_r h]; rfl
theorem fre_0 {fresh : Nat → Int32} : ∀ i, i < 172 → D_X12_legion_l1 fresh i = 0 := by
  intro i hi
  have : ∀ n, i < n → am_fo st_X12_legion_39 n fresh i = 0 := by
    intro n
    induction n with
    | zero => intro h; omega
    | succ n ih =>
      intro h
      show va_up (am_fo st_X12_legion_39 n fresh) n 0 i = 0
      by_cases c : i = n
      · rw [c, va_up_self]
      · rw [va_up_ne _ _ c]; exact ih (by omega)
  exact this 172 hi
theorem rdr_0 {fresh : Nat → Int32} (z : ∀ i, i < 172 → fresh i = 0) : RdR 0 0 0 0 0 0 0 0 0 (-1) 0 0 tn mn kind firstTen nerve friendsOf fearTimes weight black shaken fav drawer wb pair ofPair fresh := by
  refine ⟨⟨by omega, by omega, fun t ht => by omega, fun t _ ht => z _ (by omega), fun m hm => by omega, fun m _ hm => z _ (by omega), fun t m ht _ => by omega⟩, ⟨fun m hm => by omega, fun m _ hm => z _ (by omega), fun i j hi _ => by omega⟩, by omega, rfl, z _ (by omega), z _ (by omega), z _ (by omega), Or.inl ⟨z _ (by omega), rfl, z _ (by omega), rfl⟩, ⟨Or.inl ⟨z _ (by omega), rfl⟩, 0, by omega, z _ (by omega), rfl, fun i hi => by omega⟩, fun _ => z _ (by omega), Or.inl ⟨rfl, z _ (by omega), rfl, rfl, rfl, z _ (by omega), z _ (by omega)⟩⟩
theorem begin_v (hN : N ≤ 1000) : D_X10_begin (nI N) bytes = (nI N, (D_X10_step 0 0 (nI N) bytes).1, (D_X10_step 0 0 (nI N) bytes).2.1, (D_X10_step 0 0 (nI N) bytes).2.2) ∧ (if (1000 : Int32) ≤ nI N then 1000 else nI N) = nI N := by
  have e : (if (1000 : Int32) ≤ nI N then 1000 else nI N) = nI N := by
    by_cases c : N = 1000
    · rw [c]; rfl
    · rw [if_neg (show ¬ (1000 : Int32) ≤ nI N from nI_ge (b := 1000) (by omega) (by decide))]
  refine ⟨?_, e⟩
  unfold D_X10_begin D_X10_begin_a1
  rw [e]
theorem text_all {fresh letters : Nat → Int32} {plc : Int32} (hN : N ≤ 1000) (hT : TapR bytes tape) (hx : x0 = nI N) : ∃ r Z', D_X8_readText_l1 x0 bytes tn mn kind firstTen nerve friendsOf fearTimes weight black shaken fav drawer wb pair ofPair = .inr r ∧ G_X8_readText x0 bytes tn mn kind firstTen nerve friendsOf fearTimes weight black shaken fav drawer wb pair ofPair ∧ D_X12_legion_m1 x0 fresh tape letters plc = qZ Z' ∧ Outc N bytes 0 (-1) 0 plc r Z' ∧ (D_X8_readText_a2 x0 bytes).1 = nI N ∧ G_X12_goOn 0 x0 tape letters ∧ G_X12_readLine 0 (D_X12_legion_a3 x0 tape letters).2.2.2.1 (D_X12_legion_a3 x0 tape letters).2.1 (D_X12_legion_a3 x0 tape letters).2.2.2.2.2 (D_X12_legion_l1 fresh) (D_X12_legion_a3 x0 tape letters).1 0 plc (D_X12_legion_a3 x0 tape letters).2.2.2.2.1 x0 tape ∧ (∀ (k2 : Nat) (s2 : Q10), k2 < 1001 → am_fe (st_X12_legion_77 x0 tape) k2 (qZ (D_X12_legion_a4 x0 fresh tape letters plc)) = .inl s2 → G_st_X12_legion_77 x0 tape k2 s2) ∧ am_ir (D_X12_legion_l2 x0 fresh tape letters plc) = true := by
  subst hx
  obtain ⟨p, q, so, ns, wh, tk, en, le, l0, s1, s2, hR, s4, s5⟩ := step_go (pl := 0) (ln := 0) (p0 := 0) (le := letters) hN hT (Nat.zero_le N) rfl
  obtain ⟨bg, eN⟩ := begin_v (bytes := bytes) hN
  have a2 : D_X8_readText_a2 (nI N) bytes = (nI N, nI p, nI q, so) := by unfold D_X8_readText_a2; rw [bg, s1]
  have a3 : D_X12_legion_a3 (nI N) tape letters = (nI p, ns, wh, tk, en, le) := s2
  have hx1 : (D_X8_readText_a2 (nI N) bytes).1 = nI N := by rw [a2]
  have hP : PreR N bytes p 0 (-1) (0, 0, 0, 0, nI 0, nI 0, nI 0, 0, 0, -1, 0, 0, 0, -1, nI p, nI q, so, tn, mn, kind, firstTen, nerve, friendsOf, fearTimes, weight, black, shaken, fav, drawer, wb, pair, ofPair) ns wh tk en le (D_X12_legion_l1 fresh) := ⟨0, 0, 0, q, so, 0, 0, 0, 0, 0, 0, -1, 0, 0, tn, mn, kind, firstTen, nerve, friendsOf, fearTimes, weight, black, shaken, fav, drawer, wb, pair, ofPair, rfl, hR, rdr_0 fre_0⟩
  obtain ⟨Z, hZ⟩ : ∃ Z, D_X12_readLine 0 tk ns le (D_X12_legion_l1 fresh) (nI p) 0 plc en (nI N) tape wh = Z := ⟨_, rfl⟩
  obtain ⟨gz, j, r, Z', j1, j2, ⟨S, Q, e1, e2, e3, e4⟩, ho⟩ := text_loop (ft := 0) (plc := plc) hx1 hN hT N p _ ns wh tk en le (D_X12_legion_l1 fresh) (by omega) hP Z hZ
  have a4 : D_X12_legion_a4 (nI N) fresh tape letters plc = Z := by unfold D_X12_legion_a4; rw [a3]; exact hZ
  have hj : j < 1000 := by
    by_cases c : j = 0
    · omega
    · have := j2 (by omega); omega
  have c1 : ∀ i, i < j → st_X8_readText_32 (nI N) bytes i (S i) = .inl (S (i + 1)) := fun i hi => (e3 i hi i).1.1
  have c2 : st_X8_readText_32 (nI N) bytes j (S j) = .inr r := (e4 j).1.1
  have d1 : ∀ i, i < j → st_X12_legion_77 (nI N) tape i (qZ (Q i)) = .inl (qZ (Q (i + 1))) := fun i hi => (e3 i hi i).2.1
  have d2 : st_X12_legion_77 (nI N) tape j (qZ (Q j)) = .inr (qZ Z') := (e4 j).2.1
  have f1 := fe_stop c1 c2 1000 hj
  have f2 := fe_stop (S := fun i => qZ (Q i)) d1 d2 1001 (by omega)
  have gS : ∀ k s, am_fe (st_X8_readText_32 (nI N) bytes) k (S 0) = .inl s → G_st_X8_readText_32 (nI N) bytes k s := fun k s h => by
    obtain ⟨h1, h2⟩ := fe_at c1 c2 h
    rw [h2]
    by_cases c : k < j
    · exact (e3 k c k).1.2
    · have : k = j := by omega
      rw [this]; exact (e4 j).1.2
  have gQ : ∀ k s, am_fe (st_X12_legion_77 (nI N) tape) k (qZ (Q 0)) = .inl s → G_st_X12_legion_77 (nI N) tape k s := fun k s h => by
    obtain ⟨h1, h2⟩ := fe_at (S := fun i => qZ (Q i)) d1 d2 h
    rw [h2]
    by_cases c : k < j
    · exact (e3 k c k).2.2
    · have : k = j := by omega
      rw [this]; exact (e4 j).2.2
  have L1 : D_X8_readText_l1 (nI N) bytes tn mn kind firstTen nerve friendsOf fearTimes weight black shaken fav drawer wb pair ofPair = .inr r := by
    unfold D_X8_readText_l1
    rw [a2]
    rw [e1] at f1
    exact f1
  have L2 : D_X12_legion_l2 (nI N) fresh tape letters plc = .inr (qZ Z') := by
    unfold D_X12_legion_l2
    rw [a4]
    rw [e2] at f2
    exact f2
  refine ⟨r, Z', L1, ⟨?_, fun k s hk h => gS k s ?_, fun u2 h2 u4 h4 u6 h6 u7 h7 => ?_⟩, by unfold D_X12_legion_m1; rw [L2]; rfl, ho, hx1, s5, by rw [a3]; exact gz, fun k s hk h => gQ k s (by rw [e2, ← a4]; exact h), by rw [L2]; rfl⟩
  · unfold G_X10_begin; rw [eN]; exact s4
  · rw [e1]
    rw [a2] at h
    exact h
  · unfold D_X8_readText_j2
    by_cases c : 0 < u7.2.2.2.2.1
    · rw [if_pos c]; exact Or.inr rfl
    · rw [if_neg c]; exact Or.inl rfl
end RT
