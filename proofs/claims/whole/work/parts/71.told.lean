/-! THE READER: names told and new -/
section TOLD
variable {N p q T M : Nat} {bytes tape le fresh : Nat → Int32} {so ns wh tk en ft plc fm pm : Int32} {tn mn : Nat → Int64}
theorem name_so (hN : N ≤ 1000) (hR : TokR N bytes p q so ns wh tk en le) (h : D_X10_wordSort so (nI q) (nI p) (nI N) bytes = 8) : so = 1 ∧ tk = 2 ∧ 1 ≤ q ∧ q ≤ 8 ∧ ns = nI q ∧ (∀ k, k < q → isLet (le k)) ∧ D_X10_letters (nI q) (nI p) (nI N) bytes = cdN q le ∧ G_X10_letters (nI q) (nI p) (nI N) bytes := by
  have ht : tk = 2 := Classical.byContradiction fun c => by rw [sort_eq hN hR, if_neg c] at h; exact absurd h (by decide)
  obtain ⟨h0, h'⟩ := hR
  rcases h' with ⟨a, b⟩ | ⟨a, b, _⟩ | ⟨a, b, _⟩ | ⟨a, b, c, d, e, f, g⟩ | ⟨a, b, _⟩
  · rw [b] at ht; exact absurd ht (by decide)
  · rw [b] at ht; exact absurd ht (by decide)
  · rw [b] at ht; exact absurd ht (by decide)
  · obtain ⟨l1, l2⟩ := letters_code hN h0 g
    exact ⟨a, b, c, e, f, fun k hk => (g k hk).2, l1, l2⟩
  · rw [b] at ht; exact absurd ht (by decide)
theorem in_v {v lo hi : Nat} (h1 : v < 2 ^ 31) (h2 : lo < 2 ^ 31) (h3 : hi < 2 ^ 31) : D_X12_in (nI v) (nI lo) (nI hi) = if lo ≤ v ∧ v ≤ hi then 1 else 0 := by
  unfold D_X12_in
  by_cases c : v < lo
  · rw [if_pos (nI_lt c h2), if_neg (by omega)]
  · rw [if_neg (fun h => by
      have := Int32.lt_iff_toInt_lt.mp h
      rw [nI_toInt h1, nI_toInt h2] at this; omega)]
    by_cases d : v ≤ hi
    · rw [if_neg (fun h => by
        have := Int32.lt_iff_toInt_lt.mp h
        rw [nI_toInt h1, nI_toInt h3] at this; omega), if_pos (by omega)]
    · rw [if_pos (nI_lt (by omega) h1), if_neg (by omega)]
theorem told_ten (hN : N ≤ 1000) (hR : TokR N bytes p q so ns wh tk en le) (hM : NamR T M tn mn fresh) : ((∃ t, t < T ∧ so = 1 ∧ D_X8_findTold (nI T) so (nI q) (nI p) (nI N) bytes tn fm pm 3 = (nI t, fm, pm) ∧ D_X12_named 0 2 0 tk ns le (nI p) ft plc fresh = (nI t, 0, ft, plc)) ∨ (∃ n, D_X8_findTold (nI T) so (nI q) (nI p) (nI N) bytes tn fm pm 3 = (-1, n, nI p) ∧ D_X12_named 0 2 0 tk ns le (nI p) ft plc fresh = (0, 1, n, nI p))) ∧ G_X8_findTold (nI T) so (nI q) (nI p) (nI N) bytes tn 3 ∧ G_X12_named 0 tk ns le (nI p) ft plc fresh := by
  unfold D_X8_findTold D_X12_named D_X12_named_j2 D_X12_named_j1 D_X12_named_a2 D_X12_named_a1 D_X8_findTold_j1 D_X8_findTold_a1 D_X8_findTold_a2 D_X8_fail G_X8_findTold G_X12_named D_X12_named_a1
  rw [mustName_eq hN hR, if_pos rfl]
  obtain ⟨gs1, gs2⟩ := G_sort hN hR
  by_cases c : D_X10_wordSort so (nI q) (nI p) (nI N) bytes = 8
  · obtain ⟨n1, n2, n3, n4, n5, n6, n7, n8⟩ := name_so hN hR c
    rw [if_pos c, if_pos c, n7, n5]
    dsimp only
    rw [if_pos rfl, bad_0]
    have gi := (indexOf_v (c := T) (n0 := 3) (x := cdN q le) (row := tn) hM.1 (by decide)).2
    have gf : G_X12_find fresh (nI q) le := G_find n4
    rcases find_idx hM n3 n4 n6 with ⟨t, t1, t2, t3, t4⟩ | ⟨m, t1, t2, t3, t4⟩ | ⟨_, _, t2, t3, t4⟩
    · have h3 := hM.1
      have hi : D_X12_in (nI t) 0 2 = 1 := (in_v (v := t) (lo := 0) (hi := 2) (by omega) (by decide) (by decide)).trans (if_pos (by omega))
      rw [t2, t4, hi, if_neg (show ¬ nI t = -1 from fun e => by have := congrArg Int32.toInt e; rw [nI_toInt (by omega)] at this; have e1 : (-1 : Int32).toInt = -1 := rfl; omega), if_neg (show ¬ (1 : Int32) = 0 by decide), if_pos rfl]
      exact ⟨Or.inl ⟨t, t1, n1, rfl, by rw [show nI t - 0 = nI t from Int32.sub_zero _]⟩, ⟨gs1, fun _ => n8, fun _ => gi⟩, fun _ => by rw [← n5]; exact gs2, fun _ _ => gf⟩
    · have h3 := hM.2.1
      have hi : D_X12_in (nI (3 + m)) 0 2 = 0 := (in_v (v := 3 + m) (lo := 0) (hi := 2) (by omega) (by decide) (by decide)).trans (if_neg (by omega))
      rw [t2, t4, hi, if_pos rfl, if_pos rfl]
      dsimp only
      rw [if_neg (show ¬ (1 : Int32) = 0 by decide)]
      exact ⟨Or.inr ⟨2, rfl, rfl⟩, ⟨gs1, fun _ => n8, fun _ => gi⟩, fun _ => by rw [← n5]; exact gs2, fun _ _ => gf⟩
    · rw [t2, t4, show D_X12_in (-1) 0 2 = 0 from rfl, if_pos rfl, if_pos rfl]
      dsimp only
      rw [if_neg (show ¬ (1 : Int32) = 0 by decide)]
      exact ⟨Or.inr ⟨2, rfl, rfl⟩, ⟨gs1, fun _ => n8, fun _ => gi⟩, fun _ => by rw [← n5]; exact gs2, fun _ _ => gf⟩
  · rw [if_neg c, if_neg c]
    dsimp only
    rw [if_neg (show ¬ (1 : Int32) = 0 by decide)]
    exact ⟨Or.inr ⟨1, rfl, rfl⟩, ⟨gs1, fun h => absurd h c, fun h => absurd h c⟩, fun _ => gs2, fun _ h => absurd h (show ¬ (1 : Int32) = 0 by decide)⟩
theorem told_man (hN : N ≤ 1000) (hR : TokR N bytes p q so ns wh tk en le) (hM : NamR T M tn mn fresh) : ((∃ m, m < M ∧ so = 1 ∧ D_X8_findTold (nI M) so (nI q) (nI p) (nI N) bytes mn fm pm 8 = (nI m, fm, pm) ∧ D_X12_manHere 0 tk ns le (nI p) ft plc fresh = (nI m, 0, ft, plc)) ∨ (∃ n, D_X8_findTold (nI M) so (nI q) (nI p) (nI N) bytes mn fm pm 8 = (-1, n, nI p) ∧ D_X12_manHere 0 tk ns le (nI p) ft plc fresh = (0, 1, n, nI p))) ∧ G_X8_findTold (nI M) so (nI q) (nI p) (nI N) bytes mn 8 ∧ G_X12_manHere 0 tk ns le (nI p) ft plc fresh := by
  unfold D_X12_manHere D_X12_manHere_a1 G_X12_manHere D_X8_findTold D_X12_named D_X12_named_j2 D_X12_named_j1 D_X12_named_a2 D_X12_named_a1 D_X8_findTold_j1 D_X8_findTold_a1 D_X8_findTold_a2 D_X8_fail G_X8_findTold G_X12_named D_X12_named_a1
  rw [mustName_eq hN hR, if_pos rfl]
  obtain ⟨gs1, gs2⟩ := G_sort hN hR
  by_cases c : D_X10_wordSort so (nI q) (nI p) (nI N) bytes = 8
  · obtain ⟨n1, n2, n3, n4, n5, n6, n7, n8⟩ := name_so hN hR c
    rw [if_pos c, if_pos c, n7, n5]
    dsimp only
    rw [if_pos rfl, bad_0]
    have gi := (indexOf_v (c := M) (n0 := 8) (x := cdN q le) (row := mn) hM.2.1 (by decide)).2
    have gf : G_X12_find fresh (nI q) le := G_find n4
    have h3 := hM.1
    have h8 := hM.2.1
    rcases find_idx hM n3 n4 n6 with ⟨t, t1, t2, t3, t4⟩ | ⟨m, t1, t2, t3, t4⟩ | ⟨_, _, t2, t3, t4⟩
    · have hi : D_X12_in (nI t) 3 10 = 0 := (in_v (v := t) (lo := 3) (hi := 10) (by omega) (by decide) (by decide)).trans (if_neg (by omega))
      rw [t3, t4, hi, if_pos rfl, if_pos rfl]
      dsimp only
      rw [if_neg (show ¬ (1 : Int32) = 0 by decide)]
      exact ⟨Or.inr ⟨2, rfl, rfl⟩, ⟨gs1, fun _ => n8, fun _ => gi⟩, fun _ => by rw [← n5]; exact gs2, fun _ _ => gf⟩
    · have hi : D_X12_in (nI (3 + m)) 3 10 = 1 := (in_v (v := 3 + m) (lo := 3) (hi := 10) (by omega) (by decide) (by decide)).trans (if_pos (by omega))
      rw [t3, t4, hi, if_neg (show ¬ nI m = -1 from fun e => by have := congrArg Int32.toInt e; rw [nI_toInt (by omega)] at this; have e1 : (-1 : Int32).toInt = -1 := rfl; omega), if_neg (show ¬ (1 : Int32) = 0 by decide), if_pos rfl]
      exact ⟨Or.inl ⟨m, t1, n1, rfl, by rw [show nI (3 + m) - 3 = nI m by rw [Nat.add_comm, ← nI_add]; exact Int32.add_sub_cancel _ _]⟩, ⟨gs1, fun _ => n8, fun _ => gi⟩, fun _ => by rw [← n5]; exact gs2, fun _ _ => gf⟩
    · rw [t3, t4, show D_X12_in (-1) 3 10 = 0 from rfl, if_pos rfl, if_pos rfl]
      dsimp only
      rw [if_neg (show ¬ (1 : Int32) = 0 by decide)]
      exact ⟨Or.inr ⟨2, rfl, rfl⟩, ⟨gs1, fun _ => n8, fun _ => gi⟩, fun _ => by rw [← n5]; exact gs2, fun _ _ => gf⟩
  · rw [if_neg c, if_neg c]
    dsimp only
    rw [if_neg (show ¬ (1 : Int32) = 0 by decide)]
    exact ⟨Or.inr ⟨1, rfl, rfl⟩, ⟨gs1, fun h => absurd h c, fun h => absurd h c⟩, fun _ => gs2, fun _ h => absurd h (show ¬ (1 : Int32) = 0 by decide)⟩
theorem manHere_f {a1 : Int32} : D_X12_manHere 1 tk ns le a1 ft plc fresh = (0, 1, ft, plc) := by
  unfold D_X12_manHere D_X12_manHere_a1 D_X12_named
  rw [if_neg (by decide)]
theorem G_manHere_f {a1 : Int32} : G_X12_manHere 1 tk ns le a1 ft plc fresh := ⟨fun h => absurd h (show ¬ (1 : Int32) = 0 by decide), fun h => absurd h (show ¬ (1 : Int32) = 0 by decide)⟩
theorem named_f {a1 x0 x1 : Int32} : D_X12_named x0 x1 1 tk ns le a1 ft plc fresh = (0, 1, ft, plc) := by
  unfold D_X12_named
  rw [if_neg (by decide)]
theorem G_named_f {a1 : Int32} : G_X12_named 1 tk ns le a1 ft plc fresh := ⟨fun h => absurd h (show ¬ (1 : Int32) = 0 by decide), fun h => absurd h (show ¬ (1 : Int32) = 0 by decide)⟩
theorem member_eq (hN : N ≤ 1000) (hT : TapR bytes tape) (hR : TokR N bytes p q so ns wh tk en le) (hM : NamR T M tn mn fresh) : ((∃ m, ∃ p1 q1 so1 ns1 wh1 tk1 en1 le1, m < M ∧ p + q ≤ p1 ∧ D_X8_readMember (nI M) so (nI q) (nI p) (nI N) bytes mn fm pm = (nI m, fm, pm, nI p1, nI q1, so1) ∧ D_X12_manPassed 0 tk ns le (nI p) ft plc fresh en (nI N) tape wh = (nI m, 0, ft, plc, nI p1, ns1, wh1, tk1, en1, le1) ∧ TokR N bytes p1 q1 so1 ns1 wh1 tk1 en1 le1) ∨ (∃ n, D_X8_readMember (nI M) so (nI q) (nI p) (nI N) bytes mn fm pm = (-1, n, nI p, nI p, nI q, so) ∧ D_X12_manPassed 0 tk ns le (nI p) ft plc fresh en (nI N) tape wh = (0, 1, n, nI p, nI p, ns, wh, tk, en, le))) ∧ G_X8_readMember (nI M) so (nI q) (nI p) (nI N) bytes mn fm pm ∧ G_X12_manPassed 0 tk ns le (nI p) ft plc fresh en (nI N) tape := by
  unfold D_X8_readMember D_X8_readMember_j1 D_X8_readMember_a1 D_X8_readMember_a2 D_X12_manPassed D_X12_manPassed_j1 D_X12_manPassed_a1 D_X12_manPassed_a2 G_X8_readMember D_X8_readMember_a1 G_X12_manPassed D_X12_manPassed_a1
  obtain ⟨⟨m, m1, m2, m3, m4⟩ | ⟨n, m3, m4⟩, g1, g2⟩ := told_man (fm := fm) (pm := pm) (ft := ft) (plc := plc) hN hR hM
  · obtain ⟨p1, q1, so1, ns1, wh1, tk1, en1, le1, l1, s1, s2, s3, s4, s5⟩ := tk_step hN hT hR (by rw [m2]; decide)
    have h8 := hM.2.1
    rw [m3, m4, s1, s2]
    dsimp only
    rw [if_pos rfl, if_neg (show ¬ nI m = -1 from fun e => by have := congrArg Int32.toInt e; rw [nI_toInt (by omega)] at this; have e1 : (-1 : Int32).toInt = -1 := rfl; omega)]
    exact ⟨Or.inl ⟨m, p1, q1, so1, ns1, wh1, tk1, en1, le1, m1, l1, rfl, rfl, s3⟩, ⟨g1, fun _ => s4⟩, g2, fun _ => s5⟩
  · rw [m3, m4]
    dsimp only
    rw [if_pos rfl, if_neg (by decide)]
    exact ⟨Or.inr ⟨n, rfl, rfl⟩, ⟨g1, fun h => absurd rfl h⟩, g2, fun h => absurd h (show ¬ (1 : Int32) = 0 by decide)⟩
theorem manPassed_f {a1 sz : Int32} : D_X12_manPassed 1 tk ns le a1 ft plc fresh en sz tape wh = (0, 1, ft, plc, a1, ns, wh, tk, en, le) := by
  unfold D_X12_manPassed D_X12_manPassed_j1 D_X12_manPassed_a1
  rw [manHere_f]
  dsimp only
  rw [if_neg (by decide)]
theorem G_manPassed_f {a1 sz : Int32} : G_X12_manPassed 1 tk ns le a1 ft plc fresh en sz tape := by
  unfold G_X12_manPassed D_X12_manPassed_a1
  rw [manHere_f]
  exact ⟨G_manHere_f, fun h => absurd h (show ¬ (1 : Int32) = 0 by decide)⟩
theorem other_eq {a : Nat} (ha : a < M) (hN : N ≤ 1000) (hR : TokR N bytes p q so ns wh tk en le) (hM : NamR T M tn mn fresh) : ((∃ b, b < M ∧ b ≠ a ∧ so = 1 ∧ D_X8_findOther (nI a) (nI M) so (nI q) (nI p) (nI N) bytes mn fm pm = (nI b, fm, pm) ∧ D_X12_manHere 0 tk ns le (nI p) ft plc fresh = (nI b, 0, ft, plc)) ∨ (D_X8_findOther (nI a) (nI M) so (nI q) (nI p) (nI N) bytes mn fm pm = (-1, 3, nI p) ∧ D_X12_manHere 0 tk ns le (nI p) ft plc fresh = (nI a, 0, ft, plc)) ∨ (∃ n, D_X8_findOther (nI a) (nI M) so (nI q) (nI p) (nI N) bytes mn fm pm = (-1, n, nI p) ∧ D_X12_manHere 0 tk ns le (nI p) ft plc fresh = (0, 1, n, nI p))) ∧ G_X8_findOther (nI M) so (nI q) (nI p) (nI N) bytes mn ∧ G_X12_manHere 0 tk ns le (nI p) ft plc fresh := by
  have h8 := hM.2.1
  unfold D_X8_findOther D_X8_findOther_a1 D_X8_findOther_a2 D_X8_fail G_X8_findOther
  obtain ⟨⟨m, m1, m2, m3, m4⟩ | ⟨n, m3, m4⟩, g1, g2⟩ := told_man (fm := fm) (pm := pm) (ft := ft) (plc := plc) hN hR hM
  · rw [m3, m4]
    dsimp only
    by_cases c : m = a
    · rw [if_pos (by rw [c]), c]
      exact ⟨Or.inr (Or.inl ⟨rfl, rfl⟩), g1, g2⟩
    · rw [if_neg (fun h => c ((nI_eq (by omega) (by omega)).mp h))]
      exact ⟨Or.inl ⟨m, m1, c, m2, rfl, rfl⟩, g1, g2⟩
  · rw [m3, m4]
    dsimp only
    rw [if_neg (show ¬ -1 = nI a from fun e => by have := congrArg Int32.toInt e; rw [nI_toInt (by omega)] at this; have e1 : (-1 : Int32).toInt = -1 := rfl; omega)]
    exact ⟨Or.inr (Or.inr ⟨n, rfl, rfl⟩), g1, g2⟩
def nwF (n0 q : Nat) (le fresh : Nat → Int32) : Nat → Int32 := va_up (am_fo (st_X12_newName_45 n0 le) q fresh) (73 + n0) (nI q)
theorem nwF_s (n0 : Nat) : nwF n0 q le fresh (73 + n0) = nI q := va_up_self _ _ _
theorem nwF_o {n0 i : Nat} (h1 : i ≠ 73 + n0) (h2 : ¬ (84 + 8 * n0 ≤ i ∧ i < 84 + 8 * n0 + q)) : nwF n0 q le fresh i = fresh i := by
  unfold nwF
  rw [va_up_ne _ _ h1]
  have : ∀ k, k ≤ q → am_fo (st_X12_newName_45 n0 le) k fresh i = fresh i := by
    intro k
    induction k with
    | zero => intro _; rfl
    | succ k ih =>
      intro hk
      show va_up (am_fo (st_X12_newName_45 n0 le) k fresh) (84 + 8 * n0 + k) (le k) i = _
      rw [va_up_ne _ _ (by omega), ih (by omega)]
  exact this q (Nat.le_refl q)
theorem nwF_l {n0 k : Nat} (hn : n0 < 11) (hk : k < q) : nwF n0 q le fresh (84 + 8 * n0 + k) = le k := by
  unfold nwF
  rw [va_up_ne _ _ (by omega)]
  have : ∀ i, i ≤ q → k < i → am_fo (st_X12_newName_45 n0 le) i fresh (84 + 8 * n0 + k) = le k := by
    intro i
    induction i with
    | zero => intro _ h; omega
    | succ i ih =>
      intro hi h
      show va_up (am_fo (st_X12_newName_45 n0 le) i fresh) (84 + 8 * n0 + i) (le i) _ = _
      by_cases c : k = i
      · rw [c, va_up_self]
      · rw [va_up_ne _ _ (by omega), ih (by omega) (by omega)]
  exact this q (Nat.le_refl q) hk
theorem NmS_congr {fresh' : Nat → Int32} {n : Nat} {x : Int64} (h : NmS fresh n x) (h1 : fresh' (73 + n) = fresh (73 + n)) (h2 : ∀ k, k < 8 → fresh' (84 + 8 * n + k) = fresh (84 + 8 * n + k)) : NmS fresh' n x := by
  obtain ⟨s, s1, s2, s3, s4, s5⟩ := h
  refine ⟨s, s1, s2, by rw [h1, s3], fun k hk => by rw [h2 k (by omega)]; exact s4 k hk, ?_⟩
  rw [s5]; unfold cdN
  rw [cn_congr (q := s) (fun k hk => (h2 k (by omega)).symm)]
theorem NmS_new {n0 : Nat} (hn : n0 < 11) (hq1 : 1 ≤ q) (hq : q ≤ 8) (hl : ∀ k, k < q → isLet (le k)) : NmS (nwF n0 q le fresh) n0 (cdN q le) := by
  refine ⟨q, hq1, hq, nwF_s n0, fun k hk => by rw [nwF_l hn hk]; exact hl k hk, ?_⟩
  unfold cdN
  rw [cn_congr (q := q) (fun k hk => (nwF_l hn hk).symm)]
theorem NmS_old {n n0 : Nat} {x : Int64} (h : NmS fresh n x) (hn : n < 11) (hn0 : n0 < 11) (hne : n ≠ n0) (hq : q ≤ 8) : NmS (nwF n0 q le fresh) n x :=
  NmS_congr h (nwF_o (by omega) (by omega)) (fun k hk => nwF_o (by omega) (by omega))
theorem NamR_congr {fresh' : Nat → Int32} (h : NamR T M tn mn fresh) (e : ∀ i, 73 ≤ i → fresh' i = fresh i) : NamR T M tn mn fresh' := by
  obtain ⟨r1, r2, r3, r4, r5, r6, r7⟩ := h
  exact ⟨r1, r2, fun t ht => NmS_congr (r3 t ht) (e _ (by omega)) (fun k _ => e _ (by omega)), fun t h1 h2 => by rw [e _ (by omega)]; exact r4 t h1 h2, fun m hm => NmS_congr (r5 m hm) (e _ (by omega)) (fun k _ => e _ (by omega)), fun m h1 h2 => by rw [e _ (by omega)]; exact r6 m h1 h2, r7⟩
theorem NamR_ten (h : NamR T M tn mn fresh) (hT3 : T < 3) (hq1 : 1 ≤ q) (hq : q ≤ 8) (hl : ∀ k, k < q → isLet (le k)) (hm : ∀ m, m < M → mn m ≠ cdN q le) : NamR (T + 1) M (va_up tn T (cdN q le)) mn (nwF T q le fresh) := by
  obtain ⟨r1, r2, r3, r4, r5, r6, r7⟩ := h
  refine ⟨by omega, r2, fun t ht => ?_, fun t h1 h2 => ?_, fun m hm => NmS_old (r5 m hm) (by omega) (by omega) (by omega) hq, fun m h1 h2 => by rw [nwF_o (by omega) (by omega)]; exact r6 m h1 h2, fun t m ht hm' => ?_⟩
  · by_cases c : t = T
    · rw [c, va_up_self]; exact NmS_new (by omega) hq1 hq hl
    · rw [va_up_ne _ _ c]; exact NmS_old (r3 t (by omega)) (by omega) (by omega) c hq
  · rw [nwF_o (by omega) (by omega)]; exact r4 t (by omega) h2
  · by_cases c : t = T
    · rw [c, va_up_self]; exact fun e => hm m hm' e.symm
    · rw [va_up_ne _ _ c]; exact r7 t m (by omega) hm'
theorem NamR_man (h : NamR T M tn mn fresh) (hM8 : M < 8) (hq1 : 1 ≤ q) (hq : q ≤ 8) (hl : ∀ k, k < q → isLet (le k)) (ht : ∀ t, t < T → tn t ≠ cdN q le) : NamR T (M + 1) tn (va_up mn M (cdN q le)) (nwF (3 + M) q le fresh) := by
  obtain ⟨r1, r2, r3, r4, r5, r6, r7⟩ := h
  refine ⟨r1, by omega, fun t ht => NmS_old (r3 t ht) (by omega) (by omega) (by omega) hq, fun t h1 h2 => by rw [nwF_o (by omega) (by omega)]; exact r4 t h1 h2, fun m hm => ?_, fun m h1 h2 => by rw [nwF_o (by omega) (by omega)]; exact r6 m (by omega) h2, fun t m ht' hm' => ?_⟩
  · by_cases c : m = M
    · rw [c, va_up_self]; exact NmS_new (by omega) hq1 hq hl
    · rw [va_up_ne _ _ c]; exact NmS_old (r5 m (by omega)) (by omega) (by omega) (by omega) hq
  · by_cases c : m = M
    · rw [c, va_up_self]; exact ht t ht'
    · rw [va_up_ne _ _ c]; exact r7 t m ht' (by omega)
theorem newName_f {n0 : Nat} {a1 sz : Int32} : D_X12_newName n0 1 tk ns le a1 ft plc fresh en sz tape wh = (1, ft, plc, fresh, a1, ns, wh, tk, en, le) := by
  unfold D_X12_newName
  rw [if_neg (by decide)]
theorem fresh_eq {n0 : Nat} (hn : n0 < 11) (hN : N ≤ 1000) (hT : TapR bytes tape) (hR : TokR N bytes p q so ns wh tk en le) (hM : NamR T M tn mn fresh) : ((∃ p1 q1 so1 ns1 wh1 tk1 en1 le1, p + q ≤ p1 ∧ 1 ≤ q ∧ q ≤ 8 ∧ (∀ k, k < q → isLet (le k)) ∧ (∀ t, t < T → tn t ≠ cdN q le) ∧ (∀ m, m < M → mn m ≠ cdN q le) ∧ D_X10_letters (nI q) (nI p) (nI N) bytes = cdN q le ∧ G_X10_letters (nI q) (nI p) (nI N) bytes ∧ D_X8_isFreshName so (nI q) (nI p) (nI N) bytes (nI T) tn (nI M) mn fm pm = (1, fm, pm) ∧ D_X10_step (nI p) (nI q) (nI N) bytes = (nI p1, nI q1, so1) ∧ G_X10_step (nI p) (nI q) (nI N) bytes ∧ D_X12_newName n0 0 tk ns le (nI p) ft plc fresh en (nI N) tape wh = (0, ft, plc, nwF n0 q le fresh, nI p1, ns1, wh1, tk1, en1, le1) ∧ TokR N bytes p1 q1 so1 ns1 wh1 tk1 en1 le1) ∨ (∃ n, D_X8_isFreshName so (nI q) (nI p) (nI N) bytes (nI T) tn (nI M) mn fm pm = (0, n, nI p) ∧ D_X12_newName n0 0 tk ns le (nI p) ft plc fresh en (nI N) tape wh = (1, n, nI p, fresh, nI p, ns, wh, tk, en, le))) ∧ G_X8_isFreshName so (nI q) (nI p) (nI N) bytes (nI T) tn (nI M) mn ∧ G_X12_newName n0 0 tk ns le (nI p) ft plc fresh en (nI N) tape := by
  unfold D_X8_isFreshName D_X8_isFreshName_a1 D_X8_isFreshName_a2 D_X8_isFreshName_a3 D_X8_fail D_X12_newName D_X12_newName_j1 D_X12_newName_a1 D_X12_newName_a2 D_X12_newName_a1 D_X12_newName_l1 D_X12_newName_a3 G_X8_isFreshName G_X12_newName D_X12_newName_j1 D_X12_newName_a1 D_X12_newName_a2 D_X12_newName_a1
  rw [mustName_eq hN hR, if_pos rfl]
  obtain ⟨gs1, gs2⟩ := G_sort hN hR
  by_cases c : D_X10_wordSort so (nI q) (nI p) (nI N) bytes = 8
  · obtain ⟨n1, n2, n3, n4, n5, n6, n7, n8⟩ := name_so hN hR c
    obtain ⟨p1, q1, so1, ns1, wh1, tk1, en1, le1, l1, s1, s2, s3, s4, s5⟩ := tk_step hN hT hR (by rw [n1]; decide)
    rw [if_pos c, if_pos c, n7, n5, s2]
    dsimp only
    rw [if_pos rfl, bad_0, be_nI (by omega)]
    have gi := (indexOf_v (c := T) (n0 := 3) (x := cdN q le) (row := tn) hM.1 (by decide)).2
    have gj := (indexOf_v (c := M) (n0 := 8) (x := cdN q le) (row := mn) hM.2.1 (by decide)).2
    have gf : G_X12_find fresh (nI q) le := G_find n4
    have gk : ∀ (k1 : Nat) (s1 : Nat → Int32), k1 < q → s1 = am_fo (st_X12_newName_45 n0 le) k1 fresh → G_st_X12_newName_45 n0 k1 s1 := fun k s hk _ => ⟨by omega, by omega⟩
    have h3 := hM.1
    have h8 := hM.2.1
    have nm : ∀ t, t < 11 → ¬ nI t = -1 := fun t ht e => by have := congrArg Int32.toInt e; rw [nI_toInt (by omega)] at this; have e1 : (-1 : Int32).toInt = -1 := rfl; omega
    rcases find_idx hM n3 n4 n6 with ⟨t, t1, t2, t3, t4⟩ | ⟨m, t1, t2, t3, t4⟩ | ⟨u1, u2, t2, t3, t4⟩
    · rw [t2, t4, if_neg (nm t (by omega)), if_neg (nI_pos (by omega))]
      dsimp only
      rw [if_neg (show ¬ (1 : Int32) = 0 by decide)]
      exact ⟨Or.inr ⟨3, rfl, rfl⟩, ⟨gs1, fun _ => n8, fun _ => gi, fun _ h => absurd h (nm t (by omega))⟩, fun _ => by rw [← n5]; exact gs2, fun _ _ => gf, fun _ h => absurd h (show ¬ (1 : Int32) = 0 by decide), fun _ h => absurd h (show ¬ (1 : Int32) = 0 by decide), fun _ h => absurd h (show ¬ (1 : Int32) = 0 by decide)⟩
    · rw [t2, t3, t4, if_pos rfl, if_neg (nm m (by omega)), if_neg (nI_pos (by omega))]
      dsimp only
      rw [if_neg (show ¬ (1 : Int32) = 0 by decide)]
      exact ⟨Or.inr ⟨3, rfl, rfl⟩, ⟨gs1, fun _ => n8, fun _ => gi, fun _ _ => gj⟩, fun _ => by rw [← n5]; exact gs2, fun _ _ => gf, fun _ h => absurd h (show ¬ (1 : Int32) = 0 by decide), fun _ h => absurd h (show ¬ (1 : Int32) = 0 by decide), fun _ h => absurd h (show ¬ (1 : Int32) = 0 by decide)⟩
    · rw [t2, t3, t4, if_pos rfl, if_pos rfl, if_pos (show (-1 : Int32) < 0 by decide), if_pos rfl]
      refine ⟨Or.inl ⟨p1, q1, so1, ns1, wh1, tk1, en1, le1, l1, n3, n4, n6, u1, u2, rfl, n8, rfl, s1, s4, rfl, s3⟩, ⟨gs1, fun _ => n8, fun _ => gi, fun _ _ => gj⟩, fun _ => by rw [← n5]; exact gs2, fun _ _ => gf, fun _ _ => gk, fun _ _ => by omega, fun _ _ => s5⟩
  · rw [if_neg c, if_neg c]
    dsimp only
    rw [if_neg (show ¬ (1 : Int32) = 0 by decide)]
    exact ⟨Or.inr ⟨1, rfl, rfl⟩, ⟨gs1, fun h => absurd h c, fun h => absurd h c, fun h => absurd h c⟩, fun _ => gs2, fun _ h => absurd h (show ¬ (1 : Int32) = 0 by decide), fun _ h => absurd h (show ¬ (1 : Int32) = 0 by decide), fun _ h => absurd h (show ¬ (1 : Int32) = 0 by decide), fun _ h => absurd h (show ¬ (1 : Int32) = 0 by decide)⟩
end TOLD
