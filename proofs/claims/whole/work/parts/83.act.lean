/-! LEGION: the act -/
theorem all_men : ∀ M, M < 9 → ∀ k, k < 32 → bt (((1 : Int32) <<< (nI M &&& 31)) - 1) k = true → k < M := by decide +kernel
section ACT
variable {x0 taped c1 c2 c3 c4 c5 c6 c7 c8 c9 c10 c11 c12 c13 c14 c15 c16 c17 c18 lf fp present braced seed acts imgs : Int32} {bytes tape : Nat → Int32} {N : Nat} {tn mn : Nat → Int64} {kind firstTen nerve friendsOf fearTimes weight drawer wb pair ofPair tenOf feared angerOf lotsOf : Nat → Int32} {black shaken fav : Int32} {ptr : Option Nat} {r l : Nat} {fault failed size en at_ ns wh tk plc hl undos images : Int32} {fresh letters rr st : Nat → Int32}
theorem begin_now {M : Nat} {f0 : Nat → Int32} : D_X6_begin (nI M) f0 tenOf feared angerOf lotsOf = (((1 : Int32) <<< (nI M &&& 31)) - 1, 0, 0, (D_X6_begin (nI M) f0 tenOf feared angerOf lotsOf).2.2.2.1, (D_X6_begin (nI M) f0 tenOf feared angerOf lotsOf).2.2.2.2.1, (D_X6_begin (nI M) f0 tenOf feared angerOf lotsOf).2.2.2.2.2.1, (D_X6_begin (nI M) f0 tenOf feared angerOf lotsOf).2.2.2.2.2.2) := rfl
theorem begin_rows {M : Nat} {f0 : Nat → Int32} : (∀ m, m < 8 → (D_X6_begin (nI M) f0 tenOf feared angerOf lotsOf).2.2.2.1 m = f0 m ∧ (D_X6_begin (nI M) f0 tenOf feared angerOf lotsOf).2.2.2.2.1 m = 0 ∧ (D_X6_begin (nI M) f0 tenOf feared angerOf lotsOf).2.2.2.2.2.1 m = 0) ∧ ∀ t, t < 3 → (D_X6_begin (nI M) f0 tenOf feared angerOf lotsOf).2.2.2.2.2.2 t = 0 := by
  have h1 : ∀ n m, m < n → (am_fo (st_X6_begin_29 f0) n (tenOf, feared, angerOf)).1 m = f0 m ∧ (am_fo (st_X6_begin_29 f0) n (tenOf, feared, angerOf)).2.1 m = 0 ∧ (am_fo (st_X6_begin_29 f0) n (tenOf, feared, angerOf)).2.2 m = 0 := by
    intro n
    induction n with
    | zero => intro m h; omega
    | succ n ih =>
      intro m h
      show va_up (am_fo (st_X6_begin_29 f0) n (tenOf, feared, angerOf)).1 n (f0 n) m = _ ∧ va_up (am_fo (st_X6_begin_29 f0) n (tenOf, feared, angerOf)).2.1 n 0 m = 0 ∧ va_up (am_fo (st_X6_begin_29 f0) n (tenOf, feared, angerOf)).2.2 n 0 m = 0
      by_cases c : m = n
      · rw [c, va_up_self, va_up_self, va_up_self]; exact ⟨rfl, rfl, rfl⟩
      · rw [va_up_ne _ _ c, va_up_ne _ _ c, va_up_ne _ _ c]; exact ih m (by omega)
  have h2 : ∀ n t, t < n → am_fo st_X6_begin_69 n lotsOf t = 0 := by
    intro n
    induction n with
    | zero => intro m h; omega
    | succ n ih =>
      intro m h
      show va_up (am_fo st_X6_begin_69 n lotsOf) n 0 m = 0
      by_cases c : m = n
      · rw [c, va_up_self]
      · rw [va_up_ne _ _ c]; exact ih m (by omega)
  exact ⟨fun m hm => h1 8 m hm, fun t ht => h2 3 t ht⟩
theorem a10_v {M : Nat} {Q : Q10} (hM : M ≤ 8) (hm : D_X12_legion_m1 x0 fresh tape letters plc = Q) (h5 : Q.2.2.1 5 = nI M) : (∀ m, m < M → D_X12_legion_a10 x0 fresh tape letters plc rr st m = Q.2.2.1 (9 + 3 * m + 1)) ∧ (∀ i, 8 ≤ i → i < 30 → i ≠ 27 → D_X12_legion_a10 x0 fresh tape letters plc rr st i = 0) ∧ D_X12_legion_a10 x0 fresh tape letters plc rr st 27 = ((1 : Int32) <<< (nI M &&& 31)) - 1 := by
  have cp : ∀ i, i < 172 → D_X12_copy_ne 0 0 172 Q.2.2.1 rr i = Q.2.2.1 i := fun i hi => by
    rw [copy_ne_v (by omega), if_pos (show 0 ≤ i ∧ i < 0 + 172 by omega), Nat.sub_zero, Nat.zero_add]
  have h3 : ∀ n i, i < n → am_fo st_X12_legion_193 n st i = 0 := by
    intro n
    induction n with
    | zero => intro m h; omega
    | succ n ih =>
      intro m h
      show va_up (am_fo st_X12_legion_193 n st) n 0 m = 0
      by_cases c : m = n
      · rw [c, va_up_self]
      · rw [va_up_ne _ _ c]; exact ih m (by omega)
  have h4 : ∀ n, n ≤ 8 → (∀ m, m < n → am_fo (st_X12_legion_214 x0 fresh tape letters plc rr) n (D_X12_legion_l3 st) m = Q.2.2.1 (9 + 3 * m + 1)) ∧ ∀ i, n ≤ i → i < 30 → am_fo (st_X12_legion_214 x0 fresh tape letters plc rr) n (D_X12_legion_l3 st) i = 0 := by
    intro n
    induction n with
    | zero => intro _; exact ⟨fun m h => by omega, fun i _ hi => h3 30 i hi⟩
    | succ n ih =>
      intro hn
      obtain ⟨i1, i2⟩ := ih (by omega)
      have e : am_fo (st_X12_legion_214 x0 fresh tape letters plc rr) (n + 1) (D_X12_legion_l3 st) = va_up (am_fo (st_X12_legion_214 x0 fresh tape letters plc rr) n (D_X12_legion_l3 st)) n (Q.2.2.1 (9 + 3 * n + 1)) := by
        show va_up _ n (D_X12_copy_ne 0 0 172 (D_X12_legion_m1 x0 fresh tape letters plc).2.2.1 rr (9 + 3 * n + 1)) = _
        rw [hm, cp _ (by omega)]
      rw [e]
      refine ⟨fun m h => ?_, fun i h1 h2 => by rw [va_up_ne _ _ (by omega)]; exact i2 i (by omega) h2⟩
      by_cases c : m = n
      · rw [c, va_up_self]
      · rw [va_up_ne _ _ c]; exact i1 m (by omega)
  have c5 : D_X12_copy_ne 0 0 172 (D_X12_legion_m1 x0 fresh tape letters plc).2.2.1 rr 5 = nI M := by rw [hm, cp 5 (by omega), h5]
  have l4 : D_X12_legion_l4 x0 fresh tape letters plc rr st = am_fo (st_X12_legion_214 x0 fresh tape letters plc rr) M (D_X12_legion_l3 st) := by
    unfold D_X12_legion_l4; rw [c5, be_nI (by omega)]
  have e10 : D_X12_legion_a10 x0 fresh tape letters plc rr st = va_up (am_fo (st_X12_legion_214 x0 fresh tape letters plc rr) M (D_X12_legion_l3 st)) 27 (((1 : Int32) <<< (nI M &&& 31)) - 1) := by
    unfold D_X12_legion_a10 D_X12_allMen; rw [l4, c5]
  obtain ⟨i1, i2⟩ := h4 M hM
  rw [e10]
  exact ⟨fun m hmm => by rw [va_up_ne _ _ (by omega)]; exact i1 m hmm, fun i h1 h2 h3' => by rw [va_up_ne _ _ h3']; exact i2 i (by omega) h2, va_up_self _ _ _⟩
theorem act_legion {n0 : Nat} (hn : n0 ≤ 1000) (ht : taped = nI n0) (hT : TapR bytes tape) :
  ((D_X11_legion x0 taped c1 c2 c3 c4 c5 c6 c7 c8 c9 c10 c11 c12 c13 c14 c15 c16 c17 bytes c18 tn mn kind firstTen nerve friendsOf fearTimes weight black shaken fav drawer wb pair ofPair lf fp ptr present braced seed tenOf feared angerOf lotsOf acts imgs r l = (-1, 2, taped, c1, c2, c3, c4, c5, c6, c7, c8, c9, c10, c11, c12, c13, c14, c15, c16, c17, c18, kind, firstTen, nerve, friendsOf, fearTimes, weight, black, shaken, fav, drawer, wb, pair, ofPair, tn, mn, lf, fp, some r, some l, present, braced, seed, tenOf, feared, angerOf, lotsOf, ptr, acts, imgs) ∧ D_X12_legion x0 taped fault failed fresh size en tape at_ ns wh tk letters plc rr st hl undos images = (-1, 0, 2, taped, fault, failed, fresh, size, en, at_, ns, wh, tk, letters, plc, rr, st, hl, undos, images)) ∨
  (∃ (s : S32) (e n x : Int32) (Q : Q10), D_X11_legion x0 taped c1 c2 c3 c4 c5 c6 c7 c8 c9 c10 c11 c12 c13 c14 c15 c16 c17 bytes c18 tn mn kind firstTen nerve friendsOf fearTimes weight black shaken fav drawer wb pair ofPair lf fp ptr present braced seed tenOf feared angerOf lotsOf acts imgs r l = (-1, 4, 0, s.1, s.2.1, s.2.2.1, s.2.2.2.1, s.2.2.2.2.1, s.2.2.2.2.2.1, s.2.2.2.2.2.2.1, s.2.2.2.2.2.2.2.1, s.2.2.2.2.2.2.2.2.1, s.2.2.2.2.2.2.2.2.2.1, s.2.2.2.2.2.2.2.2.2.2.1, s.2.2.2.2.2.2.2.2.2.2.2.1, n, x, e, s.2.2.2.2.2.2.2.2.2.2.2.2.2.2.1, s.2.2.2.2.2.2.2.2.2.2.2.2.2.2.2.1, s.2.2.2.2.2.2.2.2.2.2.2.2.2.2.2.2.1, s.2.2.2.2.2.2.2.2.2.2.2.2.2.2.2.2.2.2.2.1, s.2.2.2.2.2.2.2.2.2.2.2.2.2.2.2.2.2.2.2.2.1, s.2.2.2.2.2.2.2.2.2.2.2.2.2.2.2.2.2.2.2.2.2.1, s.2.2.2.2.2.2.2.2.2.2.2.2.2.2.2.2.2.2.2.2.2.2.1, s.2.2.2.2.2.2.2.2.2.2.2.2.2.2.2.2.2.2.2.2.2.2.2.1, s.2.2.2.2.2.2.2.2.2.2.2.2.2.2.2.2.2.2.2.2.2.2.2.2.1, s.2.2.2.2.2.2.2.2.2.2.2.2.2.2.2.2.2.2.2.2.2.2.2.2.2.1, s.2.2.2.2.2.2.2.2.2.2.2.2.2.2.2.2.2.2.2.2.2.2.2.2.2.2.1, s.2.2.2.2.2.2.2.2.2.2.2.2.2.2.2.2.2.2.2.2.2.2.2.2.2.2.2.1, s.2.2.2.2.2.2.2.2.2.2.2.2.2.2.2.2.2.2.2.2.2.2.2.2.2.2.2.2.1, s.2.2.2.2.2.2.2.2.2.2.2.2.2.2.2.2.2.2.2.2.2.2.2.2.2.2.2.2.2.1, s.2.2.2.2.2.2.2.2.2.2.2.2.2.2.2.2.2.2.2.2.2.2.2.2.2.2.2.2.2.2.1, s.2.2.2.2.2.2.2.2.2.2.2.2.2.2.2.2.2.2.2.2.2.2.2.2.2.2.2.2.2.2.2, s.2.2.2.2.2.2.2.2.2.2.2.2.2.2.2.2.2.1, s.2.2.2.2.2.2.2.2.2.2.2.2.2.2.2.2.2.2.1, n, x, some r, some l, present, braced, seed, tenOf, feared, angerOf, lotsOf, ptr, acts, imgs) ∧ D_X12_legion x0 taped fault failed fresh size en tape at_ ns wh tk letters plc rr st hl undos images = (-1, 0, 4, 0, n, 1, Q.2.2.1, x0, Q.2.2.2.1, Q.2.2.2.2.1, Q.2.2.2.2.2.1, Q.2.2.2.2.2.2.1, Q.2.2.2.2.2.2.2.1, Q.2.2.2.2.2.2.2.2.1, x, rr, st, hl, undos, images)) ∨
  (∃ (T M P : Nat) (e : Int32) (Q : Q10) (pl2 : Int32) (rr2 st2 : Nat → Int32) (holds' : Int32) (oneIn' : Int32) (fear' : Int32) (mutiny' : Int32) (beans' : Int32) (draws' : Int32) (goneTold' : Int32) (amongs' : Int32) (begun' : Int32) (pl' : Int32) (ln' : Int32) (so' : Int32) (tn' : Nat → Int64) (mn' : Nat → Int64) (kind' : Nat → Int32) (firstTen' : Nat → Int32) (nerve' : Nat → Int32) (friendsOf' : Nat → Int32) (fearTimes' : Nat → Int32) (weight' : Nat → Int32) (black' : Int32) (shaken' : Int32) (fav' : Int32) (drawer' : Nat → Int32) (wb' : Nat → Int32) (pair' : Nat → Int32) (ofPair' : Nat → Int32) (pr2 : Int32) (to2 fe2 an2 lo2 : Nat → Int32), D_X11_legion x0 taped c1 c2 c3 c4 c5 c6 c7 c8 c9 c10 c11 c12 c13 c14 c15 c16 c17 bytes c18 tn mn kind firstTen nerve friendsOf fearTimes weight black shaken fav drawer wb pair ofPair lf fp ptr present braced seed tenOf feared angerOf lotsOf acts imgs r l = (nI M, 0, 0, holds', oneIn', fear', mutiny', nI T, nI M, nI P, beans', draws', goneTold', amongs', begun', 0, -1, e, pl', ln', so', kind', firstTen', nerve', friendsOf', fearTimes', weight', black', shaken', fav', drawer', wb', pair', ofPair', tn', mn', 0, -1, some l, some r, pr2, 0, 0, to2, fe2, an2, lo2, some r, 0, 0) ∧ D_X12_legion x0 taped fault failed fresh size en tape at_ ns wh tk letters plc rr st hl undos images = (nI M, 0, 0, 0, 0, 0, Q.2.2.1, x0, Q.2.2.2.1, Q.2.2.2.2.1, Q.2.2.2.2.2.1, Q.2.2.2.2.2.2.1, Q.2.2.2.2.2.2.2.1, Q.2.2.2.2.2.2.2.2.1, pl2, rr2, st2, 1, 0, 0) ∧ 1 ≤ T ∧ T ≤ 3 ∧ LegR M holds' oneIn' fear' mutiny' (nI T) kind' nerve' friendsOf' fearTimes' weight' rr2 ∧ nI P = rr2 6 ∧ Pf rr2 M ≤ 8 ∧ (∀ i j, i < M → j < M → bt (rr2 (33 + i)) j = bt (rr2 (33 + j)) i) ∧ HelR rr2 beans' black' shaken' fav' draws' drawer' wb' ∧ EarR rr2 goneTold' amongs' pair' ofPair' ∧ NowR M 0 pr2 0 0 to2 fe2 an2 lo2 st2 ∧ sub_men pr2 M)) ∧ G_X11_legion x0 taped bytes tn mn kind firstTen nerve friendsOf fearTimes weight black shaken fav drawer wb pair ofPair ∧ G_X12_legion x0 taped fresh tape letters plc rr st := by
  have ref : ∀ (h1 : (if x0 < 0 then 2 else if x0 ≤ taped then 0 else 2 : Int32) = 2) (h2 : D_X12_in x0 0 taped = 0), G_X11_legion x0 taped bytes tn mn kind firstTen nerve friendsOf fearTimes weight black shaken fav drawer wb pair ofPair ∧ G_X12_legion x0 taped fresh tape letters plc rr st := fun h1 h2 => by
    have a1 : D_X11_legion_a1 x0 taped = (1, 2) := by unfold D_X11_legion_a1 D_X11_refused; rw [h1, if_neg (by decide)]
    refine ⟨fun h => ?_, fun h => absurd h2 h, fun h => absurd h2 h, fun h => absurd h2 h, fun h => absurd h2 h, fun h => absurd h2 h, fun h => absurd h2 h⟩
    rw [a1] at h; exact absurd h (show ¬ (1 : Int32) = 0 by decide)
  by_cases cx : x0 < 0
  · have h1 : (if x0 < 0 then 2 else if x0 ≤ taped then 0 else 2 : Int32) = 2 := by rw [if_pos cx]
    have h2 : D_X12_in x0 0 taped = 0 := by unfold D_X12_in; rw [if_pos cx]
    exact ⟨Or.inl ⟨legc_2 h1, legr_2 h2⟩, ref h1 h2⟩
  obtain ⟨N, hN31, eN⟩ := nI_of cx
  by_cases cN : N ≤ n0
  case neg =>
    have h0 : ¬ x0 ≤ taped := by rw [eN, ht]; exact nI_ge (by omega) hN31
    have h3 : taped < x0 := by rw [eN, ht]; exact nI_lt (by omega) hN31
    have h1 : (if x0 < 0 then 2 else if x0 ≤ taped then 0 else 2 : Int32) = 2 := by rw [if_neg cx, if_neg h0]
    have h2 : D_X12_in x0 0 taped = 0 := by unfold D_X12_in; rw [if_neg cx, if_pos h3]
    exact ⟨Or.inl ⟨legc_2 h1, legr_2 h2⟩, ref h1 h2⟩
  have h0 : x0 ≤ taped := by rw [eN, ht]; exact nI_le cN (by omega)
  have h3 : ¬ taped < x0 := by
    rw [eN, ht]; intro h
    have := Int32.lt_iff_toInt_lt.mp h
    rw [nI_toInt (by omega), nI_toInt (by omega)] at this; omega
  have h1 : (if x0 < 0 then 2 else if x0 ≤ taped then 0 else 2 : Int32) = 0 := by rw [if_neg cx, if_pos h0]
  have h2 : ¬ D_X12_in x0 0 taped = 0 := by unfold D_X12_in; rw [if_neg cx, if_neg h3]; decide
  obtain ⟨r0, Z, L1, gT, hm, ho, hE, g1, g2, g3, g4⟩ := text_all (x0 := x0) (fresh := fresh) (letters := letters) (plc := plc) (tn := tn) (mn := mn) (kind := kind) (firstTen := firstTen) (nerve := nerve) (friendsOf := friendsOf) (fearTimes := fearTimes) (weight := weight) (black := black) (shaken := shaken) (fav := fav) (drawer := drawer) (wb := wb) (pair := pair) (ofPair := ofPair) (show N ≤ 1000 by omega) hT eN
  have gc : G_X11_legion x0 taped bytes tn mn kind firstTen nerve friendsOf fearTimes weight black shaken fav drawer wb pair ofPair := fun _ => gT
  have gcp : G_X12_copy_ne 0 0 172 (D_X12_legion_m1 x0 fresh tape letters plc).2.2.1 rr 172 172 := fun k s hk _ => by
    rw [be_nI (by omega)] at hk; exact ⟨by omega, by omega⟩
  have gr : (∀ (h : D_X12_legion_j2 x0 fresh tape letters plc |>.2.1 = 0), ∃ M, M ≤ 8 ∧ D_X12_copy_ne 0 0 172 (D_X12_legion_m1 x0 fresh tape letters plc).2.2.1 rr 5 = nI M) → G_X12_legion x0 taped fresh tape letters plc rr st := fun hh => ⟨fun _ => g1, fun _ => g2, fun _ => g3, fun _ => g4, fun _ _ => gcp, fun _ hj k s hk _ => by
    obtain ⟨M, hM, e5⟩ := hh hj
    rw [e5, be_nI (by omega)] at hk
    exact ⟨by omega, by omega⟩⟩
  rcases ho with ⟨z1, ⟨n, s, e1, e2, e3⟩ | ⟨s, e1, e2, e3⟩⟩ | ⟨p, s, ns', wh', tk', en', le', fresh', eZ, hP, hc⟩
  · have hj := legj_f hm z1
    refine ⟨Or.inr (Or.inl ⟨s, _, n, _, qZ Z, legc_0 h1 (rt_1 (by rw [L1, e1])), ?_⟩), gc, gr (fun h => by rw [hj] at h; exact absurd h (show ¬ (1 : Int32) = 0 by decide))⟩
    rw [legr_0 h2 hm hj, e2, e3]
  · have hj := legj_f hm z1
    refine ⟨Or.inr (Or.inl ⟨s, _, _, _, qZ Z, legc_0 h1 (rt_2 (by rw [L1, e1])), ?_⟩), gc, gr (fun h => by rw [hj] at h; exact absurd h (show ¬ (1 : Int32) = 0 by decide))⟩
    rw [legr_0 h2 hm hj, e2, e3]
  · subst eZ
    obtain ⟨T, M, P, q0, so0, holds'', oneIn'', fear'', mutiny'', beans'', draws'', goneTold'', amongs'', begun'', tn'', mn'', kind'', firstTen'', nerve'', friendsOf'', fearTimes'', weight'', black'', shaken'', fav'', drawer'', wb'', pair'', ofPair'', es, hR, hD⟩ := hP
    obtain ⟨r1, r2, r3, r4, r5, r6, r7, r8, r9, r10, r11⟩ := hD
    have h33 := r1.1
    have h88 := r1.2.1
    rcases hc with ⟨e1, e2⟩ | ⟨e1, e2⟩
    · subst e2
      by_cases cT : T = 0
      · have hj := legj_l hm (Or.inr (by rw [r5, cT]; rfl))
        have j2 : D_X8_readText_j2 s = (0, 6, nI p) := by
          rw [es]; unfold D_X8_readText_j2 D_X8_readText_a17 D_X8_fail
          rw [if_neg (show ¬ (0 : Int32) < nI T by rw [cT]; decide)]; rfl
        have hrt := rt_3 (L1.trans (by rw [e1]))
        rw [j2] at hrt
        refine ⟨Or.inr (Or.inl ⟨s, _, 6, nI p, _, legc_0 h1 hrt, legr_0 h2 hm hj⟩), gc, gr (fun h => by rw [hj] at h; exact absurd h (show ¬ (1 : Int32) = 0 by decide))⟩
      · have f4 : ¬ fresh' 4 = 0 := by rw [r5]; exact fun h => cT ((nI_eq (a := T) (b := 0) (by omega) (by decide)).mp h)
        obtain ⟨b1, b, b2, b3, b4, b5, b6, b7, b8⟩ : begun'' = 1 ∧ ∃ b, 2 ≤ b ∧ b < 7 ∧ fresh' 1 = nI b ∧ oneIn'' = fresh' 1 ∧ holds'' = fresh' 0 ∧ fear'' = fresh' 2 ∧ mutiny'' = fresh' 3 := by
          rcases r11 with ⟨_, _, h, _⟩ | h
          · exact absurd h cT
          · exact h
        have f1 : ¬ fresh' 1 = 0 := by rw [b4]; exact fun h => by have := (nI_eq (a := b) (b := 0) (by omega) (by decide)).mp h; omega
        have hj := legj_k hm f1 f4
        have j2 : D_X8_readText_j2 s = (1, 0, -1) := by
          rw [es]; unfold D_X8_readText_j2
          rw [if_pos (show (0 : Int32) < nI T from nI_lt (a := 0) (by omega) (by omega))]
        have hrt := rt_3 (L1.trans (by rw [e1]))
        rw [j2] at hrt
        have cp : ∀ i, i < 172 → D_X12_copy_ne 0 0 172 fresh' rr i = fresh' i := fun i hi => by
          rw [copy_ne_v (by omega), if_pos (show 0 ≤ i ∧ i < 0 + 172 by omega), Nat.sub_zero, Nat.zero_add]
        have h5 : (qZ (0, 0, plc, nI p, ns', wh', 0, en', le', fresh')).2.2.1 5 = nI M := r6
        obtain ⟨v1, v2, v3⟩ := a10_v (rr := rr) (st := st) h88 hm h5
        obtain ⟨w1, w2⟩ := begin_rows (M := M) (f0 := firstTen'') (tenOf := tenOf) (feared := feared) (angerOf := angerOf) (lotsOf := lotsOf)
        have mr : MenR M kind'' firstTen'' nerve'' friendsOf'' fearTimes'' weight'' (D_X12_copy_ne 0 0 172 fresh' rr) := MenR_congr r2 h88 (fun i _ hi => cp i (by omega))
        have LR : LegR M holds'' oneIn'' fear'' mutiny'' (nI T) kind'' nerve'' friendsOf'' fearTimes'' weight'' (D_X12_copy_ne 0 0 172 fresh' rr) := by
          refine ⟨h88, by rw [cp _ (by omega)]; exact r6, by rw [cp _ (by omega)]; exact b6, by rw [cp _ (by omega)]; exact b5, by rw [cp _ (by omega)]; exact b7, by rw [cp _ (by omega)]; exact b8, by rw [cp _ (by omega)]; exact r5.symm, fun m hm => (mr.1 m hm).1, fun m hm => (mr.1 m hm).2.2.1, fun m hm => (mr.1 m hm).2.2.2.1, fun m hm => (mr.1 m hm).2.2.2.2.1, fun m hm => (mr.1 m hm).2.2.2.2.2.1, fun m hm => (mr.1 m hm).2.2.2.2.2.2, ⟨T, h33, by rw [cp _ (by omega)]; exact r5⟩, Or.inr ⟨b, b2, b3, by rw [cp _ (by omega)]; exact b4⟩⟩
        have hc1 := legc_1 (c1 := c1) (c2 := c2) (c3 := c3) (c4 := c4) (c5 := c5) (c6 := c6) (c7 := c7) (c8 := c8) (c9 := c9) (c10 := c10) (c11 := c11) (c12 := c12) (c13 := c13) (c14 := c14) (c15 := c15) (c16 := c16) (c17 := c17) (c18 := c18) (lf := lf) (fp := fp) (ptr := ptr) (present := present) (braced := braced) (seed := seed) (tenOf := tenOf) (feared := feared) (angerOf := angerOf) (lotsOf := lotsOf) (acts := acts) (imgs := imgs) (r := r) (l := l) h1 hrt
        rw [es] at hc1
        have hr1 := legr_1 (rr := rr) (st := st) (hl := hl) (undos := undos) (images := images) (fault := fault) (failed := failed) (size := size) (en := en) (at_ := at_) (ns := ns) (wh := wh) (tk := tk) h2 hm hj
        have e5 : D_X12_copy_ne 0 0 172 fresh' rr 5 = nI M := by rw [cp 5 (by omega)]; exact r6
        refine ⟨Or.inr (Or.inr ⟨T, M, P, _, _, plc, _, _, _, _, _, _, _, _, _, _, _, _, _, _, _, _, _, _, _, _, _, _, _, _, _, _, _, _, _, _, _, _, _, _, hc1, hr1.trans (by rw [show (qZ (0, 0, plc, nI p, ns', wh', 0, en', le', fresh')).2.2.1 = fresh' from rfl, e5]), by omega, h33, LR, ?_, ?_, mr.2.2, HelR_congr r8 (cp _ (by omega)) (fun i _ hi => cp i (by omega)), EarR_congr r9 (cp _ (by omega)) (fun i _ hi => cp i (by omega)), ?_, all_men M (by omega)⟩), gc, gr (fun _ => ⟨M, h88, by rw [hm]; exact e5⟩)⟩
        · exact (r7.symm).trans (cp _ (by omega)).symm
        · rw [Pf_congr h88 (fun i _ hi => cp i (by omega)), r4]; exact r3
        · refine ⟨v3.symm, (v2 28 (by omega) (by omega) (by omega)).symm, (v2 29 (by omega) (by omega) (by omega)).symm, fun m hmm => ?_, fun m hmm => ?_, fun m hmm => ?_, fun t ht => ?_⟩
          · rw [Nat.zero_add, v1 m hmm]; exact (w1 m (by omega)).1.trans (r2.1 m hmm).2.1
          · rw [v2 (0 + 8 + m) (by omega) (by omega) (by omega)]; exact (w1 m (by omega)).2.1
          · rw [v2 (0 + 16 + m) (by omega) (by omega) (by omega)]; exact (w1 m (by omega)).2.2
          · rw [v2 (0 + 24 + t) (by omega) (by omega) (by omega)]; exact w2 t ht
    · have hj := legj_o hm e2
      have hrt := rt_4 (L1.trans (by rw [e1]))
      rw [show s.2.2.2.2.2.2.2.2.2.2.2.2.2.2.1 = nI p by rw [es]] at hrt
      refine ⟨Or.inr (Or.inl ⟨s, _, 1, nI p, _, legc_0 h1 hrt, legr_0 h2 hm hj⟩), gc, gr (fun h => by rw [hj] at h; exact absurd h (show ¬ (1 : Int32) = 0 by decide))⟩
end ACT
