/-! THE READER: what has been read, class beside fresh, and what each line does to it -/
def MenR (M : Nat) (kind firstTen nerve friendsOf fearTimes weight fresh : Nat → Int32) : Prop := (∀ m, m < M → kind m = fresh (9 + 3 * m) ∧ firstTen m = fresh (9 + 3 * m + 1) ∧ nerve m = fresh (9 + 3 * m + 2) ∧ friendsOf m = fresh (33 + m) ∧ fearTimes m = (if fresh (9 + 3 * m) = 1 then 2 else if fresh (9 + 3 * m) = 2 then 0 else 1) ∧ weight m = nI (rn_w fresh m) ∧ sub_men (fresh (33 + m)) M) ∧ (∀ m, M ≤ m → m < 8 → fresh (33 + m) = 0) ∧ (∀ i j, i < M → j < M → bt (fresh (33 + i)) j = bt (fresh (33 + j)) i)
def BegR (T M P : Nat) (begun holds oneIn fear mutiny : Int32) (fresh : Nat → Int32) : Prop := (begun = 0 ∧ fresh 1 = 0 ∧ T = 0 ∧ M = 0 ∧ P = 0 ∧ fresh 41 = 0 ∧ fresh 57 = 0) ∨ (begun = 1 ∧ ∃ b, 2 ≤ b ∧ b < 7 ∧ fresh 1 = nI b ∧ oneIn = fresh 1 ∧ holds = fresh 0 ∧ fear = fresh 2 ∧ mutiny = fresh 3)
def RdR (T M P : Nat) (holds oneIn fear mutiny beans draws goneTold amongs begun : Int32) (tn mn : Nat → Int64) (kind firstTen nerve friendsOf fearTimes weight : Nat → Int32) (black shaken fav : Int32) (drawer wb pair ofPair fresh : Nat → Int32) : Prop :=
  NamR T M tn mn fresh ∧ MenR M kind firstTen nerve friendsOf fearTimes weight fresh ∧ P ≤ 8 ∧ Pf fresh M = P ∧ fresh 4 = nI T ∧ fresh 5 = nI M ∧ fresh 6 = nI P ∧ HelR fresh beans black shaken fav draws drawer wb ∧ EarR fresh goneTold amongs pair ofPair ∧ (fresh 57 = 0 → fresh 8 = 0) ∧ BegR T M P begun holds oneIn fear mutiny fresh
section RD
variable {T M P : Nat} {holds oneIn fear mutiny beans draws goneTold amongs begun black shaken fav : Int32} {tn mn : Nat → Int64} {kind firstTen nerve friendsOf fearTimes weight drawer wb pair ofPair fresh fresh' : Nat → Int32}
theorem MenR_congr (h : MenR M kind firstTen nerve friendsOf fearTimes weight fresh) (hM : M ≤ 8) (e : ∀ i, 9 ≤ i → i < 41 → fresh' i = fresh i) : MenR M kind firstTen nerve friendsOf fearTimes weight fresh' := by
  obtain ⟨h1, h2, h3⟩ := h
  refine ⟨fun m hm => ?_, fun m a b => by rw [e _ (by omega) (by omega)]; exact h2 m a b, fun i j hi hj => by rw [e _ (by omega) (by omega), e _ (by omega) (by omega)]; exact h3 i j hi hj⟩
  unfold rn_w
  rw [e _ (by omega) (by omega), e (9 + 3 * m + 1) (by omega) (by omega), e (9 + 3 * m + 2) (by omega) (by omega), e (33 + m) (by omega) (by omega)]
  exact h1 m hm
theorem Pf_congr (hM : M ≤ 8) (e : ∀ i, 33 ≤ i → i < 41 → fresh' i = fresh i) : Pf fresh' M = Pf fresh M := by
  unfold Pf
  refine sN_congr fun k hk => ?_
  unfold fbN
  rw [e _ (by omega) (by omega)]
theorem HelR_congr (h : HelR fresh beans black shaken fav draws drawer wb) (e7 : fresh' 7 = fresh 7) (e : ∀ i, 41 ≤ i → i < 57 → fresh' i = fresh i) : HelR fresh' beans black shaken fav draws drawer wb := by
  rcases h with ⟨a, b, c, d⟩ | ⟨B, K, S, D, a1, a2, a3, a4, a5, a6, a7, a8, a9, b1, b2, b3, b4, b5, b6⟩
  · exact Or.inl ⟨by rw [e _ (by omega) (by omega)]; exact a, b, by rw [e7]; exact c, d⟩
  · refine Or.inr ⟨B, K, S, D, a1, a2, a3, a4, a5, by rw [e _ (by omega) (by omega)]; exact a6, a7, by rw [e _ (by omega) (by omega)]; exact a8, a9, by rw [e _ (by omega) (by omega)]; exact b1, b2, by rw [e _ (by omega) (by omega)]; exact b3, by rw [e7]; exact b4, b5, fun i hi => ?_⟩
    rw [e _ (by omega) (by omega), e (45 + 2 * i + 1) (by omega) (by omega)]; exact b6 i hi
theorem EarR_congr (h : EarR fresh goneTold amongs pair ofPair) (e8 : fresh' 8 = fresh 8) (e : ∀ i, 57 ≤ i → i < 73 → fresh' i = fresh i) : EarR fresh' goneTold amongs pair ofPair := by
  obtain ⟨h1, A, A1, A2, A3, A4⟩ := h
  refine ⟨by rw [e _ (by omega) (by omega)]; exact h1, A, A1, by rw [e8]; exact A2, A3, fun i hi => ?_⟩
  rw [e _ (by omega) (by omega), e (58 + 3 * i + 1) (by omega) (by omega), e (58 + 3 * i + 2) (by omega) (by omega)]; exact A4 i hi
theorem rd_legion {a b c d : Nat} (h : RdR T M P holds oneIn fear mutiny beans draws goneTold amongs begun tn mn kind firstTen nerve friendsOf fearTimes weight black shaken fav drawer wb pair ofPair fresh) (hb : 2 ≤ b) (hb6 : b ≤ 6) : RdR T M P (nI a) (nI b) (nI c) (nI d) beans draws goneTold amongs 1 tn mn kind firstTen nerve friendsOf fearTimes weight black shaken fav drawer wb pair ofPair (lgF a b c d fresh) := by
  have e : ∀ i, 4 ≤ i → lgF a b c d fresh i = fresh i := fun i hi => by unfold lgF; rw [va_up_ne _ _ (by omega), va_up_ne _ _ (by omega), va_up_ne _ _ (by omega), va_up_ne _ _ (by omega)]
  obtain ⟨r1, r2, r3, r4, r5, r6, r7, r8, r9, r10, r11⟩ := h
  have h8 := r1.2.1
  refine ⟨NamR_congr r1 (fun i hi => e i (by omega)), MenR_congr r2 h8 (fun i hi _ => e i (by omega)), r3, by rw [Pf_congr h8 (fun i hi _ => e i (by omega))]; exact r4, by rw [e _ (by omega)]; exact r5, by rw [e _ (by omega)]; exact r6, by rw [e _ (by omega)]; exact r7, HelR_congr r8 (e _ (by omega)) (fun i hi _ => e i (by omega)), EarR_congr r9 (e _ (by omega)) (fun i hi _ => e i (by omega)), by rw [e _ (by omega), e _ (by omega)]; exact r10, Or.inr ⟨rfl, b, hb, by omega, ?_, ?_, ?_, ?_, ?_⟩⟩
  · unfold lgF; rw [va_up_self]
  · unfold lgF; rw [va_up_self]
  · unfold lgF; rw [va_up_ne _ _ (by omega), va_up_ne _ _ (by omega), va_up_ne _ _ (by omega), va_up_self]
  · unfold lgF; rw [va_up_ne _ _ (by omega), va_up_ne _ _ (by omega), va_up_self]
  · unfold lgF; rw [va_up_ne _ _ (by omega), va_up_self]
theorem BegR_b (h : BegR T M P begun holds oneIn fear mutiny fresh) (hb : ¬ begun = 0) (e : ∀ i, i < 4 → fresh' i = fresh i) (T' M' P' : Nat) : BegR T' M' P' begun holds oneIn fear mutiny fresh' := by
  rcases h with ⟨a, _⟩ | ⟨a, b, c1, c2, c3, c4, c5, c6, c7⟩
  · exact absurd a hb
  · refine Or.inr ⟨a, b, c1, c2, ?_, ?_, ?_, ?_, ?_⟩
    · rw [e _ (by omega)]; exact c3
    · rw [e _ (by omega)]; exact c4
    · rw [e _ (by omega)]; exact c5
    · rw [e _ (by omega)]; exact c6
    · rw [e _ (by omega)]; exact c7
theorem rd_ten {q1 : Nat} {le1 : Nat → Int32} (h : RdR T M P holds oneIn fear mutiny beans draws goneTold amongs begun tn mn kind firstTen nerve friendsOf fearTimes weight black shaken fav drawer wb pair ofPair fresh) (hb : ¬ begun = 0) (hq : q1 ≤ 8) (hT : T < 3) (hn : NamR (T + 1) M (va_up tn T (cdN q1 le1)) mn (va_up (nwF T q1 le1 fresh) 4 (nI (T + 1)))) : RdR (T + 1) M P holds oneIn fear mutiny beans draws goneTold amongs begun (va_up tn T (cdN q1 le1)) mn kind firstTen nerve friendsOf fearTimes weight black shaken fav drawer wb pair ofPair (va_up (nwF T q1 le1 fresh) 4 (nI (T + 1))) := by
  have e : ∀ i, i ≠ 4 → i < 73 → va_up (nwF T q1 le1 fresh) 4 (nI (T + 1)) i = fresh i := fun i h1 h2 => by rw [va_up_ne _ _ h1, nwF_o (by omega) (by omega)]
  obtain ⟨r1, r2, r3, r4, r5, r6, r7, r8, r9, r10, r11⟩ := h
  have h8 := r1.2.1
  exact ⟨hn, MenR_congr r2 h8 (fun i hi _ => e i (by omega) (by omega)), r3, by rw [Pf_congr h8 (fun i hi _ => e i (by omega) (by omega))]; exact r4, va_up_self _ _ _, by rw [e _ (by omega) (by omega)]; exact r6, by rw [e _ (by omega) (by omega)]; exact r7, HelR_congr r8 (e _ (by omega) (by omega)) (fun i hi _ => e i (by omega) (by omega)), EarR_congr r9 (e _ (by omega) (by omega)) (fun i hi _ => e i (by omega) (by omega)), by rw [e _ (by omega) (by omega), e _ (by omega) (by omega)]; exact r10, BegR_b r11 hb (fun i hi => e i (by omega) (by omega)) _ _ _⟩
theorem rd_man {q1 k t v : Nat} {le1 : Nat → Int32} (h : RdR T M P holds oneIn fear mutiny beans draws goneTold amongs begun tn mn kind firstTen nerve friendsOf fearTimes weight black shaken fav drawer wb pair ofPair fresh) (hb : ¬ begun = 0) (hq : q1 ≤ 8) (hM : M < 8) (hk : k ≤ 3) (hn : NamR T (M + 1) tn (va_up mn M (cdN q1 le1)) (nwF (3 + M) q1 le1 fresh)) : RdR T (M + 1) P holds oneIn fear mutiny beans draws goneTold amongs begun tn (va_up mn M (cdN q1 le1)) (va_up kind M (nI k)) (va_up firstTen M (nI t)) (va_up nerve M (nI v)) (va_up friendsOf M 0) (va_up fearTimes M (if nI k = 1 then 2 else if nI k = 2 then 0 else 1)) (va_up weight M (if nI k = 3 then 2 else 1)) black shaken fav drawer wb pair ofPair (mnF M k t v (nwF (3 + M) q1 le1 fresh)) := by
  have e0 : ∀ i, i < 73 → nwF (3 + M) q1 le1 fresh i = fresh i := fun i h2 => nwF_o (by omega) (by omega)
  have e1 : ∀ i, i ≠ 5 → (i < 9 + 3 * M ∨ 9 + 3 * M + 2 < i) → mnF M k t v (nwF (3 + M) q1 le1 fresh) i = nwF (3 + M) q1 le1 fresh i := fun i h1 h2 => by
    unfold mnF; rw [va_up_ne _ _ h1, va_up_ne _ _ (by omega), va_up_ne _ _ (by omega), va_up_ne _ _ (by omega)]
  have e : ∀ i, i ≠ 5 → (i < 9 + 3 * M ∨ 9 + 3 * M + 2 < i) → i < 73 → mnF M k t v (nwF (3 + M) q1 le1 fresh) i = fresh i := fun i h1 h2 h3 => by rw [e1 i h1 h2, e0 i h3]
  have f0 : mnF M k t v (nwF (3 + M) q1 le1 fresh) (9 + 3 * M) = nI k := by unfold mnF; rw [va_up_ne _ _ (by omega), va_up_ne _ _ (by omega), va_up_ne _ _ (by omega), va_up_self]
  have f1 : mnF M k t v (nwF (3 + M) q1 le1 fresh) (9 + 3 * M + 1) = nI t := by unfold mnF; rw [va_up_ne _ _ (by omega), va_up_ne _ _ (by omega), va_up_self]
  have f2 : mnF M k t v (nwF (3 + M) q1 le1 fresh) (9 + 3 * M + 2) = nI v := by unfold mnF; rw [va_up_ne _ _ (by omega), va_up_self]
  obtain ⟨r1, r2, r3, r4, r5, r6, r7, r8, r9, r10, r11⟩ := h
  obtain ⟨m1, m2, m3⟩ := r2
  have z : fresh (33 + M) = 0 := m2 M (Nat.le_refl M) hM
  refine ⟨NamR_congr hn (fun i hi => e1 i (by omega) (by omega)), ⟨fun m hm => ?_, fun m a b => by rw [e _ (by omega) (by omega) (by omega)]; exact m2 m (by omega) b, fun i j hi hj => ?_⟩, r3, ?_, by rw [e _ (by omega) (by omega) (by omega)]; exact r5, by unfold mnF; rw [va_up_self], by rw [e _ (by omega) (by omega) (by omega)]; exact r7, HelR_congr r8 (e _ (by omega) (by omega) (by omega)) (fun i hi _ => e i (by omega) (by omega) (by omega)), EarR_congr r9 (e _ (by omega) (by omega) (by omega)) (fun i hi _ => e i (by omega) (by omega) (by omega)), by rw [e _ (by omega) (by omega) (by omega), e _ (by omega) (by omega) (by omega)]; exact r10, BegR_b r11 hb (fun i hi => e i (by omega) (by omega) (by omega)) _ _ _⟩
  · by_cases c : m = M
    · rw [c]
      unfold rn_w
      rw [f0, f1, f2, e (33 + M) (by omega) (by omega) (by omega), z, va_up_self, va_up_self, va_up_self, va_up_self, va_up_self, va_up_self]
      refine ⟨rfl, rfl, rfl, rfl, rfl, ?_, fun j hj hb => by rw [b_0] at hb; cases hb⟩
      by_cases d : nI k = 3
      · rw [if_pos d, if_pos d]; rfl
      · rw [if_neg d, if_neg d]; rfl
    · unfold rn_w
      rw [va_up_ne _ _ c, va_up_ne _ _ c, va_up_ne _ _ c, va_up_ne _ _ c, va_up_ne _ _ c, va_up_ne _ _ c, e (9 + 3 * m) (by omega) (by omega) (by omega), e (9 + 3 * m + 1) (by omega) (by omega) (by omega), e (9 + 3 * m + 2) (by omega) (by omega) (by omega), e (33 + m) (by omega) (by omega) (by omega)]
      obtain ⟨n1, n2, n3, n4, n5, n6, n7⟩ := m1 m (by omega)
      exact ⟨n1, n2, n3, n4, n5, n6, fun j hj hb => Nat.lt_succ_of_lt (n7 j hj hb)⟩
  · rw [e _ (by omega) (by omega) (by omega), e _ (by omega) (by omega) (by omega)]
    have nb : ∀ i, i < M → bt (fresh (33 + i)) M = false := fun i hi => by
      cases c : bt (fresh (33 + i)) M
      · rfl
      · exact absurd ((m1 i hi).2.2.2.2.2.2 M (by omega) c) (Nat.lt_irrefl M)
    by_cases ci : i = M
    · by_cases cj : j = M
      · rw [ci, cj]
      · rw [ci, z, b_0, nb j (by omega)]
    · by_cases cj : j = M
      · rw [cj, z, b_0, nb i (by omega)]
      · exact m3 i j (by omega) (by omega)
  · unfold Pf
    rw [sN_succ]
    have p1 : sN (fbN (mnF M k t v (nwF (3 + M) q1 le1 fresh))) M = Pf fresh M := Pf_congr (by omega) (fun i hi _ => e i (by omega) (by omega) (by omega))
    have p2 : fbN (mnF M k t v (nwF (3 + M) q1 le1 fresh)) M = 0 := by
      unfold fbN
      rw [e _ (by omega) (by omega) (by omega), z]
      have := sN_bound (f := fun k => if bt 0 k = true then 1 else 0) (n := M) (c := 0) (fun k _ => by rw [b_0]; exact Nat.le_refl 0)
      omega
    rw [p1, p2, r4, Nat.add_zero]
theorem fr_get {a b m : Nat} (hne : a ≠ b) (row : Nat → Int32) : frC a b row m = if m = a then row a ||| ((1 : Int32) <<< (nI b &&& 31)) else if m = b then row b ||| ((1 : Int32) <<< (nI a &&& 31)) else row m := by
  unfold frC
  by_cases ca : m = a
  · rw [if_pos ca, ca, va_up_ne _ _ hne, va_up_self]
  · rw [if_neg ca]
    by_cases cb : m = b
    · rw [if_pos cb, cb, va_up_self]
    · rw [if_neg cb, va_up_ne _ _ cb, va_up_ne _ _ ca]
theorem frF_get {a b m : Nat} (hne : a ≠ b) : frF a b P fresh (33 + m) = if m = a then fresh (33 + a) ||| ((1 : Int32) <<< (nI b &&& 31)) else if m = b then fresh (33 + b) ||| ((1 : Int32) <<< (nI a &&& 31)) else fresh (33 + m) := by
  unfold frF
  rw [va_up_ne _ _ (by omega)]
  by_cases ca : m = a
  · rw [if_pos ca, ca, va_up_ne _ _ (by omega), va_up_self]
  · rw [if_neg ca]
    by_cases cb : m = b
    · rw [if_pos cb, cb, va_up_self]
    · rw [if_neg cb, va_up_ne _ _ (by omega), va_up_ne _ _ (by omega)]
theorem frF_bt {a b m j : Nat} (hne : a ≠ b) (ha : a < 8) (hb : b < 8) (hj : j < 32) : bt (frF a b P fresh (33 + m)) j = (bt (fresh (33 + m)) j || (decide (m = a) && decide (j = b)) || (decide (m = b) && decide (j = a))) := by
  rw [frF_get hne]
  by_cases ca : m = a
  · rw [if_pos ca, b_or, b_one (by omega) hj, ca, decide_eq_true rfl, decide_eq_false hne, Bool.true_and, Bool.false_and, Bool.or_false]
  · rw [if_neg ca]
    by_cases cb : m = b
    · rw [if_pos cb, b_or, b_one (by omega) hj, cb, decide_eq_true rfl, decide_eq_false (show ¬ b = a from fun h => hne h.symm), Bool.true_and, Bool.false_and, Bool.or_false]
    · rw [if_neg cb, decide_eq_false ca, decide_eq_false cb, Bool.false_and, Bool.false_and, Bool.or_false, Bool.or_false]
theorem rd_friend {a b : Nat} (h : RdR T M P holds oneIn fear mutiny beans draws goneTold amongs begun tn mn kind firstTen nerve friendsOf fearTimes weight black shaken fav drawer wb pair ofPair fresh) (hb : ¬ begun = 0) (ha : a < M) (hb' : b < M) (hne : a ≠ b) (hz : bt (fresh (33 + a)) b = false) (hP : P < 8) : RdR T M (P + 1) holds oneIn fear mutiny beans draws goneTold amongs begun tn mn kind firstTen nerve (frC a b friendsOf) fearTimes weight black shaken fav drawer wb pair ofPair (frF a b P fresh) := by
  obtain ⟨r1, r2, r3, r4, r5, r6, r7, r8, r9, r10, r11⟩ := h
  have h8 := r1.2.1
  have e : ∀ i, i ≠ 6 → (i < 33 ∨ 41 ≤ i) → frF a b P fresh i = fresh i := fun i h1 h2 => by
    unfold frF; rw [va_up_ne _ _ h1, va_up_ne _ _ (by omega), va_up_ne _ _ (by omega)]
  obtain ⟨m1, m2, m3⟩ := r2
  refine ⟨NamR_congr r1 (fun i hi => e i (by omega) (by omega)), ⟨fun m hm => ?_, fun m c d => ?_, fun i j hi hj => ?_⟩, by omega, ?_, by rw [e _ (by omega) (by omega)]; exact r5, by rw [e _ (by omega) (by omega)]; exact r6, by unfold frF; rw [va_up_self], HelR_congr r8 (e _ (by omega) (by omega)) (fun i hi _ => e i (by omega) (by omega)), EarR_congr r9 (e _ (by omega) (by omega)) (fun i hi _ => e i (by omega) (by omega)), by rw [e _ (by omega) (by omega), e _ (by omega) (by omega)]; exact r10, BegR_b r11 hb (fun i hi => e i (by omega) (by omega)) _ _ _⟩
  · obtain ⟨n1, n2, n3, n4, n5, n6, n7⟩ := m1 m hm
    unfold rn_w
    rw [e (9 + 3 * m) (by omega) (by omega), e (9 + 3 * m + 1) (by omega) (by omega), e (9 + 3 * m + 2) (by omega) (by omega)]
    refine ⟨n1, n2, n3, ?_, n5, n6, fun j hj hbj => ?_⟩
    · rw [fr_get hne, frF_get hne, (m1 a ha).2.2.2.1, (m1 b hb').2.2.2.1, n4]
    · rw [frF_bt hne (by omega) (by omega) hj] at hbj
      by_cases c1 : j = b
      · omega
      · by_cases c2 : j = a
        · omega
        · rw [decide_eq_false c1, decide_eq_false c2, Bool.and_false, Bool.and_false, Bool.or_false, Bool.or_false] at hbj
          exact n7 j hj hbj
  · rw [frF_get hne, if_neg (by omega), if_neg (by omega)]; exact m2 m c d
  · rw [frF_bt hne (by omega) (by omega) (by omega), frF_bt hne (by omega) (by omega) (by omega), m3 i j hi hj]
    cases bt (fresh (33 + j)) i <;> by_cases c1 : i = a <;> by_cases c2 : i = b <;> by_cases c3 : j = a <;> by_cases c4 : j = b <;> simp [c1, c2, c3, c4]
  · -- one pair more
    have hz2 : bt (fresh (33 + b)) a = false := by rw [m3 b a hb' ha]; exact hz
    have key : ∀ hi lo, lo < hi → hi < M → bt (fresh (33 + hi)) lo = false → (∀ m j, j < m → m < M → bt (frF a b P fresh (33 + m)) j = (bt (fresh (33 + m)) j || (decide (m = hi) && decide (j = lo)))) → Pf (frF a b P fresh) M = P + 1 := by
      intro hi lo hl hM2 hf hall
      suffices hh : Pf (frF a b P fresh) M = Pf fresh M + 1 by rw [hh, r4]
      unfold Pf
      refine sN_dec hM2 ?_ (fun k hk hne2 => ?_)
      · unfold fbN
        refine sN_dec hl ?_ (fun j hj hne3 => ?_)
        · rw [hall hi lo hl hM2, hf, decide_eq_true rfl, decide_eq_true rfl]; rfl
        · rw [hall hi j hj hM2, decide_eq_false hne3, Bool.and_false, Bool.or_false]
      · unfold fbN
        refine sN_congr fun j hj => ?_
        rw [hall k j hj hk, decide_eq_false hne2, Bool.false_and, Bool.or_false]
    by_cases c : a < b
    · refine key b a c hb' hz2 (fun m j hj hm => ?_)
      rw [frF_bt hne (by omega) (by omega) (by omega)]
      by_cases c1 : m = a
      · rw [decide_eq_false (show ¬ j = b by omega), Bool.and_false, Bool.or_false]
      · rw [decide_eq_false c1, Bool.false_and, Bool.or_false]
    · refine key a b (by omega) ha hz (fun m j hj hm => ?_)
      rw [frF_bt hne (by omega) (by omega) (by omega)]
      by_cases c1 : m = b
      · rw [decide_eq_false (show ¬ j = a by omega), Bool.and_false, Bool.or_false]
      · rw [decide_eq_false c1, Bool.false_and, Bool.or_false]
theorem rd_helmet {B K S m : Nat} (h : RdR T M P holds oneIn fear mutiny beans draws goneTold amongs begun tn mn kind firstTen nerve friendsOf fearTimes weight black shaken fav drawer wb pair ofPair fresh) (hb : ¬ begun = 0) (h41 : fresh 41 = 0) (hB : B ≤ 12) (hK1 : 1 ≤ K) (hK : K ≤ B) (hS : S ≤ 100) : RdR T M P holds oneIn fear mutiny (nI B) draws goneTold amongs begun tn mn kind firstTen nerve friendsOf fearTimes weight (nI K) (nI S) (nI m) drawer wb pair ofPair (hmF B K S m fresh) := by
  obtain ⟨r1, r2, r3, r4, r5, r6, r7, r8, r9, r10, r11⟩ := h
  have h8 := r1.2.1
  have e : ∀ i, (i < 41 ∨ 44 < i) → hmF B K S m fresh i = fresh i := fun i h2 => by
    unfold hmF; rw [va_up_ne _ _ (by omega), va_up_ne _ _ (by omega), va_up_ne _ _ (by omega), va_up_ne _ _ (by omega)]
  have hd : fresh 7 = 0 ∧ draws = 0 := by
    rcases r8 with ⟨a, b, c, d⟩ | ⟨B', K', S', D', a1, a2, a3, a4, a5, a6, a7, a8, a9, b1, b2, b3, b4, b5, b6⟩
    · exact ⟨c, d⟩
    · rw [h41] at a6
      have := (nI_eq (a := 0) (b := B') (by decide) (by omega)).mp a6
      omega
  refine ⟨NamR_congr r1 (fun i hi => e i (by omega)), MenR_congr r2 h8 (fun i hi _ => e i (by omega)), r3, by rw [Pf_congr h8 (fun i hi _ => e i (by omega))]; exact r4, by rw [e _ (by omega)]; exact r5, by rw [e _ (by omega)]; exact r6, by rw [e _ (by omega)]; exact r7, Or.inr ⟨B, K, S, 0, hK1, hK, hB, hS, by omega, by unfold hmF; rw [va_up_self], rfl, ?_, rfl, ?_, rfl, ?_, by rw [e _ (by omega)]; exact hd.1, hd.2, fun i hi => by omega⟩, EarR_congr r9 (e _ (by omega)) (fun i hi _ => e i (by omega)), by rw [e _ (by omega), e _ (by omega)]; exact r10, BegR_b r11 hb (fun i hi => e i (by omega)) _ _ _⟩
  · unfold hmF; rw [va_up_ne _ _ (by omega), va_up_ne _ _ (by omega), va_up_ne _ _ (by omega), va_up_self]
  · unfold hmF; rw [va_up_ne _ _ (by omega), va_up_ne _ _ (by omega), va_up_self]
  · unfold hmF; rw [va_up_ne _ _ (by omega), va_up_self]
theorem rd_drew {B K S D m col : Nat} (h : RdR T M P holds oneIn fear mutiny beans draws goneTold amongs begun tn mn kind firstTen nerve friendsOf fearTimes weight black shaken fav drawer wb pair ofPair fresh) (hb : ¬ begun = 0) (hB : B ≤ 12) (hK1 : 1 ≤ K) (hK : K ≤ B) (hS : S ≤ 100) (h41 : fresh 41 = nI B) (h42 : fresh 42 = nI K) (h43 : fresh 43 = nI S) (hbe : beans = nI B) (hbl : black = nI K) (hsh : shaken = nI S) (hfa : fav = fresh 44) (hD : D < 6) (h7 : fresh 7 = nI D) (hd : DrR fresh B K D drawer wb) (hc : col ≤ 1) (hcc : if col = 1 then kN wb D < K else D - kN wb D < B - K) : RdR T M P holds oneIn fear mutiny beans (nI (D + 1)) goneTold amongs begun tn mn kind firstTen nerve friendsOf fearTimes weight black shaken fav (va_up drawer D (nI m)) (va_up wb D (nI col)) pair ofPair (dwF D m col fresh) := by
  obtain ⟨r1, r2, r3, r4, r5, r6, r7, r8, r9, r10, r11⟩ := h
  have h8 := r1.2.1
  have e : ∀ i, i ≠ 7 → (i < 45 + 2 * D ∨ 45 + 2 * D + 1 < i) → dwF D m col fresh i = fresh i := fun i h1 h2 => by
    unfold dwF; rw [va_up_ne _ _ h1, va_up_ne _ _ (by omega), va_up_ne _ _ (by omega)]
  have cb : ∀ j, j < D → cbN (va_up wb D (nI col)) j = cbN wb j := fun j hj => by unfold cbN; rw [va_up_ne _ _ (by omega)]
  have kk : ∀ i, i ≤ D → kN (va_up wb D (nI col)) i = kN wb i := fun i hi => by
    unfold kN; exact sN_congr fun j hj => by rw [cb j (by omega)]
  have cD : cbN (va_up wb D (nI col)) D = decide (col = 1) := by
    unfold cbN; rw [va_up_self]
    have : ∀ c, c < 2 → decide (¬ nI c = 0) = decide (c = 1) := by decide
    exact this col (by omega)
  have aD : nI (aN (decide (col = 1))) = nI col := by
    have : ∀ c, c < 2 → nI (aN (decide (c = 1))) = nI c := by decide
    exact this col (by omega)
  refine ⟨NamR_congr r1 (fun i hi => e i (by omega) (by omega)), MenR_congr r2 h8 (fun i hi _ => e i (by omega) (by omega)), r3, by rw [Pf_congr h8 (fun i hi _ => e i (by omega) (by omega))]; exact r4, by rw [e _ (by omega) (by omega)]; exact r5, by rw [e _ (by omega) (by omega)]; exact r6, by rw [e _ (by omega) (by omega)]; exact r7, Or.inr ⟨B, K, S, D + 1, hK1, hK, hB, hS, by omega, by rw [e _ (by omega) (by omega)]; exact h41, hbe, by rw [e _ (by omega) (by omega)]; exact h42, hbl, by rw [e _ (by omega) (by omega)]; exact h43, hsh, by rw [e _ (by omega) (by omega)]; exact hfa, by unfold dwF; rw [va_up_self], rfl, fun i hi => ?_⟩, EarR_congr r9 (e _ (by omega) (by omega)) (fun i hi _ => e i (by omega) (by omega)), by rw [e _ (by omega) (by omega), e _ (by omega) (by omega)]; exact r10, BegR_b r11 hb (fun i hi => e i (by omega) (by omega)) _ _ _⟩
  by_cases c : i = D
  · rw [c, cD, kk D (Nat.le_refl D), va_up_self, va_up_self, aD]
    refine ⟨?_, rfl, ?_, ?_⟩
    · unfold dwF; rw [va_up_ne _ _ (by omega), va_up_ne _ _ (by omega), va_up_self]
    · unfold dwF; rw [va_up_ne _ _ (by omega), va_up_self]
    · by_cases d : col = 1
      · rw [if_pos d] at hcc; rw [decide_eq_true d]; exact hcc
      · rw [if_neg d] at hcc; rw [decide_eq_false d]; exact hcc
  · rw [cb i (by omega), kk i (by omega), va_up_ne _ _ c, va_up_ne _ _ c, e _ (by omega) (by omega), e (45 + 2 * i + 1) (by omega) (by omega)]
    exact hd i (by omega)
theorem rd_gone {v : Nat} (h : RdR T M P holds oneIn fear mutiny beans draws goneTold amongs begun tn mn kind firstTen nerve friendsOf fearTimes weight black shaken fav drawer wb pair ofPair fresh) (hb : ¬ begun = 0) (hv : v ≤ M) : RdR T M P holds oneIn fear mutiny beans draws (nI v) amongs begun tn mn kind firstTen nerve friendsOf fearTimes weight black shaken fav drawer wb pair ofPair (va_up fresh 57 (nI (v + 1))) := by
  obtain ⟨r1, r2, r3, r4, r5, r6, r7, r8, r9, r10, r11⟩ := h
  have h8 := r1.2.1
  have e : ∀ i, i ≠ 57 → va_up fresh 57 (nI (v + 1)) i = fresh i := fun i h1 => va_up_ne _ _ h1
  refine ⟨NamR_congr r1 (fun i hi => e i (by omega)), MenR_congr r2 h8 (fun i hi _ => e i (by omega)), r3, by rw [Pf_congr h8 (fun i hi _ => e i (by omega))]; exact r4, by rw [e _ (by omega)]; exact r5, by rw [e _ (by omega)]; exact r6, by rw [e _ (by omega)]; exact r7, HelR_congr r8 (e _ (by omega)) (fun i hi _ => e i (by omega)), ?_, fun h => ?_, BegR_b r11 hb (fun i hi => e i (by omega)) _ _ _⟩
  · obtain ⟨h1, A, A1, A2, A3, A4⟩ := r9
    refine ⟨Or.inr ⟨v, by omega, va_up_self _ _ _, rfl⟩, A, A1, by rw [e _ (by omega)]; exact A2, A3, fun i hi => ?_⟩
    rw [e _ (by omega), e (58 + 3 * i + 1) (by omega), e (58 + 3 * i + 2) (by omega)]; exact A4 i hi
  · rw [va_up_self] at h
    have := (nI_eq (a := v + 1) (b := 0) (by omega) (by decide)).mp h
    omega
theorem rd_among {A a b k : Nat} (h : RdR T M P holds oneIn fear mutiny beans draws goneTold amongs begun tn mn kind firstTen nerve friendsOf fearTimes weight black shaken fav drawer wb pair ofPair fresh) (hb : ¬ begun = 0) (h57 : ¬ fresh 57 = 0) (hA : A < 5) (h8' : fresh 8 = nI A) (ha : a < M) (hb' : b < M) (hne : a ≠ b) (hk : k ≤ 2) : RdR T M P holds oneIn fear mutiny beans draws goneTold (nI (A + 1)) begun tn mn kind firstTen nerve friendsOf fearTimes weight black shaken fav drawer wb (va_up pair A (((1 : Int32) <<< (nI a &&& 31)) ||| ((1 : Int32) <<< (nI b &&& 31)))) (va_up ofPair A (nI k)) (amF A a b k fresh) := by
  obtain ⟨r1, r2, r3, r4, r5, r6, r7, r8, r9, r10, r11⟩ := h
  have h8 := r1.2.1
  have e : ∀ i, i ≠ 8 → (i < 58 + 3 * A ∨ 58 + 3 * A + 2 < i) → amF A a b k fresh i = fresh i := fun i h1 h2 => by
    unfold amF; rw [va_up_ne _ _ h1, va_up_ne _ _ (by omega), va_up_ne _ _ (by omega), va_up_ne _ _ (by omega)]
  refine ⟨NamR_congr r1 (fun i hi => e i (by omega) (by omega)), MenR_congr r2 h8 (fun i hi _ => e i (by omega) (by omega)), r3, by rw [Pf_congr h8 (fun i hi _ => e i (by omega) (by omega))]; exact r4, by rw [e _ (by omega) (by omega)]; exact r5, by rw [e _ (by omega) (by omega)]; exact r6, by rw [e _ (by omega) (by omega)]; exact r7, HelR_congr r8 (e _ (by omega) (by omega)) (fun i hi _ => e i (by omega) (by omega)), ?_, fun h => absurd (by rw [← e 57 (by omega) (by omega)]; exact h) h57, BegR_b r11 hb (fun i hi => e i (by omega) (by omega)) _ _ _⟩
  obtain ⟨h1, A', A1, A2, A3, A4⟩ := r9
  have eA : A' = A := by rw [h8'] at A2; exact ((nI_eq (by omega) (by omega)).mp A2).symm
  subst eA
  refine ⟨by rw [e _ (by omega) (by omega)]; exact h1, A' + 1, by omega, by unfold amF; rw [va_up_self], rfl, fun i hi => ?_⟩
  by_cases c : i = A'
  · refine ⟨a, b, k, by omega, by omega, hne, hk, ?_, ?_, ?_, ?_, ?_⟩
    · rw [c]; unfold amF; rw [va_up_ne _ _ (by omega), va_up_ne _ _ (by omega), va_up_ne _ _ (by omega), va_up_self]
    · rw [c]; unfold amF; rw [va_up_ne _ _ (by omega), va_up_ne _ _ (by omega), va_up_self]
    · rw [c]; unfold amF; rw [va_up_ne _ _ (by omega), va_up_self]
    · rw [c, va_up_self]
    · rw [c, va_up_self]
  · rw [e _ (by omega) (by omega), e (58 + 3 * i + 1) (by omega) (by omega), e (58 + 3 * i + 2) (by omega) (by omega), va_up_ne _ _ c, va_up_ne _ _ c]
    exact A4 i (by omega)
end RD
