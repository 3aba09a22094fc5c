theorem sN_mono {f : Nat → Nat} {a b : Nat} (h : a ≤ b) : sN f a ≤ sN f b := by
  obtain ⟨c, rfl⟩ : ∃ c, b = a + c := ⟨b - a, by omega⟩
  induction c with
  | zero => exact Nat.le_refl _
  | succ c ih => exact Nat.le_trans (ih (by omega)) (by rw [← Nat.add_assoc, sN_succ]; exact Nat.le_add_right _ _)
theorem bit_back {x : Int32} {m : Nat} (hm : m < 32) (h : bt x m = false) : (x ||| ((1 : Int32) <<< (nI m &&& 31))) &&& (((1 : Int32) <<< (nI m &&& 31)) ^^^ (-1)) = x := b_ext fun i hi => by
  rw [b_and, b_or, b_not _ hi, b_one hm hi]
  by_cases e : i = m
  · rw [e, h, decide_eq_true rfl]; rfl
  · rw [decide_eq_false e, Bool.or_false]; exact Bool.and_true _
def lsR (T m mo : Nat) (present : Int32) (ten mt put room : RW) (k : Nat) (s u : T4) : Prop := SU present s.1 u.1 s.2.2.1 u.2.2.1 ∧ (∀ t, t < T → s.2.2.2 t = mt t ∧ u.2.2.2 t = room t) ∧ (∀ i, i < m → s.2.1 i = ten i ∧ u.2.1 i = put i) ∧ ((∃ t, t < k ∧ t < T ∧ ct (mt t) < mo) → SET present s.1 u.1 s.2.2.1 u.2.2.1)
theorem LV_step {M T mo m : Nat} {present tens most fm mi : Int32} {friendsOf rr st : RW} {Cn Rn : FN} (hm : m < 8) (hmi : mi = nI m) (hM : M ≤ 8) (h5 : rr 5 = nI M) (h4 : rr 4 = nI T) (ht : tens = nI T) (hT3 : T ≤ 3) (hmost : most = nI mo) (hmo : mo < 2 ^ 20) (hs : sub_men present M) (h27 : st 27 = present) (hfm : fm = rr (33 + m)) (hfr : m < M → friendsOf m = rr (33 + m)) (hP : Pf rr M ≤ 8) (ih : (M ≤ m + 1 → CLf Cn) ∧ (m + 1 ≤ M → AS T mo (m + 1) present rr Cn Rn)) : (M ≤ m → CLf (gC m mi present tens most friendsOf Cn)) ∧ (m ≤ M → AS T mo m present rr (gC m mi present tens most friendsOf Cn) (gR m mi fm rr st Rn)) := by
  obtain ⟨ih1, ih2⟩ := ih
  have part1 : M ≤ m → CLf (gC m mi present tens most friendsOf Cn) := fun h x few ten best mt => by
    have hp : bt present m = false := by
      cases e : bt present m with
      | false => rfl
      | true => have := hs m (by omega) e; omega
    unfold gC
    rw [hmi, if_pos ((has0 (by omega)).mpr hp), ih1 (by omega)]
    by_cases c : x < few
    · rw [if_pos c, if_pos c]
    · rw [if_neg c, if_neg c]
  refine ⟨part1, fun h x few fewR ten best mt put bestR room hTI hx hSU hRS => ?_⟩
  have hPm : Pf rr m ≤ 8 := Nat.le_trans (sN_mono h) hP
  by_cases hlt : nI x < few
  · have hltR : nI x < fewR := by
      rcases hSU with ⟨-, e2⟩ | ⟨v, -, e1, e2, -⟩
      · rw [e2]; exact nI_lt (b := 1000000) (by omega) (by omega)
      · rw [e2, ← e1]; exact hlt
    by_cases hMm : m = M
    · rw [part1 (by omega) (nI x) few ten best mt, if_pos hlt]
      have hR : gR m mi fm rr st Rn (nI x) fewR put bestR room = (nI x, D_X12_copy_ne 0 0 8 put bestR, put, room) := by
        unfold gR
        rw [if_pos hltR, h5, hmi, hMm, if_pos rfl]
      rw [hR]
      refine ⟨⟨x, by omega, rfl, rfl, fun k hk hb => ?_⟩, fun t ht => ⟨rfl, rfl⟩, fun k hk => ⟨rfl, rfl⟩⟩
      show va_cpy ten best 0 0 8 k = D_X12_copy_ne 0 0 8 put bestR k
      rw [cpy_v _ _ hk, copy_ne_v (by omega), if_pos (by omega), Nat.zero_add, Nat.sub_zero]
      exact hTI.2.2.1 k (by have := hs k (by omega) hb; omega) hb
    · have hne : ¬ nI m = nI M := nI_inj3 (by omega) (by omega) hMm
      have hAS := ih2 (by omega)
      have hxm : x ≤ Pf rr (m + 1) := Nat.le_trans hx (by unfold Pf; rw [sN_succ]; exact Nat.le_add_right _ _)
      cases hp : bt present m with
      | false =>
        have hC : gC m mi present tens most friendsOf Cn (nI x) few ten best mt = Cn (nI x) few ten best mt := by
          unfold gC
          rw [if_pos hlt, hmi, if_pos ((has0 (by omega)).mpr hp)]
        have hR : gR m mi fm rr st Rn (nI x) fewR put bestR room = Rn (nI x) fewR (va_up put m (-1)) bestR room := by
          unfold gR
          rw [if_pos hltR, h5, hmi, if_neg hne, h27, if_pos ((hasBit0 (by omega)).mpr hp)]
        rw [hC, hR]
        obtain ⟨q1, q2, q3⟩ := hAS x few fewR ten best mt (va_up put m (-1)) bestR room (TI_skip hTI hp) hxm hSU (by rw [← RS_out hp]; exact hRS)
        refine ⟨q1, q2, fun k hk => ⟨(q3 k (by omega)).1, ?_⟩⟩
        rw [(q3 k (by omega)).2, va_up_ne _ _ (by omega)]
      | true =>
        have hRS1 := RS_in hm hp
        obtain ⟨t0, ht0, ht0r⟩ := sN_ex (f := fun t => mo - ct (mt t)) (n := T) (by omega)
        have key := am_fo_relI (f := fun k (s : T4) => if most ≤ D_J6_bitCount_0f7a4 (s.2.2.2 k) then (s.1, s.2.1, s.2.2.1, s.2.2.2) else ((Cn (nI x + D_J6_bitCount_0f7a4 (s.2.2.2 k &&& friendsOf m)) s.1 (va_up s.2.1 m (nI k)) s.2.2.1 (va_up s.2.2.2 k (s.2.2.2 k ||| ((1 : Int32) <<< (mi &&& 31))))).1, (Cn (nI x + D_J6_bitCount_0f7a4 (s.2.2.2 k &&& friendsOf m)) s.1 (va_up s.2.1 m (nI k)) s.2.2.1 (va_up s.2.2.2 k (s.2.2.2 k ||| ((1 : Int32) <<< (mi &&& 31))))).2.2.1, (Cn (nI x + D_J6_bitCount_0f7a4 (s.2.2.2 k &&& friendsOf m)) s.1 (va_up s.2.1 m (nI k)) s.2.2.1 (va_up s.2.2.2 k (s.2.2.2 k ||| ((1 : Int32) <<< (mi &&& 31))))).2.1, va_up (Cn (nI x + D_J6_bitCount_0f7a4 (s.2.2.2 k &&& friendsOf m)) s.1 (va_up s.2.1 m (nI k)) s.2.2.1 (va_up s.2.2.2 k (s.2.2.2 k ||| ((1 : Int32) <<< (mi &&& 31))))).2.2.2 k ((Cn (nI x + D_J6_bitCount_0f7a4 (s.2.2.2 k &&& friendsOf m)) s.1 (va_up s.2.1 m (nI k)) s.2.2.1 (va_up s.2.2.2 k (s.2.2.2 k ||| ((1 : Int32) <<< (mi &&& 31))))).2.2.2 k &&& (((1 : Int32) <<< (mi &&& 31)) ^^^ (-1))))) (g := fun k (s : T4) => if s.2.2.2 k = 0 then (s.1, s.2.1, s.2.2.1, s.2.2.2) else ((Rn (nI x + gL rr fm m k s.2.1) s.1 (va_up s.2.1 m (nI k)) s.2.2.1 (va_up s.2.2.2 k (s.2.2.2 k - 1))).1, (Rn (nI x + gL rr fm m k s.2.1) s.1 (va_up s.2.1 m (nI k)) s.2.2.1 (va_up s.2.2.2 k (s.2.2.2 k - 1))).2.2.1, (Rn (nI x + gL rr fm m k s.2.1) s.1 (va_up s.2.1 m (nI k)) s.2.2.1 (va_up s.2.2.2 k (s.2.2.2 k - 1))).2.1, va_up (Rn (nI x + gL rr fm m k s.2.1) s.1 (va_up s.2.1 m (nI k)) s.2.2.1 (va_up s.2.2.2 k (s.2.2.2 k - 1))).2.2.2 k ((Rn (nI x + gL rr fm m k s.2.1) s.1 (va_up s.2.1 m (nI k)) s.2.2.1 (va_up s.2.2.2 k (s.2.2.2 k - 1))).2.2.2 k + 1))) (R := lsR T m mo present ten mt put room) (n := T) (s := (few, ten, best, mt)) (t := (fewR, put, bestR, room)) ⟨hSU, fun _ _ => ⟨rfl, rfl⟩, fun _ _ => ⟨rfl, rfl⟩, fun ⟨t, h1, _⟩ => absurd h1 (Nat.not_lt_zero t)⟩ fun k s u hk hR => ?_
        · have hC : gC m mi present tens most friendsOf Cn (nI x) few ten best mt = (fun s : T4 => (s.1, s.2.2.1, s.2.1, s.2.2.2)) (am_fo (fun k (s : T4) => if most ≤ D_J6_bitCount_0f7a4 (s.2.2.2 k) then (s.1, s.2.1, s.2.2.1, s.2.2.2) else ((Cn (nI x + D_J6_bitCount_0f7a4 (s.2.2.2 k &&& friendsOf m)) s.1 (va_up s.2.1 m (nI k)) s.2.2.1 (va_up s.2.2.2 k (s.2.2.2 k ||| ((1 : Int32) <<< (mi &&& 31))))).1, (Cn (nI x + D_J6_bitCount_0f7a4 (s.2.2.2 k &&& friendsOf m)) s.1 (va_up s.2.1 m (nI k)) s.2.2.1 (va_up s.2.2.2 k (s.2.2.2 k ||| ((1 : Int32) <<< (mi &&& 31))))).2.2.1, (Cn (nI x + D_J6_bitCount_0f7a4 (s.2.2.2 k &&& friendsOf m)) s.1 (va_up s.2.1 m (nI k)) s.2.2.1 (va_up s.2.2.2 k (s.2.2.2 k ||| ((1 : Int32) <<< (mi &&& 31))))).2.1, va_up (Cn (nI x + D_J6_bitCount_0f7a4 (s.2.2.2 k &&& friendsOf m)) s.1 (va_up s.2.1 m (nI k)) s.2.2.1 (va_up s.2.2.2 k (s.2.2.2 k ||| ((1 : Int32) <<< (mi &&& 31))))).2.2.2 k ((Cn (nI x + D_J6_bitCount_0f7a4 (s.2.2.2 k &&& friendsOf m)) s.1 (va_up s.2.1 m (nI k)) s.2.2.1 (va_up s.2.2.2 k (s.2.2.2 k ||| ((1 : Int32) <<< (mi &&& 31))))).2.2.2 k &&& (((1 : Int32) <<< (mi &&& 31)) ^^^ (-1))))) T (few, ten, best, mt)) := by
            unfold gC
            rw [if_pos hlt, if_neg (show ¬ D_X11_has present mi = 0 by rw [hmi, has0 (by omega), hp]; decide), ht, be_nI (by omega)]
            rw [am_sel_l (am_fe_inl (fun k s hk => if_neg (fun g => by have := (nI_leI (a := 3) (b := k) (by omega) (by omega)).mp g; omega)) (few, ten, best, mt))]
          have hRR : gR m mi fm rr st Rn (nI x) fewR put bestR room = (fun s : T4 => (s.1, s.2.2.1, s.2.1, s.2.2.2)) (am_fo (fun k (s : T4) => if s.2.2.2 k = 0 then (s.1, s.2.1, s.2.2.1, s.2.2.2) else ((Rn (nI x + gL rr fm m k s.2.1) s.1 (va_up s.2.1 m (nI k)) s.2.2.1 (va_up s.2.2.2 k (s.2.2.2 k - 1))).1, (Rn (nI x + gL rr fm m k s.2.1) s.1 (va_up s.2.1 m (nI k)) s.2.2.1 (va_up s.2.2.2 k (s.2.2.2 k - 1))).2.2.1, (Rn (nI x + gL rr fm m k s.2.1) s.1 (va_up s.2.1 m (nI k)) s.2.2.1 (va_up s.2.2.2 k (s.2.2.2 k - 1))).2.1, va_up (Rn (nI x + gL rr fm m k s.2.1) s.1 (va_up s.2.1 m (nI k)) s.2.2.1 (va_up s.2.2.2 k (s.2.2.2 k - 1))).2.2.2 k ((Rn (nI x + gL rr fm m k s.2.1) s.1 (va_up s.2.1 m (nI k)) s.2.2.1 (va_up s.2.2.2 k (s.2.2.2 k - 1))).2.2.2 k + 1))) T (fewR, put, bestR, room)) := by
            unfold gR
            rw [if_pos hltR, if_neg (show ¬ mi = rr 5 by rw [h5, hmi]; exact hne), h27, if_neg (show ¬ D_X12_hasBit present mi = 0 by rw [hmi, hasBit0 (by omega), hp]; decide), h4, be_nI (by omega)]
          rw [hC, hRR]
          obtain ⟨k1, k2, k3, k4⟩ := key
          exact ⟨k4 ⟨t0, ht0, ht0, by omega⟩, k2, k3⟩
        · obtain ⟨r1, r2, r3, r4⟩ := hR
          have hTI' : TI T mo m present s.2.1 s.2.2.2 u.2.1 u.2.2.2 := TI_congr hTI (fun t ht => (r2 t ht).1) (fun t ht => (r2 t ht).2) (fun i hi => (r3 i hi).2) (fun i hi => (r3 i hi).1)
          have hsm := TI_sm hTI' hk (by omega)
          have hc8 := ct_le hsm
          obtain ⟨hb1, hb2⟩ := hTI'.2.1 k hk
          have hmk : ct (s.2.2.2 k) = ct (mt k) := by rw [(r2 k hk).1]
          show lsR T m mo present ten mt put room (k + 1) (if most ≤ D_J6_bitCount_0f7a4 (s.2.2.2 k) then _ else _) (if u.2.2.2 k = 0 then _ else _)
          rw [hmost, bc_ct hsm, hb2]
          by_cases hfull : mo ≤ ct (s.2.2.2 k)
          · rw [if_pos (nI_le hfull (by omega)), if_pos (by rw [show mo - ct (s.2.2.2 k) = 0 by omega]; rfl)]
            refine ⟨r1, r2, r3, fun ⟨t, h1, h2, h3⟩ => r4 ⟨t, ?_, h2, h3⟩⟩
            rcases Nat.lt_or_ge t k with g | g
            · exact g
            · rw [show t = k by omega, ← hmk] at h3; omega
          · rw [if_neg (nI_ge (by omega) (by omega)), if_neg (nI_ne0 (by omega) (by omega))]
            obtain ⟨cm, c1, c2, c3⟩ := TI_more (rr := rr) (fm := fm) hTI' hT3 hk hm
            rw [hfr (by omega), ← hfm, c2, c3, nI_add, hmi, ← hb2]
            have hstep := TI_step hTI' hT3 hk hm hp (by omega) hmo
            have hcx : x + cm ≤ Pf rr (m + 1) := by
              unfold Pf
              rw [sN_succ]
              have : cm ≤ fbN rr m := by unfold fbN; rw [← hfm]; exact c1
              exact Nat.add_le_add hx this
            have hsum : sN (fun t => mo - ct (s.2.2.2 t)) T = sN (fun t => mo - ct (va_up s.2.2.2 k (s.2.2.2 k ||| ((1 : Int32) <<< (nI m &&& 31))) t)) T + 1 := sN_dec (j := k) hk (by rw [va_up_self, TI_ct hTI' hk hm]; omega) (fun i hi e => by rw [va_up_ne _ _ e])
            have hsum0 : sN (fun t => mo - ct (s.2.2.2 t)) T = sN (fun t => mo - ct (mt t)) T := sN_congr fun t ht => by rw [(r2 t ht).1]
            obtain ⟨q1, q2, q3⟩ := hAS (x + cm) s.1 u.1 (va_up s.2.1 m (nI k)) s.2.2.1 (va_up s.2.2.2 k (s.2.2.2 k ||| ((1 : Int32) <<< (nI m &&& 31)))) (va_up u.2.1 m (nI k)) u.2.2.1 (va_up u.2.2.2 k (u.2.2.2 k - 1)) hstep hcx r1 (by omega)
            refine ⟨Or.inr q1, fun t ht => ?_, fun i hi => ?_, fun _ => q1⟩
            · dsimp only
              by_cases e : t = k
              · subst e
                rw [va_up_self, va_up_self, (q2 t ht).1, (q2 t ht).2, va_up_self, va_up_self, bit_back (by omega) (by rw [hTI'.1 t ht m (by omega), decide_eq_false (Nat.lt_irrefl m)]; rfl), Int32.sub_add_cancel]
                exact r2 t ht
              · rw [va_up_ne _ _ e, va_up_ne _ _ e, (q2 t ht).1, (q2 t ht).2, va_up_ne _ _ e, va_up_ne _ _ e]
                exact r2 t ht
            · dsimp only
              rw [(q3 i (by omega)).1, (q3 i (by omega)).2, va_up_ne _ _ (by omega), va_up_ne _ _ (by omega)]
              exact r3 i hi
  · have hset : SET present few fewR best bestR := by
      rcases hSU with ⟨e1, -⟩ | e
      · exact absurd (by rw [e1]; exact nI_lt (b := 9) (by omega) (by omega)) hlt
      · exact e
    have hltR : ¬ nI x < fewR := by
      obtain ⟨v, -, e1, e2, -⟩ := hset
      rw [e2, ← e1]; exact hlt
    have hC : gC m mi present tens most friendsOf Cn (nI x) few ten best mt = (few, best, ten, mt) := by unfold gC; rw [if_neg hlt]
    have hR : gR m mi fm rr st Rn (nI x) fewR put bestR room = (fewR, bestR, put, room) := by unfold gR; rw [if_neg hltR]
    rw [hC, hR]
    exact ⟨hset, fun _ _ => ⟨rfl, rfl⟩, fun _ _ => ⟨rfl, rfl⟩⟩
