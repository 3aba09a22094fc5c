/-! TENS anew: assignFrom beside tryTens, one level for all -/
theorem am_fe_inl {σ ρ : Type} {f : Nat → σ → σ ⊕ ρ} {g : Nat → σ → σ} {n : Nat} (h : ∀ k s, k < n → f k s = .inl (g k s)) (s : σ) : am_fe f n s = .inl (am_fo g n s) := by
  have : ∀ k, k ≤ n → am_fe f k s = .inl (am_fo g k s) := by
    intro k
    induction k with
    | zero => intro _; rfl
    | succ k ih => intro hk; rw [am_fe_s, am_sel_l (ih (by omega)), h k _ (by omega)]; rfl
  exact this n (Nat.le_refl n)
theorem sN_ind {n j : Nat} (hj : j < n) : sN (fun k => if k = j then 1 else 0) n = 1 := by
  have : ∀ n, sN (fun k => if k = j then 1 else 0) n = if j < n then 1 else 0 := by
    intro n
    induction n with
    | zero => rfl
    | succ n ih =>
      rw [sN_succ, ih]
      by_cases h1 : j < n
      · rw [if_pos h1, if_neg (by omega), if_pos (by omega)]
      · by_cases h2 : n = j
        · rw [if_neg h1, if_pos h2, if_pos (by omega)]
        · rw [if_neg h1, if_neg h2, if_neg (by omega)]
  rw [this n, if_pos hj]
theorem sN_dec {f g : Nat → Nat} {n j : Nat} (hj : j < n) (h1 : f j = g j + 1) (h2 : ∀ k, k < n → k ≠ j → f k = g k) : sN f n = sN g n + 1 := by
  rw [sN_add (f := g) (g := fun k => if k = j then 1 else 0) (h := f) (fun k hk => ?_), sN_ind hj]
  by_cases e : k = j
  · rw [if_pos e, e, h1]
  · rw [if_neg e, h2 k hk e]; rfl
theorem sN_ex {f : Nat → Nat} {n : Nat} (h : 0 < sN f n) : ∃ k, k < n ∧ 0 < f k := by
  induction n with
  | zero => exact absurd h (Nat.lt_irrefl 0)
  | succ n ih =>
    rw [sN_succ] at h
    by_cases c : 0 < f n
    · exact ⟨n, Nat.lt_succ_self n, c⟩
    · obtain ⟨k, k1, k2⟩ := ih (by omega)
      exact ⟨k, Nat.lt_succ_of_lt k1, k2⟩
abbrev RW := Nat → Int32
abbrev T4 := Int32 × RW × RW × RW
abbrev FN := Int32 → Int32 → RW → RW → RW → T4
def gC (m : Nat) (mi present tens most : Int32) (friendsOf : RW) (Cn : FN) (x few : Int32) (ten best mt : RW) : T4 :=
  if x < few then if D_X11_has present mi = 0 then ((Cn x few ten best mt).1, (Cn x few ten best mt).2.1, (Cn x few ten best mt).2.2.1, (Cn x few ten best mt).2.2.2) else ((fun s : T4 => (s.1, s.2.2.1, s.2.1, s.2.2.2)) (am_sel (am_fe (fun k (s : T4) => (if 3 ≤ nI k then .inr (s.1, s.2.1, s.2.2.1, s.2.2.2) else .inl (if most ≤ D_J6_bitCount_0f7a4 (s.2.2.2 k) then (s.1, s.2.1, s.2.2.1, s.2.2.2) else ((Cn (x + D_J6_bitCount_0f7a4 (s.2.2.2 k &&& friendsOf m)) s.1 (va_up s.2.1 m (nI k)) s.2.2.1 (va_up s.2.2.2 k (s.2.2.2 k ||| ((1 : Int32) <<< (mi &&& 31))))).1, (Cn (x + D_J6_bitCount_0f7a4 (s.2.2.2 k &&& friendsOf m)) s.1 (va_up s.2.1 m (nI k)) s.2.2.1 (va_up s.2.2.2 k (s.2.2.2 k ||| ((1 : Int32) <<< (mi &&& 31))))).2.2.1, (Cn (x + D_J6_bitCount_0f7a4 (s.2.2.2 k &&& friendsOf m)) s.1 (va_up s.2.1 m (nI k)) s.2.2.1 (va_up s.2.2.2 k (s.2.2.2 k ||| ((1 : Int32) <<< (mi &&& 31))))).2.1, va_up (Cn (x + D_J6_bitCount_0f7a4 (s.2.2.2 k &&& friendsOf m)) s.1 (va_up s.2.1 m (nI k)) s.2.2.1 (va_up s.2.2.2 k (s.2.2.2 k ||| ((1 : Int32) <<< (mi &&& 31))))).2.2.2 k ((Cn (x + D_J6_bitCount_0f7a4 (s.2.2.2 k &&& friendsOf m)) s.1 (va_up s.2.1 m (nI k)) s.2.2.1 (va_up s.2.2.2 k (s.2.2.2 k ||| ((1 : Int32) <<< (mi &&& 31))))).2.2.2 k &&& (((1 : Int32) <<< (mi &&& 31)) ^^^ (-1))))) : T4 ⊕ T4)) (am_be tens 0) (few, ten, best, mt)) (fun s => (s.1, s.2.1, s.2.2.1, s.2.2.2)) (fun s => s))) else (few, best, ten, mt)
def gL (rr : RW) (fm : Int32) (m : Nat) (k : Nat) (put : RW) : Int32 := am_fo (fun k2 s2 => s2 + (if put k2 = nI k then if D_X12_hasBit fm (nI k2) = 0 then 0 else 1 else 0 : Int32)) m 0
def gR (m : Nat) (mi fm : Int32) (rr st : RW) (Rn : FN) (x few : Int32) (put best room : RW) : T4 :=
  if x < few then if mi = rr 5 then (x, D_X12_copy_ne 0 0 8 put best, put, room) else if D_X12_hasBit (st 27) mi = 0 then ((Rn x few (va_up put m (-1)) best room).1, (Rn x few (va_up put m (-1)) best room).2.1, (Rn x few (va_up put m (-1)) best room).2.2.1, (Rn x few (va_up put m (-1)) best room).2.2.2) else ((fun s : T4 => (s.1, s.2.2.1, s.2.1, s.2.2.2)) (am_fo (fun k (s : T4) => if s.2.2.2 k = 0 then (s.1, s.2.1, s.2.2.1, s.2.2.2) else ((Rn (x + gL rr fm m k s.2.1) s.1 (va_up s.2.1 m (nI k)) s.2.2.1 (va_up s.2.2.2 k (s.2.2.2 k - 1))).1, (Rn (x + gL rr fm m k s.2.1) s.1 (va_up s.2.1 m (nI k)) s.2.2.1 (va_up s.2.2.2 k (s.2.2.2 k - 1))).2.2.1, (Rn (x + gL rr fm m k s.2.1) s.1 (va_up s.2.1 m (nI k)) s.2.2.1 (va_up s.2.2.2 k (s.2.2.2 k - 1))).2.1, va_up (Rn (x + gL rr fm m k s.2.1) s.1 (va_up s.2.1 m (nI k)) s.2.2.1 (va_up s.2.2.2 k (s.2.2.2 k - 1))).2.2.2 k ((Rn (x + gL rr fm m k s.2.1) s.1 (va_up s.2.1 m (nI k)) s.2.2.1 (va_up s.2.2.2 k (s.2.2.2 k - 1))).2.2.2 k + 1))) (am_be (rr 4) 0) (few, put, best, room))) else (few, best, put, room)
def fbN (rr : RW) (m : Nat) : Nat := sN (fun k => if bt (rr (33 + m)) k then 1 else 0) m
def Pf (rr : RW) (m : Nat) : Nat := sN (fbN rr) m
def RS (present : Int32) (m : Nat) : Nat := sN (fun k => if m ≤ k ∧ bt present k = true then 1 else 0) 8
def TI (T mo m : Nat) (present : Int32) (ten mt put room : RW) : Prop := (∀ t, t < T → ∀ k, k < 32 → bt (mt t) k = (decide (k < m) && bt present k && decide (put k = nI t))) ∧ (∀ t, t < T → ct (mt t) ≤ mo ∧ room t = nI (mo - ct (mt t))) ∧ (∀ k, k < m → bt present k = true → ten k = put k) ∧ (∀ k, k < m → bt present k = false → put k = -1)
def SET (present few fewR : Int32) (best bestR : RW) : Prop := ∃ v, v ≤ 8 ∧ few = nI v ∧ fewR = nI v ∧ ∀ k, k < 8 → bt present k = true → best k = bestR k
def SU (present few fewR : Int32) (best bestR : RW) : Prop := (few = 9 ∧ fewR = 1000000) ∨ SET present few fewR best bestR
def AS (T mo m : Nat) (present : Int32) (rr : RW) (C R : FN) : Prop := ∀ x few fewR ten best mt put bestR room, TI T mo m present ten mt put room → x ≤ Pf rr m → SU present few fewR best bestR → RS present m ≤ sN (fun t => mo - ct (mt t)) T → SET present (C (nI x) few ten best mt).1 (R (nI x) fewR put bestR room).1 (C (nI x) few ten best mt).2.1 (R (nI x) fewR put bestR room).2.1 ∧ (∀ t, t < T → (C (nI x) few ten best mt).2.2.2 t = mt t ∧ (R (nI x) fewR put bestR room).2.2.2 t = room t) ∧ ∀ k, k < m → (C (nI x) few ten best mt).2.2.1 k = ten k ∧ (R (nI x) fewR put bestR room).2.2.1 k = put k
def CLf (C : FN) : Prop := ∀ x few ten best mt, C x few ten best mt = if x < few then (x, va_cpy ten best 0 0 8, ten, mt) else (few, best, ten, mt)
theorem TI_congr {T mo m : Nat} {present : Int32} {ten mt put room ten' mt' put' room' : RW} (h : TI T mo m present ten mt put room) (h1 : ∀ t, t < T → mt' t = mt t) (h2 : ∀ t, t < T → room' t = room t) (h3 : ∀ k, k < m → put' k = put k) (h4 : ∀ k, k < m → ten' k = ten k) : TI T mo m present ten' mt' put' room' := by
  obtain ⟨a, b, c, d⟩ := h
  refine ⟨fun t ht k hk => ?_, fun t ht => ?_, fun k hk hb => ?_, fun k hk hb => ?_⟩
  · rw [h1 t ht, a t ht k hk]
    by_cases hkm : k < m
    · rw [h3 k hkm]
    · rw [decide_eq_false hkm]; rfl
  · rw [h1 t ht, h2 t ht]; exact b t ht
  · rw [h4 k hk, h3 k hk]; exact c k hk hb
  · rw [h3 k hk]; exact d k hk hb
theorem TI_skip {T mo m : Nat} {present : Int32} {ten mt put room : RW} (h : TI T mo m present ten mt put room) (hp : bt present m = false) : TI T mo (m + 1) present ten mt (va_up put m (-1)) room := by
  obtain ⟨a, b, c, d⟩ := h
  refine ⟨fun t ht k hk => ?_, b, fun k hk hb => ?_, fun k hk hb => ?_⟩
  · rw [a t ht k hk]
    by_cases e : k = m
    · rw [e, hp, Bool.and_false, Bool.false_and, Bool.and_false, Bool.false_and]
    · rw [va_up_ne _ _ e, show decide (k < m) = decide (k < m + 1) from decide_eq_decide.mpr (by omega)]
  · have e : k ≠ m := fun e => by rw [e, hp] at hb; cases hb
    rw [va_up_ne _ _ e]; exact c k (by omega) hb
  · by_cases e : k = m
    · rw [e, va_up_self]
    · rw [va_up_ne _ _ e]; exact d k (by omega) hb
theorem TI_sm {T mo m t : Nat} {present : Int32} {ten mt put room : RW} (h : TI T mo m present ten mt put room) (ht : t < T) (hm : m ≤ 8) : sm (mt t) := fun k h1 h2 => by
  rw [h.1 t ht k h2, decide_eq_false (by omega)]; rfl
theorem nI_inj3 {a b : Nat} (ha : a < 2 ^ 31) (hb : b < 2 ^ 31) (h : a ≠ b) : ¬ nI a = nI b := fun e => h ((nI_eq ha hb).mp e)
theorem TI_ct {T mo m t : Nat} {present : Int32} {ten mt put room : RW} (h : TI T mo m present ten mt put room) (ht : t < T) (hm : m < 8) : ct (mt t ||| ((1 : Int32) <<< (nI m &&& 31))) = ct (mt t) + 1 := by
  rw [ct_sN, ct_sN]
  refine sN_dec (j := m) hm ?_ fun k hk e => ?_
  · rw [b_or, b_one (by omega) (by omega), decide_eq_true rfl, Bool.or_true, h.1 t ht m (by omega), decide_eq_false (Nat.lt_irrefl m)]; rfl
  · rw [b_or, b_one (by omega) (by omega), decide_eq_false e, Bool.or_false]
theorem TI_step {T mo m t : Nat} {present : Int32} {ten mt put room : RW} (h : TI T mo m present ten mt put room) (hT : T ≤ 3) (ht : t < T) (hm : m < 8) (hp : bt present m = true) (hr : ct (mt t) < mo) (hmo : mo < 2 ^ 20) : TI T mo (m + 1) present (va_up ten m (nI t)) (va_up mt t (mt t ||| ((1 : Int32) <<< (nI m &&& 31)))) (va_up put m (nI t)) (va_up room t (room t - 1)) := by
  have hct := TI_ct h ht hm
  obtain ⟨a, b, c, d⟩ := h
  refine ⟨fun u hu k hk => ?_, fun u hu => ?_, fun k hk hb => ?_, fun k hk hb => ?_⟩
  · by_cases e : u = t
    · subst e
      rw [va_up_self, b_or, b_one (by omega) hk, a u hu k hk]
      by_cases ek : k = m
      · rw [ek, va_up_self, hp, decide_eq_true rfl, decide_eq_true (show m < m + 1 by omega), decide_eq_true rfl, Bool.or_true]; rfl
      · rw [va_up_ne _ _ ek, decide_eq_false ek, Bool.or_false, show decide (k < m) = decide (k < m + 1) from decide_eq_decide.mpr (by omega)]
    · rw [va_up_ne _ _ e, a u hu k hk]
      by_cases ek : k = m
      · rw [ek, va_up_self, decide_eq_false (Nat.lt_irrefl m), decide_eq_false (nI_inj3 (by omega) (by omega) (fun g => e g.symm)), Bool.and_false]; rfl
      · rw [va_up_ne _ _ ek, show decide (k < m) = decide (k < m + 1) from decide_eq_decide.mpr (by omega)]
  · by_cases e : u = t
    · subst e
      rw [va_up_self, va_up_self, hct, (b u hu).2]
      refine ⟨by omega, ?_⟩
      obtain ⟨q, hq⟩ : ∃ q, mo - ct (mt u) = q + 1 := ⟨mo - ct (mt u) - 1, by omega⟩
      rw [hq, nI_prd, show mo - (ct (mt u) + 1) = q by omega]
    · rw [va_up_ne _ _ e, va_up_ne _ _ e]; exact b u hu
  · by_cases ek : k = m
    · rw [ek, va_up_self, va_up_self]
    · rw [va_up_ne _ _ ek, va_up_ne _ _ ek]; exact c k (by omega) hb
  · have e : k ≠ m := fun e => by rw [e, hp] at hb; cases hb
    rw [va_up_ne _ _ e]; exact d k (by omega) hb
theorem TI_more {T mo m t : Nat} {present : Int32} {ten mt put room rr : RW} {fm : Int32} (h : TI T mo m present ten mt put room) (hT : T ≤ 3) (ht : t < T) (hm : m < 8) : ∃ cm, cm ≤ sN (fun k => if bt fm k then 1 else 0) m ∧ D_J6_bitCount_0f7a4 (mt t &&& fm) = nI cm ∧ gL rr fm m t put = nI cm := by
  have hsm := sm_and fm (TI_sm h ht (by omega))
  have hc : ct (mt t &&& fm) = sN (fun k => if bt (mt t) k && bt fm k then 1 else 0) m := by
    rw [ct_sN]
    refine (sN_cut (M := m) (by omega) fun k h1 h2 => ?_).trans (sN_congr fun k hk => by rw [b_and])
    rw [b_and, h.1 t ht k (by omega), decide_eq_false (by omega)]; rfl
  refine ⟨ct (mt t &&& fm), ?_, bc_ct hsm, ?_⟩
  · rw [hc]
    refine sN_le fun k hk => ?_
    cases bt (mt t) k
    · exact Nat.zero_le _
    · exact Nat.le_refl _
  · rw [hc]
    unfold gL
    have := fo_nI (g := fun k2 => (if put k2 = nI t then if D_X12_hasBit fm (nI k2) = 0 then 0 else 1 else 0 : Int32)) (f := fun k => if bt (mt t) k && bt fm k then 1 else 0) (n := m) (fun k hk => ?_) 0
    · rw [Nat.zero_add] at this; exact this
    · rw [h.1 t ht k (by omega), decide_eq_true hk, Bool.true_and]
      cases hp : bt present k with
      | false =>
        rw [h.2.2.2 k hk hp, if_neg (fun e => by have := congrArg Int32.toInt e; rw [nI_toInt (by omega), show (-1 : Int32).toInt = -1 by decide] at this; omega)]
        rfl
      | true =>
        by_cases e : put k = nI t
        · rw [if_pos e, decide_eq_true e]
          cases hb : bt fm k with
          | false => rw [if_pos ((hasBit0 (by omega)).mpr hb)]; rfl
          | true => rw [if_neg (fun g => by rw [hasBit0 (by omega), hb] at g; cases g)]; rfl
        · rw [if_neg e, decide_eq_false e]; rfl
theorem RS_in {present : Int32} {m : Nat} (hm : m < 8) (hp : bt present m = true) : RS present m = RS present (m + 1) + 1 := by
  unfold RS
  refine sN_dec (j := m) hm ?_ fun k hk e => ?_
  · rw [if_pos ⟨Nat.le_refl m, hp⟩, if_neg (by omega)]
  · by_cases c : m ≤ k ∧ bt present k = true
    · rw [if_pos c, if_pos ⟨by omega, c.2⟩]
    · rw [if_neg c, if_neg (fun g => c ⟨by omega, g.2⟩)]
theorem RS_out {present : Int32} {m : Nat} (hp : bt present m = false) : RS present m = RS present (m + 1) := by
  unfold RS
  refine sN_congr fun k hk => ?_
  by_cases c : m ≤ k ∧ bt present k = true
  · have : k ≠ m := fun e => by rw [e, hp] at c; exact absurd c.2 (by decide)
    rw [if_pos c, if_pos ⟨by omega, c.2⟩]
  · rw [if_neg c, if_neg (fun g => c ⟨by omega, g.2⟩)]
