/-! THE CONSTRUCTORS, run step by step: the memory behind each of their writes -/
def dd (n Ln a : Nat) : Nat × Nat := if a < n then (am_kd a).getD (99, 0) else if a = am_SC then (18, Ln) else (99, 0)
theorem dd_k {n Ln a : Nat} {x : Nat × Nat} (h : a < n) (e : am_kd a = some x) : dd n Ln a = x := by
  unfold dd
  rw [if_pos h, e]; rfl
theorem dd_s {n Ln : Nat} {x : Nat × Nat} (e : am_kd n = some x) : va_up (dd n Ln) n x = dd (n + 1) Ln := by
  funext a
  by_cases c : a = n
  · subst c
    rw [va_up_self]
    unfold dd
    rw [if_pos (Nat.lt_succ_self a), e]; rfl
  · rw [va_up_ne _ _ c]
    unfold dd
    by_cases h : a < n
    · rw [if_pos h, if_pos (by omega)]
    · rw [if_neg h, if_neg (show ¬ a < n + 1 by omega)]
section CT
variable {q pc n s k idx x y s' : Nat} {L S : List Value} {f : Nat → Nat → Int32} {g : Nat → Nat → Int64} {p : Nat → Nat → Option Nat} {d d' : Nat → Nat × Nat}
theorem am_leb_nw {μ : am_M} {len sl : Nat} : am_leb μ (am_nw μ k len sl) = true := am_leb_iff.mpr ⟨Nat.le_add_right _ _, Nat.le_add_right _ _⟩
theorem am_tnw (h : am_fetch q pc = some (.new idx, 3, (k, x, y))) (hn : n < 600000) (hk : k < 13) (hd : va_up d n (k, 0) = d') (hs : s + am_N k = s') : am_runs (q, pc, L, S) (f, g, p, d, n, s) = am_runs (q, pc + 3, L, .ref n :: S) (va_up f n (fun _ => 0), va_up g n (fun _ => 0), va_up p n (fun _ => none), d', n + 1, s') := by
  subst hd hs
  exact am_gbl (μ := (f, g, p, d, n, s)) h ⟨hn, hk⟩ am_leb_nw rfl
theorem am_tna {v : Int32} {i : Instr} {inf : am_I} (h : am_fetch q pc = some (i, 2, inf)) (hs : am_sem i 2 inf q pc L (.int v :: S) (f, g, p, d, n, s) = am_newa q pc 2 L (.int v :: S) (f, g, p, d, n, s) k) (hn : n < 600000) (hv : ¬ v < 0) (hl : v.toNatClampNeg ≤ 60000) (hk : 12 < k) (hk2 : k < 18) (hd : va_up d n (k, v.toNatClampNeg) = d') (hs' : s + v.toNatClampNeg = s') : am_runs (q, pc, L, .int v :: S) (f, g, p, d, n, s) = am_runs (q, pc + 2, L, .ref n :: S) (va_up f n (fun _ => 0), va_up g n (fun _ => 0), va_up p n (fun _ => none), d', n + 1, s') := by
  subst hd hs'
  exact am_gbl (μ := (f, g, p, d, n, s)) h ⟨hn, hv, hl, hk, hk2⟩ am_leb_nw (hs.trans rfl)
theorem am_tnb {v : Int32} (h : am_fetch q pc = some (.anewarray idx, 3, (k, x, y))) (hn : n < 600000) (hv : ¬ v < 0) (hl : v.toNatClampNeg ≤ 60000) (hk : 12 < k) (hk2 : k < 18) (hd : va_up d n (k, v.toNatClampNeg) = d') (hs' : s + v.toNatClampNeg = s') : am_runs (q, pc, L, .int v :: S) (f, g, p, d, n, s) = am_runs (q, pc + 3, L, .ref n :: S) (va_up f n (fun _ => 0), va_up g n (fun _ => 0), va_up p n (fun _ => none), d', n + 1, s') := by
  subst hd hs'
  exact am_gbl (μ := (f, g, p, d, n, s)) h ⟨hn, hv, hl, hk, hk2⟩ am_leb_nw rfl
theorem am_tsr {i : Int32} {r a j n1 n2 : Nat} {inf : am_I} {e : Nat × Nat} (h : am_fetch q pc = some (.aastore, 1, inf)) (hk : d a = (17, n1)) (hr : d r = (6, n2)) (hb : am_out i n1 = false) (hj : i.toNatClampNeg = j) : am_runs (q, pc, L, .ref r :: .int i :: .ref a :: S) (f, g, p, d, e) = am_runs (q, pc + 1, L, S) (f, g, am_u p a j (some r), d, e) := by
  subst hj
  exact am_gbl (μ := (f, g, p, d, e)) h ⟨congrArg Prod.fst hk, congrArg Prod.fst hr, by show am_out i (d a).2 = false; rw [hk]; exact hb⟩ (am_leb_sr _ _ _) rfl
end CT
def ff_0 (xs : Nat → Int32) : Nat → Nat → Int32 := va_up (fun _ _ => 0) am_SC xs
def gg_0 : Nat → Nat → Int64 := fun _ _ => 0
def pp_0 : Nat → Nat → Option Nat := fun _ _ => none
def ff_1 (xs : Nat → Int32) : Nat → Nat → Int32 := va_up (ff_0 xs) 0 (fun _ => 0)
def gg_1 : Nat → Nat → Int64 := va_up gg_0 0 (fun _ => 0)
def pp_1 : Nat → Nat → Option Nat := va_up pp_0 0 (fun _ => none)
def ff_2 (xs : Nat → Int32) : Nat → Nat → Int32 := va_up (ff_1 xs) 1 (fun _ => 0)
def gg_2 : Nat → Nat → Int64 := va_up gg_1 1 (fun _ => 0)
def pp_2 : Nat → Nat → Option Nat := va_up pp_1 1 (fun _ => none)
def pp_3 : Nat → Nat → Option Nat := am_u pp_2 0 0 (some 1)
def ff_3 (xs : Nat → Int32) : Nat → Nat → Int32 := am_u (ff_2 xs) 0 1 0
def ff_4 (xs : Nat → Int32) : Nat → Nat → Int32 := va_up (ff_3 xs) 2 (fun _ => 0)
def gg_3 : Nat → Nat → Int64 := va_up gg_2 2 (fun _ => 0)
def pp_4 : Nat → Nat → Option Nat := va_up pp_3 2 (fun _ => none)
def ff_5 (xs : Nat → Int32) : Nat → Nat → Int32 := va_up (ff_4 xs) 3 (fun _ => 0)
def gg_4 : Nat → Nat → Int64 := va_up gg_3 3 (fun _ => 0)
def pp_5 : Nat → Nat → Option Nat := va_up pp_4 3 (fun _ => none)
def pp_6 : Nat → Nat → Option Nat := am_u pp_5 2 1 (some 3)
def ff_6 (xs : Nat → Int32) : Nat → Nat → Int32 := va_up (ff_5 xs) 4 (fun _ => 0)
def gg_5 : Nat → Nat → Int64 := va_up gg_4 4 (fun _ => 0)
def pp_7 : Nat → Nat → Option Nat := va_up pp_6 4 (fun _ => none)
def pp_8 : Nat → Nat → Option Nat := am_u pp_7 2 2 (some 4)
def ff_7 (xs : Nat → Int32) : Nat → Nat → Int32 := va_up (ff_6 xs) 5 (fun _ => 0)
def gg_6 : Nat → Nat → Int64 := va_up gg_5 5 (fun _ => 0)
def pp_9 : Nat → Nat → Option Nat := va_up pp_8 5 (fun _ => none)
def ff_8 (xs : Nat → Int32) : Nat → Nat → Int32 := va_up (ff_7 xs) 6 (fun _ => 0)
def gg_7 : Nat → Nat → Int64 := va_up gg_6 6 (fun _ => 0)
def pp_10 : Nat → Nat → Option Nat := va_up pp_9 6 (fun _ => none)
def pp_11 : Nat → Nat → Option Nat := am_u pp_10 5 7 (some 6)
def ff_9 (xs : Nat → Int32) : Nat → Nat → Int32 := va_up (ff_8 xs) 7 (fun _ => 0)
def gg_8 : Nat → Nat → Int64 := va_up gg_7 7 (fun _ => 0)
def pp_12 : Nat → Nat → Option Nat := va_up pp_11 7 (fun _ => none)
def pp_13 : Nat → Nat → Option Nat := am_u pp_12 5 8 (some 7)
def ff_10 (xs : Nat → Int32) : Nat → Nat → Int32 := va_up (ff_9 xs) 8 (fun _ => 0)
def gg_9 : Nat → Nat → Int64 := va_up gg_8 8 (fun _ => 0)
def pp_14 : Nat → Nat → Option Nat := va_up pp_13 8 (fun _ => none)
def pp_15 : Nat → Nat → Option Nat := am_u pp_14 5 9 (some 8)
def ff_11 (xs : Nat → Int32) : Nat → Nat → Int32 := va_up (ff_10 xs) 9 (fun _ => 0)
def gg_10 : Nat → Nat → Int64 := va_up gg_9 9 (fun _ => 0)
def pp_16 : Nat → Nat → Option Nat := va_up pp_15 9 (fun _ => none)
def pp_17 : Nat → Nat → Option Nat := am_u pp_16 5 10 (some 9)
def ff_12 (xs : Nat → Int32) : Nat → Nat → Int32 := va_up (ff_11 xs) 10 (fun _ => 0)
def gg_11 : Nat → Nat → Int64 := va_up gg_10 10 (fun _ => 0)
def pp_18 : Nat → Nat → Option Nat := va_up pp_17 10 (fun _ => none)
def pp_19 : Nat → Nat → Option Nat := am_u pp_18 5 11 (some 10)
def ff_13 (xs : Nat → Int32) : Nat → Nat → Int32 := va_up (ff_12 xs) 11 (fun _ => 0)
def gg_12 : Nat → Nat → Int64 := va_up gg_11 11 (fun _ => 0)
def pp_20 : Nat → Nat → Option Nat := va_up pp_19 11 (fun _ => none)
def pp_21 : Nat → Nat → Option Nat := am_u pp_20 5 12 (some 11)
def ff_14 (xs : Nat → Int32) : Nat → Nat → Int32 := va_up (ff_13 xs) 12 (fun _ => 0)
def gg_13 : Nat → Nat → Int64 := va_up gg_12 12 (fun _ => 0)
def pp_22 : Nat → Nat → Option Nat := va_up pp_21 12 (fun _ => none)
def ff_15 (xs : Nat → Int32) : Nat → Nat → Int32 := va_up (ff_14 xs) 13 (fun _ => 0)
def gg_14 : Nat → Nat → Int64 := va_up gg_13 13 (fun _ => 0)
def pp_23 : Nat → Nat → Option Nat := va_up pp_22 13 (fun _ => none)
def pp_24 : Nat → Nat → Option Nat := am_u pp_23 12 5 (some 13)
def ff_16 (xs : Nat → Int32) : Nat → Nat → Int32 := va_up (ff_15 xs) 14 (fun _ => 0)
def gg_15 : Nat → Nat → Int64 := va_up gg_14 14 (fun _ => 0)
def pp_25 : Nat → Nat → Option Nat := va_up pp_24 14 (fun _ => none)
def pp_26 : Nat → Nat → Option Nat := am_u pp_25 12 6 (some 14)
def ff_17 (xs : Nat → Int32) : Nat → Nat → Int32 := va_up (ff_16 xs) 15 (fun _ => 0)
def gg_16 : Nat → Nat → Int64 := va_up gg_15 15 (fun _ => 0)
def pp_27 : Nat → Nat → Option Nat := va_up pp_26 15 (fun _ => none)
def gg_17 : Nat → Nat → Int64 := am_u gg_16 15 0 0
def gg_18 : Nat → Nat → Int64 := am_u gg_17 15 1 1
def pp_28 : Nat → Nat → Option Nat := am_u pp_27 12 7 (some 15)
def ff_18 (xs : Nat → Int32) : Nat → Nat → Int32 := va_up (ff_17 xs) 16 (fun _ => 0)
def gg_19 : Nat → Nat → Int64 := va_up gg_18 16 (fun _ => 0)
def pp_29 : Nat → Nat → Option Nat := va_up pp_28 16 (fun _ => none)
def gg_20 : Nat → Nat → Int64 := am_u gg_19 16 0 0
def gg_21 : Nat → Nat → Int64 := am_u gg_20 16 1 1
def pp_30 : Nat → Nat → Option Nat := am_u pp_29 12 8 (some 16)
def ff_19 (xs : Nat → Int32) : Nat → Nat → Int32 := va_up (ff_18 xs) 17 (fun _ => 0)
def gg_22 : Nat → Nat → Int64 := va_up gg_21 17 (fun _ => 0)
def pp_31 : Nat → Nat → Option Nat := va_up pp_30 17 (fun _ => none)
def gg_23 : Nat → Nat → Int64 := am_u gg_22 17 0 0
def gg_24 : Nat → Nat → Int64 := am_u gg_23 17 1 1
def pp_32 : Nat → Nat → Option Nat := am_u pp_31 12 9 (some 17)
def pp_33 : Nat → Nat → Option Nat := am_u pp_32 5 13 (some 12)
def ff_20 (xs : Nat → Int32) : Nat → Nat → Int32 := va_up (ff_19 xs) 18 (fun _ => 0)
def gg_25 : Nat → Nat → Int64 := va_up gg_24 18 (fun _ => 0)
def pp_34 : Nat → Nat → Option Nat := va_up pp_33 18 (fun _ => none)
def ff_21 (xs : Nat → Int32) : Nat → Nat → Int32 := am_u (ff_20 xs) 18 0 (-1)
def ff_22 (xs : Nat → Int32) : Nat → Nat → Int32 := va_up (ff_21 xs) 19 (fun _ => 0)
def gg_26 : Nat → Nat → Int64 := va_up gg_25 19 (fun _ => 0)
def pp_35 : Nat → Nat → Option Nat := va_up pp_34 19 (fun _ => none)
def pp_36 : Nat → Nat → Option Nat := am_u pp_35 18 4 (some 19)
def ff_23 (xs : Nat → Int32) : Nat → Nat → Int32 := va_up (ff_22 xs) 20 (fun _ => 0)
def gg_27 : Nat → Nat → Int64 := va_up gg_26 20 (fun _ => 0)
def pp_37 : Nat → Nat → Option Nat := va_up pp_36 20 (fun _ => none)
def pp_38 : Nat → Nat → Option Nat := am_u pp_37 18 5 (some 20)
def ff_24 (xs : Nat → Int32) : Nat → Nat → Int32 := va_up (ff_23 xs) 21 (fun _ => 0)
def gg_28 : Nat → Nat → Int64 := va_up gg_27 21 (fun _ => 0)
def pp_39 : Nat → Nat → Option Nat := va_up pp_38 21 (fun _ => none)
def pp_40 : Nat → Nat → Option Nat := am_u pp_39 18 6 (some 21)
def pp_41 : Nat → Nat → Option Nat := am_u pp_40 5 14 (some 18)
def pp_42 : Nat → Nat → Option Nat := am_u pp_41 2 3 (some 5)
def ff_25 (xs : Nat → Int32) : Nat → Nat → Int32 := va_up (ff_24 xs) 22 (fun _ => 0)
def gg_29 : Nat → Nat → Int64 := va_up gg_28 22 (fun _ => 0)
def pp_43 : Nat → Nat → Option Nat := va_up pp_42 22 (fun _ => none)
def pp_44 : Nat → Nat → Option Nat := am_u pp_43 22 0 (some 1)
def pp_45 : Nat → Nat → Option Nat := am_u pp_44 2 0 (some 22)
def pp_46 : Nat → Nat → Option Nat := am_u pp_45 0 2 (some 2)
def ff_26 (xs : Nat → Int32) : Nat → Nat → Int32 := va_up (ff_25 xs) 23 (fun _ => 0)
def gg_30 : Nat → Nat → Int64 := va_up gg_29 23 (fun _ => 0)
def pp_47 : Nat → Nat → Option Nat := va_up pp_46 23 (fun _ => none)
def ff_27 (xs : Nat → Int32) : Nat → Nat → Int32 := va_up (ff_26 xs) 24 (fun _ => 0)
def gg_31 : Nat → Nat → Int64 := va_up gg_30 24 (fun _ => 0)
def pp_48 : Nat → Nat → Option Nat := va_up pp_47 24 (fun _ => none)
def pp_49 : Nat → Nat → Option Nat := am_u pp_48 23 7 (some 24)
def ff_28 (xs : Nat → Int32) : Nat → Nat → Int32 := va_up (ff_27 xs) 25 (fun _ => 0)
def gg_32 : Nat → Nat → Int64 := va_up gg_31 25 (fun _ => 0)
def pp_50 : Nat → Nat → Option Nat := va_up pp_49 25 (fun _ => none)
def pp_51 : Nat → Nat → Option Nat := am_u pp_50 23 8 (some 25)
def ff_29 (xs : Nat → Int32) : Nat → Nat → Int32 := va_up (ff_28 xs) 26 (fun _ => 0)
def gg_33 : Nat → Nat → Int64 := va_up gg_32 26 (fun _ => 0)
def pp_52 : Nat → Nat → Option Nat := va_up pp_51 26 (fun _ => none)
def pp_53 : Nat → Nat → Option Nat := am_u pp_52 23 9 (some 26)
def ff_30 (xs : Nat → Int32) : Nat → Nat → Int32 := va_up (ff_29 xs) 27 (fun _ => 0)
def gg_34 : Nat → Nat → Int64 := va_up gg_33 27 (fun _ => 0)
def pp_54 : Nat → Nat → Option Nat := va_up pp_53 27 (fun _ => none)
def pp_55 : Nat → Nat → Option Nat := am_u pp_54 23 10 (some 27)
def ff_31 (xs : Nat → Int32) : Nat → Nat → Int32 := va_up (ff_30 xs) 28 (fun _ => 0)
def gg_35 : Nat → Nat → Int64 := va_up gg_34 28 (fun _ => 0)
def pp_56 : Nat → Nat → Option Nat := va_up pp_55 28 (fun _ => none)
def pp_57 : Nat → Nat → Option Nat := am_u pp_56 23 11 (some 28)
def ff_32 (xs : Nat → Int32) : Nat → Nat → Int32 := va_up (ff_31 xs) 29 (fun _ => 0)
def gg_36 : Nat → Nat → Int64 := va_up gg_35 29 (fun _ => 0)
def pp_58 : Nat → Nat → Option Nat := va_up pp_57 29 (fun _ => none)
def pp_59 : Nat → Nat → Option Nat := am_u pp_58 23 12 (some 29)
def ff_33 (xs : Nat → Int32) : Nat → Nat → Int32 := va_up (ff_32 xs) 30 (fun _ => 0)
def gg_37 : Nat → Nat → Int64 := va_up gg_36 30 (fun _ => 0)
def pp_60 : Nat → Nat → Option Nat := va_up pp_59 30 (fun _ => none)
def ff_34 (xs : Nat → Int32) : Nat → Nat → Int32 := va_up (ff_33 xs) 31 (fun _ => 0)
def gg_38 : Nat → Nat → Int64 := va_up gg_37 31 (fun _ => 0)
def pp_61 : Nat → Nat → Option Nat := va_up pp_60 31 (fun _ => none)
def pp_62 : Nat → Nat → Option Nat := am_u pp_61 30 5 (some 31)
def ff_35 (xs : Nat → Int32) : Nat → Nat → Int32 := va_up (ff_34 xs) 32 (fun _ => 0)
def gg_39 : Nat → Nat → Int64 := va_up gg_38 32 (fun _ => 0)
def pp_63 : Nat → Nat → Option Nat := va_up pp_62 32 (fun _ => none)
def pp_64 : Nat → Nat → Option Nat := am_u pp_63 30 6 (some 32)
def ff_36 (xs : Nat → Int32) : Nat → Nat → Int32 := va_up (ff_35 xs) 33 (fun _ => 0)
def gg_40 : Nat → Nat → Int64 := va_up gg_39 33 (fun _ => 0)
def pp_65 : Nat → Nat → Option Nat := va_up pp_64 33 (fun _ => none)
def gg_41 : Nat → Nat → Int64 := am_u gg_40 33 0 0
def gg_42 : Nat → Nat → Int64 := am_u gg_41 33 1 1
def pp_66 : Nat → Nat → Option Nat := am_u pp_65 30 7 (some 33)
def ff_37 (xs : Nat → Int32) : Nat → Nat → Int32 := va_up (ff_36 xs) 34 (fun _ => 0)
def gg_43 : Nat → Nat → Int64 := va_up gg_42 34 (fun _ => 0)
def pp_67 : Nat → Nat → Option Nat := va_up pp_66 34 (fun _ => none)
def gg_44 : Nat → Nat → Int64 := am_u gg_43 34 0 0
def gg_45 : Nat → Nat → Int64 := am_u gg_44 34 1 1
def pp_68 : Nat → Nat → Option Nat := am_u pp_67 30 8 (some 34)
def ff_38 (xs : Nat → Int32) : Nat → Nat → Int32 := va_up (ff_37 xs) 35 (fun _ => 0)
def gg_46 : Nat → Nat → Int64 := va_up gg_45 35 (fun _ => 0)
def pp_69 : Nat → Nat → Option Nat := va_up pp_68 35 (fun _ => none)
def gg_47 : Nat → Nat → Int64 := am_u gg_46 35 0 0
def gg_48 : Nat → Nat → Int64 := am_u gg_47 35 1 1
def pp_70 : Nat → Nat → Option Nat := am_u pp_69 30 9 (some 35)
def pp_71 : Nat → Nat → Option Nat := am_u pp_70 23 13 (some 30)
def ff_39 (xs : Nat → Int32) : Nat → Nat → Int32 := va_up (ff_38 xs) 36 (fun _ => 0)
def gg_49 : Nat → Nat → Int64 := va_up gg_48 36 (fun _ => 0)
def pp_72 : Nat → Nat → Option Nat := va_up pp_71 36 (fun _ => none)
def ff_40 (xs : Nat → Int32) : Nat → Nat → Int32 := am_u (ff_39 xs) 36 0 (-1)
def ff_41 (xs : Nat → Int32) : Nat → Nat → Int32 := va_up (ff_40 xs) 37 (fun _ => 0)
def gg_50 : Nat → Nat → Int64 := va_up gg_49 37 (fun _ => 0)
def pp_73 : Nat → Nat → Option Nat := va_up pp_72 37 (fun _ => none)
def pp_74 : Nat → Nat → Option Nat := am_u pp_73 36 4 (some 37)
def ff_42 (xs : Nat → Int32) : Nat → Nat → Int32 := va_up (ff_41 xs) 38 (fun _ => 0)
def gg_51 : Nat → Nat → Int64 := va_up gg_50 38 (fun _ => 0)
def pp_75 : Nat → Nat → Option Nat := va_up pp_74 38 (fun _ => none)
def pp_76 : Nat → Nat → Option Nat := am_u pp_75 36 5 (some 38)
def ff_43 (xs : Nat → Int32) : Nat → Nat → Int32 := va_up (ff_42 xs) 39 (fun _ => 0)
def gg_52 : Nat → Nat → Int64 := va_up gg_51 39 (fun _ => 0)
def pp_77 : Nat → Nat → Option Nat := va_up pp_76 39 (fun _ => none)
def pp_78 : Nat → Nat → Option Nat := am_u pp_77 36 6 (some 39)
def pp_79 : Nat → Nat → Option Nat := am_u pp_78 23 14 (some 36)
def pp_80 : Nat → Nat → Option Nat := am_u pp_79 0 3 (some 23)
def ff_44 (xs : Nat → Int32) : Nat → Nat → Int32 := va_up (ff_43 xs) 40 (fun _ => 0)
def gg_53 : Nat → Nat → Int64 := va_up gg_52 40 (fun _ => 0)
def pp_81 : Nat → Nat → Option Nat := va_up pp_80 40 (fun _ => none)
def ff_45 (xs : Nat → Int32) : Nat → Nat → Int32 := va_up (ff_44 xs) 41 (fun _ => 0)
def gg_54 : Nat → Nat → Int64 := va_up gg_53 41 (fun _ => 0)
def pp_82 : Nat → Nat → Option Nat := va_up pp_81 41 (fun _ => none)
def pp_83 : Nat → Nat → Option Nat := am_u pp_82 40 4 (some 41)
def ff_46 (xs : Nat → Int32) : Nat → Nat → Int32 := va_up (ff_45 xs) 42 (fun _ => 0)
def gg_55 : Nat → Nat → Int64 := va_up gg_54 42 (fun _ => 0)
def pp_84 : Nat → Nat → Option Nat := va_up pp_83 42 (fun _ => none)
def pp_85 : Nat → Nat → Option Nat := am_u pp_84 40 5 (some 42)
def ff_47 (xs : Nat → Int32) : Nat → Nat → Int32 := va_up (ff_46 xs) 43 (fun _ => 0)
def gg_56 : Nat → Nat → Int64 := va_up gg_55 43 (fun _ => 0)
def pp_86 : Nat → Nat → Option Nat := va_up pp_85 43 (fun _ => none)
def pp_87 : Nat → Nat → Option Nat := am_u pp_86 40 6 (some 43)
def ff_48 (xs : Nat → Int32) : Nat → Nat → Int32 := va_up (ff_47 xs) 44 (fun _ => 0)
def gg_57 : Nat → Nat → Int64 := va_up gg_56 44 (fun _ => 0)
def pp_88 : Nat → Nat → Option Nat := va_up pp_87 44 (fun _ => none)
def pp_89 : Nat → Nat → Option Nat := am_u pp_88 40 7 (some 44)
def pp_90 : Nat → Nat → Option Nat := am_u pp_89 40 0 (some 23)
def pp_91 : Nat → Nat → Option Nat := am_u pp_90 0 4 (some 40)
def ff_49 (xs : Nat → Int32) : Nat → Nat → Int32 := va_up (ff_48 xs) 45 (fun _ => 0)
def gg_58 : Nat → Nat → Int64 := va_up gg_57 45 (fun _ => 0)
def pp_92 : Nat → Nat → Option Nat := va_up pp_91 45 (fun _ => none)
def ff_50 (xs : Nat → Int32) : Nat → Nat → Int32 := va_up (ff_49 xs) 46 (fun _ => 0)
def gg_59 : Nat → Nat → Int64 := va_up gg_58 46 (fun _ => 0)
def pp_93 : Nat → Nat → Option Nat := va_up pp_92 46 (fun _ => none)
def pp_94 : Nat → Nat → Option Nat := am_u pp_93 45 0 (some 46)
def ff_51 (xs : Nat → Int32) : Nat → Nat → Int32 := va_up (ff_50 xs) 47 (fun _ => 0)
def gg_60 : Nat → Nat → Int64 := va_up gg_59 47 (fun _ => 0)
def pp_95 : Nat → Nat → Option Nat := va_up pp_94 47 (fun _ => none)
def pp_96 : Nat → Nat → Option Nat := am_u pp_95 45 1 (some 47)
def ff_52 (xs : Nat → Int32) : Nat → Nat → Int32 := am_u (ff_51 xs) 45 2 0
def ff_53 (xs : Nat → Int32) : Nat → Nat → Int32 := am_u (ff_52 xs) 45 3 0
def ff_54 (xs : Nat → Int32) : Nat → Nat → Int32 := am_u (ff_53 xs) 45 4 0
def ff_55 (xs : Nat → Int32) : Nat → Nat → Int32 := va_up (ff_54 xs) 48 (fun _ => 0)
def gg_61 : Nat → Nat → Int64 := va_up gg_60 48 (fun _ => 0)
def pp_97 : Nat → Nat → Option Nat := va_up pp_96 48 (fun _ => none)
def ff_56 (xs : Nat → Int32) : Nat → Nat → Int32 := va_up (ff_55 xs) 49 (fun _ => 0)
def gg_62 : Nat → Nat → Int64 := va_up gg_61 49 (fun _ => 0)
def pp_98 : Nat → Nat → Option Nat := va_up pp_97 49 (fun _ => none)
def pp_99 : Nat → Nat → Option Nat := am_u pp_98 48 4 (some 49)
def ff_57 (xs : Nat → Int32) : Nat → Nat → Int32 := va_up (ff_56 xs) 50 (fun _ => 0)
def gg_63 : Nat → Nat → Int64 := va_up gg_62 50 (fun _ => 0)
def pp_100 : Nat → Nat → Option Nat := va_up pp_99 50 (fun _ => none)
def pp_101 : Nat → Nat → Option Nat := am_u pp_100 48 5 (some 50)
def ff_58 (xs : Nat → Int32) : Nat → Nat → Int32 := va_up (ff_57 xs) 51 (fun _ => 0)
def gg_64 : Nat → Nat → Int64 := va_up gg_63 51 (fun _ => 0)
def pp_102 : Nat → Nat → Option Nat := va_up pp_101 51 (fun _ => none)
def pp_103 : Nat → Nat → Option Nat := am_u pp_102 48 6 (some 51)
def ff_59 (xs : Nat → Int32) : Nat → Nat → Int32 := va_up (ff_58 xs) 52 (fun _ => 0)
def gg_65 : Nat → Nat → Int64 := va_up gg_64 52 (fun _ => 0)
def pp_104 : Nat → Nat → Option Nat := va_up pp_103 52 (fun _ => none)
def pp_105 : Nat → Nat → Option Nat := am_u pp_104 48 7 (some 52)
def pp_106 : Nat → Nat → Option Nat := am_u pp_105 48 0 (some 23)
def pp_107 : Nat → Nat → Option Nat := am_u pp_106 46 0 (some 48)
def ff_60 (xs : Nat → Int32) : Nat → Nat → Int32 := va_up (ff_59 xs) 53 (fun _ => 0)
def gg_66 : Nat → Nat → Int64 := va_up gg_65 53 (fun _ => 0)
def pp_108 : Nat → Nat → Option Nat := va_up pp_107 53 (fun _ => none)
def ff_61 (xs : Nat → Int32) : Nat → Nat → Int32 := va_up (ff_60 xs) 54 (fun _ => 0)
def gg_67 : Nat → Nat → Int64 := va_up gg_66 54 (fun _ => 0)
def pp_109 : Nat → Nat → Option Nat := va_up pp_108 54 (fun _ => none)
def pp_110 : Nat → Nat → Option Nat := am_u pp_109 53 4 (some 54)
def ff_62 (xs : Nat → Int32) : Nat → Nat → Int32 := va_up (ff_61 xs) 55 (fun _ => 0)
def gg_68 : Nat → Nat → Int64 := va_up gg_67 55 (fun _ => 0)
def pp_111 : Nat → Nat → Option Nat := va_up pp_110 55 (fun _ => none)
def pp_112 : Nat → Nat → Option Nat := am_u pp_111 53 5 (some 55)
def ff_63 (xs : Nat → Int32) : Nat → Nat → Int32 := va_up (ff_62 xs) 56 (fun _ => 0)
def gg_69 : Nat → Nat → Int64 := va_up gg_68 56 (fun _ => 0)
def pp_113 : Nat → Nat → Option Nat := va_up pp_112 56 (fun _ => none)
def pp_114 : Nat → Nat → Option Nat := am_u pp_113 53 6 (some 56)
def ff_64 (xs : Nat → Int32) : Nat → Nat → Int32 := va_up (ff_63 xs) 57 (fun _ => 0)
def gg_70 : Nat → Nat → Int64 := va_up gg_69 57 (fun _ => 0)
def pp_115 : Nat → Nat → Option Nat := va_up pp_114 57 (fun _ => none)
def pp_116 : Nat → Nat → Option Nat := am_u pp_115 53 7 (some 57)
def pp_117 : Nat → Nat → Option Nat := am_u pp_116 53 0 (some 23)
def pp_118 : Nat → Nat → Option Nat := am_u pp_117 46 1 (some 53)
def ff_65 (xs : Nat → Int32) : Nat → Nat → Int32 := va_up (ff_64 xs) 58 (fun _ => 0)
def gg_71 : Nat → Nat → Int64 := va_up gg_70 58 (fun _ => 0)
def pp_119 : Nat → Nat → Option Nat := va_up pp_118 58 (fun _ => none)
def ff_66 (xs : Nat → Int32) : Nat → Nat → Int32 := va_up (ff_65 xs) 59 (fun _ => 0)
def gg_72 : Nat → Nat → Int64 := va_up gg_71 59 (fun _ => 0)
def pp_120 : Nat → Nat → Option Nat := va_up pp_119 59 (fun _ => none)
def pp_121 : Nat → Nat → Option Nat := am_u pp_120 58 4 (some 59)
def ff_67 (xs : Nat → Int32) : Nat → Nat → Int32 := va_up (ff_66 xs) 60 (fun _ => 0)
def gg_73 : Nat → Nat → Int64 := va_up gg_72 60 (fun _ => 0)
def pp_122 : Nat → Nat → Option Nat := va_up pp_121 60 (fun _ => none)
def pp_123 : Nat → Nat → Option Nat := am_u pp_122 58 5 (some 60)
def ff_68 (xs : Nat → Int32) : Nat → Nat → Int32 := va_up (ff_67 xs) 61 (fun _ => 0)
def gg_74 : Nat → Nat → Int64 := va_up gg_73 61 (fun _ => 0)
def pp_124 : Nat → Nat → Option Nat := va_up pp_123 61 (fun _ => none)
def pp_125 : Nat → Nat → Option Nat := am_u pp_124 58 6 (some 61)
def ff_69 (xs : Nat → Int32) : Nat → Nat → Int32 := va_up (ff_68 xs) 62 (fun _ => 0)
def gg_75 : Nat → Nat → Int64 := va_up gg_74 62 (fun _ => 0)
def pp_126 : Nat → Nat → Option Nat := va_up pp_125 62 (fun _ => none)
def pp_127 : Nat → Nat → Option Nat := am_u pp_126 58 7 (some 62)
def pp_128 : Nat → Nat → Option Nat := am_u pp_127 58 0 (some 23)
def pp_129 : Nat → Nat → Option Nat := am_u pp_128 46 2 (some 58)
def ff_70 (xs : Nat → Int32) : Nat → Nat → Int32 := va_up (ff_69 xs) 63 (fun _ => 0)
def gg_76 : Nat → Nat → Int64 := va_up gg_75 63 (fun _ => 0)
def pp_130 : Nat → Nat → Option Nat := va_up pp_129 63 (fun _ => none)
def ff_71 (xs : Nat → Int32) : Nat → Nat → Int32 := va_up (ff_70 xs) 64 (fun _ => 0)
def gg_77 : Nat → Nat → Int64 := va_up gg_76 64 (fun _ => 0)
def pp_131 : Nat → Nat → Option Nat := va_up pp_130 64 (fun _ => none)
def pp_132 : Nat → Nat → Option Nat := am_u pp_131 63 4 (some 64)
def ff_72 (xs : Nat → Int32) : Nat → Nat → Int32 := va_up (ff_71 xs) 65 (fun _ => 0)
def gg_78 : Nat → Nat → Int64 := va_up gg_77 65 (fun _ => 0)
def pp_133 : Nat → Nat → Option Nat := va_up pp_132 65 (fun _ => none)
def pp_134 : Nat → Nat → Option Nat := am_u pp_133 63 5 (some 65)
def ff_73 (xs : Nat → Int32) : Nat → Nat → Int32 := va_up (ff_72 xs) 66 (fun _ => 0)
def gg_79 : Nat → Nat → Int64 := va_up gg_78 66 (fun _ => 0)
def pp_135 : Nat → Nat → Option Nat := va_up pp_134 66 (fun _ => none)
def pp_136 : Nat → Nat → Option Nat := am_u pp_135 63 6 (some 66)
def ff_74 (xs : Nat → Int32) : Nat → Nat → Int32 := va_up (ff_73 xs) 67 (fun _ => 0)
def gg_80 : Nat → Nat → Int64 := va_up gg_79 67 (fun _ => 0)
def pp_137 : Nat → Nat → Option Nat := va_up pp_136 67 (fun _ => none)
def pp_138 : Nat → Nat → Option Nat := am_u pp_137 63 7 (some 67)
def pp_139 : Nat → Nat → Option Nat := am_u pp_138 63 0 (some 23)
def pp_140 : Nat → Nat → Option Nat := am_u pp_139 46 3 (some 63)
def ff_75 (xs : Nat → Int32) : Nat → Nat → Int32 := va_up (ff_74 xs) 68 (fun _ => 0)
def gg_81 : Nat → Nat → Int64 := va_up gg_80 68 (fun _ => 0)
def pp_141 : Nat → Nat → Option Nat := va_up pp_140 68 (fun _ => none)
def ff_76 (xs : Nat → Int32) : Nat → Nat → Int32 := va_up (ff_75 xs) 69 (fun _ => 0)
def gg_82 : Nat → Nat → Int64 := va_up gg_81 69 (fun _ => 0)
def pp_142 : Nat → Nat → Option Nat := va_up pp_141 69 (fun _ => none)
def pp_143 : Nat → Nat → Option Nat := am_u pp_142 68 4 (some 69)
def ff_77 (xs : Nat → Int32) : Nat → Nat → Int32 := va_up (ff_76 xs) 70 (fun _ => 0)
def gg_83 : Nat → Nat → Int64 := va_up gg_82 70 (fun _ => 0)
def pp_144 : Nat → Nat → Option Nat := va_up pp_143 70 (fun _ => none)
def pp_145 : Nat → Nat → Option Nat := am_u pp_144 68 5 (some 70)
def ff_78 (xs : Nat → Int32) : Nat → Nat → Int32 := va_up (ff_77 xs) 71 (fun _ => 0)
def gg_84 : Nat → Nat → Int64 := va_up gg_83 71 (fun _ => 0)
def pp_146 : Nat → Nat → Option Nat := va_up pp_145 71 (fun _ => none)
def pp_147 : Nat → Nat → Option Nat := am_u pp_146 68 6 (some 71)
def ff_79 (xs : Nat → Int32) : Nat → Nat → Int32 := va_up (ff_78 xs) 72 (fun _ => 0)
def gg_85 : Nat → Nat → Int64 := va_up gg_84 72 (fun _ => 0)
def pp_148 : Nat → Nat → Option Nat := va_up pp_147 72 (fun _ => none)
def pp_149 : Nat → Nat → Option Nat := am_u pp_148 68 7 (some 72)
def pp_150 : Nat → Nat → Option Nat := am_u pp_149 68 0 (some 23)
def pp_151 : Nat → Nat → Option Nat := am_u pp_150 46 4 (some 68)
def ff_80 (xs : Nat → Int32) : Nat → Nat → Int32 := va_up (ff_79 xs) 73 (fun _ => 0)
def gg_86 : Nat → Nat → Int64 := va_up gg_85 73 (fun _ => 0)
def pp_152 : Nat → Nat → Option Nat := va_up pp_151 73 (fun _ => none)
def ff_81 (xs : Nat → Int32) : Nat → Nat → Int32 := va_up (ff_80 xs) 74 (fun _ => 0)
def gg_87 : Nat → Nat → Int64 := va_up gg_86 74 (fun _ => 0)
def pp_153 : Nat → Nat → Option Nat := va_up pp_152 74 (fun _ => none)
def pp_154 : Nat → Nat → Option Nat := am_u pp_153 73 4 (some 74)
def ff_82 (xs : Nat → Int32) : Nat → Nat → Int32 := va_up (ff_81 xs) 75 (fun _ => 0)
def gg_88 : Nat → Nat → Int64 := va_up gg_87 75 (fun _ => 0)
def pp_155 : Nat → Nat → Option Nat := va_up pp_154 75 (fun _ => none)
def pp_156 : Nat → Nat → Option Nat := am_u pp_155 73 5 (some 75)
def ff_83 (xs : Nat → Int32) : Nat → Nat → Int32 := va_up (ff_82 xs) 76 (fun _ => 0)
def gg_89 : Nat → Nat → Int64 := va_up gg_88 76 (fun _ => 0)
def pp_157 : Nat → Nat → Option Nat := va_up pp_156 76 (fun _ => none)
def pp_158 : Nat → Nat → Option Nat := am_u pp_157 73 6 (some 76)
def ff_84 (xs : Nat → Int32) : Nat → Nat → Int32 := va_up (ff_83 xs) 77 (fun _ => 0)
def gg_90 : Nat → Nat → Int64 := va_up gg_89 77 (fun _ => 0)
def pp_159 : Nat → Nat → Option Nat := va_up pp_158 77 (fun _ => none)
def pp_160 : Nat → Nat → Option Nat := am_u pp_159 73 7 (some 77)
def pp_161 : Nat → Nat → Option Nat := am_u pp_160 73 0 (some 23)
def pp_162 : Nat → Nat → Option Nat := am_u pp_161 46 5 (some 73)
def ff_85 (xs : Nat → Int32) : Nat → Nat → Int32 := va_up (ff_84 xs) 78 (fun _ => 0)
def gg_91 : Nat → Nat → Int64 := va_up gg_90 78 (fun _ => 0)
def pp_163 : Nat → Nat → Option Nat := va_up pp_162 78 (fun _ => none)
def ff_86 (xs : Nat → Int32) : Nat → Nat → Int32 := va_up (ff_85 xs) 79 (fun _ => 0)
def gg_92 : Nat → Nat → Int64 := va_up gg_91 79 (fun _ => 0)
def pp_164 : Nat → Nat → Option Nat := va_up pp_163 79 (fun _ => none)
def pp_165 : Nat → Nat → Option Nat := am_u pp_164 78 4 (some 79)
def ff_87 (xs : Nat → Int32) : Nat → Nat → Int32 := va_up (ff_86 xs) 80 (fun _ => 0)
def gg_93 : Nat → Nat → Int64 := va_up gg_92 80 (fun _ => 0)
def pp_166 : Nat → Nat → Option Nat := va_up pp_165 80 (fun _ => none)
def pp_167 : Nat → Nat → Option Nat := am_u pp_166 78 5 (some 80)
def ff_88 (xs : Nat → Int32) : Nat → Nat → Int32 := va_up (ff_87 xs) 81 (fun _ => 0)
def gg_94 : Nat → Nat → Int64 := va_up gg_93 81 (fun _ => 0)
def pp_168 : Nat → Nat → Option Nat := va_up pp_167 81 (fun _ => none)
def pp_169 : Nat → Nat → Option Nat := am_u pp_168 78 6 (some 81)
def ff_89 (xs : Nat → Int32) : Nat → Nat → Int32 := va_up (ff_88 xs) 82 (fun _ => 0)
def gg_95 : Nat → Nat → Int64 := va_up gg_94 82 (fun _ => 0)
def pp_170 : Nat → Nat → Option Nat := va_up pp_169 82 (fun _ => none)
def pp_171 : Nat → Nat → Option Nat := am_u pp_170 78 7 (some 82)
def pp_172 : Nat → Nat → Option Nat := am_u pp_171 78 0 (some 23)
def pp_173 : Nat → Nat → Option Nat := am_u pp_172 46 6 (some 78)
def ff_90 (xs : Nat → Int32) : Nat → Nat → Int32 := va_up (ff_89 xs) 83 (fun _ => 0)
def gg_96 : Nat → Nat → Int64 := va_up gg_95 83 (fun _ => 0)
def pp_174 : Nat → Nat → Option Nat := va_up pp_173 83 (fun _ => none)
def ff_91 (xs : Nat → Int32) : Nat → Nat → Int32 := va_up (ff_90 xs) 84 (fun _ => 0)
def gg_97 : Nat → Nat → Int64 := va_up gg_96 84 (fun _ => 0)
def pp_175 : Nat → Nat → Option Nat := va_up pp_174 84 (fun _ => none)
def pp_176 : Nat → Nat → Option Nat := am_u pp_175 83 4 (some 84)
def ff_92 (xs : Nat → Int32) : Nat → Nat → Int32 := va_up (ff_91 xs) 85 (fun _ => 0)
def gg_98 : Nat → Nat → Int64 := va_up gg_97 85 (fun _ => 0)
def pp_177 : Nat → Nat → Option Nat := va_up pp_176 85 (fun _ => none)
def pp_178 : Nat → Nat → Option Nat := am_u pp_177 83 5 (some 85)
def ff_93 (xs : Nat → Int32) : Nat → Nat → Int32 := va_up (ff_92 xs) 86 (fun _ => 0)
def gg_99 : Nat → Nat → Int64 := va_up gg_98 86 (fun _ => 0)
def pp_179 : Nat → Nat → Option Nat := va_up pp_178 86 (fun _ => none)
def pp_180 : Nat → Nat → Option Nat := am_u pp_179 83 6 (some 86)
def ff_94 (xs : Nat → Int32) : Nat → Nat → Int32 := va_up (ff_93 xs) 87 (fun _ => 0)
def gg_100 : Nat → Nat → Int64 := va_up gg_99 87 (fun _ => 0)
def pp_181 : Nat → Nat → Option Nat := va_up pp_180 87 (fun _ => none)
def pp_182 : Nat → Nat → Option Nat := am_u pp_181 83 7 (some 87)
def pp_183 : Nat → Nat → Option Nat := am_u pp_182 83 0 (some 23)
def pp_184 : Nat → Nat → Option Nat := am_u pp_183 46 7 (some 83)
def ff_95 (xs : Nat → Int32) : Nat → Nat → Int32 := va_up (ff_94 xs) 88 (fun _ => 0)
def gg_101 : Nat → Nat → Int64 := va_up gg_100 88 (fun _ => 0)
def pp_185 : Nat → Nat → Option Nat := va_up pp_184 88 (fun _ => none)
def ff_96 (xs : Nat → Int32) : Nat → Nat → Int32 := va_up (ff_95 xs) 89 (fun _ => 0)
def gg_102 : Nat → Nat → Int64 := va_up gg_101 89 (fun _ => 0)
def pp_186 : Nat → Nat → Option Nat := va_up pp_185 89 (fun _ => none)
def pp_187 : Nat → Nat → Option Nat := am_u pp_186 88 4 (some 89)
def ff_97 (xs : Nat → Int32) : Nat → Nat → Int32 := va_up (ff_96 xs) 90 (fun _ => 0)
def gg_103 : Nat → Nat → Int64 := va_up gg_102 90 (fun _ => 0)
def pp_188 : Nat → Nat → Option Nat := va_up pp_187 90 (fun _ => none)
def pp_189 : Nat → Nat → Option Nat := am_u pp_188 88 5 (some 90)
def ff_98 (xs : Nat → Int32) : Nat → Nat → Int32 := va_up (ff_97 xs) 91 (fun _ => 0)
def gg_104 : Nat → Nat → Int64 := va_up gg_103 91 (fun _ => 0)
def pp_190 : Nat → Nat → Option Nat := va_up pp_189 91 (fun _ => none)
def pp_191 : Nat → Nat → Option Nat := am_u pp_190 88 6 (some 91)
def ff_99 (xs : Nat → Int32) : Nat → Nat → Int32 := va_up (ff_98 xs) 92 (fun _ => 0)
def gg_105 : Nat → Nat → Int64 := va_up gg_104 92 (fun _ => 0)
def pp_192 : Nat → Nat → Option Nat := va_up pp_191 92 (fun _ => none)
def pp_193 : Nat → Nat → Option Nat := am_u pp_192 88 7 (some 92)
def pp_194 : Nat → Nat → Option Nat := am_u pp_193 88 0 (some 23)
def pp_195 : Nat → Nat → Option Nat := am_u pp_194 46 8 (some 88)
def ff_100 (xs : Nat → Int32) : Nat → Nat → Int32 := va_up (ff_99 xs) 93 (fun _ => 0)
def gg_106 : Nat → Nat → Int64 := va_up gg_105 93 (fun _ => 0)
def pp_196 : Nat → Nat → Option Nat := va_up pp_195 93 (fun _ => none)
def ff_101 (xs : Nat → Int32) : Nat → Nat → Int32 := va_up (ff_100 xs) 94 (fun _ => 0)
def gg_107 : Nat → Nat → Int64 := va_up gg_106 94 (fun _ => 0)
def pp_197 : Nat → Nat → Option Nat := va_up pp_196 94 (fun _ => none)
def pp_198 : Nat → Nat → Option Nat := am_u pp_197 93 4 (some 94)
def ff_102 (xs : Nat → Int32) : Nat → Nat → Int32 := va_up (ff_101 xs) 95 (fun _ => 0)
def gg_108 : Nat → Nat → Int64 := va_up gg_107 95 (fun _ => 0)
def pp_199 : Nat → Nat → Option Nat := va_up pp_198 95 (fun _ => none)
def pp_200 : Nat → Nat → Option Nat := am_u pp_199 93 5 (some 95)
def ff_103 (xs : Nat → Int32) : Nat → Nat → Int32 := va_up (ff_102 xs) 96 (fun _ => 0)
def gg_109 : Nat → Nat → Int64 := va_up gg_108 96 (fun _ => 0)
def pp_201 : Nat → Nat → Option Nat := va_up pp_200 96 (fun _ => none)
def pp_202 : Nat → Nat → Option Nat := am_u pp_201 93 6 (some 96)
def ff_104 (xs : Nat → Int32) : Nat → Nat → Int32 := va_up (ff_103 xs) 97 (fun _ => 0)
def gg_110 : Nat → Nat → Int64 := va_up gg_109 97 (fun _ => 0)
def pp_203 : Nat → Nat → Option Nat := va_up pp_202 97 (fun _ => none)
def pp_204 : Nat → Nat → Option Nat := am_u pp_203 93 7 (some 97)
def pp_205 : Nat → Nat → Option Nat := am_u pp_204 93 0 (some 23)
def pp_206 : Nat → Nat → Option Nat := am_u pp_205 46 9 (some 93)
def ff_105 (xs : Nat → Int32) : Nat → Nat → Int32 := va_up (ff_104 xs) 98 (fun _ => 0)
def gg_111 : Nat → Nat → Int64 := va_up gg_110 98 (fun _ => 0)
def pp_207 : Nat → Nat → Option Nat := va_up pp_206 98 (fun _ => none)
def ff_106 (xs : Nat → Int32) : Nat → Nat → Int32 := va_up (ff_105 xs) 99 (fun _ => 0)
def gg_112 : Nat → Nat → Int64 := va_up gg_111 99 (fun _ => 0)
def pp_208 : Nat → Nat → Option Nat := va_up pp_207 99 (fun _ => none)
def pp_209 : Nat → Nat → Option Nat := am_u pp_208 98 4 (some 99)
def ff_107 (xs : Nat → Int32) : Nat → Nat → Int32 := va_up (ff_106 xs) 100 (fun _ => 0)
def gg_113 : Nat → Nat → Int64 := va_up gg_112 100 (fun _ => 0)
def pp_210 : Nat → Nat → Option Nat := va_up pp_209 100 (fun _ => none)
def pp_211 : Nat → Nat → Option Nat := am_u pp_210 98 5 (some 100)
def ff_108 (xs : Nat → Int32) : Nat → Nat → Int32 := va_up (ff_107 xs) 101 (fun _ => 0)
def gg_114 : Nat → Nat → Int64 := va_up gg_113 101 (fun _ => 0)
def pp_212 : Nat → Nat → Option Nat := va_up pp_211 101 (fun _ => none)
def pp_213 : Nat → Nat → Option Nat := am_u pp_212 98 6 (some 101)
def ff_109 (xs : Nat → Int32) : Nat → Nat → Int32 := va_up (ff_108 xs) 102 (fun _ => 0)
def gg_115 : Nat → Nat → Int64 := va_up gg_114 102 (fun _ => 0)
def pp_214 : Nat → Nat → Option Nat := va_up pp_213 102 (fun _ => none)
def pp_215 : Nat → Nat → Option Nat := am_u pp_214 98 7 (some 102)
def pp_216 : Nat → Nat → Option Nat := am_u pp_215 98 0 (some 23)
def pp_217 : Nat → Nat → Option Nat := am_u pp_216 46 10 (some 98)
def ff_110 (xs : Nat → Int32) : Nat → Nat → Int32 := va_up (ff_109 xs) 103 (fun _ => 0)
def gg_116 : Nat → Nat → Int64 := va_up gg_115 103 (fun _ => 0)
def pp_218 : Nat → Nat → Option Nat := va_up pp_217 103 (fun _ => none)
def ff_111 (xs : Nat → Int32) : Nat → Nat → Int32 := va_up (ff_110 xs) 104 (fun _ => 0)
def gg_117 : Nat → Nat → Int64 := va_up gg_116 104 (fun _ => 0)
def pp_219 : Nat → Nat → Option Nat := va_up pp_218 104 (fun _ => none)
def pp_220 : Nat → Nat → Option Nat := am_u pp_219 103 4 (some 104)
def ff_112 (xs : Nat → Int32) : Nat → Nat → Int32 := va_up (ff_111 xs) 105 (fun _ => 0)
def gg_118 : Nat → Nat → Int64 := va_up gg_117 105 (fun _ => 0)
def pp_221 : Nat → Nat → Option Nat := va_up pp_220 105 (fun _ => none)
def pp_222 : Nat → Nat → Option Nat := am_u pp_221 103 5 (some 105)
def ff_113 (xs : Nat → Int32) : Nat → Nat → Int32 := va_up (ff_112 xs) 106 (fun _ => 0)
def gg_119 : Nat → Nat → Int64 := va_up gg_118 106 (fun _ => 0)
def pp_223 : Nat → Nat → Option Nat := va_up pp_222 106 (fun _ => none)
def pp_224 : Nat → Nat → Option Nat := am_u pp_223 103 6 (some 106)
def ff_114 (xs : Nat → Int32) : Nat → Nat → Int32 := va_up (ff_113 xs) 107 (fun _ => 0)
def gg_120 : Nat → Nat → Int64 := va_up gg_119 107 (fun _ => 0)
def pp_225 : Nat → Nat → Option Nat := va_up pp_224 107 (fun _ => none)
def pp_226 : Nat → Nat → Option Nat := am_u pp_225 103 7 (some 107)
def pp_227 : Nat → Nat → Option Nat := am_u pp_226 103 0 (some 23)
def pp_228 : Nat → Nat → Option Nat := am_u pp_227 46 11 (some 103)
def ff_115 (xs : Nat → Int32) : Nat → Nat → Int32 := va_up (ff_114 xs) 108 (fun _ => 0)
def gg_121 : Nat → Nat → Int64 := va_up gg_120 108 (fun _ => 0)
def pp_229 : Nat → Nat → Option Nat := va_up pp_228 108 (fun _ => none)
def ff_116 (xs : Nat → Int32) : Nat → Nat → Int32 := va_up (ff_115 xs) 109 (fun _ => 0)
def gg_122 : Nat → Nat → Int64 := va_up gg_121 109 (fun _ => 0)
def pp_230 : Nat → Nat → Option Nat := va_up pp_229 109 (fun _ => none)
def pp_231 : Nat → Nat → Option Nat := am_u pp_230 108 4 (some 109)
def ff_117 (xs : Nat → Int32) : Nat → Nat → Int32 := va_up (ff_116 xs) 110 (fun _ => 0)
def gg_123 : Nat → Nat → Int64 := va_up gg_122 110 (fun _ => 0)
def pp_232 : Nat → Nat → Option Nat := va_up pp_231 110 (fun _ => none)
def pp_233 : Nat → Nat → Option Nat := am_u pp_232 108 5 (some 110)
def ff_118 (xs : Nat → Int32) : Nat → Nat → Int32 := va_up (ff_117 xs) 111 (fun _ => 0)
def gg_124 : Nat → Nat → Int64 := va_up gg_123 111 (fun _ => 0)
def pp_234 : Nat → Nat → Option Nat := va_up pp_233 111 (fun _ => none)
def pp_235 : Nat → Nat → Option Nat := am_u pp_234 108 6 (some 111)
def ff_119 (xs : Nat → Int32) : Nat → Nat → Int32 := va_up (ff_118 xs) 112 (fun _ => 0)
def gg_125 : Nat → Nat → Int64 := va_up gg_124 112 (fun _ => 0)
def pp_236 : Nat → Nat → Option Nat := va_up pp_235 112 (fun _ => none)
def pp_237 : Nat → Nat → Option Nat := am_u pp_236 108 7 (some 112)
def pp_238 : Nat → Nat → Option Nat := am_u pp_237 108 0 (some 23)
def pp_239 : Nat → Nat → Option Nat := am_u pp_238 46 12 (some 108)
def ff_120 (xs : Nat → Int32) : Nat → Nat → Int32 := va_up (ff_119 xs) 113 (fun _ => 0)
def gg_126 : Nat → Nat → Int64 := va_up gg_125 113 (fun _ => 0)
def pp_240 : Nat → Nat → Option Nat := va_up pp_239 113 (fun _ => none)
def ff_121 (xs : Nat → Int32) : Nat → Nat → Int32 := va_up (ff_120 xs) 114 (fun _ => 0)
def gg_127 : Nat → Nat → Int64 := va_up gg_126 114 (fun _ => 0)
def pp_241 : Nat → Nat → Option Nat := va_up pp_240 114 (fun _ => none)
def pp_242 : Nat → Nat → Option Nat := am_u pp_241 113 4 (some 114)
def ff_122 (xs : Nat → Int32) : Nat → Nat → Int32 := va_up (ff_121 xs) 115 (fun _ => 0)
def gg_128 : Nat → Nat → Int64 := va_up gg_127 115 (fun _ => 0)
def pp_243 : Nat → Nat → Option Nat := va_up pp_242 115 (fun _ => none)
def pp_244 : Nat → Nat → Option Nat := am_u pp_243 113 5 (some 115)
def ff_123 (xs : Nat → Int32) : Nat → Nat → Int32 := va_up (ff_122 xs) 116 (fun _ => 0)
def gg_129 : Nat → Nat → Int64 := va_up gg_128 116 (fun _ => 0)
def pp_245 : Nat → Nat → Option Nat := va_up pp_244 116 (fun _ => none)
def pp_246 : Nat → Nat → Option Nat := am_u pp_245 113 6 (some 116)
def ff_124 (xs : Nat → Int32) : Nat → Nat → Int32 := va_up (ff_123 xs) 117 (fun _ => 0)
def gg_130 : Nat → Nat → Int64 := va_up gg_129 117 (fun _ => 0)
def pp_247 : Nat → Nat → Option Nat := va_up pp_246 117 (fun _ => none)
def pp_248 : Nat → Nat → Option Nat := am_u pp_247 113 7 (some 117)
def pp_249 : Nat → Nat → Option Nat := am_u pp_248 113 0 (some 23)
def pp_250 : Nat → Nat → Option Nat := am_u pp_249 46 13 (some 113)
def ff_125 (xs : Nat → Int32) : Nat → Nat → Int32 := va_up (ff_124 xs) 118 (fun _ => 0)
def gg_131 : Nat → Nat → Int64 := va_up gg_130 118 (fun _ => 0)
def pp_251 : Nat → Nat → Option Nat := va_up pp_250 118 (fun _ => none)
def ff_126 (xs : Nat → Int32) : Nat → Nat → Int32 := va_up (ff_125 xs) 119 (fun _ => 0)
def gg_132 : Nat → Nat → Int64 := va_up gg_131 119 (fun _ => 0)
def pp_252 : Nat → Nat → Option Nat := va_up pp_251 119 (fun _ => none)
def pp_253 : Nat → Nat → Option Nat := am_u pp_252 118 4 (some 119)
def ff_127 (xs : Nat → Int32) : Nat → Nat → Int32 := va_up (ff_126 xs) 120 (fun _ => 0)
def gg_133 : Nat → Nat → Int64 := va_up gg_132 120 (fun _ => 0)
def pp_254 : Nat → Nat → Option Nat := va_up pp_253 120 (fun _ => none)
def pp_255 : Nat → Nat → Option Nat := am_u pp_254 118 5 (some 120)
def ff_128 (xs : Nat → Int32) : Nat → Nat → Int32 := va_up (ff_127 xs) 121 (fun _ => 0)
def gg_134 : Nat → Nat → Int64 := va_up gg_133 121 (fun _ => 0)
def pp_256 : Nat → Nat → Option Nat := va_up pp_255 121 (fun _ => none)
def pp_257 : Nat → Nat → Option Nat := am_u pp_256 118 6 (some 121)
def ff_129 (xs : Nat → Int32) : Nat → Nat → Int32 := va_up (ff_128 xs) 122 (fun _ => 0)
def gg_135 : Nat → Nat → Int64 := va_up gg_134 122 (fun _ => 0)
def pp_258 : Nat → Nat → Option Nat := va_up pp_257 122 (fun _ => none)
def pp_259 : Nat → Nat → Option Nat := am_u pp_258 118 7 (some 122)
def pp_260 : Nat → Nat → Option Nat := am_u pp_259 118 0 (some 23)
def pp_261 : Nat → Nat → Option Nat := am_u pp_260 46 14 (some 118)
def ff_130 (xs : Nat → Int32) : Nat → Nat → Int32 := va_up (ff_129 xs) 123 (fun _ => 0)
def gg_136 : Nat → Nat → Int64 := va_up gg_135 123 (fun _ => 0)
def pp_262 : Nat → Nat → Option Nat := va_up pp_261 123 (fun _ => none)
def ff_131 (xs : Nat → Int32) : Nat → Nat → Int32 := va_up (ff_130 xs) 124 (fun _ => 0)
def gg_137 : Nat → Nat → Int64 := va_up gg_136 124 (fun _ => 0)
def pp_263 : Nat → Nat → Option Nat := va_up pp_262 124 (fun _ => none)
def pp_264 : Nat → Nat → Option Nat := am_u pp_263 123 4 (some 124)
def ff_132 (xs : Nat → Int32) : Nat → Nat → Int32 := va_up (ff_131 xs) 125 (fun _ => 0)
def gg_138 : Nat → Nat → Int64 := va_up gg_137 125 (fun _ => 0)
def pp_265 : Nat → Nat → Option Nat := va_up pp_264 125 (fun _ => none)
def pp_266 : Nat → Nat → Option Nat := am_u pp_265 123 5 (some 125)
def ff_133 (xs : Nat → Int32) : Nat → Nat → Int32 := va_up (ff_132 xs) 126 (fun _ => 0)
def gg_139 : Nat → Nat → Int64 := va_up gg_138 126 (fun _ => 0)
def pp_267 : Nat → Nat → Option Nat := va_up pp_266 126 (fun _ => none)
def pp_268 : Nat → Nat → Option Nat := am_u pp_267 123 6 (some 126)
def ff_134 (xs : Nat → Int32) : Nat → Nat → Int32 := va_up (ff_133 xs) 127 (fun _ => 0)
def gg_140 : Nat → Nat → Int64 := va_up gg_139 127 (fun _ => 0)
def pp_269 : Nat → Nat → Option Nat := va_up pp_268 127 (fun _ => none)
def pp_270 : Nat → Nat → Option Nat := am_u pp_269 123 7 (some 127)
def pp_271 : Nat → Nat → Option Nat := am_u pp_270 123 0 (some 23)
def pp_272 : Nat → Nat → Option Nat := am_u pp_271 46 15 (some 123)
def ff_135 (xs : Nat → Int32) : Nat → Nat → Int32 := va_up (ff_134 xs) 128 (fun _ => 0)
def gg_141 : Nat → Nat → Int64 := va_up gg_140 128 (fun _ => 0)
def pp_273 : Nat → Nat → Option Nat := va_up pp_272 128 (fun _ => none)
def ff_136 (xs : Nat → Int32) : Nat → Nat → Int32 := va_up (ff_135 xs) 129 (fun _ => 0)
def gg_142 : Nat → Nat → Int64 := va_up gg_141 129 (fun _ => 0)
def pp_274 : Nat → Nat → Option Nat := va_up pp_273 129 (fun _ => none)
def pp_275 : Nat → Nat → Option Nat := am_u pp_274 128 4 (some 129)
def ff_137 (xs : Nat → Int32) : Nat → Nat → Int32 := va_up (ff_136 xs) 130 (fun _ => 0)
def gg_143 : Nat → Nat → Int64 := va_up gg_142 130 (fun _ => 0)
def pp_276 : Nat → Nat → Option Nat := va_up pp_275 130 (fun _ => none)
def pp_277 : Nat → Nat → Option Nat := am_u pp_276 128 5 (some 130)
def ff_138 (xs : Nat → Int32) : Nat → Nat → Int32 := va_up (ff_137 xs) 131 (fun _ => 0)
def gg_144 : Nat → Nat → Int64 := va_up gg_143 131 (fun _ => 0)
def pp_278 : Nat → Nat → Option Nat := va_up pp_277 131 (fun _ => none)
def pp_279 : Nat → Nat → Option Nat := am_u pp_278 128 6 (some 131)
def ff_139 (xs : Nat → Int32) : Nat → Nat → Int32 := va_up (ff_138 xs) 132 (fun _ => 0)
def gg_145 : Nat → Nat → Int64 := va_up gg_144 132 (fun _ => 0)
def pp_280 : Nat → Nat → Option Nat := va_up pp_279 132 (fun _ => none)
def pp_281 : Nat → Nat → Option Nat := am_u pp_280 128 7 (some 132)
def pp_282 : Nat → Nat → Option Nat := am_u pp_281 128 0 (some 23)
def pp_283 : Nat → Nat → Option Nat := am_u pp_282 47 0 (some 128)
def ff_140 (xs : Nat → Int32) : Nat → Nat → Int32 := va_up (ff_139 xs) 133 (fun _ => 0)
def gg_146 : Nat → Nat → Int64 := va_up gg_145 133 (fun _ => 0)
def pp_284 : Nat → Nat → Option Nat := va_up pp_283 133 (fun _ => none)
def ff_141 (xs : Nat → Int32) : Nat → Nat → Int32 := va_up (ff_140 xs) 134 (fun _ => 0)
def gg_147 : Nat → Nat → Int64 := va_up gg_146 134 (fun _ => 0)
def pp_285 : Nat → Nat → Option Nat := va_up pp_284 134 (fun _ => none)
def pp_286 : Nat → Nat → Option Nat := am_u pp_285 133 4 (some 134)
def ff_142 (xs : Nat → Int32) : Nat → Nat → Int32 := va_up (ff_141 xs) 135 (fun _ => 0)
def gg_148 : Nat → Nat → Int64 := va_up gg_147 135 (fun _ => 0)
def pp_287 : Nat → Nat → Option Nat := va_up pp_286 135 (fun _ => none)
def pp_288 : Nat → Nat → Option Nat := am_u pp_287 133 5 (some 135)
def ff_143 (xs : Nat → Int32) : Nat → Nat → Int32 := va_up (ff_142 xs) 136 (fun _ => 0)
def gg_149 : Nat → Nat → Int64 := va_up gg_148 136 (fun _ => 0)
def pp_289 : Nat → Nat → Option Nat := va_up pp_288 136 (fun _ => none)
def pp_290 : Nat → Nat → Option Nat := am_u pp_289 133 6 (some 136)
def ff_144 (xs : Nat → Int32) : Nat → Nat → Int32 := va_up (ff_143 xs) 137 (fun _ => 0)
def gg_150 : Nat → Nat → Int64 := va_up gg_149 137 (fun _ => 0)
def pp_291 : Nat → Nat → Option Nat := va_up pp_290 137 (fun _ => none)
def pp_292 : Nat → Nat → Option Nat := am_u pp_291 133 7 (some 137)
def pp_293 : Nat → Nat → Option Nat := am_u pp_292 133 0 (some 23)
def pp_294 : Nat → Nat → Option Nat := am_u pp_293 47 1 (some 133)
def ff_145 (xs : Nat → Int32) : Nat → Nat → Int32 := va_up (ff_144 xs) 138 (fun _ => 0)
def gg_151 : Nat → Nat → Int64 := va_up gg_150 138 (fun _ => 0)
def pp_295 : Nat → Nat → Option Nat := va_up pp_294 138 (fun _ => none)
def ff_146 (xs : Nat → Int32) : Nat → Nat → Int32 := va_up (ff_145 xs) 139 (fun _ => 0)
def gg_152 : Nat → Nat → Int64 := va_up gg_151 139 (fun _ => 0)
def pp_296 : Nat → Nat → Option Nat := va_up pp_295 139 (fun _ => none)
def pp_297 : Nat → Nat → Option Nat := am_u pp_296 138 4 (some 139)
def ff_147 (xs : Nat → Int32) : Nat → Nat → Int32 := va_up (ff_146 xs) 140 (fun _ => 0)
def gg_153 : Nat → Nat → Int64 := va_up gg_152 140 (fun _ => 0)
def pp_298 : Nat → Nat → Option Nat := va_up pp_297 140 (fun _ => none)
def pp_299 : Nat → Nat → Option Nat := am_u pp_298 138 5 (some 140)
def ff_148 (xs : Nat → Int32) : Nat → Nat → Int32 := va_up (ff_147 xs) 141 (fun _ => 0)
def gg_154 : Nat → Nat → Int64 := va_up gg_153 141 (fun _ => 0)
def pp_300 : Nat → Nat → Option Nat := va_up pp_299 141 (fun _ => none)
def pp_301 : Nat → Nat → Option Nat := am_u pp_300 138 6 (some 141)
def ff_149 (xs : Nat → Int32) : Nat → Nat → Int32 := va_up (ff_148 xs) 142 (fun _ => 0)
def gg_155 : Nat → Nat → Int64 := va_up gg_154 142 (fun _ => 0)
def pp_302 : Nat → Nat → Option Nat := va_up pp_301 142 (fun _ => none)
def pp_303 : Nat → Nat → Option Nat := am_u pp_302 138 7 (some 142)
def pp_304 : Nat → Nat → Option Nat := am_u pp_303 138 0 (some 23)
def pp_305 : Nat → Nat → Option Nat := am_u pp_304 47 2 (some 138)
def pp_306 : Nat → Nat → Option Nat := am_u pp_305 0 5 (some 45)
def ff_150 (xs : Nat → Int32) : Nat → Nat → Int32 := va_up (ff_149 xs) 143 (fun _ => 0)
def gg_156 : Nat → Nat → Int64 := va_up gg_155 143 (fun _ => 0)
def pp_307 : Nat → Nat → Option Nat := va_up pp_306 143 (fun _ => none)
def ff_151 (xs : Nat → Int32) : Nat → Nat → Int32 := va_up (ff_150 xs) 144 (fun _ => 0)
def gg_157 : Nat → Nat → Int64 := va_up gg_156 144 (fun _ => 0)
def pp_308 : Nat → Nat → Option Nat := va_up pp_307 144 (fun _ => none)
def pp_309 : Nat → Nat → Option Nat := am_u pp_308 143 0 (some 144)
def ff_152 (xs : Nat → Int32) : Nat → Nat → Int32 := va_up (ff_151 xs) 145 (fun _ => 0)
def gg_158 : Nat → Nat → Int64 := va_up gg_157 145 (fun _ => 0)
def pp_310 : Nat → Nat → Option Nat := va_up pp_309 145 (fun _ => none)
def ff_153 (xs : Nat → Int32) : Nat → Nat → Int32 := va_up (ff_152 xs) 146 (fun _ => 0)
def gg_159 : Nat → Nat → Int64 := va_up gg_158 146 (fun _ => 0)
def pp_311 : Nat → Nat → Option Nat := va_up pp_310 146 (fun _ => none)
def pp_312 : Nat → Nat → Option Nat := am_u pp_311 145 4 (some 146)
def ff_154 (xs : Nat → Int32) : Nat → Nat → Int32 := va_up (ff_153 xs) 147 (fun _ => 0)
def gg_160 : Nat → Nat → Int64 := va_up gg_159 147 (fun _ => 0)
def pp_313 : Nat → Nat → Option Nat := va_up pp_312 147 (fun _ => none)
def pp_314 : Nat → Nat → Option Nat := am_u pp_313 145 5 (some 147)
def ff_155 (xs : Nat → Int32) : Nat → Nat → Int32 := va_up (ff_154 xs) 148 (fun _ => 0)
def gg_161 : Nat → Nat → Int64 := va_up gg_160 148 (fun _ => 0)
def pp_315 : Nat → Nat → Option Nat := va_up pp_314 148 (fun _ => none)
def pp_316 : Nat → Nat → Option Nat := am_u pp_315 145 6 (some 148)
def ff_156 (xs : Nat → Int32) : Nat → Nat → Int32 := va_up (ff_155 xs) 149 (fun _ => 0)
def gg_162 : Nat → Nat → Int64 := va_up gg_161 149 (fun _ => 0)
def pp_317 : Nat → Nat → Option Nat := va_up pp_316 149 (fun _ => none)
def pp_318 : Nat → Nat → Option Nat := am_u pp_317 145 7 (some 149)
def pp_319 : Nat → Nat → Option Nat := am_u pp_318 145 0 (some 23)
def pp_320 : Nat → Nat → Option Nat := am_u pp_319 144 0 (some 145)
def ff_157 (xs : Nat → Int32) : Nat → Nat → Int32 := va_up (ff_156 xs) 150 (fun _ => 0)
def gg_163 : Nat → Nat → Int64 := va_up gg_162 150 (fun _ => 0)
def pp_321 : Nat → Nat → Option Nat := va_up pp_320 150 (fun _ => none)
def ff_158 (xs : Nat → Int32) : Nat → Nat → Int32 := va_up (ff_157 xs) 151 (fun _ => 0)
def gg_164 : Nat → Nat → Int64 := va_up gg_163 151 (fun _ => 0)
def pp_322 : Nat → Nat → Option Nat := va_up pp_321 151 (fun _ => none)
def pp_323 : Nat → Nat → Option Nat := am_u pp_322 150 4 (some 151)
def ff_159 (xs : Nat → Int32) : Nat → Nat → Int32 := va_up (ff_158 xs) 152 (fun _ => 0)
def gg_165 : Nat → Nat → Int64 := va_up gg_164 152 (fun _ => 0)
def pp_324 : Nat → Nat → Option Nat := va_up pp_323 152 (fun _ => none)
def pp_325 : Nat → Nat → Option Nat := am_u pp_324 150 5 (some 152)
def ff_160 (xs : Nat → Int32) : Nat → Nat → Int32 := va_up (ff_159 xs) 153 (fun _ => 0)
def gg_166 : Nat → Nat → Int64 := va_up gg_165 153 (fun _ => 0)
def pp_326 : Nat → Nat → Option Nat := va_up pp_325 153 (fun _ => none)
def pp_327 : Nat → Nat → Option Nat := am_u pp_326 150 6 (some 153)
def ff_161 (xs : Nat → Int32) : Nat → Nat → Int32 := va_up (ff_160 xs) 154 (fun _ => 0)
def gg_167 : Nat → Nat → Int64 := va_up gg_166 154 (fun _ => 0)
def pp_328 : Nat → Nat → Option Nat := va_up pp_327 154 (fun _ => none)
def pp_329 : Nat → Nat → Option Nat := am_u pp_328 150 7 (some 154)
def pp_330 : Nat → Nat → Option Nat := am_u pp_329 150 0 (some 23)
def pp_331 : Nat → Nat → Option Nat := am_u pp_330 144 1 (some 150)
def ff_162 (xs : Nat → Int32) : Nat → Nat → Int32 := va_up (ff_161 xs) 155 (fun _ => 0)
def gg_168 : Nat → Nat → Int64 := va_up gg_167 155 (fun _ => 0)
def pp_332 : Nat → Nat → Option Nat := va_up pp_331 155 (fun _ => none)
def ff_163 (xs : Nat → Int32) : Nat → Nat → Int32 := va_up (ff_162 xs) 156 (fun _ => 0)
def gg_169 : Nat → Nat → Int64 := va_up gg_168 156 (fun _ => 0)
def pp_333 : Nat → Nat → Option Nat := va_up pp_332 156 (fun _ => none)
def pp_334 : Nat → Nat → Option Nat := am_u pp_333 155 4 (some 156)
def ff_164 (xs : Nat → Int32) : Nat → Nat → Int32 := va_up (ff_163 xs) 157 (fun _ => 0)
def gg_170 : Nat → Nat → Int64 := va_up gg_169 157 (fun _ => 0)
def pp_335 : Nat → Nat → Option Nat := va_up pp_334 157 (fun _ => none)
def pp_336 : Nat → Nat → Option Nat := am_u pp_335 155 5 (some 157)
def ff_165 (xs : Nat → Int32) : Nat → Nat → Int32 := va_up (ff_164 xs) 158 (fun _ => 0)
def gg_171 : Nat → Nat → Int64 := va_up gg_170 158 (fun _ => 0)
def pp_337 : Nat → Nat → Option Nat := va_up pp_336 158 (fun _ => none)
def pp_338 : Nat → Nat → Option Nat := am_u pp_337 155 6 (some 158)
def ff_166 (xs : Nat → Int32) : Nat → Nat → Int32 := va_up (ff_165 xs) 159 (fun _ => 0)
def gg_172 : Nat → Nat → Int64 := va_up gg_171 159 (fun _ => 0)
def pp_339 : Nat → Nat → Option Nat := va_up pp_338 159 (fun _ => none)
def pp_340 : Nat → Nat → Option Nat := am_u pp_339 155 7 (some 159)
def pp_341 : Nat → Nat → Option Nat := am_u pp_340 155 0 (some 23)
def pp_342 : Nat → Nat → Option Nat := am_u pp_341 144 2 (some 155)
def ff_167 (xs : Nat → Int32) : Nat → Nat → Int32 := va_up (ff_166 xs) 160 (fun _ => 0)
def gg_173 : Nat → Nat → Int64 := va_up gg_172 160 (fun _ => 0)
def pp_343 : Nat → Nat → Option Nat := va_up pp_342 160 (fun _ => none)
def ff_168 (xs : Nat → Int32) : Nat → Nat → Int32 := va_up (ff_167 xs) 161 (fun _ => 0)
def gg_174 : Nat → Nat → Int64 := va_up gg_173 161 (fun _ => 0)
def pp_344 : Nat → Nat → Option Nat := va_up pp_343 161 (fun _ => none)
def pp_345 : Nat → Nat → Option Nat := am_u pp_344 160 4 (some 161)
def ff_169 (xs : Nat → Int32) : Nat → Nat → Int32 := va_up (ff_168 xs) 162 (fun _ => 0)
def gg_175 : Nat → Nat → Int64 := va_up gg_174 162 (fun _ => 0)
def pp_346 : Nat → Nat → Option Nat := va_up pp_345 162 (fun _ => none)
def pp_347 : Nat → Nat → Option Nat := am_u pp_346 160 5 (some 162)
def ff_170 (xs : Nat → Int32) : Nat → Nat → Int32 := va_up (ff_169 xs) 163 (fun _ => 0)
def gg_176 : Nat → Nat → Int64 := va_up gg_175 163 (fun _ => 0)
def pp_348 : Nat → Nat → Option Nat := va_up pp_347 163 (fun _ => none)
def pp_349 : Nat → Nat → Option Nat := am_u pp_348 160 6 (some 163)
def ff_171 (xs : Nat → Int32) : Nat → Nat → Int32 := va_up (ff_170 xs) 164 (fun _ => 0)
def gg_177 : Nat → Nat → Int64 := va_up gg_176 164 (fun _ => 0)
def pp_350 : Nat → Nat → Option Nat := va_up pp_349 164 (fun _ => none)
def pp_351 : Nat → Nat → Option Nat := am_u pp_350 160 7 (some 164)
def pp_352 : Nat → Nat → Option Nat := am_u pp_351 160 0 (some 23)
def pp_353 : Nat → Nat → Option Nat := am_u pp_352 144 3 (some 160)
def pp_354 : Nat → Nat → Option Nat := am_u pp_353 0 6 (some 143)
def ff_172 (xs : Nat → Int32) : Nat → Nat → Int32 := va_up (ff_171 xs) 165 (fun _ => 0)
def gg_178 : Nat → Nat → Int64 := va_up gg_177 165 (fun _ => 0)
def pp_355 : Nat → Nat → Option Nat := va_up pp_354 165 (fun _ => none)
def ff_173 (xs : Nat → Int32) : Nat → Nat → Int32 := va_up (ff_172 xs) 166 (fun _ => 0)
def gg_179 : Nat → Nat → Int64 := va_up gg_178 166 (fun _ => 0)
def pp_356 : Nat → Nat → Option Nat := va_up pp_355 166 (fun _ => none)
def pp_357 : Nat → Nat → Option Nat := am_u pp_356 165 1 (some 166)
def ff_174 (xs : Nat → Int32) : Nat → Nat → Int32 := va_up (ff_173 xs) 167 (fun _ => 0)
def gg_180 : Nat → Nat → Int64 := va_up gg_179 167 (fun _ => 0)
def pp_358 : Nat → Nat → Option Nat := va_up pp_357 167 (fun _ => none)
def pp_359 : Nat → Nat → Option Nat := am_u pp_358 165 2 (some 167)
def ff_175 (xs : Nat → Int32) : Nat → Nat → Int32 := va_up (ff_174 xs) 168 (fun _ => 0)
def gg_181 : Nat → Nat → Int64 := va_up gg_180 168 (fun _ => 0)
def pp_360 : Nat → Nat → Option Nat := va_up pp_359 168 (fun _ => none)
def pp_361 : Nat → Nat → Option Nat := am_u pp_360 165 3 (some 168)
def pp_362 : Nat → Nat → Option Nat := am_u pp_361 0 7 (some 165)
def ff_176 (xs : Nat → Int32) : Nat → Nat → Int32 := va_up (ff_175 xs) 169 (fun _ => 0)
def gg_182 : Nat → Nat → Int64 := va_up gg_181 169 (fun _ => 0)
def pp_363 : Nat → Nat → Option Nat := va_up pp_362 169 (fun _ => none)
def ff_177 (xs : Nat → Int32) : Nat → Nat → Int32 := va_up (ff_176 xs) 170 (fun _ => 0)
def gg_183 : Nat → Nat → Int64 := va_up gg_182 170 (fun _ => 0)
def pp_364 : Nat → Nat → Option Nat := va_up pp_363 170 (fun _ => none)
def pp_365 : Nat → Nat → Option Nat := am_u pp_364 169 1 (some 170)
def ff_178 (xs : Nat → Int32) : Nat → Nat → Int32 := va_up (ff_177 xs) 171 (fun _ => 0)
def gg_184 : Nat → Nat → Int64 := va_up gg_183 171 (fun _ => 0)
def pp_366 : Nat → Nat → Option Nat := va_up pp_365 171 (fun _ => none)
def ff_179 (xs : Nat → Int32) : Nat → Nat → Int32 := va_up (ff_178 xs) 172 (fun _ => 0)
def gg_185 : Nat → Nat → Int64 := va_up gg_184 172 (fun _ => 0)
def pp_367 : Nat → Nat → Option Nat := va_up pp_366 172 (fun _ => none)
def pp_368 : Nat → Nat → Option Nat := am_u pp_367 171 4 (some 172)
def ff_180 (xs : Nat → Int32) : Nat → Nat → Int32 := va_up (ff_179 xs) 173 (fun _ => 0)
def gg_186 : Nat → Nat → Int64 := va_up gg_185 173 (fun _ => 0)
def pp_369 : Nat → Nat → Option Nat := va_up pp_368 173 (fun _ => none)
def pp_370 : Nat → Nat → Option Nat := am_u pp_369 171 5 (some 173)
def ff_181 (xs : Nat → Int32) : Nat → Nat → Int32 := va_up (ff_180 xs) 174 (fun _ => 0)
def gg_187 : Nat → Nat → Int64 := va_up gg_186 174 (fun _ => 0)
def pp_371 : Nat → Nat → Option Nat := va_up pp_370 174 (fun _ => none)
def pp_372 : Nat → Nat → Option Nat := am_u pp_371 171 6 (some 174)
def ff_182 (xs : Nat → Int32) : Nat → Nat → Int32 := va_up (ff_181 xs) 175 (fun _ => 0)
def gg_188 : Nat → Nat → Int64 := va_up gg_187 175 (fun _ => 0)
def pp_373 : Nat → Nat → Option Nat := va_up pp_372 175 (fun _ => none)
def pp_374 : Nat → Nat → Option Nat := am_u pp_373 171 7 (some 175)
def pp_375 : Nat → Nat → Option Nat := am_u pp_374 171 0 (some 23)
def pp_376 : Nat → Nat → Option Nat := am_u pp_375 169 0 (some 171)
def pp_377 : Nat → Nat → Option Nat := am_u pp_376 0 8 (some 169)
def ff_183 (xs : Nat → Int32) : Nat → Nat → Int32 := va_up (ff_182 xs) 176 (fun _ => 0)
def gg_189 : Nat → Nat → Int64 := va_up gg_188 176 (fun _ => 0)
def pp_378 : Nat → Nat → Option Nat := va_up pp_377 176 (fun _ => none)
def gg_190 : Nat → Nat → Int64 := am_u gg_189 176 0 0
def gg_191 : Nat → Nat → Int64 := am_u gg_190 176 1 1
def pp_379 : Nat → Nat → Option Nat := am_u pp_378 0 9 (some 176)
def ff_184 (xs : Nat → Int32) : Nat → Nat → Int32 := am_u (ff_183 xs) 0 10 0
def ff_185 (xs : Nat → Int32) : Nat → Nat → Int32 := am_u (ff_184 xs) 0 11 (-1)
def ff_186 (xs : Nat → Int32) : Nat → Nat → Int32 := am_u (ff_185 xs) 0 12 0
def ff_187 (xs : Nat → Int32) : Nat → Nat → Int32 := va_up (ff_186 xs) 177 (fun _ => 0)
def gg_192 : Nat → Nat → Int64 := va_up gg_191 177 (fun _ => 0)
def pp_380 : Nat → Nat → Option Nat := va_up pp_379 177 (fun _ => none)
def ff_188 (xs : Nat → Int32) : Nat → Nat → Int32 := va_up (ff_187 xs) 178 (fun _ => 0)
def gg_193 : Nat → Nat → Int64 := va_up gg_192 178 (fun _ => 0)
def pp_381 : Nat → Nat → Option Nat := va_up pp_380 178 (fun _ => none)
def pp_382 : Nat → Nat → Option Nat := am_u pp_381 177 1 (some 178)
def ff_189 (xs : Nat → Int32) : Nat → Nat → Int32 := am_u (ff_188 xs) 177 10 (-1)
def ff_190 (xs : Nat → Int32) : Nat → Nat → Int32 := va_up (ff_189 xs) 179 (fun _ => 0)
def gg_194 : Nat → Nat → Int64 := va_up gg_193 179 (fun _ => 0)
def pp_383 : Nat → Nat → Option Nat := va_up pp_382 179 (fun _ => none)
def pp_384 : Nat → Nat → Option Nat := am_u pp_383 177 12 (some 179)
def ff_191 (xs : Nat → Int32) : Nat → Nat → Int32 := va_up (ff_190 xs) 180 (fun _ => 0)
def gg_195 : Nat → Nat → Int64 := va_up gg_194 180 (fun _ => 0)
def pp_385 : Nat → Nat → Option Nat := va_up pp_384 180 (fun _ => none)
def pp_386 : Nat → Nat → Option Nat := am_u pp_385 177 15 (some 180)
def ff_192 (xs : Nat → Int32) : Nat → Nat → Int32 := va_up (ff_191 xs) 181 (fun _ => 0)
def gg_196 : Nat → Nat → Int64 := va_up gg_195 181 (fun _ => 0)
def pp_387 : Nat → Nat → Option Nat := va_up pp_386 181 (fun _ => none)
def pp_388 : Nat → Nat → Option Nat := am_u pp_387 177 16 (some 181)
def ff_193 (xs : Nat → Int32) : Nat → Nat → Int32 := va_up (ff_192 xs) 182 (fun _ => 0)
def gg_197 : Nat → Nat → Int64 := va_up gg_196 182 (fun _ => 0)
def pp_389 : Nat → Nat → Option Nat := va_up pp_388 182 (fun _ => none)
def pp_390 : Nat → Nat → Option Nat := am_u pp_389 177 17 (some 182)
def ff_194 (xs : Nat → Int32) : Nat → Nat → Int32 := va_up (ff_193 xs) 183 (fun _ => 0)
def gg_198 : Nat → Nat → Int64 := va_up gg_197 183 (fun _ => 0)
def pp_391 : Nat → Nat → Option Nat := va_up pp_390 183 (fun _ => none)
def pp_392 : Nat → Nat → Option Nat := am_u pp_391 177 18 (some 183)
def ff_195 (xs : Nat → Int32) : Nat → Nat → Int32 := va_up (ff_194 xs) 184 (fun _ => 0)
def gg_199 : Nat → Nat → Int64 := va_up gg_198 184 (fun _ => 0)
def pp_393 : Nat → Nat → Option Nat := va_up pp_392 184 (fun _ => none)
def pp_394 : Nat → Nat → Option Nat := am_u pp_393 177 19 (some 184)
def ff_196 (xs : Nat → Int32) : Nat → Nat → Int32 := am_u (ff_195 xs) 177 23 (-1)
def ff_197 (xs : Nat → Int32) : Nat → Nat → Int32 := va_up (ff_196 xs) 185 (fun _ => 0)
def gg_200 : Nat → Nat → Int64 := va_up gg_199 185 (fun _ => 0)
def pp_395 : Nat → Nat → Option Nat := va_up pp_394 185 (fun _ => none)
def pp_396 : Nat → Nat → Option Nat := am_u pp_395 177 25 (some 185)
def ff_198 (xs : Nat → Int32) : Nat → Nat → Int32 := va_up (ff_197 xs) 186 (fun _ => 0)
def gg_201 : Nat → Nat → Int64 := va_up gg_200 186 (fun _ => 0)
def pp_397 : Nat → Nat → Option Nat := va_up pp_396 186 (fun _ => none)
def pp_398 : Nat → Nat → Option Nat := am_u pp_397 177 36 (some 186)
def ff_199 (xs : Nat → Int32) : Nat → Nat → Int32 := va_up (ff_198 xs) 187 (fun _ => 0)
def gg_202 : Nat → Nat → Int64 := va_up gg_201 187 (fun _ => 0)
def pp_399 : Nat → Nat → Option Nat := va_up pp_398 187 (fun _ => none)
def pp_400 : Nat → Nat → Option Nat := am_u pp_399 177 37 (some 187)
def ff_200 (xs : Nat → Int32) : Nat → Nat → Int32 := va_up (ff_199 xs) 188 (fun _ => 0)
def gg_203 : Nat → Nat → Int64 := va_up gg_202 188 (fun _ => 0)
def pp_401 : Nat → Nat → Option Nat := va_up pp_400 188 (fun _ => none)
def pp_402 : Nat → Nat → Option Nat := am_u pp_401 177 38 (some 188)
def ff_201 (xs : Nat → Int32) : Nat → Nat → Int32 := va_up (ff_200 xs) 189 (fun _ => 0)
def gg_204 : Nat → Nat → Int64 := va_up gg_203 189 (fun _ => 0)
def pp_403 : Nat → Nat → Option Nat := va_up pp_402 189 (fun _ => none)
def pp_404 : Nat → Nat → Option Nat := am_u pp_403 177 51 (some 189)
def ff_202 (xs : Nat → Int32) : Nat → Nat → Int32 := va_up (ff_201 xs) 190 (fun _ => 0)
def gg_205 : Nat → Nat → Int64 := va_up gg_204 190 (fun _ => 0)
def pp_405 : Nat → Nat → Option Nat := va_up pp_404 190 (fun _ => none)
def pp_406 : Nat → Nat → Option Nat := am_u pp_405 177 52 (some 190)
def ff_203 (xs : Nat → Int32) : Nat → Nat → Int32 := va_up (ff_202 xs) 191 (fun _ => 0)
def gg_206 : Nat → Nat → Int64 := va_up gg_205 191 (fun _ => 0)
def pp_407 : Nat → Nat → Option Nat := va_up pp_406 191 (fun _ => none)
set_option maxRecDepth 10000 in
theorem kc_0 (xs : Nat → Int32) (Ln : Nat) : am_runs (am_en 29 [.ref 15]) (ff_17 xs, gg_16, pp_27, dd 16 Ln, 16, 1121) = some (none, (ff_17 xs, gg_18, pp_27, dd 16 Ln, 16, 1121)) := by
  show am_runs (29, 0, [.ref 15], []) (ff_17 xs, gg_16, pp_27, dd 16 Ln, 16, 1121) = _
  refine (am_bl 1 (f' := (29, 1, [.ref 15], [.ref 15])) rfl).trans ?_
  refine Eq.trans (b := am_runs (29, 4, [.ref 15], []) (ff_17 xs, gg_16, pp_27, dd 16 Ln, 16, 1121)) (am_goi rfl rfl) ?_
  refine (am_bl 2 (f' := (29, 6, [.ref 15], [.long 0, .ref 15])) rfl).trans ?_
  refine Eq.trans (b := am_runs (29, 9, [.ref 15], []) (ff_17 xs, gg_17, pp_27, dd 16 Ln, 16, 1121)) (rr_pl rfl (dd_k (by decide) rfl) rfl) ?_
  refine (am_bl 2 (f' := (29, 11, [.ref 15], [.long 1, .ref 15])) rfl).trans ?_
  refine Eq.trans (b := am_runs (29, 14, [.ref 15], []) (ff_17 xs, gg_18, pp_27, dd 16 Ln, 16, 1121)) (rr_pl rfl (dd_k (by decide) rfl) rfl) ?_
  exact am_gr rfl rfl rfl
set_option maxRecDepth 10000 in
theorem kc_1 (xs : Nat → Int32) (Ln : Nat) : am_runs (am_en 29 [.ref 16]) (ff_18 xs, gg_19, pp_29, dd 17 Ln, 17, 1123) = some (none, (ff_18 xs, gg_21, pp_29, dd 17 Ln, 17, 1123)) := by
  show am_runs (29, 0, [.ref 16], []) (ff_18 xs, gg_19, pp_29, dd 17 Ln, 17, 1123) = _
  refine (am_bl 1 (f' := (29, 1, [.ref 16], [.ref 16])) rfl).trans ?_
  refine Eq.trans (b := am_runs (29, 4, [.ref 16], []) (ff_18 xs, gg_19, pp_29, dd 17 Ln, 17, 1123)) (am_goi rfl rfl) ?_
  refine (am_bl 2 (f' := (29, 6, [.ref 16], [.long 0, .ref 16])) rfl).trans ?_
  refine Eq.trans (b := am_runs (29, 9, [.ref 16], []) (ff_18 xs, gg_20, pp_29, dd 17 Ln, 17, 1123)) (rr_pl rfl (dd_k (by decide) rfl) rfl) ?_
  refine (am_bl 2 (f' := (29, 11, [.ref 16], [.long 1, .ref 16])) rfl).trans ?_
  refine Eq.trans (b := am_runs (29, 14, [.ref 16], []) (ff_18 xs, gg_21, pp_29, dd 17 Ln, 17, 1123)) (rr_pl rfl (dd_k (by decide) rfl) rfl) ?_
  exact am_gr rfl rfl rfl
set_option maxRecDepth 10000 in
theorem kc_2 (xs : Nat → Int32) (Ln : Nat) : am_runs (am_en 29 [.ref 17]) (ff_19 xs, gg_22, pp_31, dd 18 Ln, 18, 1125) = some (none, (ff_19 xs, gg_24, pp_31, dd 18 Ln, 18, 1125)) := by
  show am_runs (29, 0, [.ref 17], []) (ff_19 xs, gg_22, pp_31, dd 18 Ln, 18, 1125) = _
  refine (am_bl 1 (f' := (29, 1, [.ref 17], [.ref 17])) rfl).trans ?_
  refine Eq.trans (b := am_runs (29, 4, [.ref 17], []) (ff_19 xs, gg_22, pp_31, dd 18 Ln, 18, 1125)) (am_goi rfl rfl) ?_
  refine (am_bl 2 (f' := (29, 6, [.ref 17], [.long 0, .ref 17])) rfl).trans ?_
  refine Eq.trans (b := am_runs (29, 9, [.ref 17], []) (ff_19 xs, gg_23, pp_31, dd 18 Ln, 18, 1125)) (rr_pl rfl (dd_k (by decide) rfl) rfl) ?_
  refine (am_bl 2 (f' := (29, 11, [.ref 17], [.long 1, .ref 17])) rfl).trans ?_
  refine Eq.trans (b := am_runs (29, 14, [.ref 17], []) (ff_19 xs, gg_24, pp_31, dd 18 Ln, 18, 1125)) (rr_pl rfl (dd_k (by decide) rfl) rfl) ?_
  exact am_gr rfl rfl rfl
set_option maxRecDepth 10000 in
theorem kc_3 (xs : Nat → Int32) (Ln : Nat) : am_runs (am_en 30 [.ref 12]) (ff_14 xs, gg_13, pp_22, dd 13 Ln, 13, 1107) = some (none, (ff_19 xs, gg_24, pp_32, dd 18 Ln, 18, 1125)) := by
  show am_runs (30, 0, [.ref 12], []) (ff_14 xs, gg_13, pp_22, dd 13 Ln, 13, 1107) = _
  refine (am_bl 1 (f' := (30, 1, [.ref 12], [.ref 12])) rfl).trans ?_
  refine Eq.trans (b := am_runs (30, 4, [.ref 12], []) (ff_14 xs, gg_13, pp_22, dd 13 Ln, 13, 1107)) (am_goi rfl rfl) ?_
  refine (am_bl 2 (f' := (30, 7, [.ref 12], [.int 6, .ref 12])) rfl).trans ?_
  refine Eq.trans (b := am_runs (30, 9, [.ref 12], [.ref 13, .ref 12]) (ff_15 xs, gg_14, pp_23, dd 14 Ln, 14, 1113)) (am_tna rfl rfl (by decide) (by decide) (by decide) (by decide) (by decide) (dd_s rfl) rfl) ?_
  refine Eq.trans (b := am_runs (30, 12, [.ref 12], []) (ff_15 xs, gg_14, pp_24, dd 14 Ln, 14, 1113)) (rr_pr rfl (dd_k (by decide) rfl) rfl) ?_
  refine (am_bl 2 (f' := (30, 15, [.ref 12], [.int 6, .ref 12])) rfl).trans ?_
  refine Eq.trans (b := am_runs (30, 17, [.ref 12], [.ref 14, .ref 12]) (ff_16 xs, gg_15, pp_25, dd 15 Ln, 15, 1119)) (am_tna rfl rfl (by decide) (by decide) (by decide) (by decide) (by decide) (dd_s rfl) rfl) ?_
  refine Eq.trans (b := am_runs (30, 20, [.ref 12], []) (ff_16 xs, gg_15, pp_26, dd 15 Ln, 15, 1119)) (rr_pr rfl (dd_k (by decide) rfl) rfl) ?_
  refine (am_bl 1 (f' := (30, 21, [.ref 12], [.ref 12])) rfl).trans ?_
  refine Eq.trans (b := am_runs (30, 24, [.ref 12], [.ref 15, .ref 12]) (ff_17 xs, gg_16, pp_27, dd 16 Ln, 16, 1121)) (am_tnw rfl (by decide) (by decide) (dd_s rfl) rfl) ?_
  refine (am_bl 1 (f' := (30, 25, [.ref 12], [.ref 15, .ref 15, .ref 12])) rfl).trans ?_
  refine Eq.trans (b := am_runs (30, 28, [.ref 12], [.ref 15, .ref 12]) (ff_17 xs, gg_18, pp_27, dd 16 Ln, 16, 1121)) (ar_cI0 rfl rfl rfl rfl rfl rfl rfl rfl (kc_0 xs Ln)) ?_
  refine Eq.trans (b := am_runs (30, 31, [.ref 12], []) (ff_17 xs, gg_18, pp_28, dd 16 Ln, 16, 1121)) (rr_pr rfl (dd_k (by decide) rfl) rfl) ?_
  refine (am_bl 1 (f' := (30, 32, [.ref 12], [.ref 12])) rfl).trans ?_
  refine Eq.trans (b := am_runs (30, 35, [.ref 12], [.ref 16, .ref 12]) (ff_18 xs, gg_19, pp_29, dd 17 Ln, 17, 1123)) (am_tnw rfl (by decide) (by decide) (dd_s rfl) rfl) ?_
  refine (am_bl 1 (f' := (30, 36, [.ref 12], [.ref 16, .ref 16, .ref 12])) rfl).trans ?_
  refine Eq.trans (b := am_runs (30, 39, [.ref 12], [.ref 16, .ref 12]) (ff_18 xs, gg_21, pp_29, dd 17 Ln, 17, 1123)) (ar_cI0 rfl rfl rfl rfl rfl rfl rfl rfl (kc_1 xs Ln)) ?_
  refine Eq.trans (b := am_runs (30, 42, [.ref 12], []) (ff_18 xs, gg_21, pp_30, dd 17 Ln, 17, 1123)) (rr_pr rfl (dd_k (by decide) rfl) rfl) ?_
  refine (am_bl 1 (f' := (30, 43, [.ref 12], [.ref 12])) rfl).trans ?_
  refine Eq.trans (b := am_runs (30, 46, [.ref 12], [.ref 17, .ref 12]) (ff_19 xs, gg_22, pp_31, dd 18 Ln, 18, 1125)) (am_tnw rfl (by decide) (by decide) (dd_s rfl) rfl) ?_
  refine (am_bl 1 (f' := (30, 47, [.ref 12], [.ref 17, .ref 17, .ref 12])) rfl).trans ?_
  refine Eq.trans (b := am_runs (30, 50, [.ref 12], [.ref 17, .ref 12]) (ff_19 xs, gg_24, pp_31, dd 18 Ln, 18, 1125)) (ar_cI0 rfl rfl rfl rfl rfl rfl rfl rfl (kc_2 xs Ln)) ?_
  refine Eq.trans (b := am_runs (30, 53, [.ref 12], []) (ff_19 xs, gg_24, pp_32, dd 18 Ln, 18, 1125)) (rr_pr rfl (dd_k (by decide) rfl) rfl) ?_
  exact am_gr rfl rfl rfl
set_option maxRecDepth 10000 in
theorem kc_4 (xs : Nat → Int32) (Ln : Nat) : am_runs (am_en 19 [.ref 18]) (ff_20 xs, gg_25, pp_34, dd 19 Ln, 19, 1132) = some (none, (ff_24 xs, gg_28, pp_40, dd 22 Ln, 22, 1150)) := by
  show am_runs (19, 0, [.ref 18], []) (ff_20 xs, gg_25, pp_34, dd 19 Ln, 19, 1132) = _
  refine (am_bl 1 (f' := (19, 1, [.ref 18], [.ref 18])) rfl).trans ?_
  refine Eq.trans (b := am_runs (19, 4, [.ref 18], []) (ff_20 xs, gg_25, pp_34, dd 19 Ln, 19, 1132)) (am_goi rfl rfl) ?_
  refine (am_bl 2 (f' := (19, 6, [.ref 18], [.int (-1), .ref 18])) rfl).trans ?_
  refine Eq.trans (b := am_runs (19, 9, [.ref 18], []) (ff_21 xs, gg_25, pp_34, dd 19 Ln, 19, 1132)) (rr_pi rfl (dd_k (by decide) rfl) rfl) ?_
  refine (am_bl 2 (f' := (19, 12, [.ref 18], [.int 8, .ref 18])) rfl).trans ?_
  refine Eq.trans (b := am_runs (19, 14, [.ref 18], [.ref 19, .ref 18]) (ff_22 xs, gg_26, pp_35, dd 20 Ln, 20, 1140)) (am_tna rfl rfl (by decide) (by decide) (by decide) (by decide) (by decide) (dd_s rfl) rfl) ?_
  refine Eq.trans (b := am_runs (19, 17, [.ref 18], []) (ff_22 xs, gg_26, pp_36, dd 20 Ln, 20, 1140)) (rr_pr rfl (dd_k (by decide) rfl) rfl) ?_
  refine (am_bl 2 (f' := (19, 19, [.ref 18], [.int 5, .ref 18])) rfl).trans ?_
  refine Eq.trans (b := am_runs (19, 21, [.ref 18], [.ref 20, .ref 18]) (ff_23 xs, gg_27, pp_37, dd 21 Ln, 21, 1145)) (am_tna rfl rfl (by decide) (by decide) (by decide) (by decide) (by decide) (dd_s rfl) rfl) ?_
  refine Eq.trans (b := am_runs (19, 24, [.ref 18], []) (ff_23 xs, gg_27, pp_38, dd 21 Ln, 21, 1145)) (rr_pr rfl (dd_k (by decide) rfl) rfl) ?_
  refine (am_bl 2 (f' := (19, 26, [.ref 18], [.int 5, .ref 18])) rfl).trans ?_
  refine Eq.trans (b := am_runs (19, 28, [.ref 18], [.ref 21, .ref 18]) (ff_24 xs, gg_28, pp_39, dd 22 Ln, 22, 1150)) (am_tna rfl rfl (by decide) (by decide) (by decide) (by decide) (by decide) (dd_s rfl) rfl) ?_
  refine Eq.trans (b := am_runs (19, 31, [.ref 18], []) (ff_24 xs, gg_28, pp_40, dd 22 Ln, 22, 1150)) (rr_pr rfl (dd_k (by decide) rfl) rfl) ?_
  exact am_gr rfl rfl rfl
set_option maxRecDepth 10000 in
theorem kc_5 (xs : Nat → Int32) (Ln : Nat) : am_runs (am_en 53 [.ref 5]) (ff_7 xs, gg_6, pp_9, dd 6 Ln, 6, 1046) = some (none, (ff_24 xs, gg_28, pp_41, dd 22 Ln, 22, 1150)) := by
  show am_runs (53, 0, [.ref 5], []) (ff_7 xs, gg_6, pp_9, dd 6 Ln, 6, 1046) = _
  refine (am_bl 1 (f' := (53, 1, [.ref 5], [.ref 5])) rfl).trans ?_
  refine Eq.trans (b := am_runs (53, 4, [.ref 5], []) (ff_7 xs, gg_6, pp_9, dd 6 Ln, 6, 1046)) (am_goi rfl rfl) ?_
  refine (am_bl 2 (f' := (53, 7, [.ref 5], [.int 8, .ref 5])) rfl).trans ?_
  refine Eq.trans (b := am_runs (53, 9, [.ref 5], [.ref 6, .ref 5]) (ff_8 xs, gg_7, pp_10, dd 7 Ln, 7, 1054)) (am_tna rfl rfl (by decide) (by decide) (by decide) (by decide) (by decide) (dd_s rfl) rfl) ?_
  refine Eq.trans (b := am_runs (53, 12, [.ref 5], []) (ff_8 xs, gg_7, pp_11, dd 7 Ln, 7, 1054)) (rr_pr rfl (dd_k (by decide) rfl) rfl) ?_
  refine (am_bl 2 (f' := (53, 15, [.ref 5], [.int 8, .ref 5])) rfl).trans ?_
  refine Eq.trans (b := am_runs (53, 17, [.ref 5], [.ref 7, .ref 5]) (ff_9 xs, gg_8, pp_12, dd 8 Ln, 8, 1062)) (am_tna rfl rfl (by decide) (by decide) (by decide) (by decide) (by decide) (dd_s rfl) rfl) ?_
  refine Eq.trans (b := am_runs (53, 20, [.ref 5], []) (ff_9 xs, gg_8, pp_13, dd 8 Ln, 8, 1062)) (rr_pr rfl (dd_k (by decide) rfl) rfl) ?_
  refine (am_bl 2 (f' := (53, 23, [.ref 5], [.int 8, .ref 5])) rfl).trans ?_
  refine Eq.trans (b := am_runs (53, 25, [.ref 5], [.ref 8, .ref 5]) (ff_10 xs, gg_9, pp_14, dd 9 Ln, 9, 1070)) (am_tna rfl rfl (by decide) (by decide) (by decide) (by decide) (by decide) (dd_s rfl) rfl) ?_
  refine Eq.trans (b := am_runs (53, 28, [.ref 5], []) (ff_10 xs, gg_9, pp_15, dd 9 Ln, 9, 1070)) (rr_pr rfl (dd_k (by decide) rfl) rfl) ?_
  refine (am_bl 2 (f' := (53, 31, [.ref 5], [.int 8, .ref 5])) rfl).trans ?_
  refine Eq.trans (b := am_runs (53, 33, [.ref 5], [.ref 9, .ref 5]) (ff_11 xs, gg_10, pp_16, dd 10 Ln, 10, 1078)) (am_tna rfl rfl (by decide) (by decide) (by decide) (by decide) (by decide) (dd_s rfl) rfl) ?_
  refine Eq.trans (b := am_runs (53, 36, [.ref 5], []) (ff_11 xs, gg_10, pp_17, dd 10 Ln, 10, 1078)) (rr_pr rfl (dd_k (by decide) rfl) rfl) ?_
  refine (am_bl 2 (f' := (53, 39, [.ref 5], [.int 8, .ref 5])) rfl).trans ?_
  refine Eq.trans (b := am_runs (53, 41, [.ref 5], [.ref 10, .ref 5]) (ff_12 xs, gg_11, pp_18, dd 11 Ln, 11, 1086)) (am_tna rfl rfl (by decide) (by decide) (by decide) (by decide) (by decide) (dd_s rfl) rfl) ?_
  refine Eq.trans (b := am_runs (53, 44, [.ref 5], []) (ff_12 xs, gg_11, pp_19, dd 11 Ln, 11, 1086)) (rr_pr rfl (dd_k (by decide) rfl) rfl) ?_
  refine (am_bl 2 (f' := (53, 47, [.ref 5], [.int 8, .ref 5])) rfl).trans ?_
  refine Eq.trans (b := am_runs (53, 49, [.ref 5], [.ref 11, .ref 5]) (ff_13 xs, gg_12, pp_20, dd 12 Ln, 12, 1094)) (am_tna rfl rfl (by decide) (by decide) (by decide) (by decide) (by decide) (dd_s rfl) rfl) ?_
  refine Eq.trans (b := am_runs (53, 52, [.ref 5], []) (ff_13 xs, gg_12, pp_21, dd 12 Ln, 12, 1094)) (rr_pr rfl (dd_k (by decide) rfl) rfl) ?_
  refine (am_bl 1 (f' := (53, 53, [.ref 5], [.ref 5])) rfl).trans ?_
  refine Eq.trans (b := am_runs (53, 56, [.ref 5], [.ref 12, .ref 5]) (ff_14 xs, gg_13, pp_22, dd 13 Ln, 13, 1107)) (am_tnw rfl (by decide) (by decide) (dd_s rfl) rfl) ?_
  refine (am_bl 1 (f' := (53, 57, [.ref 5], [.ref 12, .ref 12, .ref 5])) rfl).trans ?_
  refine Eq.trans (b := am_runs (53, 60, [.ref 5], [.ref 12, .ref 5]) (ff_19 xs, gg_24, pp_32, dd 18 Ln, 18, 1125)) (ar_cI0 rfl rfl rfl rfl rfl rfl rfl rfl (kc_3 xs Ln)) ?_
  refine Eq.trans (b := am_runs (53, 63, [.ref 5], []) (ff_19 xs, gg_24, pp_33, dd 18 Ln, 18, 1125)) (rr_pr rfl (dd_k (by decide) rfl) rfl) ?_
  refine (am_bl 1 (f' := (53, 64, [.ref 5], [.ref 5])) rfl).trans ?_
  refine Eq.trans (b := am_runs (53, 67, [.ref 5], [.ref 18, .ref 5]) (ff_20 xs, gg_25, pp_34, dd 19 Ln, 19, 1132)) (am_tnw rfl (by decide) (by decide) (dd_s rfl) rfl) ?_
  refine (am_bl 1 (f' := (53, 68, [.ref 5], [.ref 18, .ref 18, .ref 5])) rfl).trans ?_
  refine Eq.trans (b := am_runs (53, 71, [.ref 5], [.ref 18, .ref 5]) (ff_24 xs, gg_28, pp_40, dd 22 Ln, 22, 1150)) (ar_cI0 rfl rfl rfl rfl rfl rfl rfl rfl (kc_4 xs Ln)) ?_
  refine Eq.trans (b := am_runs (53, 74, [.ref 5], []) (ff_24 xs, gg_28, pp_41, dd 22 Ln, 22, 1150)) (rr_pr rfl (dd_k (by decide) rfl) rfl) ?_
  exact am_gr rfl rfl rfl
set_option maxRecDepth 10000 in
theorem kc_6 (xs : Nat → Int32) (Ln : Nat) : am_runs (am_en 68 [.ref 22, .ref 1]) (ff_25 xs, gg_29, pp_43, dd 23 Ln, 23, 1155) = some (none, (ff_25 xs, gg_29, pp_44, dd 23 Ln, 23, 1155)) := by
  show am_runs (68, 0, [.ref 22, .ref 1], []) (ff_25 xs, gg_29, pp_43, dd 23 Ln, 23, 1155) = _
  refine (am_bl 1 (f' := (68, 1, [.ref 22, .ref 1], [.ref 22])) rfl).trans ?_
  refine Eq.trans (b := am_runs (68, 4, [.ref 22, .ref 1], []) (ff_25 xs, gg_29, pp_43, dd 23 Ln, 23, 1155)) (am_goi rfl rfl) ?_
  refine (am_bl 2 (f' := (68, 6, [.ref 22, .ref 1], [.ref 1, .ref 22])) rfl).trans ?_
  refine Eq.trans (b := am_runs (68, 9, [.ref 22, .ref 1], []) (ff_25 xs, gg_29, pp_44, dd 23 Ln, 23, 1155)) (rr_pr rfl (dd_k (by decide) rfl) rfl) ?_
  exact am_gr rfl rfl rfl
set_option maxRecDepth 10000 in
theorem kc_7 (xs : Nat → Int32) (Ln : Nat) : am_runs (am_en 69 [.ref 2, .ref 1]) (ff_4 xs, gg_3, pp_4, dd 3 Ln, 3, 1020) = some (none, (ff_25 xs, gg_29, pp_45, dd 23 Ln, 23, 1155)) := by
  show am_runs (69, 0, [.ref 2, .ref 1], []) (ff_4 xs, gg_3, pp_4, dd 3 Ln, 3, 1020) = _
  refine (am_bl 1 (f' := (69, 1, [.ref 2, .ref 1], [.ref 2])) rfl).trans ?_
  refine Eq.trans (b := am_runs (69, 4, [.ref 2, .ref 1], []) (ff_4 xs, gg_3, pp_4, dd 3 Ln, 3, 1020)) (am_goi rfl rfl) ?_
  refine (am_bl 2 (f' := (69, 6, [.ref 2, .ref 1], [.int 3, .ref 2])) rfl).trans ?_
  refine Eq.trans (b := am_runs (69, 8, [.ref 2, .ref 1], [.ref 3, .ref 2]) (ff_5 xs, gg_4, pp_5, dd 4 Ln, 4, 1023)) (am_tna rfl rfl (by decide) (by decide) (by decide) (by decide) (by decide) (dd_s rfl) rfl) ?_
  refine Eq.trans (b := am_runs (69, 11, [.ref 2, .ref 1], []) (ff_5 xs, gg_4, pp_6, dd 4 Ln, 4, 1023)) (rr_pr rfl (dd_k (by decide) rfl) rfl) ?_
  refine (am_bl 2 (f' := (69, 14, [.ref 2, .ref 1], [.int 8, .ref 2])) rfl).trans ?_
  refine Eq.trans (b := am_runs (69, 16, [.ref 2, .ref 1], [.ref 4, .ref 2]) (ff_6 xs, gg_5, pp_7, dd 5 Ln, 5, 1031)) (am_tna rfl rfl (by decide) (by decide) (by decide) (by decide) (by decide) (dd_s rfl) rfl) ?_
  refine Eq.trans (b := am_runs (69, 19, [.ref 2, .ref 1], []) (ff_6 xs, gg_5, pp_8, dd 5 Ln, 5, 1031)) (rr_pr rfl (dd_k (by decide) rfl) rfl) ?_
  refine (am_bl 1 (f' := (69, 20, [.ref 2, .ref 1], [.ref 2])) rfl).trans ?_
  refine Eq.trans (b := am_runs (69, 23, [.ref 2, .ref 1], [.ref 5, .ref 2]) (ff_7 xs, gg_6, pp_9, dd 6 Ln, 6, 1046)) (am_tnw rfl (by decide) (by decide) (dd_s rfl) rfl) ?_
  refine (am_bl 1 (f' := (69, 24, [.ref 2, .ref 1], [.ref 5, .ref 5, .ref 2])) rfl).trans ?_
  refine Eq.trans (b := am_runs (69, 27, [.ref 2, .ref 1], [.ref 5, .ref 2]) (ff_24 xs, gg_28, pp_41, dd 22 Ln, 22, 1150)) (ar_cI0 rfl rfl rfl rfl rfl rfl rfl rfl (kc_5 xs Ln)) ?_
  refine Eq.trans (b := am_runs (69, 30, [.ref 2, .ref 1], []) (ff_24 xs, gg_28, pp_42, dd 22 Ln, 22, 1150)) (rr_pr rfl (dd_k (by decide) rfl) rfl) ?_
  refine (am_bl 1 (f' := (69, 31, [.ref 2, .ref 1], [.ref 2])) rfl).trans ?_
  refine Eq.trans (b := am_runs (69, 34, [.ref 2, .ref 1], [.ref 22, .ref 2]) (ff_25 xs, gg_29, pp_43, dd 23 Ln, 23, 1155)) (am_tnw rfl (by decide) (by decide) (dd_s rfl) rfl) ?_
  refine (am_bl 2 (f' := (69, 36, [.ref 2, .ref 1], [.ref 1, .ref 22, .ref 22, .ref 2])) rfl).trans ?_
  refine Eq.trans (b := am_runs (69, 39, [.ref 2, .ref 1], [.ref 22, .ref 2]) (ff_25 xs, gg_29, pp_44, dd 23 Ln, 23, 1155)) (ar_cI0 rfl rfl rfl rfl rfl rfl rfl rfl (kc_6 xs Ln)) ?_
  refine Eq.trans (b := am_runs (69, 42, [.ref 2, .ref 1], []) (ff_25 xs, gg_29, pp_45, dd 23 Ln, 23, 1155)) (rr_pr rfl (dd_k (by decide) rfl) rfl) ?_
  exact am_gr rfl rfl rfl
set_option maxRecDepth 10000 in
theorem kc_8 (xs : Nat → Int32) (Ln : Nat) : am_runs (am_en 29 [.ref 33]) (ff_36 xs, gg_40, pp_65, dd 34 Ln, 34, 1245) = some (none, (ff_36 xs, gg_42, pp_65, dd 34 Ln, 34, 1245)) := by
  show am_runs (29, 0, [.ref 33], []) (ff_36 xs, gg_40, pp_65, dd 34 Ln, 34, 1245) = _
  refine (am_bl 1 (f' := (29, 1, [.ref 33], [.ref 33])) rfl).trans ?_
  refine Eq.trans (b := am_runs (29, 4, [.ref 33], []) (ff_36 xs, gg_40, pp_65, dd 34 Ln, 34, 1245)) (am_goi rfl rfl) ?_
  refine (am_bl 2 (f' := (29, 6, [.ref 33], [.long 0, .ref 33])) rfl).trans ?_
  refine Eq.trans (b := am_runs (29, 9, [.ref 33], []) (ff_36 xs, gg_41, pp_65, dd 34 Ln, 34, 1245)) (rr_pl rfl (dd_k (by decide) rfl) rfl) ?_
  refine (am_bl 2 (f' := (29, 11, [.ref 33], [.long 1, .ref 33])) rfl).trans ?_
  refine Eq.trans (b := am_runs (29, 14, [.ref 33], []) (ff_36 xs, gg_42, pp_65, dd 34 Ln, 34, 1245)) (rr_pl rfl (dd_k (by decide) rfl) rfl) ?_
  exact am_gr rfl rfl rfl
set_option maxRecDepth 10000 in
theorem kc_9 (xs : Nat → Int32) (Ln : Nat) : am_runs (am_en 29 [.ref 34]) (ff_37 xs, gg_43, pp_67, dd 35 Ln, 35, 1247) = some (none, (ff_37 xs, gg_45, pp_67, dd 35 Ln, 35, 1247)) := by
  show am_runs (29, 0, [.ref 34], []) (ff_37 xs, gg_43, pp_67, dd 35 Ln, 35, 1247) = _
  refine (am_bl 1 (f' := (29, 1, [.ref 34], [.ref 34])) rfl).trans ?_
  refine Eq.trans (b := am_runs (29, 4, [.ref 34], []) (ff_37 xs, gg_43, pp_67, dd 35 Ln, 35, 1247)) (am_goi rfl rfl) ?_
  refine (am_bl 2 (f' := (29, 6, [.ref 34], [.long 0, .ref 34])) rfl).trans ?_
  refine Eq.trans (b := am_runs (29, 9, [.ref 34], []) (ff_37 xs, gg_44, pp_67, dd 35 Ln, 35, 1247)) (rr_pl rfl (dd_k (by decide) rfl) rfl) ?_
  refine (am_bl 2 (f' := (29, 11, [.ref 34], [.long 1, .ref 34])) rfl).trans ?_
  refine Eq.trans (b := am_runs (29, 14, [.ref 34], []) (ff_37 xs, gg_45, pp_67, dd 35 Ln, 35, 1247)) (rr_pl rfl (dd_k (by decide) rfl) rfl) ?_
  exact am_gr rfl rfl rfl
set_option maxRecDepth 10000 in
theorem kc_10 (xs : Nat → Int32) (Ln : Nat) : am_runs (am_en 29 [.ref 35]) (ff_38 xs, gg_46, pp_69, dd 36 Ln, 36, 1249) = some (none, (ff_38 xs, gg_48, pp_69, dd 36 Ln, 36, 1249)) := by
  show am_runs (29, 0, [.ref 35], []) (ff_38 xs, gg_46, pp_69, dd 36 Ln, 36, 1249) = _
  refine (am_bl 1 (f' := (29, 1, [.ref 35], [.ref 35])) rfl).trans ?_
  refine Eq.trans (b := am_runs (29, 4, [.ref 35], []) (ff_38 xs, gg_46, pp_69, dd 36 Ln, 36, 1249)) (am_goi rfl rfl) ?_
  refine (am_bl 2 (f' := (29, 6, [.ref 35], [.long 0, .ref 35])) rfl).trans ?_
  refine Eq.trans (b := am_runs (29, 9, [.ref 35], []) (ff_38 xs, gg_47, pp_69, dd 36 Ln, 36, 1249)) (rr_pl rfl (dd_k (by decide) rfl) rfl) ?_
  refine (am_bl 2 (f' := (29, 11, [.ref 35], [.long 1, .ref 35])) rfl).trans ?_
  refine Eq.trans (b := am_runs (29, 14, [.ref 35], []) (ff_38 xs, gg_48, pp_69, dd 36 Ln, 36, 1249)) (rr_pl rfl (dd_k (by decide) rfl) rfl) ?_
  exact am_gr rfl rfl rfl
set_option maxRecDepth 10000 in
theorem kc_11 (xs : Nat → Int32) (Ln : Nat) : am_runs (am_en 30 [.ref 30]) (ff_33 xs, gg_37, pp_60, dd 31 Ln, 31, 1231) = some (none, (ff_38 xs, gg_48, pp_70, dd 36 Ln, 36, 1249)) := by
  show am_runs (30, 0, [.ref 30], []) (ff_33 xs, gg_37, pp_60, dd 31 Ln, 31, 1231) = _
  refine (am_bl 1 (f' := (30, 1, [.ref 30], [.ref 30])) rfl).trans ?_
  refine Eq.trans (b := am_runs (30, 4, [.ref 30], []) (ff_33 xs, gg_37, pp_60, dd 31 Ln, 31, 1231)) (am_goi rfl rfl) ?_
  refine (am_bl 2 (f' := (30, 7, [.ref 30], [.int 6, .ref 30])) rfl).trans ?_
  refine Eq.trans (b := am_runs (30, 9, [.ref 30], [.ref 31, .ref 30]) (ff_34 xs, gg_38, pp_61, dd 32 Ln, 32, 1237)) (am_tna rfl rfl (by decide) (by decide) (by decide) (by decide) (by decide) (dd_s rfl) rfl) ?_
  refine Eq.trans (b := am_runs (30, 12, [.ref 30], []) (ff_34 xs, gg_38, pp_62, dd 32 Ln, 32, 1237)) (rr_pr rfl (dd_k (by decide) rfl) rfl) ?_
  refine (am_bl 2 (f' := (30, 15, [.ref 30], [.int 6, .ref 30])) rfl).trans ?_
  refine Eq.trans (b := am_runs (30, 17, [.ref 30], [.ref 32, .ref 30]) (ff_35 xs, gg_39, pp_63, dd 33 Ln, 33, 1243)) (am_tna rfl rfl (by decide) (by decide) (by decide) (by decide) (by decide) (dd_s rfl) rfl) ?_
  refine Eq.trans (b := am_runs (30, 20, [.ref 30], []) (ff_35 xs, gg_39, pp_64, dd 33 Ln, 33, 1243)) (rr_pr rfl (dd_k (by decide) rfl) rfl) ?_
  refine (am_bl 1 (f' := (30, 21, [.ref 30], [.ref 30])) rfl).trans ?_
  refine Eq.trans (b := am_runs (30, 24, [.ref 30], [.ref 33, .ref 30]) (ff_36 xs, gg_40, pp_65, dd 34 Ln, 34, 1245)) (am_tnw rfl (by decide) (by decide) (dd_s rfl) rfl) ?_
  refine (am_bl 1 (f' := (30, 25, [.ref 30], [.ref 33, .ref 33, .ref 30])) rfl).trans ?_
  refine Eq.trans (b := am_runs (30, 28, [.ref 30], [.ref 33, .ref 30]) (ff_36 xs, gg_42, pp_65, dd 34 Ln, 34, 1245)) (ar_cI0 rfl rfl rfl rfl rfl rfl rfl rfl (kc_8 xs Ln)) ?_
  refine Eq.trans (b := am_runs (30, 31, [.ref 30], []) (ff_36 xs, gg_42, pp_66, dd 34 Ln, 34, 1245)) (rr_pr rfl (dd_k (by decide) rfl) rfl) ?_
  refine (am_bl 1 (f' := (30, 32, [.ref 30], [.ref 30])) rfl).trans ?_
  refine Eq.trans (b := am_runs (30, 35, [.ref 30], [.ref 34, .ref 30]) (ff_37 xs, gg_43, pp_67, dd 35 Ln, 35, 1247)) (am_tnw rfl (by decide) (by decide) (dd_s rfl) rfl) ?_
  refine (am_bl 1 (f' := (30, 36, [.ref 30], [.ref 34, .ref 34, .ref 30])) rfl).trans ?_
  refine Eq.trans (b := am_runs (30, 39, [.ref 30], [.ref 34, .ref 30]) (ff_37 xs, gg_45, pp_67, dd 35 Ln, 35, 1247)) (ar_cI0 rfl rfl rfl rfl rfl rfl rfl rfl (kc_9 xs Ln)) ?_
  refine Eq.trans (b := am_runs (30, 42, [.ref 30], []) (ff_37 xs, gg_45, pp_68, dd 35 Ln, 35, 1247)) (rr_pr rfl (dd_k (by decide) rfl) rfl) ?_
  refine (am_bl 1 (f' := (30, 43, [.ref 30], [.ref 30])) rfl).trans ?_
  refine Eq.trans (b := am_runs (30, 46, [.ref 30], [.ref 35, .ref 30]) (ff_38 xs, gg_46, pp_69, dd 36 Ln, 36, 1249)) (am_tnw rfl (by decide) (by decide) (dd_s rfl) rfl) ?_
  refine (am_bl 1 (f' := (30, 47, [.ref 30], [.ref 35, .ref 35, .ref 30])) rfl).trans ?_
  refine Eq.trans (b := am_runs (30, 50, [.ref 30], [.ref 35, .ref 30]) (ff_38 xs, gg_48, pp_69, dd 36 Ln, 36, 1249)) (ar_cI0 rfl rfl rfl rfl rfl rfl rfl rfl (kc_10 xs Ln)) ?_
  refine Eq.trans (b := am_runs (30, 53, [.ref 30], []) (ff_38 xs, gg_48, pp_70, dd 36 Ln, 36, 1249)) (rr_pr rfl (dd_k (by decide) rfl) rfl) ?_
  exact am_gr rfl rfl rfl
set_option maxRecDepth 10000 in
theorem kc_12 (xs : Nat → Int32) (Ln : Nat) : am_runs (am_en 19 [.ref 36]) (ff_39 xs, gg_49, pp_72, dd 37 Ln, 37, 1256) = some (none, (ff_43 xs, gg_52, pp_78, dd 40 Ln, 40, 1274)) := by
  show am_runs (19, 0, [.ref 36], []) (ff_39 xs, gg_49, pp_72, dd 37 Ln, 37, 1256) = _
  refine (am_bl 1 (f' := (19, 1, [.ref 36], [.ref 36])) rfl).trans ?_
  refine Eq.trans (b := am_runs (19, 4, [.ref 36], []) (ff_39 xs, gg_49, pp_72, dd 37 Ln, 37, 1256)) (am_goi rfl rfl) ?_
  refine (am_bl 2 (f' := (19, 6, [.ref 36], [.int (-1), .ref 36])) rfl).trans ?_
  refine Eq.trans (b := am_runs (19, 9, [.ref 36], []) (ff_40 xs, gg_49, pp_72, dd 37 Ln, 37, 1256)) (rr_pi rfl (dd_k (by decide) rfl) rfl) ?_
  refine (am_bl 2 (f' := (19, 12, [.ref 36], [.int 8, .ref 36])) rfl).trans ?_
  refine Eq.trans (b := am_runs (19, 14, [.ref 36], [.ref 37, .ref 36]) (ff_41 xs, gg_50, pp_73, dd 38 Ln, 38, 1264)) (am_tna rfl rfl (by decide) (by decide) (by decide) (by decide) (by decide) (dd_s rfl) rfl) ?_
  refine Eq.trans (b := am_runs (19, 17, [.ref 36], []) (ff_41 xs, gg_50, pp_74, dd 38 Ln, 38, 1264)) (rr_pr rfl (dd_k (by decide) rfl) rfl) ?_
  refine (am_bl 2 (f' := (19, 19, [.ref 36], [.int 5, .ref 36])) rfl).trans ?_
  refine Eq.trans (b := am_runs (19, 21, [.ref 36], [.ref 38, .ref 36]) (ff_42 xs, gg_51, pp_75, dd 39 Ln, 39, 1269)) (am_tna rfl rfl (by decide) (by decide) (by decide) (by decide) (by decide) (dd_s rfl) rfl) ?_
  refine Eq.trans (b := am_runs (19, 24, [.ref 36], []) (ff_42 xs, gg_51, pp_76, dd 39 Ln, 39, 1269)) (rr_pr rfl (dd_k (by decide) rfl) rfl) ?_
  refine (am_bl 2 (f' := (19, 26, [.ref 36], [.int 5, .ref 36])) rfl).trans ?_
  refine Eq.trans (b := am_runs (19, 28, [.ref 36], [.ref 39, .ref 36]) (ff_43 xs, gg_52, pp_77, dd 40 Ln, 40, 1274)) (am_tna rfl rfl (by decide) (by decide) (by decide) (by decide) (by decide) (dd_s rfl) rfl) ?_
  refine Eq.trans (b := am_runs (19, 31, [.ref 36], []) (ff_43 xs, gg_52, pp_78, dd 40 Ln, 40, 1274)) (rr_pr rfl (dd_k (by decide) rfl) rfl) ?_
  exact am_gr rfl rfl rfl
set_option maxRecDepth 10000 in
theorem kc_13 (xs : Nat → Int32) (Ln : Nat) : am_runs (am_en 53 [.ref 23]) (ff_26 xs, gg_30, pp_47, dd 24 Ln, 24, 1170) = some (none, (ff_43 xs, gg_52, pp_79, dd 40 Ln, 40, 1274)) := by
  show am_runs (53, 0, [.ref 23], []) (ff_26 xs, gg_30, pp_47, dd 24 Ln, 24, 1170) = _
  refine (am_bl 1 (f' := (53, 1, [.ref 23], [.ref 23])) rfl).trans ?_
  refine Eq.trans (b := am_runs (53, 4, [.ref 23], []) (ff_26 xs, gg_30, pp_47, dd 24 Ln, 24, 1170)) (am_goi rfl rfl) ?_
  refine (am_bl 2 (f' := (53, 7, [.ref 23], [.int 8, .ref 23])) rfl).trans ?_
  refine Eq.trans (b := am_runs (53, 9, [.ref 23], [.ref 24, .ref 23]) (ff_27 xs, gg_31, pp_48, dd 25 Ln, 25, 1178)) (am_tna rfl rfl (by decide) (by decide) (by decide) (by decide) (by decide) (dd_s rfl) rfl) ?_
  refine Eq.trans (b := am_runs (53, 12, [.ref 23], []) (ff_27 xs, gg_31, pp_49, dd 25 Ln, 25, 1178)) (rr_pr rfl (dd_k (by decide) rfl) rfl) ?_
  refine (am_bl 2 (f' := (53, 15, [.ref 23], [.int 8, .ref 23])) rfl).trans ?_
  refine Eq.trans (b := am_runs (53, 17, [.ref 23], [.ref 25, .ref 23]) (ff_28 xs, gg_32, pp_50, dd 26 Ln, 26, 1186)) (am_tna rfl rfl (by decide) (by decide) (by decide) (by decide) (by decide) (dd_s rfl) rfl) ?_
  refine Eq.trans (b := am_runs (53, 20, [.ref 23], []) (ff_28 xs, gg_32, pp_51, dd 26 Ln, 26, 1186)) (rr_pr rfl (dd_k (by decide) rfl) rfl) ?_
  refine (am_bl 2 (f' := (53, 23, [.ref 23], [.int 8, .ref 23])) rfl).trans ?_
  refine Eq.trans (b := am_runs (53, 25, [.ref 23], [.ref 26, .ref 23]) (ff_29 xs, gg_33, pp_52, dd 27 Ln, 27, 1194)) (am_tna rfl rfl (by decide) (by decide) (by decide) (by decide) (by decide) (dd_s rfl) rfl) ?_
  refine Eq.trans (b := am_runs (53, 28, [.ref 23], []) (ff_29 xs, gg_33, pp_53, dd 27 Ln, 27, 1194)) (rr_pr rfl (dd_k (by decide) rfl) rfl) ?_
  refine (am_bl 2 (f' := (53, 31, [.ref 23], [.int 8, .ref 23])) rfl).trans ?_
  refine Eq.trans (b := am_runs (53, 33, [.ref 23], [.ref 27, .ref 23]) (ff_30 xs, gg_34, pp_54, dd 28 Ln, 28, 1202)) (am_tna rfl rfl (by decide) (by decide) (by decide) (by decide) (by decide) (dd_s rfl) rfl) ?_
  refine Eq.trans (b := am_runs (53, 36, [.ref 23], []) (ff_30 xs, gg_34, pp_55, dd 28 Ln, 28, 1202)) (rr_pr rfl (dd_k (by decide) rfl) rfl) ?_
  refine (am_bl 2 (f' := (53, 39, [.ref 23], [.int 8, .ref 23])) rfl).trans ?_
  refine Eq.trans (b := am_runs (53, 41, [.ref 23], [.ref 28, .ref 23]) (ff_31 xs, gg_35, pp_56, dd 29 Ln, 29, 1210)) (am_tna rfl rfl (by decide) (by decide) (by decide) (by decide) (by decide) (dd_s rfl) rfl) ?_
  refine Eq.trans (b := am_runs (53, 44, [.ref 23], []) (ff_31 xs, gg_35, pp_57, dd 29 Ln, 29, 1210)) (rr_pr rfl (dd_k (by decide) rfl) rfl) ?_
  refine (am_bl 2 (f' := (53, 47, [.ref 23], [.int 8, .ref 23])) rfl).trans ?_
  refine Eq.trans (b := am_runs (53, 49, [.ref 23], [.ref 29, .ref 23]) (ff_32 xs, gg_36, pp_58, dd 30 Ln, 30, 1218)) (am_tna rfl rfl (by decide) (by decide) (by decide) (by decide) (by decide) (dd_s rfl) rfl) ?_
  refine Eq.trans (b := am_runs (53, 52, [.ref 23], []) (ff_32 xs, gg_36, pp_59, dd 30 Ln, 30, 1218)) (rr_pr rfl (dd_k (by decide) rfl) rfl) ?_
  refine (am_bl 1 (f' := (53, 53, [.ref 23], [.ref 23])) rfl).trans ?_
  refine Eq.trans (b := am_runs (53, 56, [.ref 23], [.ref 30, .ref 23]) (ff_33 xs, gg_37, pp_60, dd 31 Ln, 31, 1231)) (am_tnw rfl (by decide) (by decide) (dd_s rfl) rfl) ?_
  refine (am_bl 1 (f' := (53, 57, [.ref 23], [.ref 30, .ref 30, .ref 23])) rfl).trans ?_
  refine Eq.trans (b := am_runs (53, 60, [.ref 23], [.ref 30, .ref 23]) (ff_38 xs, gg_48, pp_70, dd 36 Ln, 36, 1249)) (ar_cI0 rfl rfl rfl rfl rfl rfl rfl rfl (kc_11 xs Ln)) ?_
  refine Eq.trans (b := am_runs (53, 63, [.ref 23], []) (ff_38 xs, gg_48, pp_71, dd 36 Ln, 36, 1249)) (rr_pr rfl (dd_k (by decide) rfl) rfl) ?_
  refine (am_bl 1 (f' := (53, 64, [.ref 23], [.ref 23])) rfl).trans ?_
  refine Eq.trans (b := am_runs (53, 67, [.ref 23], [.ref 36, .ref 23]) (ff_39 xs, gg_49, pp_72, dd 37 Ln, 37, 1256)) (am_tnw rfl (by decide) (by decide) (dd_s rfl) rfl) ?_
  refine (am_bl 1 (f' := (53, 68, [.ref 23], [.ref 36, .ref 36, .ref 23])) rfl).trans ?_
  refine Eq.trans (b := am_runs (53, 71, [.ref 23], [.ref 36, .ref 23]) (ff_43 xs, gg_52, pp_78, dd 40 Ln, 40, 1274)) (ar_cI0 rfl rfl rfl rfl rfl rfl rfl rfl (kc_12 xs Ln)) ?_
  refine Eq.trans (b := am_runs (53, 74, [.ref 23], []) (ff_43 xs, gg_52, pp_79, dd 40 Ln, 40, 1274)) (rr_pr rfl (dd_k (by decide) rfl) rfl) ?_
  exact am_gr rfl rfl rfl
set_option maxRecDepth 10000 in
theorem kc_14 (xs : Nat → Int32) (Ln : Nat) : am_runs (am_en 0 [.ref 40, .ref 23]) (ff_44 xs, gg_53, pp_81, dd 41 Ln, 41, 1282) = some (none, (ff_48 xs, gg_57, pp_90, dd 45 Ln, 45, 1309)) := by
  show am_runs (0, 0, [.ref 40, .ref 23], []) (ff_44 xs, gg_53, pp_81, dd 41 Ln, 41, 1282) = _
  refine (am_bl 1 (f' := (0, 1, [.ref 40, .ref 23], [.ref 40])) rfl).trans ?_
  refine Eq.trans (b := am_runs (0, 4, [.ref 40, .ref 23], []) (ff_44 xs, gg_53, pp_81, dd 41 Ln, 41, 1282)) (am_goi rfl rfl) ?_
  refine (am_bl 2 (f' := (0, 7, [.ref 40, .ref 23], [.int 8, .ref 40])) rfl).trans ?_
  refine Eq.trans (b := am_runs (0, 9, [.ref 40, .ref 23], [.ref 41, .ref 40]) (ff_45 xs, gg_54, pp_82, dd 42 Ln, 42, 1290)) (am_tna rfl rfl (by decide) (by decide) (by decide) (by decide) (by decide) (dd_s rfl) rfl) ?_
  refine Eq.trans (b := am_runs (0, 12, [.ref 40, .ref 23], []) (ff_45 xs, gg_54, pp_83, dd 42 Ln, 42, 1290)) (rr_pr rfl (dd_k (by decide) rfl) rfl) ?_
  refine (am_bl 2 (f' := (0, 15, [.ref 40, .ref 23], [.int 8, .ref 40])) rfl).trans ?_
  refine Eq.trans (b := am_runs (0, 17, [.ref 40, .ref 23], [.ref 42, .ref 40]) (ff_46 xs, gg_55, pp_84, dd 43 Ln, 43, 1298)) (am_tna rfl rfl (by decide) (by decide) (by decide) (by decide) (by decide) (dd_s rfl) rfl) ?_
  refine Eq.trans (b := am_runs (0, 20, [.ref 40, .ref 23], []) (ff_46 xs, gg_55, pp_85, dd 43 Ln, 43, 1298)) (rr_pr rfl (dd_k (by decide) rfl) rfl) ?_
  refine (am_bl 2 (f' := (0, 23, [.ref 40, .ref 23], [.int 8, .ref 40])) rfl).trans ?_
  refine Eq.trans (b := am_runs (0, 25, [.ref 40, .ref 23], [.ref 43, .ref 40]) (ff_47 xs, gg_56, pp_86, dd 44 Ln, 44, 1306)) (am_tna rfl rfl (by decide) (by decide) (by decide) (by decide) (by decide) (dd_s rfl) rfl) ?_
  refine Eq.trans (b := am_runs (0, 28, [.ref 40, .ref 23], []) (ff_47 xs, gg_56, pp_87, dd 44 Ln, 44, 1306)) (rr_pr rfl (dd_k (by decide) rfl) rfl) ?_
  refine (am_bl 2 (f' := (0, 30, [.ref 40, .ref 23], [.int 3, .ref 40])) rfl).trans ?_
  refine Eq.trans (b := am_runs (0, 32, [.ref 40, .ref 23], [.ref 44, .ref 40]) (ff_48 xs, gg_57, pp_88, dd 45 Ln, 45, 1309)) (am_tna rfl rfl (by decide) (by decide) (by decide) (by decide) (by decide) (dd_s rfl) rfl) ?_
  refine Eq.trans (b := am_runs (0, 35, [.ref 40, .ref 23], []) (ff_48 xs, gg_57, pp_89, dd 45 Ln, 45, 1309)) (rr_pr rfl (dd_k (by decide) rfl) rfl) ?_
  refine (am_bl 2 (f' := (0, 37, [.ref 40, .ref 23], [.ref 23, .ref 40])) rfl).trans ?_
  refine Eq.trans (b := am_runs (0, 40, [.ref 40, .ref 23], []) (ff_48 xs, gg_57, pp_90, dd 45 Ln, 45, 1309)) (rr_pr rfl (dd_k (by decide) rfl) rfl) ?_
  exact am_gr rfl rfl rfl
set_option maxRecDepth 10000 in
theorem kc_15 (xs : Nat → Int32) (Ln : Nat) : am_runs (am_en 0 [.ref 48, .ref 23]) (ff_55 xs, gg_61, pp_97, dd 49 Ln, 49, 1341) = some (none, (ff_59 xs, gg_65, pp_106, dd 53 Ln, 53, 1368)) := by
  show am_runs (0, 0, [.ref 48, .ref 23], []) (ff_55 xs, gg_61, pp_97, dd 49 Ln, 49, 1341) = _
  refine (am_bl 1 (f' := (0, 1, [.ref 48, .ref 23], [.ref 48])) rfl).trans ?_
  refine Eq.trans (b := am_runs (0, 4, [.ref 48, .ref 23], []) (ff_55 xs, gg_61, pp_97, dd 49 Ln, 49, 1341)) (am_goi rfl rfl) ?_
  refine (am_bl 2 (f' := (0, 7, [.ref 48, .ref 23], [.int 8, .ref 48])) rfl).trans ?_
  refine Eq.trans (b := am_runs (0, 9, [.ref 48, .ref 23], [.ref 49, .ref 48]) (ff_56 xs, gg_62, pp_98, dd 50 Ln, 50, 1349)) (am_tna rfl rfl (by decide) (by decide) (by decide) (by decide) (by decide) (dd_s rfl) rfl) ?_
  refine Eq.trans (b := am_runs (0, 12, [.ref 48, .ref 23], []) (ff_56 xs, gg_62, pp_99, dd 50 Ln, 50, 1349)) (rr_pr rfl (dd_k (by decide) rfl) rfl) ?_
  refine (am_bl 2 (f' := (0, 15, [.ref 48, .ref 23], [.int 8, .ref 48])) rfl).trans ?_
  refine Eq.trans (b := am_runs (0, 17, [.ref 48, .ref 23], [.ref 50, .ref 48]) (ff_57 xs, gg_63, pp_100, dd 51 Ln, 51, 1357)) (am_tna rfl rfl (by decide) (by decide) (by decide) (by decide) (by decide) (dd_s rfl) rfl) ?_
  refine Eq.trans (b := am_runs (0, 20, [.ref 48, .ref 23], []) (ff_57 xs, gg_63, pp_101, dd 51 Ln, 51, 1357)) (rr_pr rfl (dd_k (by decide) rfl) rfl) ?_
  refine (am_bl 2 (f' := (0, 23, [.ref 48, .ref 23], [.int 8, .ref 48])) rfl).trans ?_
  refine Eq.trans (b := am_runs (0, 25, [.ref 48, .ref 23], [.ref 51, .ref 48]) (ff_58 xs, gg_64, pp_102, dd 52 Ln, 52, 1365)) (am_tna rfl rfl (by decide) (by decide) (by decide) (by decide) (by decide) (dd_s rfl) rfl) ?_
  refine Eq.trans (b := am_runs (0, 28, [.ref 48, .ref 23], []) (ff_58 xs, gg_64, pp_103, dd 52 Ln, 52, 1365)) (rr_pr rfl (dd_k (by decide) rfl) rfl) ?_
  refine (am_bl 2 (f' := (0, 30, [.ref 48, .ref 23], [.int 3, .ref 48])) rfl).trans ?_
  refine Eq.trans (b := am_runs (0, 32, [.ref 48, .ref 23], [.ref 52, .ref 48]) (ff_59 xs, gg_65, pp_104, dd 53 Ln, 53, 1368)) (am_tna rfl rfl (by decide) (by decide) (by decide) (by decide) (by decide) (dd_s rfl) rfl) ?_
  refine Eq.trans (b := am_runs (0, 35, [.ref 48, .ref 23], []) (ff_59 xs, gg_65, pp_105, dd 53 Ln, 53, 1368)) (rr_pr rfl (dd_k (by decide) rfl) rfl) ?_
  refine (am_bl 2 (f' := (0, 37, [.ref 48, .ref 23], [.ref 23, .ref 48])) rfl).trans ?_
  refine Eq.trans (b := am_runs (0, 40, [.ref 48, .ref 23], []) (ff_59 xs, gg_65, pp_106, dd 53 Ln, 53, 1368)) (rr_pr rfl (dd_k (by decide) rfl) rfl) ?_
  exact am_gr rfl rfl rfl
set_option maxRecDepth 10000 in
theorem kc_16 (xs : Nat → Int32) (Ln : Nat) : am_runs (am_en 0 [.ref 53, .ref 23]) (ff_60 xs, gg_66, pp_108, dd 54 Ln, 54, 1376) = some (none, (ff_64 xs, gg_70, pp_117, dd 58 Ln, 58, 1403)) := by
  show am_runs (0, 0, [.ref 53, .ref 23], []) (ff_60 xs, gg_66, pp_108, dd 54 Ln, 54, 1376) = _
  refine (am_bl 1 (f' := (0, 1, [.ref 53, .ref 23], [.ref 53])) rfl).trans ?_
  refine Eq.trans (b := am_runs (0, 4, [.ref 53, .ref 23], []) (ff_60 xs, gg_66, pp_108, dd 54 Ln, 54, 1376)) (am_goi rfl rfl) ?_
  refine (am_bl 2 (f' := (0, 7, [.ref 53, .ref 23], [.int 8, .ref 53])) rfl).trans ?_
  refine Eq.trans (b := am_runs (0, 9, [.ref 53, .ref 23], [.ref 54, .ref 53]) (ff_61 xs, gg_67, pp_109, dd 55 Ln, 55, 1384)) (am_tna rfl rfl (by decide) (by decide) (by decide) (by decide) (by decide) (dd_s rfl) rfl) ?_
  refine Eq.trans (b := am_runs (0, 12, [.ref 53, .ref 23], []) (ff_61 xs, gg_67, pp_110, dd 55 Ln, 55, 1384)) (rr_pr rfl (dd_k (by decide) rfl) rfl) ?_
  refine (am_bl 2 (f' := (0, 15, [.ref 53, .ref 23], [.int 8, .ref 53])) rfl).trans ?_
  refine Eq.trans (b := am_runs (0, 17, [.ref 53, .ref 23], [.ref 55, .ref 53]) (ff_62 xs, gg_68, pp_111, dd 56 Ln, 56, 1392)) (am_tna rfl rfl (by decide) (by decide) (by decide) (by decide) (by decide) (dd_s rfl) rfl) ?_
  refine Eq.trans (b := am_runs (0, 20, [.ref 53, .ref 23], []) (ff_62 xs, gg_68, pp_112, dd 56 Ln, 56, 1392)) (rr_pr rfl (dd_k (by decide) rfl) rfl) ?_
  refine (am_bl 2 (f' := (0, 23, [.ref 53, .ref 23], [.int 8, .ref 53])) rfl).trans ?_
  refine Eq.trans (b := am_runs (0, 25, [.ref 53, .ref 23], [.ref 56, .ref 53]) (ff_63 xs, gg_69, pp_113, dd 57 Ln, 57, 1400)) (am_tna rfl rfl (by decide) (by decide) (by decide) (by decide) (by decide) (dd_s rfl) rfl) ?_
  refine Eq.trans (b := am_runs (0, 28, [.ref 53, .ref 23], []) (ff_63 xs, gg_69, pp_114, dd 57 Ln, 57, 1400)) (rr_pr rfl (dd_k (by decide) rfl) rfl) ?_
  refine (am_bl 2 (f' := (0, 30, [.ref 53, .ref 23], [.int 3, .ref 53])) rfl).trans ?_
  refine Eq.trans (b := am_runs (0, 32, [.ref 53, .ref 23], [.ref 57, .ref 53]) (ff_64 xs, gg_70, pp_115, dd 58 Ln, 58, 1403)) (am_tna rfl rfl (by decide) (by decide) (by decide) (by decide) (by decide) (dd_s rfl) rfl) ?_
  refine Eq.trans (b := am_runs (0, 35, [.ref 53, .ref 23], []) (ff_64 xs, gg_70, pp_116, dd 58 Ln, 58, 1403)) (rr_pr rfl (dd_k (by decide) rfl) rfl) ?_
  refine (am_bl 2 (f' := (0, 37, [.ref 53, .ref 23], [.ref 23, .ref 53])) rfl).trans ?_
  refine Eq.trans (b := am_runs (0, 40, [.ref 53, .ref 23], []) (ff_64 xs, gg_70, pp_117, dd 58 Ln, 58, 1403)) (rr_pr rfl (dd_k (by decide) rfl) rfl) ?_
  exact am_gr rfl rfl rfl
set_option maxRecDepth 10000 in
theorem kc_17 (xs : Nat → Int32) (Ln : Nat) : am_runs (am_en 0 [.ref 58, .ref 23]) (ff_65 xs, gg_71, pp_119, dd 59 Ln, 59, 1411) = some (none, (ff_69 xs, gg_75, pp_128, dd 63 Ln, 63, 1438)) := by
  show am_runs (0, 0, [.ref 58, .ref 23], []) (ff_65 xs, gg_71, pp_119, dd 59 Ln, 59, 1411) = _
  refine (am_bl 1 (f' := (0, 1, [.ref 58, .ref 23], [.ref 58])) rfl).trans ?_
  refine Eq.trans (b := am_runs (0, 4, [.ref 58, .ref 23], []) (ff_65 xs, gg_71, pp_119, dd 59 Ln, 59, 1411)) (am_goi rfl rfl) ?_
  refine (am_bl 2 (f' := (0, 7, [.ref 58, .ref 23], [.int 8, .ref 58])) rfl).trans ?_
  refine Eq.trans (b := am_runs (0, 9, [.ref 58, .ref 23], [.ref 59, .ref 58]) (ff_66 xs, gg_72, pp_120, dd 60 Ln, 60, 1419)) (am_tna rfl rfl (by decide) (by decide) (by decide) (by decide) (by decide) (dd_s rfl) rfl) ?_
  refine Eq.trans (b := am_runs (0, 12, [.ref 58, .ref 23], []) (ff_66 xs, gg_72, pp_121, dd 60 Ln, 60, 1419)) (rr_pr rfl (dd_k (by decide) rfl) rfl) ?_
  refine (am_bl 2 (f' := (0, 15, [.ref 58, .ref 23], [.int 8, .ref 58])) rfl).trans ?_
  refine Eq.trans (b := am_runs (0, 17, [.ref 58, .ref 23], [.ref 60, .ref 58]) (ff_67 xs, gg_73, pp_122, dd 61 Ln, 61, 1427)) (am_tna rfl rfl (by decide) (by decide) (by decide) (by decide) (by decide) (dd_s rfl) rfl) ?_
  refine Eq.trans (b := am_runs (0, 20, [.ref 58, .ref 23], []) (ff_67 xs, gg_73, pp_123, dd 61 Ln, 61, 1427)) (rr_pr rfl (dd_k (by decide) rfl) rfl) ?_
  refine (am_bl 2 (f' := (0, 23, [.ref 58, .ref 23], [.int 8, .ref 58])) rfl).trans ?_
  refine Eq.trans (b := am_runs (0, 25, [.ref 58, .ref 23], [.ref 61, .ref 58]) (ff_68 xs, gg_74, pp_124, dd 62 Ln, 62, 1435)) (am_tna rfl rfl (by decide) (by decide) (by decide) (by decide) (by decide) (dd_s rfl) rfl) ?_
  refine Eq.trans (b := am_runs (0, 28, [.ref 58, .ref 23], []) (ff_68 xs, gg_74, pp_125, dd 62 Ln, 62, 1435)) (rr_pr rfl (dd_k (by decide) rfl) rfl) ?_
  refine (am_bl 2 (f' := (0, 30, [.ref 58, .ref 23], [.int 3, .ref 58])) rfl).trans ?_
  refine Eq.trans (b := am_runs (0, 32, [.ref 58, .ref 23], [.ref 62, .ref 58]) (ff_69 xs, gg_75, pp_126, dd 63 Ln, 63, 1438)) (am_tna rfl rfl (by decide) (by decide) (by decide) (by decide) (by decide) (dd_s rfl) rfl) ?_
  refine Eq.trans (b := am_runs (0, 35, [.ref 58, .ref 23], []) (ff_69 xs, gg_75, pp_127, dd 63 Ln, 63, 1438)) (rr_pr rfl (dd_k (by decide) rfl) rfl) ?_
  refine (am_bl 2 (f' := (0, 37, [.ref 58, .ref 23], [.ref 23, .ref 58])) rfl).trans ?_
  refine Eq.trans (b := am_runs (0, 40, [.ref 58, .ref 23], []) (ff_69 xs, gg_75, pp_128, dd 63 Ln, 63, 1438)) (rr_pr rfl (dd_k (by decide) rfl) rfl) ?_
  exact am_gr rfl rfl rfl
set_option maxRecDepth 10000 in
theorem kc_18 (xs : Nat → Int32) (Ln : Nat) : am_runs (am_en 0 [.ref 63, .ref 23]) (ff_70 xs, gg_76, pp_130, dd 64 Ln, 64, 1446) = some (none, (ff_74 xs, gg_80, pp_139, dd 68 Ln, 68, 1473)) := by
  show am_runs (0, 0, [.ref 63, .ref 23], []) (ff_70 xs, gg_76, pp_130, dd 64 Ln, 64, 1446) = _
  refine (am_bl 1 (f' := (0, 1, [.ref 63, .ref 23], [.ref 63])) rfl).trans ?_
  refine Eq.trans (b := am_runs (0, 4, [.ref 63, .ref 23], []) (ff_70 xs, gg_76, pp_130, dd 64 Ln, 64, 1446)) (am_goi rfl rfl) ?_
  refine (am_bl 2 (f' := (0, 7, [.ref 63, .ref 23], [.int 8, .ref 63])) rfl).trans ?_
  refine Eq.trans (b := am_runs (0, 9, [.ref 63, .ref 23], [.ref 64, .ref 63]) (ff_71 xs, gg_77, pp_131, dd 65 Ln, 65, 1454)) (am_tna rfl rfl (by decide) (by decide) (by decide) (by decide) (by decide) (dd_s rfl) rfl) ?_
  refine Eq.trans (b := am_runs (0, 12, [.ref 63, .ref 23], []) (ff_71 xs, gg_77, pp_132, dd 65 Ln, 65, 1454)) (rr_pr rfl (dd_k (by decide) rfl) rfl) ?_
  refine (am_bl 2 (f' := (0, 15, [.ref 63, .ref 23], [.int 8, .ref 63])) rfl).trans ?_
  refine Eq.trans (b := am_runs (0, 17, [.ref 63, .ref 23], [.ref 65, .ref 63]) (ff_72 xs, gg_78, pp_133, dd 66 Ln, 66, 1462)) (am_tna rfl rfl (by decide) (by decide) (by decide) (by decide) (by decide) (dd_s rfl) rfl) ?_
  refine Eq.trans (b := am_runs (0, 20, [.ref 63, .ref 23], []) (ff_72 xs, gg_78, pp_134, dd 66 Ln, 66, 1462)) (rr_pr rfl (dd_k (by decide) rfl) rfl) ?_
  refine (am_bl 2 (f' := (0, 23, [.ref 63, .ref 23], [.int 8, .ref 63])) rfl).trans ?_
  refine Eq.trans (b := am_runs (0, 25, [.ref 63, .ref 23], [.ref 66, .ref 63]) (ff_73 xs, gg_79, pp_135, dd 67 Ln, 67, 1470)) (am_tna rfl rfl (by decide) (by decide) (by decide) (by decide) (by decide) (dd_s rfl) rfl) ?_
  refine Eq.trans (b := am_runs (0, 28, [.ref 63, .ref 23], []) (ff_73 xs, gg_79, pp_136, dd 67 Ln, 67, 1470)) (rr_pr rfl (dd_k (by decide) rfl) rfl) ?_
  refine (am_bl 2 (f' := (0, 30, [.ref 63, .ref 23], [.int 3, .ref 63])) rfl).trans ?_
  refine Eq.trans (b := am_runs (0, 32, [.ref 63, .ref 23], [.ref 67, .ref 63]) (ff_74 xs, gg_80, pp_137, dd 68 Ln, 68, 1473)) (am_tna rfl rfl (by decide) (by decide) (by decide) (by decide) (by decide) (dd_s rfl) rfl) ?_
  refine Eq.trans (b := am_runs (0, 35, [.ref 63, .ref 23], []) (ff_74 xs, gg_80, pp_138, dd 68 Ln, 68, 1473)) (rr_pr rfl (dd_k (by decide) rfl) rfl) ?_
  refine (am_bl 2 (f' := (0, 37, [.ref 63, .ref 23], [.ref 23, .ref 63])) rfl).trans ?_
  refine Eq.trans (b := am_runs (0, 40, [.ref 63, .ref 23], []) (ff_74 xs, gg_80, pp_139, dd 68 Ln, 68, 1473)) (rr_pr rfl (dd_k (by decide) rfl) rfl) ?_
  exact am_gr rfl rfl rfl
set_option maxRecDepth 10000 in
theorem kc_19 (xs : Nat → Int32) (Ln : Nat) : am_runs (am_en 0 [.ref 68, .ref 23]) (ff_75 xs, gg_81, pp_141, dd 69 Ln, 69, 1481) = some (none, (ff_79 xs, gg_85, pp_150, dd 73 Ln, 73, 1508)) := by
  show am_runs (0, 0, [.ref 68, .ref 23], []) (ff_75 xs, gg_81, pp_141, dd 69 Ln, 69, 1481) = _
  refine (am_bl 1 (f' := (0, 1, [.ref 68, .ref 23], [.ref 68])) rfl).trans ?_
  refine Eq.trans (b := am_runs (0, 4, [.ref 68, .ref 23], []) (ff_75 xs, gg_81, pp_141, dd 69 Ln, 69, 1481)) (am_goi rfl rfl) ?_
  refine (am_bl 2 (f' := (0, 7, [.ref 68, .ref 23], [.int 8, .ref 68])) rfl).trans ?_
  refine Eq.trans (b := am_runs (0, 9, [.ref 68, .ref 23], [.ref 69, .ref 68]) (ff_76 xs, gg_82, pp_142, dd 70 Ln, 70, 1489)) (am_tna rfl rfl (by decide) (by decide) (by decide) (by decide) (by decide) (dd_s rfl) rfl) ?_
  refine Eq.trans (b := am_runs (0, 12, [.ref 68, .ref 23], []) (ff_76 xs, gg_82, pp_143, dd 70 Ln, 70, 1489)) (rr_pr rfl (dd_k (by decide) rfl) rfl) ?_
  refine (am_bl 2 (f' := (0, 15, [.ref 68, .ref 23], [.int 8, .ref 68])) rfl).trans ?_
  refine Eq.trans (b := am_runs (0, 17, [.ref 68, .ref 23], [.ref 70, .ref 68]) (ff_77 xs, gg_83, pp_144, dd 71 Ln, 71, 1497)) (am_tna rfl rfl (by decide) (by decide) (by decide) (by decide) (by decide) (dd_s rfl) rfl) ?_
  refine Eq.trans (b := am_runs (0, 20, [.ref 68, .ref 23], []) (ff_77 xs, gg_83, pp_145, dd 71 Ln, 71, 1497)) (rr_pr rfl (dd_k (by decide) rfl) rfl) ?_
  refine (am_bl 2 (f' := (0, 23, [.ref 68, .ref 23], [.int 8, .ref 68])) rfl).trans ?_
  refine Eq.trans (b := am_runs (0, 25, [.ref 68, .ref 23], [.ref 71, .ref 68]) (ff_78 xs, gg_84, pp_146, dd 72 Ln, 72, 1505)) (am_tna rfl rfl (by decide) (by decide) (by decide) (by decide) (by decide) (dd_s rfl) rfl) ?_
  refine Eq.trans (b := am_runs (0, 28, [.ref 68, .ref 23], []) (ff_78 xs, gg_84, pp_147, dd 72 Ln, 72, 1505)) (rr_pr rfl (dd_k (by decide) rfl) rfl) ?_
  refine (am_bl 2 (f' := (0, 30, [.ref 68, .ref 23], [.int 3, .ref 68])) rfl).trans ?_
  refine Eq.trans (b := am_runs (0, 32, [.ref 68, .ref 23], [.ref 72, .ref 68]) (ff_79 xs, gg_85, pp_148, dd 73 Ln, 73, 1508)) (am_tna rfl rfl (by decide) (by decide) (by decide) (by decide) (by decide) (dd_s rfl) rfl) ?_
  refine Eq.trans (b := am_runs (0, 35, [.ref 68, .ref 23], []) (ff_79 xs, gg_85, pp_149, dd 73 Ln, 73, 1508)) (rr_pr rfl (dd_k (by decide) rfl) rfl) ?_
  refine (am_bl 2 (f' := (0, 37, [.ref 68, .ref 23], [.ref 23, .ref 68])) rfl).trans ?_
  refine Eq.trans (b := am_runs (0, 40, [.ref 68, .ref 23], []) (ff_79 xs, gg_85, pp_150, dd 73 Ln, 73, 1508)) (rr_pr rfl (dd_k (by decide) rfl) rfl) ?_
  exact am_gr rfl rfl rfl
set_option maxRecDepth 10000 in
theorem kc_20 (xs : Nat → Int32) (Ln : Nat) : am_runs (am_en 0 [.ref 73, .ref 23]) (ff_80 xs, gg_86, pp_152, dd 74 Ln, 74, 1516) = some (none, (ff_84 xs, gg_90, pp_161, dd 78 Ln, 78, 1543)) := by
  show am_runs (0, 0, [.ref 73, .ref 23], []) (ff_80 xs, gg_86, pp_152, dd 74 Ln, 74, 1516) = _
  refine (am_bl 1 (f' := (0, 1, [.ref 73, .ref 23], [.ref 73])) rfl).trans ?_
  refine Eq.trans (b := am_runs (0, 4, [.ref 73, .ref 23], []) (ff_80 xs, gg_86, pp_152, dd 74 Ln, 74, 1516)) (am_goi rfl rfl) ?_
  refine (am_bl 2 (f' := (0, 7, [.ref 73, .ref 23], [.int 8, .ref 73])) rfl).trans ?_
  refine Eq.trans (b := am_runs (0, 9, [.ref 73, .ref 23], [.ref 74, .ref 73]) (ff_81 xs, gg_87, pp_153, dd 75 Ln, 75, 1524)) (am_tna rfl rfl (by decide) (by decide) (by decide) (by decide) (by decide) (dd_s rfl) rfl) ?_
  refine Eq.trans (b := am_runs (0, 12, [.ref 73, .ref 23], []) (ff_81 xs, gg_87, pp_154, dd 75 Ln, 75, 1524)) (rr_pr rfl (dd_k (by decide) rfl) rfl) ?_
  refine (am_bl 2 (f' := (0, 15, [.ref 73, .ref 23], [.int 8, .ref 73])) rfl).trans ?_
  refine Eq.trans (b := am_runs (0, 17, [.ref 73, .ref 23], [.ref 75, .ref 73]) (ff_82 xs, gg_88, pp_155, dd 76 Ln, 76, 1532)) (am_tna rfl rfl (by decide) (by decide) (by decide) (by decide) (by decide) (dd_s rfl) rfl) ?_
  refine Eq.trans (b := am_runs (0, 20, [.ref 73, .ref 23], []) (ff_82 xs, gg_88, pp_156, dd 76 Ln, 76, 1532)) (rr_pr rfl (dd_k (by decide) rfl) rfl) ?_
  refine (am_bl 2 (f' := (0, 23, [.ref 73, .ref 23], [.int 8, .ref 73])) rfl).trans ?_
  refine Eq.trans (b := am_runs (0, 25, [.ref 73, .ref 23], [.ref 76, .ref 73]) (ff_83 xs, gg_89, pp_157, dd 77 Ln, 77, 1540)) (am_tna rfl rfl (by decide) (by decide) (by decide) (by decide) (by decide) (dd_s rfl) rfl) ?_
  refine Eq.trans (b := am_runs (0, 28, [.ref 73, .ref 23], []) (ff_83 xs, gg_89, pp_158, dd 77 Ln, 77, 1540)) (rr_pr rfl (dd_k (by decide) rfl) rfl) ?_
  refine (am_bl 2 (f' := (0, 30, [.ref 73, .ref 23], [.int 3, .ref 73])) rfl).trans ?_
  refine Eq.trans (b := am_runs (0, 32, [.ref 73, .ref 23], [.ref 77, .ref 73]) (ff_84 xs, gg_90, pp_159, dd 78 Ln, 78, 1543)) (am_tna rfl rfl (by decide) (by decide) (by decide) (by decide) (by decide) (dd_s rfl) rfl) ?_
  refine Eq.trans (b := am_runs (0, 35, [.ref 73, .ref 23], []) (ff_84 xs, gg_90, pp_160, dd 78 Ln, 78, 1543)) (rr_pr rfl (dd_k (by decide) rfl) rfl) ?_
  refine (am_bl 2 (f' := (0, 37, [.ref 73, .ref 23], [.ref 23, .ref 73])) rfl).trans ?_
  refine Eq.trans (b := am_runs (0, 40, [.ref 73, .ref 23], []) (ff_84 xs, gg_90, pp_161, dd 78 Ln, 78, 1543)) (rr_pr rfl (dd_k (by decide) rfl) rfl) ?_
  exact am_gr rfl rfl rfl
set_option maxRecDepth 10000 in
theorem kc_21 (xs : Nat → Int32) (Ln : Nat) : am_runs (am_en 0 [.ref 78, .ref 23]) (ff_85 xs, gg_91, pp_163, dd 79 Ln, 79, 1551) = some (none, (ff_89 xs, gg_95, pp_172, dd 83 Ln, 83, 1578)) := by
  show am_runs (0, 0, [.ref 78, .ref 23], []) (ff_85 xs, gg_91, pp_163, dd 79 Ln, 79, 1551) = _
  refine (am_bl 1 (f' := (0, 1, [.ref 78, .ref 23], [.ref 78])) rfl).trans ?_
  refine Eq.trans (b := am_runs (0, 4, [.ref 78, .ref 23], []) (ff_85 xs, gg_91, pp_163, dd 79 Ln, 79, 1551)) (am_goi rfl rfl) ?_
  refine (am_bl 2 (f' := (0, 7, [.ref 78, .ref 23], [.int 8, .ref 78])) rfl).trans ?_
  refine Eq.trans (b := am_runs (0, 9, [.ref 78, .ref 23], [.ref 79, .ref 78]) (ff_86 xs, gg_92, pp_164, dd 80 Ln, 80, 1559)) (am_tna rfl rfl (by decide) (by decide) (by decide) (by decide) (by decide) (dd_s rfl) rfl) ?_
  refine Eq.trans (b := am_runs (0, 12, [.ref 78, .ref 23], []) (ff_86 xs, gg_92, pp_165, dd 80 Ln, 80, 1559)) (rr_pr rfl (dd_k (by decide) rfl) rfl) ?_
  refine (am_bl 2 (f' := (0, 15, [.ref 78, .ref 23], [.int 8, .ref 78])) rfl).trans ?_
  refine Eq.trans (b := am_runs (0, 17, [.ref 78, .ref 23], [.ref 80, .ref 78]) (ff_87 xs, gg_93, pp_166, dd 81 Ln, 81, 1567)) (am_tna rfl rfl (by decide) (by decide) (by decide) (by decide) (by decide) (dd_s rfl) rfl) ?_
  refine Eq.trans (b := am_runs (0, 20, [.ref 78, .ref 23], []) (ff_87 xs, gg_93, pp_167, dd 81 Ln, 81, 1567)) (rr_pr rfl (dd_k (by decide) rfl) rfl) ?_
  refine (am_bl 2 (f' := (0, 23, [.ref 78, .ref 23], [.int 8, .ref 78])) rfl).trans ?_
  refine Eq.trans (b := am_runs (0, 25, [.ref 78, .ref 23], [.ref 81, .ref 78]) (ff_88 xs, gg_94, pp_168, dd 82 Ln, 82, 1575)) (am_tna rfl rfl (by decide) (by decide) (by decide) (by decide) (by decide) (dd_s rfl) rfl) ?_
  refine Eq.trans (b := am_runs (0, 28, [.ref 78, .ref 23], []) (ff_88 xs, gg_94, pp_169, dd 82 Ln, 82, 1575)) (rr_pr rfl (dd_k (by decide) rfl) rfl) ?_
  refine (am_bl 2 (f' := (0, 30, [.ref 78, .ref 23], [.int 3, .ref 78])) rfl).trans ?_
  refine Eq.trans (b := am_runs (0, 32, [.ref 78, .ref 23], [.ref 82, .ref 78]) (ff_89 xs, gg_95, pp_170, dd 83 Ln, 83, 1578)) (am_tna rfl rfl (by decide) (by decide) (by decide) (by decide) (by decide) (dd_s rfl) rfl) ?_
  refine Eq.trans (b := am_runs (0, 35, [.ref 78, .ref 23], []) (ff_89 xs, gg_95, pp_171, dd 83 Ln, 83, 1578)) (rr_pr rfl (dd_k (by decide) rfl) rfl) ?_
  refine (am_bl 2 (f' := (0, 37, [.ref 78, .ref 23], [.ref 23, .ref 78])) rfl).trans ?_
  refine Eq.trans (b := am_runs (0, 40, [.ref 78, .ref 23], []) (ff_89 xs, gg_95, pp_172, dd 83 Ln, 83, 1578)) (rr_pr rfl (dd_k (by decide) rfl) rfl) ?_
  exact am_gr rfl rfl rfl
set_option maxRecDepth 10000 in
theorem kc_22 (xs : Nat → Int32) (Ln : Nat) : am_runs (am_en 0 [.ref 83, .ref 23]) (ff_90 xs, gg_96, pp_174, dd 84 Ln, 84, 1586) = some (none, (ff_94 xs, gg_100, pp_183, dd 88 Ln, 88, 1613)) := by
  show am_runs (0, 0, [.ref 83, .ref 23], []) (ff_90 xs, gg_96, pp_174, dd 84 Ln, 84, 1586) = _
  refine (am_bl 1 (f' := (0, 1, [.ref 83, .ref 23], [.ref 83])) rfl).trans ?_
  refine Eq.trans (b := am_runs (0, 4, [.ref 83, .ref 23], []) (ff_90 xs, gg_96, pp_174, dd 84 Ln, 84, 1586)) (am_goi rfl rfl) ?_
  refine (am_bl 2 (f' := (0, 7, [.ref 83, .ref 23], [.int 8, .ref 83])) rfl).trans ?_
  refine Eq.trans (b := am_runs (0, 9, [.ref 83, .ref 23], [.ref 84, .ref 83]) (ff_91 xs, gg_97, pp_175, dd 85 Ln, 85, 1594)) (am_tna rfl rfl (by decide) (by decide) (by decide) (by decide) (by decide) (dd_s rfl) rfl) ?_
  refine Eq.trans (b := am_runs (0, 12, [.ref 83, .ref 23], []) (ff_91 xs, gg_97, pp_176, dd 85 Ln, 85, 1594)) (rr_pr rfl (dd_k (by decide) rfl) rfl) ?_
  refine (am_bl 2 (f' := (0, 15, [.ref 83, .ref 23], [.int 8, .ref 83])) rfl).trans ?_
  refine Eq.trans (b := am_runs (0, 17, [.ref 83, .ref 23], [.ref 85, .ref 83]) (ff_92 xs, gg_98, pp_177, dd 86 Ln, 86, 1602)) (am_tna rfl rfl (by decide) (by decide) (by decide) (by decide) (by decide) (dd_s rfl) rfl) ?_
  refine Eq.trans (b := am_runs (0, 20, [.ref 83, .ref 23], []) (ff_92 xs, gg_98, pp_178, dd 86 Ln, 86, 1602)) (rr_pr rfl (dd_k (by decide) rfl) rfl) ?_
  refine (am_bl 2 (f' := (0, 23, [.ref 83, .ref 23], [.int 8, .ref 83])) rfl).trans ?_
  refine Eq.trans (b := am_runs (0, 25, [.ref 83, .ref 23], [.ref 86, .ref 83]) (ff_93 xs, gg_99, pp_179, dd 87 Ln, 87, 1610)) (am_tna rfl rfl (by decide) (by decide) (by decide) (by decide) (by decide) (dd_s rfl) rfl) ?_
  refine Eq.trans (b := am_runs (0, 28, [.ref 83, .ref 23], []) (ff_93 xs, gg_99, pp_180, dd 87 Ln, 87, 1610)) (rr_pr rfl (dd_k (by decide) rfl) rfl) ?_
  refine (am_bl 2 (f' := (0, 30, [.ref 83, .ref 23], [.int 3, .ref 83])) rfl).trans ?_
  refine Eq.trans (b := am_runs (0, 32, [.ref 83, .ref 23], [.ref 87, .ref 83]) (ff_94 xs, gg_100, pp_181, dd 88 Ln, 88, 1613)) (am_tna rfl rfl (by decide) (by decide) (by decide) (by decide) (by decide) (dd_s rfl) rfl) ?_
  refine Eq.trans (b := am_runs (0, 35, [.ref 83, .ref 23], []) (ff_94 xs, gg_100, pp_182, dd 88 Ln, 88, 1613)) (rr_pr rfl (dd_k (by decide) rfl) rfl) ?_
  refine (am_bl 2 (f' := (0, 37, [.ref 83, .ref 23], [.ref 23, .ref 83])) rfl).trans ?_
  refine Eq.trans (b := am_runs (0, 40, [.ref 83, .ref 23], []) (ff_94 xs, gg_100, pp_183, dd 88 Ln, 88, 1613)) (rr_pr rfl (dd_k (by decide) rfl) rfl) ?_
  exact am_gr rfl rfl rfl
set_option maxRecDepth 10000 in
theorem kc_23 (xs : Nat → Int32) (Ln : Nat) : am_runs (am_en 0 [.ref 88, .ref 23]) (ff_95 xs, gg_101, pp_185, dd 89 Ln, 89, 1621) = some (none, (ff_99 xs, gg_105, pp_194, dd 93 Ln, 93, 1648)) := by
  show am_runs (0, 0, [.ref 88, .ref 23], []) (ff_95 xs, gg_101, pp_185, dd 89 Ln, 89, 1621) = _
  refine (am_bl 1 (f' := (0, 1, [.ref 88, .ref 23], [.ref 88])) rfl).trans ?_
  refine Eq.trans (b := am_runs (0, 4, [.ref 88, .ref 23], []) (ff_95 xs, gg_101, pp_185, dd 89 Ln, 89, 1621)) (am_goi rfl rfl) ?_
  refine (am_bl 2 (f' := (0, 7, [.ref 88, .ref 23], [.int 8, .ref 88])) rfl).trans ?_
  refine Eq.trans (b := am_runs (0, 9, [.ref 88, .ref 23], [.ref 89, .ref 88]) (ff_96 xs, gg_102, pp_186, dd 90 Ln, 90, 1629)) (am_tna rfl rfl (by decide) (by decide) (by decide) (by decide) (by decide) (dd_s rfl) rfl) ?_
  refine Eq.trans (b := am_runs (0, 12, [.ref 88, .ref 23], []) (ff_96 xs, gg_102, pp_187, dd 90 Ln, 90, 1629)) (rr_pr rfl (dd_k (by decide) rfl) rfl) ?_
  refine (am_bl 2 (f' := (0, 15, [.ref 88, .ref 23], [.int 8, .ref 88])) rfl).trans ?_
  refine Eq.trans (b := am_runs (0, 17, [.ref 88, .ref 23], [.ref 90, .ref 88]) (ff_97 xs, gg_103, pp_188, dd 91 Ln, 91, 1637)) (am_tna rfl rfl (by decide) (by decide) (by decide) (by decide) (by decide) (dd_s rfl) rfl) ?_
  refine Eq.trans (b := am_runs (0, 20, [.ref 88, .ref 23], []) (ff_97 xs, gg_103, pp_189, dd 91 Ln, 91, 1637)) (rr_pr rfl (dd_k (by decide) rfl) rfl) ?_
  refine (am_bl 2 (f' := (0, 23, [.ref 88, .ref 23], [.int 8, .ref 88])) rfl).trans ?_
  refine Eq.trans (b := am_runs (0, 25, [.ref 88, .ref 23], [.ref 91, .ref 88]) (ff_98 xs, gg_104, pp_190, dd 92 Ln, 92, 1645)) (am_tna rfl rfl (by decide) (by decide) (by decide) (by decide) (by decide) (dd_s rfl) rfl) ?_
  refine Eq.trans (b := am_runs (0, 28, [.ref 88, .ref 23], []) (ff_98 xs, gg_104, pp_191, dd 92 Ln, 92, 1645)) (rr_pr rfl (dd_k (by decide) rfl) rfl) ?_
  refine (am_bl 2 (f' := (0, 30, [.ref 88, .ref 23], [.int 3, .ref 88])) rfl).trans ?_
  refine Eq.trans (b := am_runs (0, 32, [.ref 88, .ref 23], [.ref 92, .ref 88]) (ff_99 xs, gg_105, pp_192, dd 93 Ln, 93, 1648)) (am_tna rfl rfl (by decide) (by decide) (by decide) (by decide) (by decide) (dd_s rfl) rfl) ?_
  refine Eq.trans (b := am_runs (0, 35, [.ref 88, .ref 23], []) (ff_99 xs, gg_105, pp_193, dd 93 Ln, 93, 1648)) (rr_pr rfl (dd_k (by decide) rfl) rfl) ?_
  refine (am_bl 2 (f' := (0, 37, [.ref 88, .ref 23], [.ref 23, .ref 88])) rfl).trans ?_
  refine Eq.trans (b := am_runs (0, 40, [.ref 88, .ref 23], []) (ff_99 xs, gg_105, pp_194, dd 93 Ln, 93, 1648)) (rr_pr rfl (dd_k (by decide) rfl) rfl) ?_
  exact am_gr rfl rfl rfl
set_option maxRecDepth 10000 in
theorem kc_24 (xs : Nat → Int32) (Ln : Nat) : am_runs (am_en 0 [.ref 93, .ref 23]) (ff_100 xs, gg_106, pp_196, dd 94 Ln, 94, 1656) = some (none, (ff_104 xs, gg_110, pp_205, dd 98 Ln, 98, 1683)) := by
  show am_runs (0, 0, [.ref 93, .ref 23], []) (ff_100 xs, gg_106, pp_196, dd 94 Ln, 94, 1656) = _
  refine (am_bl 1 (f' := (0, 1, [.ref 93, .ref 23], [.ref 93])) rfl).trans ?_
  refine Eq.trans (b := am_runs (0, 4, [.ref 93, .ref 23], []) (ff_100 xs, gg_106, pp_196, dd 94 Ln, 94, 1656)) (am_goi rfl rfl) ?_
  refine (am_bl 2 (f' := (0, 7, [.ref 93, .ref 23], [.int 8, .ref 93])) rfl).trans ?_
  refine Eq.trans (b := am_runs (0, 9, [.ref 93, .ref 23], [.ref 94, .ref 93]) (ff_101 xs, gg_107, pp_197, dd 95 Ln, 95, 1664)) (am_tna rfl rfl (by decide) (by decide) (by decide) (by decide) (by decide) (dd_s rfl) rfl) ?_
  refine Eq.trans (b := am_runs (0, 12, [.ref 93, .ref 23], []) (ff_101 xs, gg_107, pp_198, dd 95 Ln, 95, 1664)) (rr_pr rfl (dd_k (by decide) rfl) rfl) ?_
  refine (am_bl 2 (f' := (0, 15, [.ref 93, .ref 23], [.int 8, .ref 93])) rfl).trans ?_
  refine Eq.trans (b := am_runs (0, 17, [.ref 93, .ref 23], [.ref 95, .ref 93]) (ff_102 xs, gg_108, pp_199, dd 96 Ln, 96, 1672)) (am_tna rfl rfl (by decide) (by decide) (by decide) (by decide) (by decide) (dd_s rfl) rfl) ?_
  refine Eq.trans (b := am_runs (0, 20, [.ref 93, .ref 23], []) (ff_102 xs, gg_108, pp_200, dd 96 Ln, 96, 1672)) (rr_pr rfl (dd_k (by decide) rfl) rfl) ?_
  refine (am_bl 2 (f' := (0, 23, [.ref 93, .ref 23], [.int 8, .ref 93])) rfl).trans ?_
  refine Eq.trans (b := am_runs (0, 25, [.ref 93, .ref 23], [.ref 96, .ref 93]) (ff_103 xs, gg_109, pp_201, dd 97 Ln, 97, 1680)) (am_tna rfl rfl (by decide) (by decide) (by decide) (by decide) (by decide) (dd_s rfl) rfl) ?_
  refine Eq.trans (b := am_runs (0, 28, [.ref 93, .ref 23], []) (ff_103 xs, gg_109, pp_202, dd 97 Ln, 97, 1680)) (rr_pr rfl (dd_k (by decide) rfl) rfl) ?_
  refine (am_bl 2 (f' := (0, 30, [.ref 93, .ref 23], [.int 3, .ref 93])) rfl).trans ?_
  refine Eq.trans (b := am_runs (0, 32, [.ref 93, .ref 23], [.ref 97, .ref 93]) (ff_104 xs, gg_110, pp_203, dd 98 Ln, 98, 1683)) (am_tna rfl rfl (by decide) (by decide) (by decide) (by decide) (by decide) (dd_s rfl) rfl) ?_
  refine Eq.trans (b := am_runs (0, 35, [.ref 93, .ref 23], []) (ff_104 xs, gg_110, pp_204, dd 98 Ln, 98, 1683)) (rr_pr rfl (dd_k (by decide) rfl) rfl) ?_
  refine (am_bl 2 (f' := (0, 37, [.ref 93, .ref 23], [.ref 23, .ref 93])) rfl).trans ?_
  refine Eq.trans (b := am_runs (0, 40, [.ref 93, .ref 23], []) (ff_104 xs, gg_110, pp_205, dd 98 Ln, 98, 1683)) (rr_pr rfl (dd_k (by decide) rfl) rfl) ?_
  exact am_gr rfl rfl rfl
set_option maxRecDepth 10000 in
theorem kc_25 (xs : Nat → Int32) (Ln : Nat) : am_runs (am_en 0 [.ref 98, .ref 23]) (ff_105 xs, gg_111, pp_207, dd 99 Ln, 99, 1691) = some (none, (ff_109 xs, gg_115, pp_216, dd 103 Ln, 103, 1718)) := by
  show am_runs (0, 0, [.ref 98, .ref 23], []) (ff_105 xs, gg_111, pp_207, dd 99 Ln, 99, 1691) = _
  refine (am_bl 1 (f' := (0, 1, [.ref 98, .ref 23], [.ref 98])) rfl).trans ?_
  refine Eq.trans (b := am_runs (0, 4, [.ref 98, .ref 23], []) (ff_105 xs, gg_111, pp_207, dd 99 Ln, 99, 1691)) (am_goi rfl rfl) ?_
  refine (am_bl 2 (f' := (0, 7, [.ref 98, .ref 23], [.int 8, .ref 98])) rfl).trans ?_
  refine Eq.trans (b := am_runs (0, 9, [.ref 98, .ref 23], [.ref 99, .ref 98]) (ff_106 xs, gg_112, pp_208, dd 100 Ln, 100, 1699)) (am_tna rfl rfl (by decide) (by decide) (by decide) (by decide) (by decide) (dd_s rfl) rfl) ?_
  refine Eq.trans (b := am_runs (0, 12, [.ref 98, .ref 23], []) (ff_106 xs, gg_112, pp_209, dd 100 Ln, 100, 1699)) (rr_pr rfl (dd_k (by decide) rfl) rfl) ?_
  refine (am_bl 2 (f' := (0, 15, [.ref 98, .ref 23], [.int 8, .ref 98])) rfl).trans ?_
  refine Eq.trans (b := am_runs (0, 17, [.ref 98, .ref 23], [.ref 100, .ref 98]) (ff_107 xs, gg_113, pp_210, dd 101 Ln, 101, 1707)) (am_tna rfl rfl (by decide) (by decide) (by decide) (by decide) (by decide) (dd_s rfl) rfl) ?_
  refine Eq.trans (b := am_runs (0, 20, [.ref 98, .ref 23], []) (ff_107 xs, gg_113, pp_211, dd 101 Ln, 101, 1707)) (rr_pr rfl (dd_k (by decide) rfl) rfl) ?_
  refine (am_bl 2 (f' := (0, 23, [.ref 98, .ref 23], [.int 8, .ref 98])) rfl).trans ?_
  refine Eq.trans (b := am_runs (0, 25, [.ref 98, .ref 23], [.ref 101, .ref 98]) (ff_108 xs, gg_114, pp_212, dd 102 Ln, 102, 1715)) (am_tna rfl rfl (by decide) (by decide) (by decide) (by decide) (by decide) (dd_s rfl) rfl) ?_
  refine Eq.trans (b := am_runs (0, 28, [.ref 98, .ref 23], []) (ff_108 xs, gg_114, pp_213, dd 102 Ln, 102, 1715)) (rr_pr rfl (dd_k (by decide) rfl) rfl) ?_
  refine (am_bl 2 (f' := (0, 30, [.ref 98, .ref 23], [.int 3, .ref 98])) rfl).trans ?_
  refine Eq.trans (b := am_runs (0, 32, [.ref 98, .ref 23], [.ref 102, .ref 98]) (ff_109 xs, gg_115, pp_214, dd 103 Ln, 103, 1718)) (am_tna rfl rfl (by decide) (by decide) (by decide) (by decide) (by decide) (dd_s rfl) rfl) ?_
  refine Eq.trans (b := am_runs (0, 35, [.ref 98, .ref 23], []) (ff_109 xs, gg_115, pp_215, dd 103 Ln, 103, 1718)) (rr_pr rfl (dd_k (by decide) rfl) rfl) ?_
  refine (am_bl 2 (f' := (0, 37, [.ref 98, .ref 23], [.ref 23, .ref 98])) rfl).trans ?_
  refine Eq.trans (b := am_runs (0, 40, [.ref 98, .ref 23], []) (ff_109 xs, gg_115, pp_216, dd 103 Ln, 103, 1718)) (rr_pr rfl (dd_k (by decide) rfl) rfl) ?_
  exact am_gr rfl rfl rfl
set_option maxRecDepth 10000 in
theorem kc_26 (xs : Nat → Int32) (Ln : Nat) : am_runs (am_en 0 [.ref 103, .ref 23]) (ff_110 xs, gg_116, pp_218, dd 104 Ln, 104, 1726) = some (none, (ff_114 xs, gg_120, pp_227, dd 108 Ln, 108, 1753)) := by
  show am_runs (0, 0, [.ref 103, .ref 23], []) (ff_110 xs, gg_116, pp_218, dd 104 Ln, 104, 1726) = _
  refine (am_bl 1 (f' := (0, 1, [.ref 103, .ref 23], [.ref 103])) rfl).trans ?_
  refine Eq.trans (b := am_runs (0, 4, [.ref 103, .ref 23], []) (ff_110 xs, gg_116, pp_218, dd 104 Ln, 104, 1726)) (am_goi rfl rfl) ?_
  refine (am_bl 2 (f' := (0, 7, [.ref 103, .ref 23], [.int 8, .ref 103])) rfl).trans ?_
  refine Eq.trans (b := am_runs (0, 9, [.ref 103, .ref 23], [.ref 104, .ref 103]) (ff_111 xs, gg_117, pp_219, dd 105 Ln, 105, 1734)) (am_tna rfl rfl (by decide) (by decide) (by decide) (by decide) (by decide) (dd_s rfl) rfl) ?_
  refine Eq.trans (b := am_runs (0, 12, [.ref 103, .ref 23], []) (ff_111 xs, gg_117, pp_220, dd 105 Ln, 105, 1734)) (rr_pr rfl (dd_k (by decide) rfl) rfl) ?_
  refine (am_bl 2 (f' := (0, 15, [.ref 103, .ref 23], [.int 8, .ref 103])) rfl).trans ?_
  refine Eq.trans (b := am_runs (0, 17, [.ref 103, .ref 23], [.ref 105, .ref 103]) (ff_112 xs, gg_118, pp_221, dd 106 Ln, 106, 1742)) (am_tna rfl rfl (by decide) (by decide) (by decide) (by decide) (by decide) (dd_s rfl) rfl) ?_
  refine Eq.trans (b := am_runs (0, 20, [.ref 103, .ref 23], []) (ff_112 xs, gg_118, pp_222, dd 106 Ln, 106, 1742)) (rr_pr rfl (dd_k (by decide) rfl) rfl) ?_
  refine (am_bl 2 (f' := (0, 23, [.ref 103, .ref 23], [.int 8, .ref 103])) rfl).trans ?_
  refine Eq.trans (b := am_runs (0, 25, [.ref 103, .ref 23], [.ref 106, .ref 103]) (ff_113 xs, gg_119, pp_223, dd 107 Ln, 107, 1750)) (am_tna rfl rfl (by decide) (by decide) (by decide) (by decide) (by decide) (dd_s rfl) rfl) ?_
  refine Eq.trans (b := am_runs (0, 28, [.ref 103, .ref 23], []) (ff_113 xs, gg_119, pp_224, dd 107 Ln, 107, 1750)) (rr_pr rfl (dd_k (by decide) rfl) rfl) ?_
  refine (am_bl 2 (f' := (0, 30, [.ref 103, .ref 23], [.int 3, .ref 103])) rfl).trans ?_
  refine Eq.trans (b := am_runs (0, 32, [.ref 103, .ref 23], [.ref 107, .ref 103]) (ff_114 xs, gg_120, pp_225, dd 108 Ln, 108, 1753)) (am_tna rfl rfl (by decide) (by decide) (by decide) (by decide) (by decide) (dd_s rfl) rfl) ?_
  refine Eq.trans (b := am_runs (0, 35, [.ref 103, .ref 23], []) (ff_114 xs, gg_120, pp_226, dd 108 Ln, 108, 1753)) (rr_pr rfl (dd_k (by decide) rfl) rfl) ?_
  refine (am_bl 2 (f' := (0, 37, [.ref 103, .ref 23], [.ref 23, .ref 103])) rfl).trans ?_
  refine Eq.trans (b := am_runs (0, 40, [.ref 103, .ref 23], []) (ff_114 xs, gg_120, pp_227, dd 108 Ln, 108, 1753)) (rr_pr rfl (dd_k (by decide) rfl) rfl) ?_
  exact am_gr rfl rfl rfl
set_option maxRecDepth 10000 in
theorem kc_27 (xs : Nat → Int32) (Ln : Nat) : am_runs (am_en 0 [.ref 108, .ref 23]) (ff_115 xs, gg_121, pp_229, dd 109 Ln, 109, 1761) = some (none, (ff_119 xs, gg_125, pp_238, dd 113 Ln, 113, 1788)) := by
  show am_runs (0, 0, [.ref 108, .ref 23], []) (ff_115 xs, gg_121, pp_229, dd 109 Ln, 109, 1761) = _
  refine (am_bl 1 (f' := (0, 1, [.ref 108, .ref 23], [.ref 108])) rfl).trans ?_
  refine Eq.trans (b := am_runs (0, 4, [.ref 108, .ref 23], []) (ff_115 xs, gg_121, pp_229, dd 109 Ln, 109, 1761)) (am_goi rfl rfl) ?_
  refine (am_bl 2 (f' := (0, 7, [.ref 108, .ref 23], [.int 8, .ref 108])) rfl).trans ?_
  refine Eq.trans (b := am_runs (0, 9, [.ref 108, .ref 23], [.ref 109, .ref 108]) (ff_116 xs, gg_122, pp_230, dd 110 Ln, 110, 1769)) (am_tna rfl rfl (by decide) (by decide) (by decide) (by decide) (by decide) (dd_s rfl) rfl) ?_
  refine Eq.trans (b := am_runs (0, 12, [.ref 108, .ref 23], []) (ff_116 xs, gg_122, pp_231, dd 110 Ln, 110, 1769)) (rr_pr rfl (dd_k (by decide) rfl) rfl) ?_
  refine (am_bl 2 (f' := (0, 15, [.ref 108, .ref 23], [.int 8, .ref 108])) rfl).trans ?_
  refine Eq.trans (b := am_runs (0, 17, [.ref 108, .ref 23], [.ref 110, .ref 108]) (ff_117 xs, gg_123, pp_232, dd 111 Ln, 111, 1777)) (am_tna rfl rfl (by decide) (by decide) (by decide) (by decide) (by decide) (dd_s rfl) rfl) ?_
  refine Eq.trans (b := am_runs (0, 20, [.ref 108, .ref 23], []) (ff_117 xs, gg_123, pp_233, dd 111 Ln, 111, 1777)) (rr_pr rfl (dd_k (by decide) rfl) rfl) ?_
  refine (am_bl 2 (f' := (0, 23, [.ref 108, .ref 23], [.int 8, .ref 108])) rfl).trans ?_
  refine Eq.trans (b := am_runs (0, 25, [.ref 108, .ref 23], [.ref 111, .ref 108]) (ff_118 xs, gg_124, pp_234, dd 112 Ln, 112, 1785)) (am_tna rfl rfl (by decide) (by decide) (by decide) (by decide) (by decide) (dd_s rfl) rfl) ?_
  refine Eq.trans (b := am_runs (0, 28, [.ref 108, .ref 23], []) (ff_118 xs, gg_124, pp_235, dd 112 Ln, 112, 1785)) (rr_pr rfl (dd_k (by decide) rfl) rfl) ?_
  refine (am_bl 2 (f' := (0, 30, [.ref 108, .ref 23], [.int 3, .ref 108])) rfl).trans ?_
  refine Eq.trans (b := am_runs (0, 32, [.ref 108, .ref 23], [.ref 112, .ref 108]) (ff_119 xs, gg_125, pp_236, dd 113 Ln, 113, 1788)) (am_tna rfl rfl (by decide) (by decide) (by decide) (by decide) (by decide) (dd_s rfl) rfl) ?_
  refine Eq.trans (b := am_runs (0, 35, [.ref 108, .ref 23], []) (ff_119 xs, gg_125, pp_237, dd 113 Ln, 113, 1788)) (rr_pr rfl (dd_k (by decide) rfl) rfl) ?_
  refine (am_bl 2 (f' := (0, 37, [.ref 108, .ref 23], [.ref 23, .ref 108])) rfl).trans ?_
  refine Eq.trans (b := am_runs (0, 40, [.ref 108, .ref 23], []) (ff_119 xs, gg_125, pp_238, dd 113 Ln, 113, 1788)) (rr_pr rfl (dd_k (by decide) rfl) rfl) ?_
  exact am_gr rfl rfl rfl
set_option maxRecDepth 10000 in
theorem kc_28 (xs : Nat → Int32) (Ln : Nat) : am_runs (am_en 0 [.ref 113, .ref 23]) (ff_120 xs, gg_126, pp_240, dd 114 Ln, 114, 1796) = some (none, (ff_124 xs, gg_130, pp_249, dd 118 Ln, 118, 1823)) := by
  show am_runs (0, 0, [.ref 113, .ref 23], []) (ff_120 xs, gg_126, pp_240, dd 114 Ln, 114, 1796) = _
  refine (am_bl 1 (f' := (0, 1, [.ref 113, .ref 23], [.ref 113])) rfl).trans ?_
  refine Eq.trans (b := am_runs (0, 4, [.ref 113, .ref 23], []) (ff_120 xs, gg_126, pp_240, dd 114 Ln, 114, 1796)) (am_goi rfl rfl) ?_
  refine (am_bl 2 (f' := (0, 7, [.ref 113, .ref 23], [.int 8, .ref 113])) rfl).trans ?_
  refine Eq.trans (b := am_runs (0, 9, [.ref 113, .ref 23], [.ref 114, .ref 113]) (ff_121 xs, gg_127, pp_241, dd 115 Ln, 115, 1804)) (am_tna rfl rfl (by decide) (by decide) (by decide) (by decide) (by decide) (dd_s rfl) rfl) ?_
  refine Eq.trans (b := am_runs (0, 12, [.ref 113, .ref 23], []) (ff_121 xs, gg_127, pp_242, dd 115 Ln, 115, 1804)) (rr_pr rfl (dd_k (by decide) rfl) rfl) ?_
  refine (am_bl 2 (f' := (0, 15, [.ref 113, .ref 23], [.int 8, .ref 113])) rfl).trans ?_
  refine Eq.trans (b := am_runs (0, 17, [.ref 113, .ref 23], [.ref 115, .ref 113]) (ff_122 xs, gg_128, pp_243, dd 116 Ln, 116, 1812)) (am_tna rfl rfl (by decide) (by decide) (by decide) (by decide) (by decide) (dd_s rfl) rfl) ?_
  refine Eq.trans (b := am_runs (0, 20, [.ref 113, .ref 23], []) (ff_122 xs, gg_128, pp_244, dd 116 Ln, 116, 1812)) (rr_pr rfl (dd_k (by decide) rfl) rfl) ?_
  refine (am_bl 2 (f' := (0, 23, [.ref 113, .ref 23], [.int 8, .ref 113])) rfl).trans ?_
  refine Eq.trans (b := am_runs (0, 25, [.ref 113, .ref 23], [.ref 116, .ref 113]) (ff_123 xs, gg_129, pp_245, dd 117 Ln, 117, 1820)) (am_tna rfl rfl (by decide) (by decide) (by decide) (by decide) (by decide) (dd_s rfl) rfl) ?_
  refine Eq.trans (b := am_runs (0, 28, [.ref 113, .ref 23], []) (ff_123 xs, gg_129, pp_246, dd 117 Ln, 117, 1820)) (rr_pr rfl (dd_k (by decide) rfl) rfl) ?_
  refine (am_bl 2 (f' := (0, 30, [.ref 113, .ref 23], [.int 3, .ref 113])) rfl).trans ?_
  refine Eq.trans (b := am_runs (0, 32, [.ref 113, .ref 23], [.ref 117, .ref 113]) (ff_124 xs, gg_130, pp_247, dd 118 Ln, 118, 1823)) (am_tna rfl rfl (by decide) (by decide) (by decide) (by decide) (by decide) (dd_s rfl) rfl) ?_
  refine Eq.trans (b := am_runs (0, 35, [.ref 113, .ref 23], []) (ff_124 xs, gg_130, pp_248, dd 118 Ln, 118, 1823)) (rr_pr rfl (dd_k (by decide) rfl) rfl) ?_
  refine (am_bl 2 (f' := (0, 37, [.ref 113, .ref 23], [.ref 23, .ref 113])) rfl).trans ?_
  refine Eq.trans (b := am_runs (0, 40, [.ref 113, .ref 23], []) (ff_124 xs, gg_130, pp_249, dd 118 Ln, 118, 1823)) (rr_pr rfl (dd_k (by decide) rfl) rfl) ?_
  exact am_gr rfl rfl rfl
set_option maxRecDepth 10000 in
theorem kc_29 (xs : Nat → Int32) (Ln : Nat) : am_runs (am_en 0 [.ref 118, .ref 23]) (ff_125 xs, gg_131, pp_251, dd 119 Ln, 119, 1831) = some (none, (ff_129 xs, gg_135, pp_260, dd 123 Ln, 123, 1858)) := by
  show am_runs (0, 0, [.ref 118, .ref 23], []) (ff_125 xs, gg_131, pp_251, dd 119 Ln, 119, 1831) = _
  refine (am_bl 1 (f' := (0, 1, [.ref 118, .ref 23], [.ref 118])) rfl).trans ?_
  refine Eq.trans (b := am_runs (0, 4, [.ref 118, .ref 23], []) (ff_125 xs, gg_131, pp_251, dd 119 Ln, 119, 1831)) (am_goi rfl rfl) ?_
  refine (am_bl 2 (f' := (0, 7, [.ref 118, .ref 23], [.int 8, .ref 118])) rfl).trans ?_
  refine Eq.trans (b := am_runs (0, 9, [.ref 118, .ref 23], [.ref 119, .ref 118]) (ff_126 xs, gg_132, pp_252, dd 120 Ln, 120, 1839)) (am_tna rfl rfl (by decide) (by decide) (by decide) (by decide) (by decide) (dd_s rfl) rfl) ?_
  refine Eq.trans (b := am_runs (0, 12, [.ref 118, .ref 23], []) (ff_126 xs, gg_132, pp_253, dd 120 Ln, 120, 1839)) (rr_pr rfl (dd_k (by decide) rfl) rfl) ?_
  refine (am_bl 2 (f' := (0, 15, [.ref 118, .ref 23], [.int 8, .ref 118])) rfl).trans ?_
  refine Eq.trans (b := am_runs (0, 17, [.ref 118, .ref 23], [.ref 120, .ref 118]) (ff_127 xs, gg_133, pp_254, dd 121 Ln, 121, 1847)) (am_tna rfl rfl (by decide) (by decide) (by decide) (by decide) (by decide) (dd_s rfl) rfl) ?_
  refine Eq.trans (b := am_runs (0, 20, [.ref 118, .ref 23], []) (ff_127 xs, gg_133, pp_255, dd 121 Ln, 121, 1847)) (rr_pr rfl (dd_k (by decide) rfl) rfl) ?_
  refine (am_bl 2 (f' := (0, 23, [.ref 118, .ref 23], [.int 8, .ref 118])) rfl).trans ?_
  refine Eq.trans (b := am_runs (0, 25, [.ref 118, .ref 23], [.ref 121, .ref 118]) (ff_128 xs, gg_134, pp_256, dd 122 Ln, 122, 1855)) (am_tna rfl rfl (by decide) (by decide) (by decide) (by decide) (by decide) (dd_s rfl) rfl) ?_
  refine Eq.trans (b := am_runs (0, 28, [.ref 118, .ref 23], []) (ff_128 xs, gg_134, pp_257, dd 122 Ln, 122, 1855)) (rr_pr rfl (dd_k (by decide) rfl) rfl) ?_
  refine (am_bl 2 (f' := (0, 30, [.ref 118, .ref 23], [.int 3, .ref 118])) rfl).trans ?_
  refine Eq.trans (b := am_runs (0, 32, [.ref 118, .ref 23], [.ref 122, .ref 118]) (ff_129 xs, gg_135, pp_258, dd 123 Ln, 123, 1858)) (am_tna rfl rfl (by decide) (by decide) (by decide) (by decide) (by decide) (dd_s rfl) rfl) ?_
  refine Eq.trans (b := am_runs (0, 35, [.ref 118, .ref 23], []) (ff_129 xs, gg_135, pp_259, dd 123 Ln, 123, 1858)) (rr_pr rfl (dd_k (by decide) rfl) rfl) ?_
  refine (am_bl 2 (f' := (0, 37, [.ref 118, .ref 23], [.ref 23, .ref 118])) rfl).trans ?_
  refine Eq.trans (b := am_runs (0, 40, [.ref 118, .ref 23], []) (ff_129 xs, gg_135, pp_260, dd 123 Ln, 123, 1858)) (rr_pr rfl (dd_k (by decide) rfl) rfl) ?_
  exact am_gr rfl rfl rfl
set_option maxRecDepth 10000 in
theorem kc_30 (xs : Nat → Int32) (Ln : Nat) : am_runs (am_en 0 [.ref 123, .ref 23]) (ff_130 xs, gg_136, pp_262, dd 124 Ln, 124, 1866) = some (none, (ff_134 xs, gg_140, pp_271, dd 128 Ln, 128, 1893)) := by
  show am_runs (0, 0, [.ref 123, .ref 23], []) (ff_130 xs, gg_136, pp_262, dd 124 Ln, 124, 1866) = _
  refine (am_bl 1 (f' := (0, 1, [.ref 123, .ref 23], [.ref 123])) rfl).trans ?_
  refine Eq.trans (b := am_runs (0, 4, [.ref 123, .ref 23], []) (ff_130 xs, gg_136, pp_262, dd 124 Ln, 124, 1866)) (am_goi rfl rfl) ?_
  refine (am_bl 2 (f' := (0, 7, [.ref 123, .ref 23], [.int 8, .ref 123])) rfl).trans ?_
  refine Eq.trans (b := am_runs (0, 9, [.ref 123, .ref 23], [.ref 124, .ref 123]) (ff_131 xs, gg_137, pp_263, dd 125 Ln, 125, 1874)) (am_tna rfl rfl (by decide) (by decide) (by decide) (by decide) (by decide) (dd_s rfl) rfl) ?_
  refine Eq.trans (b := am_runs (0, 12, [.ref 123, .ref 23], []) (ff_131 xs, gg_137, pp_264, dd 125 Ln, 125, 1874)) (rr_pr rfl (dd_k (by decide) rfl) rfl) ?_
  refine (am_bl 2 (f' := (0, 15, [.ref 123, .ref 23], [.int 8, .ref 123])) rfl).trans ?_
  refine Eq.trans (b := am_runs (0, 17, [.ref 123, .ref 23], [.ref 125, .ref 123]) (ff_132 xs, gg_138, pp_265, dd 126 Ln, 126, 1882)) (am_tna rfl rfl (by decide) (by decide) (by decide) (by decide) (by decide) (dd_s rfl) rfl) ?_
  refine Eq.trans (b := am_runs (0, 20, [.ref 123, .ref 23], []) (ff_132 xs, gg_138, pp_266, dd 126 Ln, 126, 1882)) (rr_pr rfl (dd_k (by decide) rfl) rfl) ?_
  refine (am_bl 2 (f' := (0, 23, [.ref 123, .ref 23], [.int 8, .ref 123])) rfl).trans ?_
  refine Eq.trans (b := am_runs (0, 25, [.ref 123, .ref 23], [.ref 126, .ref 123]) (ff_133 xs, gg_139, pp_267, dd 127 Ln, 127, 1890)) (am_tna rfl rfl (by decide) (by decide) (by decide) (by decide) (by decide) (dd_s rfl) rfl) ?_
  refine Eq.trans (b := am_runs (0, 28, [.ref 123, .ref 23], []) (ff_133 xs, gg_139, pp_268, dd 127 Ln, 127, 1890)) (rr_pr rfl (dd_k (by decide) rfl) rfl) ?_
  refine (am_bl 2 (f' := (0, 30, [.ref 123, .ref 23], [.int 3, .ref 123])) rfl).trans ?_
  refine Eq.trans (b := am_runs (0, 32, [.ref 123, .ref 23], [.ref 127, .ref 123]) (ff_134 xs, gg_140, pp_269, dd 128 Ln, 128, 1893)) (am_tna rfl rfl (by decide) (by decide) (by decide) (by decide) (by decide) (dd_s rfl) rfl) ?_
  refine Eq.trans (b := am_runs (0, 35, [.ref 123, .ref 23], []) (ff_134 xs, gg_140, pp_270, dd 128 Ln, 128, 1893)) (rr_pr rfl (dd_k (by decide) rfl) rfl) ?_
  refine (am_bl 2 (f' := (0, 37, [.ref 123, .ref 23], [.ref 23, .ref 123])) rfl).trans ?_
  refine Eq.trans (b := am_runs (0, 40, [.ref 123, .ref 23], []) (ff_134 xs, gg_140, pp_271, dd 128 Ln, 128, 1893)) (rr_pr rfl (dd_k (by decide) rfl) rfl) ?_
  exact am_gr rfl rfl rfl
set_option maxRecDepth 10000 in
theorem kc_31 (xs : Nat → Int32) (Ln : Nat) : am_runs (am_en 0 [.ref 128, .ref 23]) (ff_135 xs, gg_141, pp_273, dd 129 Ln, 129, 1901) = some (none, (ff_139 xs, gg_145, pp_282, dd 133 Ln, 133, 1928)) := by
  show am_runs (0, 0, [.ref 128, .ref 23], []) (ff_135 xs, gg_141, pp_273, dd 129 Ln, 129, 1901) = _
  refine (am_bl 1 (f' := (0, 1, [.ref 128, .ref 23], [.ref 128])) rfl).trans ?_
  refine Eq.trans (b := am_runs (0, 4, [.ref 128, .ref 23], []) (ff_135 xs, gg_141, pp_273, dd 129 Ln, 129, 1901)) (am_goi rfl rfl) ?_
  refine (am_bl 2 (f' := (0, 7, [.ref 128, .ref 23], [.int 8, .ref 128])) rfl).trans ?_
  refine Eq.trans (b := am_runs (0, 9, [.ref 128, .ref 23], [.ref 129, .ref 128]) (ff_136 xs, gg_142, pp_274, dd 130 Ln, 130, 1909)) (am_tna rfl rfl (by decide) (by decide) (by decide) (by decide) (by decide) (dd_s rfl) rfl) ?_
  refine Eq.trans (b := am_runs (0, 12, [.ref 128, .ref 23], []) (ff_136 xs, gg_142, pp_275, dd 130 Ln, 130, 1909)) (rr_pr rfl (dd_k (by decide) rfl) rfl) ?_
  refine (am_bl 2 (f' := (0, 15, [.ref 128, .ref 23], [.int 8, .ref 128])) rfl).trans ?_
  refine Eq.trans (b := am_runs (0, 17, [.ref 128, .ref 23], [.ref 130, .ref 128]) (ff_137 xs, gg_143, pp_276, dd 131 Ln, 131, 1917)) (am_tna rfl rfl (by decide) (by decide) (by decide) (by decide) (by decide) (dd_s rfl) rfl) ?_
  refine Eq.trans (b := am_runs (0, 20, [.ref 128, .ref 23], []) (ff_137 xs, gg_143, pp_277, dd 131 Ln, 131, 1917)) (rr_pr rfl (dd_k (by decide) rfl) rfl) ?_
  refine (am_bl 2 (f' := (0, 23, [.ref 128, .ref 23], [.int 8, .ref 128])) rfl).trans ?_
  refine Eq.trans (b := am_runs (0, 25, [.ref 128, .ref 23], [.ref 131, .ref 128]) (ff_138 xs, gg_144, pp_278, dd 132 Ln, 132, 1925)) (am_tna rfl rfl (by decide) (by decide) (by decide) (by decide) (by decide) (dd_s rfl) rfl) ?_
  refine Eq.trans (b := am_runs (0, 28, [.ref 128, .ref 23], []) (ff_138 xs, gg_144, pp_279, dd 132 Ln, 132, 1925)) (rr_pr rfl (dd_k (by decide) rfl) rfl) ?_
  refine (am_bl 2 (f' := (0, 30, [.ref 128, .ref 23], [.int 3, .ref 128])) rfl).trans ?_
  refine Eq.trans (b := am_runs (0, 32, [.ref 128, .ref 23], [.ref 132, .ref 128]) (ff_139 xs, gg_145, pp_280, dd 133 Ln, 133, 1928)) (am_tna rfl rfl (by decide) (by decide) (by decide) (by decide) (by decide) (dd_s rfl) rfl) ?_
  refine Eq.trans (b := am_runs (0, 35, [.ref 128, .ref 23], []) (ff_139 xs, gg_145, pp_281, dd 133 Ln, 133, 1928)) (rr_pr rfl (dd_k (by decide) rfl) rfl) ?_
  refine (am_bl 2 (f' := (0, 37, [.ref 128, .ref 23], [.ref 23, .ref 128])) rfl).trans ?_
  refine Eq.trans (b := am_runs (0, 40, [.ref 128, .ref 23], []) (ff_139 xs, gg_145, pp_282, dd 133 Ln, 133, 1928)) (rr_pr rfl (dd_k (by decide) rfl) rfl) ?_
  exact am_gr rfl rfl rfl
set_option maxRecDepth 10000 in
theorem kc_32 (xs : Nat → Int32) (Ln : Nat) : am_runs (am_en 0 [.ref 133, .ref 23]) (ff_140 xs, gg_146, pp_284, dd 134 Ln, 134, 1936) = some (none, (ff_144 xs, gg_150, pp_293, dd 138 Ln, 138, 1963)) := by
  show am_runs (0, 0, [.ref 133, .ref 23], []) (ff_140 xs, gg_146, pp_284, dd 134 Ln, 134, 1936) = _
  refine (am_bl 1 (f' := (0, 1, [.ref 133, .ref 23], [.ref 133])) rfl).trans ?_
  refine Eq.trans (b := am_runs (0, 4, [.ref 133, .ref 23], []) (ff_140 xs, gg_146, pp_284, dd 134 Ln, 134, 1936)) (am_goi rfl rfl) ?_
  refine (am_bl 2 (f' := (0, 7, [.ref 133, .ref 23], [.int 8, .ref 133])) rfl).trans ?_
  refine Eq.trans (b := am_runs (0, 9, [.ref 133, .ref 23], [.ref 134, .ref 133]) (ff_141 xs, gg_147, pp_285, dd 135 Ln, 135, 1944)) (am_tna rfl rfl (by decide) (by decide) (by decide) (by decide) (by decide) (dd_s rfl) rfl) ?_
  refine Eq.trans (b := am_runs (0, 12, [.ref 133, .ref 23], []) (ff_141 xs, gg_147, pp_286, dd 135 Ln, 135, 1944)) (rr_pr rfl (dd_k (by decide) rfl) rfl) ?_
  refine (am_bl 2 (f' := (0, 15, [.ref 133, .ref 23], [.int 8, .ref 133])) rfl).trans ?_
  refine Eq.trans (b := am_runs (0, 17, [.ref 133, .ref 23], [.ref 135, .ref 133]) (ff_142 xs, gg_148, pp_287, dd 136 Ln, 136, 1952)) (am_tna rfl rfl (by decide) (by decide) (by decide) (by decide) (by decide) (dd_s rfl) rfl) ?_
  refine Eq.trans (b := am_runs (0, 20, [.ref 133, .ref 23], []) (ff_142 xs, gg_148, pp_288, dd 136 Ln, 136, 1952)) (rr_pr rfl (dd_k (by decide) rfl) rfl) ?_
  refine (am_bl 2 (f' := (0, 23, [.ref 133, .ref 23], [.int 8, .ref 133])) rfl).trans ?_
  refine Eq.trans (b := am_runs (0, 25, [.ref 133, .ref 23], [.ref 136, .ref 133]) (ff_143 xs, gg_149, pp_289, dd 137 Ln, 137, 1960)) (am_tna rfl rfl (by decide) (by decide) (by decide) (by decide) (by decide) (dd_s rfl) rfl) ?_
  refine Eq.trans (b := am_runs (0, 28, [.ref 133, .ref 23], []) (ff_143 xs, gg_149, pp_290, dd 137 Ln, 137, 1960)) (rr_pr rfl (dd_k (by decide) rfl) rfl) ?_
  refine (am_bl 2 (f' := (0, 30, [.ref 133, .ref 23], [.int 3, .ref 133])) rfl).trans ?_
  refine Eq.trans (b := am_runs (0, 32, [.ref 133, .ref 23], [.ref 137, .ref 133]) (ff_144 xs, gg_150, pp_291, dd 138 Ln, 138, 1963)) (am_tna rfl rfl (by decide) (by decide) (by decide) (by decide) (by decide) (dd_s rfl) rfl) ?_
  refine Eq.trans (b := am_runs (0, 35, [.ref 133, .ref 23], []) (ff_144 xs, gg_150, pp_292, dd 138 Ln, 138, 1963)) (rr_pr rfl (dd_k (by decide) rfl) rfl) ?_
  refine (am_bl 2 (f' := (0, 37, [.ref 133, .ref 23], [.ref 23, .ref 133])) rfl).trans ?_
  refine Eq.trans (b := am_runs (0, 40, [.ref 133, .ref 23], []) (ff_144 xs, gg_150, pp_293, dd 138 Ln, 138, 1963)) (rr_pr rfl (dd_k (by decide) rfl) rfl) ?_
  exact am_gr rfl rfl rfl
set_option maxRecDepth 10000 in
theorem kc_33 (xs : Nat → Int32) (Ln : Nat) : am_runs (am_en 0 [.ref 138, .ref 23]) (ff_145 xs, gg_151, pp_295, dd 139 Ln, 139, 1971) = some (none, (ff_149 xs, gg_155, pp_304, dd 143 Ln, 143, 1998)) := by
  show am_runs (0, 0, [.ref 138, .ref 23], []) (ff_145 xs, gg_151, pp_295, dd 139 Ln, 139, 1971) = _
  refine (am_bl 1 (f' := (0, 1, [.ref 138, .ref 23], [.ref 138])) rfl).trans ?_
  refine Eq.trans (b := am_runs (0, 4, [.ref 138, .ref 23], []) (ff_145 xs, gg_151, pp_295, dd 139 Ln, 139, 1971)) (am_goi rfl rfl) ?_
  refine (am_bl 2 (f' := (0, 7, [.ref 138, .ref 23], [.int 8, .ref 138])) rfl).trans ?_
  refine Eq.trans (b := am_runs (0, 9, [.ref 138, .ref 23], [.ref 139, .ref 138]) (ff_146 xs, gg_152, pp_296, dd 140 Ln, 140, 1979)) (am_tna rfl rfl (by decide) (by decide) (by decide) (by decide) (by decide) (dd_s rfl) rfl) ?_
  refine Eq.trans (b := am_runs (0, 12, [.ref 138, .ref 23], []) (ff_146 xs, gg_152, pp_297, dd 140 Ln, 140, 1979)) (rr_pr rfl (dd_k (by decide) rfl) rfl) ?_
  refine (am_bl 2 (f' := (0, 15, [.ref 138, .ref 23], [.int 8, .ref 138])) rfl).trans ?_
  refine Eq.trans (b := am_runs (0, 17, [.ref 138, .ref 23], [.ref 140, .ref 138]) (ff_147 xs, gg_153, pp_298, dd 141 Ln, 141, 1987)) (am_tna rfl rfl (by decide) (by decide) (by decide) (by decide) (by decide) (dd_s rfl) rfl) ?_
  refine Eq.trans (b := am_runs (0, 20, [.ref 138, .ref 23], []) (ff_147 xs, gg_153, pp_299, dd 141 Ln, 141, 1987)) (rr_pr rfl (dd_k (by decide) rfl) rfl) ?_
  refine (am_bl 2 (f' := (0, 23, [.ref 138, .ref 23], [.int 8, .ref 138])) rfl).trans ?_
  refine Eq.trans (b := am_runs (0, 25, [.ref 138, .ref 23], [.ref 141, .ref 138]) (ff_148 xs, gg_154, pp_300, dd 142 Ln, 142, 1995)) (am_tna rfl rfl (by decide) (by decide) (by decide) (by decide) (by decide) (dd_s rfl) rfl) ?_
  refine Eq.trans (b := am_runs (0, 28, [.ref 138, .ref 23], []) (ff_148 xs, gg_154, pp_301, dd 142 Ln, 142, 1995)) (rr_pr rfl (dd_k (by decide) rfl) rfl) ?_
  refine (am_bl 2 (f' := (0, 30, [.ref 138, .ref 23], [.int 3, .ref 138])) rfl).trans ?_
  refine Eq.trans (b := am_runs (0, 32, [.ref 138, .ref 23], [.ref 142, .ref 138]) (ff_149 xs, gg_155, pp_302, dd 143 Ln, 143, 1998)) (am_tna rfl rfl (by decide) (by decide) (by decide) (by decide) (by decide) (dd_s rfl) rfl) ?_
  refine Eq.trans (b := am_runs (0, 35, [.ref 138, .ref 23], []) (ff_149 xs, gg_155, pp_303, dd 143 Ln, 143, 1998)) (rr_pr rfl (dd_k (by decide) rfl) rfl) ?_
  refine (am_bl 2 (f' := (0, 37, [.ref 138, .ref 23], [.ref 23, .ref 138])) rfl).trans ?_
  refine Eq.trans (b := am_runs (0, 40, [.ref 138, .ref 23], []) (ff_149 xs, gg_155, pp_304, dd 143 Ln, 143, 1998)) (rr_pr rfl (dd_k (by decide) rfl) rfl) ?_
  exact am_gr rfl rfl rfl
set_option maxRecDepth 10000 in
theorem kc_34 (xs : Nat → Int32) (Ln : Nat) : am_runs (am_en 47 [.ref 45, .ref 23]) (ff_49 xs, gg_58, pp_92, dd 46 Ln, 46, 1314) = some (none, (ff_149 xs, gg_155, pp_305, dd 143 Ln, 143, 1998)) := by
  show am_runs (47, 0, [.ref 45, .ref 23, .retAddr 0], []) (ff_49 xs, gg_58, pp_92, dd 46 Ln, 46, 1314) = _
  refine (am_bl 1 (f' := (47, 1, [.ref 45, .ref 23, .retAddr 0], [.ref 45])) rfl).trans ?_
  refine Eq.trans (b := am_runs (47, 4, [.ref 45, .ref 23, .retAddr 0], []) (ff_49 xs, gg_58, pp_92, dd 46 Ln, 46, 1314)) (am_goi rfl rfl) ?_
  refine (am_bl 2 (f' := (47, 7, [.ref 45, .ref 23, .retAddr 0], [.int 16, .ref 45])) rfl).trans ?_
  refine Eq.trans (b := am_runs (47, 10, [.ref 45, .ref 23, .retAddr 0], [.ref 46, .ref 45]) (ff_50 xs, gg_59, pp_93, dd 47 Ln, 47, 1330)) (am_tnb rfl (by decide) (by decide) (by decide) (by decide) (by decide) (dd_s rfl) rfl) ?_
  refine Eq.trans (b := am_runs (47, 13, [.ref 45, .ref 23, .retAddr 0], []) (ff_50 xs, gg_59, pp_94, dd 47 Ln, 47, 1330)) (rr_pr rfl (dd_k (by decide) rfl) rfl) ?_
  refine (am_bl 2 (f' := (47, 15, [.ref 45, .ref 23, .retAddr 0], [.int 3, .ref 45])) rfl).trans ?_
  refine Eq.trans (b := am_runs (47, 18, [.ref 45, .ref 23, .retAddr 0], [.ref 47, .ref 45]) (ff_51 xs, gg_60, pp_95, dd 48 Ln, 48, 1333)) (am_tnb rfl (by decide) (by decide) (by decide) (by decide) (by decide) (dd_s rfl) rfl) ?_
  refine Eq.trans (b := am_runs (47, 21, [.ref 45, .ref 23, .retAddr 0], []) (ff_51 xs, gg_60, pp_96, dd 48 Ln, 48, 1333)) (rr_pr rfl (dd_k (by decide) rfl) rfl) ?_
  refine (am_bl 2 (f' := (47, 23, [.ref 45, .ref 23, .retAddr 0], [.int 0, .ref 45])) rfl).trans ?_
  refine Eq.trans (b := am_runs (47, 26, [.ref 45, .ref 23, .retAddr 0], []) (ff_52 xs, gg_60, pp_96, dd 48 Ln, 48, 1333)) (rr_pi rfl (dd_k (by decide) rfl) rfl) ?_
  refine (am_bl 2 (f' := (47, 28, [.ref 45, .ref 23, .retAddr 0], [.int 0, .ref 45])) rfl).trans ?_
  refine Eq.trans (b := am_runs (47, 31, [.ref 45, .ref 23, .retAddr 0], []) (ff_53 xs, gg_60, pp_96, dd 48 Ln, 48, 1333)) (rr_pi rfl (dd_k (by decide) rfl) rfl) ?_
  refine (am_bl 2 (f' := (47, 33, [.ref 45, .ref 23, .retAddr 0], [.int 0, .ref 45])) rfl).trans ?_
  refine Eq.trans (b := am_runs (47, 36, [.ref 45, .ref 23, .retAddr 0], []) (ff_54 xs, gg_60, pp_96, dd 48 Ln, 48, 1333)) (rr_pi rfl (dd_k (by decide) rfl) rfl) ?_
  refine (am_bl 4 (f' := (47, 41, [.ref 45, .ref 23, .int 0], [.int 16, .int 0])) rfl).trans ?_
  refine Eq.trans (b := am_runs (47, 44, [.ref 45, .ref 23, .int 0], []) (ff_54 xs, gg_60, pp_96, dd 48 Ln, 48, 1333)) ((rj_ge rfl).trans (if_neg (by decide))) ?_
  refine (am_bl 1 (f' := (47, 45, [.ref 45, .ref 23, .int 0], [.ref 45])) rfl).trans ?_
  refine Eq.trans (b := am_runs (47, 48, [.ref 45, .ref 23, .int 0], [.ref 46]) (ff_54 xs, gg_60, pp_96, dd 48 Ln, 48, 1333)) (ar_gr rfl (dd_k (by decide) rfl) rfl) ?_
  refine (am_bl 1 (f' := (47, 49, [.ref 45, .ref 23, .int 0], [.int 0, .ref 46])) rfl).trans ?_
  refine Eq.trans (b := am_runs (47, 52, [.ref 45, .ref 23, .int 0], [.ref 48, .int 0, .ref 46]) (ff_55 xs, gg_61, pp_97, dd 49 Ln, 49, 1341)) (am_tnw rfl (by decide) (by decide) (dd_s rfl) rfl) ?_
  refine (am_bl 2 (f' := (47, 54, [.ref 45, .ref 23, .int 0], [.ref 23, .ref 48, .ref 48, .int 0, .ref 46])) rfl).trans ?_
  refine Eq.trans (b := am_runs (47, 57, [.ref 45, .ref 23, .int 0], [.ref 48, .int 0, .ref 46]) (ff_59 xs, gg_65, pp_106, dd 53 Ln, 53, 1368)) (ar_cI0 rfl rfl rfl rfl rfl rfl rfl rfl (kc_15 xs Ln)) ?_
  refine Eq.trans (b := am_runs (47, 58, [.ref 45, .ref 23, .int 0], []) (ff_59 xs, gg_65, pp_107, dd 53 Ln, 53, 1368)) (am_tsr rfl (dd_k (by decide) rfl) (dd_k (by decide) rfl) rfl rfl) ?_
  refine (am_bl 4 (f' := (47, 41, [.ref 45, .ref 23, .int 1], [.int 16, .int 1])) rfl).trans ?_
  refine Eq.trans (b := am_runs (47, 44, [.ref 45, .ref 23, .int 1], []) (ff_59 xs, gg_65, pp_107, dd 53 Ln, 53, 1368)) ((rj_ge rfl).trans (if_neg (by decide))) ?_
  refine (am_bl 1 (f' := (47, 45, [.ref 45, .ref 23, .int 1], [.ref 45])) rfl).trans ?_
  refine Eq.trans (b := am_runs (47, 48, [.ref 45, .ref 23, .int 1], [.ref 46]) (ff_59 xs, gg_65, pp_107, dd 53 Ln, 53, 1368)) (ar_gr rfl (dd_k (by decide) rfl) rfl) ?_
  refine (am_bl 1 (f' := (47, 49, [.ref 45, .ref 23, .int 1], [.int 1, .ref 46])) rfl).trans ?_
  refine Eq.trans (b := am_runs (47, 52, [.ref 45, .ref 23, .int 1], [.ref 53, .int 1, .ref 46]) (ff_60 xs, gg_66, pp_108, dd 54 Ln, 54, 1376)) (am_tnw rfl (by decide) (by decide) (dd_s rfl) rfl) ?_
  refine (am_bl 2 (f' := (47, 54, [.ref 45, .ref 23, .int 1], [.ref 23, .ref 53, .ref 53, .int 1, .ref 46])) rfl).trans ?_
  refine Eq.trans (b := am_runs (47, 57, [.ref 45, .ref 23, .int 1], [.ref 53, .int 1, .ref 46]) (ff_64 xs, gg_70, pp_117, dd 58 Ln, 58, 1403)) (ar_cI0 rfl rfl rfl rfl rfl rfl rfl rfl (kc_16 xs Ln)) ?_
  refine Eq.trans (b := am_runs (47, 58, [.ref 45, .ref 23, .int 1], []) (ff_64 xs, gg_70, pp_118, dd 58 Ln, 58, 1403)) (am_tsr rfl (dd_k (by decide) rfl) (dd_k (by decide) rfl) rfl rfl) ?_
  refine (am_bl 4 (f' := (47, 41, [.ref 45, .ref 23, .int 2], [.int 16, .int 2])) rfl).trans ?_
  refine Eq.trans (b := am_runs (47, 44, [.ref 45, .ref 23, .int 2], []) (ff_64 xs, gg_70, pp_118, dd 58 Ln, 58, 1403)) ((rj_ge rfl).trans (if_neg (by decide))) ?_
  refine (am_bl 1 (f' := (47, 45, [.ref 45, .ref 23, .int 2], [.ref 45])) rfl).trans ?_
  refine Eq.trans (b := am_runs (47, 48, [.ref 45, .ref 23, .int 2], [.ref 46]) (ff_64 xs, gg_70, pp_118, dd 58 Ln, 58, 1403)) (ar_gr rfl (dd_k (by decide) rfl) rfl) ?_
  refine (am_bl 1 (f' := (47, 49, [.ref 45, .ref 23, .int 2], [.int 2, .ref 46])) rfl).trans ?_
  refine Eq.trans (b := am_runs (47, 52, [.ref 45, .ref 23, .int 2], [.ref 58, .int 2, .ref 46]) (ff_65 xs, gg_71, pp_119, dd 59 Ln, 59, 1411)) (am_tnw rfl (by decide) (by decide) (dd_s rfl) rfl) ?_
  refine (am_bl 2 (f' := (47, 54, [.ref 45, .ref 23, .int 2], [.ref 23, .ref 58, .ref 58, .int 2, .ref 46])) rfl).trans ?_
  refine Eq.trans (b := am_runs (47, 57, [.ref 45, .ref 23, .int 2], [.ref 58, .int 2, .ref 46]) (ff_69 xs, gg_75, pp_128, dd 63 Ln, 63, 1438)) (ar_cI0 rfl rfl rfl rfl rfl rfl rfl rfl (kc_17 xs Ln)) ?_
  refine Eq.trans (b := am_runs (47, 58, [.ref 45, .ref 23, .int 2], []) (ff_69 xs, gg_75, pp_129, dd 63 Ln, 63, 1438)) (am_tsr rfl (dd_k (by decide) rfl) (dd_k (by decide) rfl) rfl rfl) ?_
  refine (am_bl 4 (f' := (47, 41, [.ref 45, .ref 23, .int 3], [.int 16, .int 3])) rfl).trans ?_
  refine Eq.trans (b := am_runs (47, 44, [.ref 45, .ref 23, .int 3], []) (ff_69 xs, gg_75, pp_129, dd 63 Ln, 63, 1438)) ((rj_ge rfl).trans (if_neg (by decide))) ?_
  refine (am_bl 1 (f' := (47, 45, [.ref 45, .ref 23, .int 3], [.ref 45])) rfl).trans ?_
  refine Eq.trans (b := am_runs (47, 48, [.ref 45, .ref 23, .int 3], [.ref 46]) (ff_69 xs, gg_75, pp_129, dd 63 Ln, 63, 1438)) (ar_gr rfl (dd_k (by decide) rfl) rfl) ?_
  refine (am_bl 1 (f' := (47, 49, [.ref 45, .ref 23, .int 3], [.int 3, .ref 46])) rfl).trans ?_
  refine Eq.trans (b := am_runs (47, 52, [.ref 45, .ref 23, .int 3], [.ref 63, .int 3, .ref 46]) (ff_70 xs, gg_76, pp_130, dd 64 Ln, 64, 1446)) (am_tnw rfl (by decide) (by decide) (dd_s rfl) rfl) ?_
  refine (am_bl 2 (f' := (47, 54, [.ref 45, .ref 23, .int 3], [.ref 23, .ref 63, .ref 63, .int 3, .ref 46])) rfl).trans ?_
  refine Eq.trans (b := am_runs (47, 57, [.ref 45, .ref 23, .int 3], [.ref 63, .int 3, .ref 46]) (ff_74 xs, gg_80, pp_139, dd 68 Ln, 68, 1473)) (ar_cI0 rfl rfl rfl rfl rfl rfl rfl rfl (kc_18 xs Ln)) ?_
  refine Eq.trans (b := am_runs (47, 58, [.ref 45, .ref 23, .int 3], []) (ff_74 xs, gg_80, pp_140, dd 68 Ln, 68, 1473)) (am_tsr rfl (dd_k (by decide) rfl) (dd_k (by decide) rfl) rfl rfl) ?_
  refine (am_bl 4 (f' := (47, 41, [.ref 45, .ref 23, .int 4], [.int 16, .int 4])) rfl).trans ?_
  refine Eq.trans (b := am_runs (47, 44, [.ref 45, .ref 23, .int 4], []) (ff_74 xs, gg_80, pp_140, dd 68 Ln, 68, 1473)) ((rj_ge rfl).trans (if_neg (by decide))) ?_
  refine (am_bl 1 (f' := (47, 45, [.ref 45, .ref 23, .int 4], [.ref 45])) rfl).trans ?_
  refine Eq.trans (b := am_runs (47, 48, [.ref 45, .ref 23, .int 4], [.ref 46]) (ff_74 xs, gg_80, pp_140, dd 68 Ln, 68, 1473)) (ar_gr rfl (dd_k (by decide) rfl) rfl) ?_
  refine (am_bl 1 (f' := (47, 49, [.ref 45, .ref 23, .int 4], [.int 4, .ref 46])) rfl).trans ?_
  refine Eq.trans (b := am_runs (47, 52, [.ref 45, .ref 23, .int 4], [.ref 68, .int 4, .ref 46]) (ff_75 xs, gg_81, pp_141, dd 69 Ln, 69, 1481)) (am_tnw rfl (by decide) (by decide) (dd_s rfl) rfl) ?_
  refine (am_bl 2 (f' := (47, 54, [.ref 45, .ref 23, .int 4], [.ref 23, .ref 68, .ref 68, .int 4, .ref 46])) rfl).trans ?_
  refine Eq.trans (b := am_runs (47, 57, [.ref 45, .ref 23, .int 4], [.ref 68, .int 4, .ref 46]) (ff_79 xs, gg_85, pp_150, dd 73 Ln, 73, 1508)) (ar_cI0 rfl rfl rfl rfl rfl rfl rfl rfl (kc_19 xs Ln)) ?_
  refine Eq.trans (b := am_runs (47, 58, [.ref 45, .ref 23, .int 4], []) (ff_79 xs, gg_85, pp_151, dd 73 Ln, 73, 1508)) (am_tsr rfl (dd_k (by decide) rfl) (dd_k (by decide) rfl) rfl rfl) ?_
  refine (am_bl 4 (f' := (47, 41, [.ref 45, .ref 23, .int 5], [.int 16, .int 5])) rfl).trans ?_
  refine Eq.trans (b := am_runs (47, 44, [.ref 45, .ref 23, .int 5], []) (ff_79 xs, gg_85, pp_151, dd 73 Ln, 73, 1508)) ((rj_ge rfl).trans (if_neg (by decide))) ?_
  refine (am_bl 1 (f' := (47, 45, [.ref 45, .ref 23, .int 5], [.ref 45])) rfl).trans ?_
  refine Eq.trans (b := am_runs (47, 48, [.ref 45, .ref 23, .int 5], [.ref 46]) (ff_79 xs, gg_85, pp_151, dd 73 Ln, 73, 1508)) (ar_gr rfl (dd_k (by decide) rfl) rfl) ?_
  refine (am_bl 1 (f' := (47, 49, [.ref 45, .ref 23, .int 5], [.int 5, .ref 46])) rfl).trans ?_
  refine Eq.trans (b := am_runs (47, 52, [.ref 45, .ref 23, .int 5], [.ref 73, .int 5, .ref 46]) (ff_80 xs, gg_86, pp_152, dd 74 Ln, 74, 1516)) (am_tnw rfl (by decide) (by decide) (dd_s rfl) rfl) ?_
  refine (am_bl 2 (f' := (47, 54, [.ref 45, .ref 23, .int 5], [.ref 23, .ref 73, .ref 73, .int 5, .ref 46])) rfl).trans ?_
  refine Eq.trans (b := am_runs (47, 57, [.ref 45, .ref 23, .int 5], [.ref 73, .int 5, .ref 46]) (ff_84 xs, gg_90, pp_161, dd 78 Ln, 78, 1543)) (ar_cI0 rfl rfl rfl rfl rfl rfl rfl rfl (kc_20 xs Ln)) ?_
  refine Eq.trans (b := am_runs (47, 58, [.ref 45, .ref 23, .int 5], []) (ff_84 xs, gg_90, pp_162, dd 78 Ln, 78, 1543)) (am_tsr rfl (dd_k (by decide) rfl) (dd_k (by decide) rfl) rfl rfl) ?_
  refine (am_bl 4 (f' := (47, 41, [.ref 45, .ref 23, .int 6], [.int 16, .int 6])) rfl).trans ?_
  refine Eq.trans (b := am_runs (47, 44, [.ref 45, .ref 23, .int 6], []) (ff_84 xs, gg_90, pp_162, dd 78 Ln, 78, 1543)) ((rj_ge rfl).trans (if_neg (by decide))) ?_
  refine (am_bl 1 (f' := (47, 45, [.ref 45, .ref 23, .int 6], [.ref 45])) rfl).trans ?_
  refine Eq.trans (b := am_runs (47, 48, [.ref 45, .ref 23, .int 6], [.ref 46]) (ff_84 xs, gg_90, pp_162, dd 78 Ln, 78, 1543)) (ar_gr rfl (dd_k (by decide) rfl) rfl) ?_
  refine (am_bl 1 (f' := (47, 49, [.ref 45, .ref 23, .int 6], [.int 6, .ref 46])) rfl).trans ?_
  refine Eq.trans (b := am_runs (47, 52, [.ref 45, .ref 23, .int 6], [.ref 78, .int 6, .ref 46]) (ff_85 xs, gg_91, pp_163, dd 79 Ln, 79, 1551)) (am_tnw rfl (by decide) (by decide) (dd_s rfl) rfl) ?_
  refine (am_bl 2 (f' := (47, 54, [.ref 45, .ref 23, .int 6], [.ref 23, .ref 78, .ref 78, .int 6, .ref 46])) rfl).trans ?_
  refine Eq.trans (b := am_runs (47, 57, [.ref 45, .ref 23, .int 6], [.ref 78, .int 6, .ref 46]) (ff_89 xs, gg_95, pp_172, dd 83 Ln, 83, 1578)) (ar_cI0 rfl rfl rfl rfl rfl rfl rfl rfl (kc_21 xs Ln)) ?_
  refine Eq.trans (b := am_runs (47, 58, [.ref 45, .ref 23, .int 6], []) (ff_89 xs, gg_95, pp_173, dd 83 Ln, 83, 1578)) (am_tsr rfl (dd_k (by decide) rfl) (dd_k (by decide) rfl) rfl rfl) ?_
  refine (am_bl 4 (f' := (47, 41, [.ref 45, .ref 23, .int 7], [.int 16, .int 7])) rfl).trans ?_
  refine Eq.trans (b := am_runs (47, 44, [.ref 45, .ref 23, .int 7], []) (ff_89 xs, gg_95, pp_173, dd 83 Ln, 83, 1578)) ((rj_ge rfl).trans (if_neg (by decide))) ?_
  refine (am_bl 1 (f' := (47, 45, [.ref 45, .ref 23, .int 7], [.ref 45])) rfl).trans ?_
  refine Eq.trans (b := am_runs (47, 48, [.ref 45, .ref 23, .int 7], [.ref 46]) (ff_89 xs, gg_95, pp_173, dd 83 Ln, 83, 1578)) (ar_gr rfl (dd_k (by decide) rfl) rfl) ?_
  refine (am_bl 1 (f' := (47, 49, [.ref 45, .ref 23, .int 7], [.int 7, .ref 46])) rfl).trans ?_
  refine Eq.trans (b := am_runs (47, 52, [.ref 45, .ref 23, .int 7], [.ref 83, .int 7, .ref 46]) (ff_90 xs, gg_96, pp_174, dd 84 Ln, 84, 1586)) (am_tnw rfl (by decide) (by decide) (dd_s rfl) rfl) ?_
  refine (am_bl 2 (f' := (47, 54, [.ref 45, .ref 23, .int 7], [.ref 23, .ref 83, .ref 83, .int 7, .ref 46])) rfl).trans ?_
  refine Eq.trans (b := am_runs (47, 57, [.ref 45, .ref 23, .int 7], [.ref 83, .int 7, .ref 46]) (ff_94 xs, gg_100, pp_183, dd 88 Ln, 88, 1613)) (ar_cI0 rfl rfl rfl rfl rfl rfl rfl rfl (kc_22 xs Ln)) ?_
  refine Eq.trans (b := am_runs (47, 58, [.ref 45, .ref 23, .int 7], []) (ff_94 xs, gg_100, pp_184, dd 88 Ln, 88, 1613)) (am_tsr rfl (dd_k (by decide) rfl) (dd_k (by decide) rfl) rfl rfl) ?_
  refine (am_bl 4 (f' := (47, 41, [.ref 45, .ref 23, .int 8], [.int 16, .int 8])) rfl).trans ?_
  refine Eq.trans (b := am_runs (47, 44, [.ref 45, .ref 23, .int 8], []) (ff_94 xs, gg_100, pp_184, dd 88 Ln, 88, 1613)) ((rj_ge rfl).trans (if_neg (by decide))) ?_
  refine (am_bl 1 (f' := (47, 45, [.ref 45, .ref 23, .int 8], [.ref 45])) rfl).trans ?_
  refine Eq.trans (b := am_runs (47, 48, [.ref 45, .ref 23, .int 8], [.ref 46]) (ff_94 xs, gg_100, pp_184, dd 88 Ln, 88, 1613)) (ar_gr rfl (dd_k (by decide) rfl) rfl) ?_
  refine (am_bl 1 (f' := (47, 49, [.ref 45, .ref 23, .int 8], [.int 8, .ref 46])) rfl).trans ?_
  refine Eq.trans (b := am_runs (47, 52, [.ref 45, .ref 23, .int 8], [.ref 88, .int 8, .ref 46]) (ff_95 xs, gg_101, pp_185, dd 89 Ln, 89, 1621)) (am_tnw rfl (by decide) (by decide) (dd_s rfl) rfl) ?_
  refine (am_bl 2 (f' := (47, 54, [.ref 45, .ref 23, .int 8], [.ref 23, .ref 88, .ref 88, .int 8, .ref 46])) rfl).trans ?_
  refine Eq.trans (b := am_runs (47, 57, [.ref 45, .ref 23, .int 8], [.ref 88, .int 8, .ref 46]) (ff_99 xs, gg_105, pp_194, dd 93 Ln, 93, 1648)) (ar_cI0 rfl rfl rfl rfl rfl rfl rfl rfl (kc_23 xs Ln)) ?_
  refine Eq.trans (b := am_runs (47, 58, [.ref 45, .ref 23, .int 8], []) (ff_99 xs, gg_105, pp_195, dd 93 Ln, 93, 1648)) (am_tsr rfl (dd_k (by decide) rfl) (dd_k (by decide) rfl) rfl rfl) ?_
  refine (am_bl 4 (f' := (47, 41, [.ref 45, .ref 23, .int 9], [.int 16, .int 9])) rfl).trans ?_
  refine Eq.trans (b := am_runs (47, 44, [.ref 45, .ref 23, .int 9], []) (ff_99 xs, gg_105, pp_195, dd 93 Ln, 93, 1648)) ((rj_ge rfl).trans (if_neg (by decide))) ?_
  refine (am_bl 1 (f' := (47, 45, [.ref 45, .ref 23, .int 9], [.ref 45])) rfl).trans ?_
  refine Eq.trans (b := am_runs (47, 48, [.ref 45, .ref 23, .int 9], [.ref 46]) (ff_99 xs, gg_105, pp_195, dd 93 Ln, 93, 1648)) (ar_gr rfl (dd_k (by decide) rfl) rfl) ?_
  refine (am_bl 1 (f' := (47, 49, [.ref 45, .ref 23, .int 9], [.int 9, .ref 46])) rfl).trans ?_
  refine Eq.trans (b := am_runs (47, 52, [.ref 45, .ref 23, .int 9], [.ref 93, .int 9, .ref 46]) (ff_100 xs, gg_106, pp_196, dd 94 Ln, 94, 1656)) (am_tnw rfl (by decide) (by decide) (dd_s rfl) rfl) ?_
  refine (am_bl 2 (f' := (47, 54, [.ref 45, .ref 23, .int 9], [.ref 23, .ref 93, .ref 93, .int 9, .ref 46])) rfl).trans ?_
  refine Eq.trans (b := am_runs (47, 57, [.ref 45, .ref 23, .int 9], [.ref 93, .int 9, .ref 46]) (ff_104 xs, gg_110, pp_205, dd 98 Ln, 98, 1683)) (ar_cI0 rfl rfl rfl rfl rfl rfl rfl rfl (kc_24 xs Ln)) ?_
  refine Eq.trans (b := am_runs (47, 58, [.ref 45, .ref 23, .int 9], []) (ff_104 xs, gg_110, pp_206, dd 98 Ln, 98, 1683)) (am_tsr rfl (dd_k (by decide) rfl) (dd_k (by decide) rfl) rfl rfl) ?_
  refine (am_bl 4 (f' := (47, 41, [.ref 45, .ref 23, .int 10], [.int 16, .int 10])) rfl).trans ?_
  refine Eq.trans (b := am_runs (47, 44, [.ref 45, .ref 23, .int 10], []) (ff_104 xs, gg_110, pp_206, dd 98 Ln, 98, 1683)) ((rj_ge rfl).trans (if_neg (by decide))) ?_
  refine (am_bl 1 (f' := (47, 45, [.ref 45, .ref 23, .int 10], [.ref 45])) rfl).trans ?_
  refine Eq.trans (b := am_runs (47, 48, [.ref 45, .ref 23, .int 10], [.ref 46]) (ff_104 xs, gg_110, pp_206, dd 98 Ln, 98, 1683)) (ar_gr rfl (dd_k (by decide) rfl) rfl) ?_
  refine (am_bl 1 (f' := (47, 49, [.ref 45, .ref 23, .int 10], [.int 10, .ref 46])) rfl).trans ?_
  refine Eq.trans (b := am_runs (47, 52, [.ref 45, .ref 23, .int 10], [.ref 98, .int 10, .ref 46]) (ff_105 xs, gg_111, pp_207, dd 99 Ln, 99, 1691)) (am_tnw rfl (by decide) (by decide) (dd_s rfl) rfl) ?_
  refine (am_bl 2 (f' := (47, 54, [.ref 45, .ref 23, .int 10], [.ref 23, .ref 98, .ref 98, .int 10, .ref 46])) rfl).trans ?_
  refine Eq.trans (b := am_runs (47, 57, [.ref 45, .ref 23, .int 10], [.ref 98, .int 10, .ref 46]) (ff_109 xs, gg_115, pp_216, dd 103 Ln, 103, 1718)) (ar_cI0 rfl rfl rfl rfl rfl rfl rfl rfl (kc_25 xs Ln)) ?_
  refine Eq.trans (b := am_runs (47, 58, [.ref 45, .ref 23, .int 10], []) (ff_109 xs, gg_115, pp_217, dd 103 Ln, 103, 1718)) (am_tsr rfl (dd_k (by decide) rfl) (dd_k (by decide) rfl) rfl rfl) ?_
  refine (am_bl 4 (f' := (47, 41, [.ref 45, .ref 23, .int 11], [.int 16, .int 11])) rfl).trans ?_
  refine Eq.trans (b := am_runs (47, 44, [.ref 45, .ref 23, .int 11], []) (ff_109 xs, gg_115, pp_217, dd 103 Ln, 103, 1718)) ((rj_ge rfl).trans (if_neg (by decide))) ?_
  refine (am_bl 1 (f' := (47, 45, [.ref 45, .ref 23, .int 11], [.ref 45])) rfl).trans ?_
  refine Eq.trans (b := am_runs (47, 48, [.ref 45, .ref 23, .int 11], [.ref 46]) (ff_109 xs, gg_115, pp_217, dd 103 Ln, 103, 1718)) (ar_gr rfl (dd_k (by decide) rfl) rfl) ?_
  refine (am_bl 1 (f' := (47, 49, [.ref 45, .ref 23, .int 11], [.int 11, .ref 46])) rfl).trans ?_
  refine Eq.trans (b := am_runs (47, 52, [.ref 45, .ref 23, .int 11], [.ref 103, .int 11, .ref 46]) (ff_110 xs, gg_116, pp_218, dd 104 Ln, 104, 1726)) (am_tnw rfl (by decide) (by decide) (dd_s rfl) rfl) ?_
  refine (am_bl 2 (f' := (47, 54, [.ref 45, .ref 23, .int 11], [.ref 23, .ref 103, .ref 103, .int 11, .ref 46])) rfl).trans ?_
  refine Eq.trans (b := am_runs (47, 57, [.ref 45, .ref 23, .int 11], [.ref 103, .int 11, .ref 46]) (ff_114 xs, gg_120, pp_227, dd 108 Ln, 108, 1753)) (ar_cI0 rfl rfl rfl rfl rfl rfl rfl rfl (kc_26 xs Ln)) ?_
  refine Eq.trans (b := am_runs (47, 58, [.ref 45, .ref 23, .int 11], []) (ff_114 xs, gg_120, pp_228, dd 108 Ln, 108, 1753)) (am_tsr rfl (dd_k (by decide) rfl) (dd_k (by decide) rfl) rfl rfl) ?_
  refine (am_bl 4 (f' := (47, 41, [.ref 45, .ref 23, .int 12], [.int 16, .int 12])) rfl).trans ?_
  refine Eq.trans (b := am_runs (47, 44, [.ref 45, .ref 23, .int 12], []) (ff_114 xs, gg_120, pp_228, dd 108 Ln, 108, 1753)) ((rj_ge rfl).trans (if_neg (by decide))) ?_
  refine (am_bl 1 (f' := (47, 45, [.ref 45, .ref 23, .int 12], [.ref 45])) rfl).trans ?_
  refine Eq.trans (b := am_runs (47, 48, [.ref 45, .ref 23, .int 12], [.ref 46]) (ff_114 xs, gg_120, pp_228, dd 108 Ln, 108, 1753)) (ar_gr rfl (dd_k (by decide) rfl) rfl) ?_
  refine (am_bl 1 (f' := (47, 49, [.ref 45, .ref 23, .int 12], [.int 12, .ref 46])) rfl).trans ?_
  refine Eq.trans (b := am_runs (47, 52, [.ref 45, .ref 23, .int 12], [.ref 108, .int 12, .ref 46]) (ff_115 xs, gg_121, pp_229, dd 109 Ln, 109, 1761)) (am_tnw rfl (by decide) (by decide) (dd_s rfl) rfl) ?_
  refine (am_bl 2 (f' := (47, 54, [.ref 45, .ref 23, .int 12], [.ref 23, .ref 108, .ref 108, .int 12, .ref 46])) rfl).trans ?_
  refine Eq.trans (b := am_runs (47, 57, [.ref 45, .ref 23, .int 12], [.ref 108, .int 12, .ref 46]) (ff_119 xs, gg_125, pp_238, dd 113 Ln, 113, 1788)) (ar_cI0 rfl rfl rfl rfl rfl rfl rfl rfl (kc_27 xs Ln)) ?_
  refine Eq.trans (b := am_runs (47, 58, [.ref 45, .ref 23, .int 12], []) (ff_119 xs, gg_125, pp_239, dd 113 Ln, 113, 1788)) (am_tsr rfl (dd_k (by decide) rfl) (dd_k (by decide) rfl) rfl rfl) ?_
  refine (am_bl 4 (f' := (47, 41, [.ref 45, .ref 23, .int 13], [.int 16, .int 13])) rfl).trans ?_
  refine Eq.trans (b := am_runs (47, 44, [.ref 45, .ref 23, .int 13], []) (ff_119 xs, gg_125, pp_239, dd 113 Ln, 113, 1788)) ((rj_ge rfl).trans (if_neg (by decide))) ?_
  refine (am_bl 1 (f' := (47, 45, [.ref 45, .ref 23, .int 13], [.ref 45])) rfl).trans ?_
  refine Eq.trans (b := am_runs (47, 48, [.ref 45, .ref 23, .int 13], [.ref 46]) (ff_119 xs, gg_125, pp_239, dd 113 Ln, 113, 1788)) (ar_gr rfl (dd_k (by decide) rfl) rfl) ?_
  refine (am_bl 1 (f' := (47, 49, [.ref 45, .ref 23, .int 13], [.int 13, .ref 46])) rfl).trans ?_
  refine Eq.trans (b := am_runs (47, 52, [.ref 45, .ref 23, .int 13], [.ref 113, .int 13, .ref 46]) (ff_120 xs, gg_126, pp_240, dd 114 Ln, 114, 1796)) (am_tnw rfl (by decide) (by decide) (dd_s rfl) rfl) ?_
  refine (am_bl 2 (f' := (47, 54, [.ref 45, .ref 23, .int 13], [.ref 23, .ref 113, .ref 113, .int 13, .ref 46])) rfl).trans ?_
  refine Eq.trans (b := am_runs (47, 57, [.ref 45, .ref 23, .int 13], [.ref 113, .int 13, .ref 46]) (ff_124 xs, gg_130, pp_249, dd 118 Ln, 118, 1823)) (ar_cI0 rfl rfl rfl rfl rfl rfl rfl rfl (kc_28 xs Ln)) ?_
  refine Eq.trans (b := am_runs (47, 58, [.ref 45, .ref 23, .int 13], []) (ff_124 xs, gg_130, pp_250, dd 118 Ln, 118, 1823)) (am_tsr rfl (dd_k (by decide) rfl) (dd_k (by decide) rfl) rfl rfl) ?_
  refine (am_bl 4 (f' := (47, 41, [.ref 45, .ref 23, .int 14], [.int 16, .int 14])) rfl).trans ?_
  refine Eq.trans (b := am_runs (47, 44, [.ref 45, .ref 23, .int 14], []) (ff_124 xs, gg_130, pp_250, dd 118 Ln, 118, 1823)) ((rj_ge rfl).trans (if_neg (by decide))) ?_
  refine (am_bl 1 (f' := (47, 45, [.ref 45, .ref 23, .int 14], [.ref 45])) rfl).trans ?_
  refine Eq.trans (b := am_runs (47, 48, [.ref 45, .ref 23, .int 14], [.ref 46]) (ff_124 xs, gg_130, pp_250, dd 118 Ln, 118, 1823)) (ar_gr rfl (dd_k (by decide) rfl) rfl) ?_
  refine (am_bl 1 (f' := (47, 49, [.ref 45, .ref 23, .int 14], [.int 14, .ref 46])) rfl).trans ?_
  refine Eq.trans (b := am_runs (47, 52, [.ref 45, .ref 23, .int 14], [.ref 118, .int 14, .ref 46]) (ff_125 xs, gg_131, pp_251, dd 119 Ln, 119, 1831)) (am_tnw rfl (by decide) (by decide) (dd_s rfl) rfl) ?_
  refine (am_bl 2 (f' := (47, 54, [.ref 45, .ref 23, .int 14], [.ref 23, .ref 118, .ref 118, .int 14, .ref 46])) rfl).trans ?_
  refine Eq.trans (b := am_runs (47, 57, [.ref 45, .ref 23, .int 14], [.ref 118, .int 14, .ref 46]) (ff_129 xs, gg_135, pp_260, dd 123 Ln, 123, 1858)) (ar_cI0 rfl rfl rfl rfl rfl rfl rfl rfl (kc_29 xs Ln)) ?_
  refine Eq.trans (b := am_runs (47, 58, [.ref 45, .ref 23, .int 14], []) (ff_129 xs, gg_135, pp_261, dd 123 Ln, 123, 1858)) (am_tsr rfl (dd_k (by decide) rfl) (dd_k (by decide) rfl) rfl rfl) ?_
  refine (am_bl 4 (f' := (47, 41, [.ref 45, .ref 23, .int 15], [.int 16, .int 15])) rfl).trans ?_
  refine Eq.trans (b := am_runs (47, 44, [.ref 45, .ref 23, .int 15], []) (ff_129 xs, gg_135, pp_261, dd 123 Ln, 123, 1858)) ((rj_ge rfl).trans (if_neg (by decide))) ?_
  refine (am_bl 1 (f' := (47, 45, [.ref 45, .ref 23, .int 15], [.ref 45])) rfl).trans ?_
  refine Eq.trans (b := am_runs (47, 48, [.ref 45, .ref 23, .int 15], [.ref 46]) (ff_129 xs, gg_135, pp_261, dd 123 Ln, 123, 1858)) (ar_gr rfl (dd_k (by decide) rfl) rfl) ?_
  refine (am_bl 1 (f' := (47, 49, [.ref 45, .ref 23, .int 15], [.int 15, .ref 46])) rfl).trans ?_
  refine Eq.trans (b := am_runs (47, 52, [.ref 45, .ref 23, .int 15], [.ref 123, .int 15, .ref 46]) (ff_130 xs, gg_136, pp_262, dd 124 Ln, 124, 1866)) (am_tnw rfl (by decide) (by decide) (dd_s rfl) rfl) ?_
  refine (am_bl 2 (f' := (47, 54, [.ref 45, .ref 23, .int 15], [.ref 23, .ref 123, .ref 123, .int 15, .ref 46])) rfl).trans ?_
  refine Eq.trans (b := am_runs (47, 57, [.ref 45, .ref 23, .int 15], [.ref 123, .int 15, .ref 46]) (ff_134 xs, gg_140, pp_271, dd 128 Ln, 128, 1893)) (ar_cI0 rfl rfl rfl rfl rfl rfl rfl rfl (kc_30 xs Ln)) ?_
  refine Eq.trans (b := am_runs (47, 58, [.ref 45, .ref 23, .int 15], []) (ff_134 xs, gg_140, pp_272, dd 128 Ln, 128, 1893)) (am_tsr rfl (dd_k (by decide) rfl) (dd_k (by decide) rfl) rfl rfl) ?_
  refine (am_bl 4 (f' := (47, 41, [.ref 45, .ref 23, .int 16], [.int 16, .int 16])) rfl).trans ?_
  refine Eq.trans (b := am_runs (47, 64, [.ref 45, .ref 23, .int 16], []) (ff_134 xs, gg_140, pp_272, dd 128 Ln, 128, 1893)) ((rj_ge rfl).trans (if_pos (by decide))) ?_
  refine (am_bl 4 (f' := (47, 68, [.ref 45, .ref 23, .int 0], [.int 3, .int 0])) rfl).trans ?_
  refine Eq.trans (b := am_runs (47, 71, [.ref 45, .ref 23, .int 0], []) (ff_134 xs, gg_140, pp_272, dd 128 Ln, 128, 1893)) ((rj_ge rfl).trans (if_neg (by decide))) ?_
  refine (am_bl 1 (f' := (47, 72, [.ref 45, .ref 23, .int 0], [.ref 45])) rfl).trans ?_
  refine Eq.trans (b := am_runs (47, 75, [.ref 45, .ref 23, .int 0], [.ref 47]) (ff_134 xs, gg_140, pp_272, dd 128 Ln, 128, 1893)) (ar_gr rfl (dd_k (by decide) rfl) rfl) ?_
  refine (am_bl 1 (f' := (47, 76, [.ref 45, .ref 23, .int 0], [.int 0, .ref 47])) rfl).trans ?_
  refine Eq.trans (b := am_runs (47, 79, [.ref 45, .ref 23, .int 0], [.ref 128, .int 0, .ref 47]) (ff_135 xs, gg_141, pp_273, dd 129 Ln, 129, 1901)) (am_tnw rfl (by decide) (by decide) (dd_s rfl) rfl) ?_
  refine (am_bl 2 (f' := (47, 81, [.ref 45, .ref 23, .int 0], [.ref 23, .ref 128, .ref 128, .int 0, .ref 47])) rfl).trans ?_
  refine Eq.trans (b := am_runs (47, 84, [.ref 45, .ref 23, .int 0], [.ref 128, .int 0, .ref 47]) (ff_139 xs, gg_145, pp_282, dd 133 Ln, 133, 1928)) (ar_cI0 rfl rfl rfl rfl rfl rfl rfl rfl (kc_31 xs Ln)) ?_
  refine Eq.trans (b := am_runs (47, 85, [.ref 45, .ref 23, .int 0], []) (ff_139 xs, gg_145, pp_283, dd 133 Ln, 133, 1928)) (am_tsr rfl (dd_k (by decide) rfl) (dd_k (by decide) rfl) rfl rfl) ?_
  refine (am_bl 4 (f' := (47, 68, [.ref 45, .ref 23, .int 1], [.int 3, .int 1])) rfl).trans ?_
  refine Eq.trans (b := am_runs (47, 71, [.ref 45, .ref 23, .int 1], []) (ff_139 xs, gg_145, pp_283, dd 133 Ln, 133, 1928)) ((rj_ge rfl).trans (if_neg (by decide))) ?_
  refine (am_bl 1 (f' := (47, 72, [.ref 45, .ref 23, .int 1], [.ref 45])) rfl).trans ?_
  refine Eq.trans (b := am_runs (47, 75, [.ref 45, .ref 23, .int 1], [.ref 47]) (ff_139 xs, gg_145, pp_283, dd 133 Ln, 133, 1928)) (ar_gr rfl (dd_k (by decide) rfl) rfl) ?_
  refine (am_bl 1 (f' := (47, 76, [.ref 45, .ref 23, .int 1], [.int 1, .ref 47])) rfl).trans ?_
  refine Eq.trans (b := am_runs (47, 79, [.ref 45, .ref 23, .int 1], [.ref 133, .int 1, .ref 47]) (ff_140 xs, gg_146, pp_284, dd 134 Ln, 134, 1936)) (am_tnw rfl (by decide) (by decide) (dd_s rfl) rfl) ?_
  refine (am_bl 2 (f' := (47, 81, [.ref 45, .ref 23, .int 1], [.ref 23, .ref 133, .ref 133, .int 1, .ref 47])) rfl).trans ?_
  refine Eq.trans (b := am_runs (47, 84, [.ref 45, .ref 23, .int 1], [.ref 133, .int 1, .ref 47]) (ff_144 xs, gg_150, pp_293, dd 138 Ln, 138, 1963)) (ar_cI0 rfl rfl rfl rfl rfl rfl rfl rfl (kc_32 xs Ln)) ?_
  refine Eq.trans (b := am_runs (47, 85, [.ref 45, .ref 23, .int 1], []) (ff_144 xs, gg_150, pp_294, dd 138 Ln, 138, 1963)) (am_tsr rfl (dd_k (by decide) rfl) (dd_k (by decide) rfl) rfl rfl) ?_
  refine (am_bl 4 (f' := (47, 68, [.ref 45, .ref 23, .int 2], [.int 3, .int 2])) rfl).trans ?_
  refine Eq.trans (b := am_runs (47, 71, [.ref 45, .ref 23, .int 2], []) (ff_144 xs, gg_150, pp_294, dd 138 Ln, 138, 1963)) ((rj_ge rfl).trans (if_neg (by decide))) ?_
  refine (am_bl 1 (f' := (47, 72, [.ref 45, .ref 23, .int 2], [.ref 45])) rfl).trans ?_
  refine Eq.trans (b := am_runs (47, 75, [.ref 45, .ref 23, .int 2], [.ref 47]) (ff_144 xs, gg_150, pp_294, dd 138 Ln, 138, 1963)) (ar_gr rfl (dd_k (by decide) rfl) rfl) ?_
  refine (am_bl 1 (f' := (47, 76, [.ref 45, .ref 23, .int 2], [.int 2, .ref 47])) rfl).trans ?_
  refine Eq.trans (b := am_runs (47, 79, [.ref 45, .ref 23, .int 2], [.ref 138, .int 2, .ref 47]) (ff_145 xs, gg_151, pp_295, dd 139 Ln, 139, 1971)) (am_tnw rfl (by decide) (by decide) (dd_s rfl) rfl) ?_
  refine (am_bl 2 (f' := (47, 81, [.ref 45, .ref 23, .int 2], [.ref 23, .ref 138, .ref 138, .int 2, .ref 47])) rfl).trans ?_
  refine Eq.trans (b := am_runs (47, 84, [.ref 45, .ref 23, .int 2], [.ref 138, .int 2, .ref 47]) (ff_149 xs, gg_155, pp_304, dd 143 Ln, 143, 1998)) (ar_cI0 rfl rfl rfl rfl rfl rfl rfl rfl (kc_33 xs Ln)) ?_
  refine Eq.trans (b := am_runs (47, 85, [.ref 45, .ref 23, .int 2], []) (ff_149 xs, gg_155, pp_305, dd 143 Ln, 143, 1998)) (am_tsr rfl (dd_k (by decide) rfl) (dd_k (by decide) rfl) rfl rfl) ?_
  refine (am_bl 4 (f' := (47, 68, [.ref 45, .ref 23, .int 3], [.int 3, .int 3])) rfl).trans ?_
  refine Eq.trans (b := am_runs (47, 91, [.ref 45, .ref 23, .int 3], []) (ff_149 xs, gg_155, pp_305, dd 143 Ln, 143, 1998)) ((rj_ge rfl).trans (if_pos (by decide))) ?_
  exact am_gr rfl rfl rfl
set_option maxRecDepth 10000 in
theorem kc_35 (xs : Nat → Int32) (Ln : Nat) : am_runs (am_en 0 [.ref 145, .ref 23]) (ff_152 xs, gg_158, pp_310, dd 146 Ln, 146, 2021) = some (none, (ff_156 xs, gg_162, pp_319, dd 150 Ln, 150, 2048)) := by
  show am_runs (0, 0, [.ref 145, .ref 23], []) (ff_152 xs, gg_158, pp_310, dd 146 Ln, 146, 2021) = _
  refine (am_bl 1 (f' := (0, 1, [.ref 145, .ref 23], [.ref 145])) rfl).trans ?_
  refine Eq.trans (b := am_runs (0, 4, [.ref 145, .ref 23], []) (ff_152 xs, gg_158, pp_310, dd 146 Ln, 146, 2021)) (am_goi rfl rfl) ?_
  refine (am_bl 2 (f' := (0, 7, [.ref 145, .ref 23], [.int 8, .ref 145])) rfl).trans ?_
  refine Eq.trans (b := am_runs (0, 9, [.ref 145, .ref 23], [.ref 146, .ref 145]) (ff_153 xs, gg_159, pp_311, dd 147 Ln, 147, 2029)) (am_tna rfl rfl (by decide) (by decide) (by decide) (by decide) (by decide) (dd_s rfl) rfl) ?_
  refine Eq.trans (b := am_runs (0, 12, [.ref 145, .ref 23], []) (ff_153 xs, gg_159, pp_312, dd 147 Ln, 147, 2029)) (rr_pr rfl (dd_k (by decide) rfl) rfl) ?_
  refine (am_bl 2 (f' := (0, 15, [.ref 145, .ref 23], [.int 8, .ref 145])) rfl).trans ?_
  refine Eq.trans (b := am_runs (0, 17, [.ref 145, .ref 23], [.ref 147, .ref 145]) (ff_154 xs, gg_160, pp_313, dd 148 Ln, 148, 2037)) (am_tna rfl rfl (by decide) (by decide) (by decide) (by decide) (by decide) (dd_s rfl) rfl) ?_
  refine Eq.trans (b := am_runs (0, 20, [.ref 145, .ref 23], []) (ff_154 xs, gg_160, pp_314, dd 148 Ln, 148, 2037)) (rr_pr rfl (dd_k (by decide) rfl) rfl) ?_
  refine (am_bl 2 (f' := (0, 23, [.ref 145, .ref 23], [.int 8, .ref 145])) rfl).trans ?_
  refine Eq.trans (b := am_runs (0, 25, [.ref 145, .ref 23], [.ref 148, .ref 145]) (ff_155 xs, gg_161, pp_315, dd 149 Ln, 149, 2045)) (am_tna rfl rfl (by decide) (by decide) (by decide) (by decide) (by decide) (dd_s rfl) rfl) ?_
  refine Eq.trans (b := am_runs (0, 28, [.ref 145, .ref 23], []) (ff_155 xs, gg_161, pp_316, dd 149 Ln, 149, 2045)) (rr_pr rfl (dd_k (by decide) rfl) rfl) ?_
  refine (am_bl 2 (f' := (0, 30, [.ref 145, .ref 23], [.int 3, .ref 145])) rfl).trans ?_
  refine Eq.trans (b := am_runs (0, 32, [.ref 145, .ref 23], [.ref 149, .ref 145]) (ff_156 xs, gg_162, pp_317, dd 150 Ln, 150, 2048)) (am_tna rfl rfl (by decide) (by decide) (by decide) (by decide) (by decide) (dd_s rfl) rfl) ?_
  refine Eq.trans (b := am_runs (0, 35, [.ref 145, .ref 23], []) (ff_156 xs, gg_162, pp_318, dd 150 Ln, 150, 2048)) (rr_pr rfl (dd_k (by decide) rfl) rfl) ?_
  refine (am_bl 2 (f' := (0, 37, [.ref 145, .ref 23], [.ref 23, .ref 145])) rfl).trans ?_
  refine Eq.trans (b := am_runs (0, 40, [.ref 145, .ref 23], []) (ff_156 xs, gg_162, pp_319, dd 150 Ln, 150, 2048)) (rr_pr rfl (dd_k (by decide) rfl) rfl) ?_
  exact am_gr rfl rfl rfl
set_option maxRecDepth 10000 in
theorem kc_36 (xs : Nat → Int32) (Ln : Nat) : am_runs (am_en 0 [.ref 150, .ref 23]) (ff_157 xs, gg_163, pp_321, dd 151 Ln, 151, 2056) = some (none, (ff_161 xs, gg_167, pp_330, dd 155 Ln, 155, 2083)) := by
  show am_runs (0, 0, [.ref 150, .ref 23], []) (ff_157 xs, gg_163, pp_321, dd 151 Ln, 151, 2056) = _
  refine (am_bl 1 (f' := (0, 1, [.ref 150, .ref 23], [.ref 150])) rfl).trans ?_
  refine Eq.trans (b := am_runs (0, 4, [.ref 150, .ref 23], []) (ff_157 xs, gg_163, pp_321, dd 151 Ln, 151, 2056)) (am_goi rfl rfl) ?_
  refine (am_bl 2 (f' := (0, 7, [.ref 150, .ref 23], [.int 8, .ref 150])) rfl).trans ?_
  refine Eq.trans (b := am_runs (0, 9, [.ref 150, .ref 23], [.ref 151, .ref 150]) (ff_158 xs, gg_164, pp_322, dd 152 Ln, 152, 2064)) (am_tna rfl rfl (by decide) (by decide) (by decide) (by decide) (by decide) (dd_s rfl) rfl) ?_
  refine Eq.trans (b := am_runs (0, 12, [.ref 150, .ref 23], []) (ff_158 xs, gg_164, pp_323, dd 152 Ln, 152, 2064)) (rr_pr rfl (dd_k (by decide) rfl) rfl) ?_
  refine (am_bl 2 (f' := (0, 15, [.ref 150, .ref 23], [.int 8, .ref 150])) rfl).trans ?_
  refine Eq.trans (b := am_runs (0, 17, [.ref 150, .ref 23], [.ref 152, .ref 150]) (ff_159 xs, gg_165, pp_324, dd 153 Ln, 153, 2072)) (am_tna rfl rfl (by decide) (by decide) (by decide) (by decide) (by decide) (dd_s rfl) rfl) ?_
  refine Eq.trans (b := am_runs (0, 20, [.ref 150, .ref 23], []) (ff_159 xs, gg_165, pp_325, dd 153 Ln, 153, 2072)) (rr_pr rfl (dd_k (by decide) rfl) rfl) ?_
  refine (am_bl 2 (f' := (0, 23, [.ref 150, .ref 23], [.int 8, .ref 150])) rfl).trans ?_
  refine Eq.trans (b := am_runs (0, 25, [.ref 150, .ref 23], [.ref 153, .ref 150]) (ff_160 xs, gg_166, pp_326, dd 154 Ln, 154, 2080)) (am_tna rfl rfl (by decide) (by decide) (by decide) (by decide) (by decide) (dd_s rfl) rfl) ?_
  refine Eq.trans (b := am_runs (0, 28, [.ref 150, .ref 23], []) (ff_160 xs, gg_166, pp_327, dd 154 Ln, 154, 2080)) (rr_pr rfl (dd_k (by decide) rfl) rfl) ?_
  refine (am_bl 2 (f' := (0, 30, [.ref 150, .ref 23], [.int 3, .ref 150])) rfl).trans ?_
  refine Eq.trans (b := am_runs (0, 32, [.ref 150, .ref 23], [.ref 154, .ref 150]) (ff_161 xs, gg_167, pp_328, dd 155 Ln, 155, 2083)) (am_tna rfl rfl (by decide) (by decide) (by decide) (by decide) (by decide) (dd_s rfl) rfl) ?_
  refine Eq.trans (b := am_runs (0, 35, [.ref 150, .ref 23], []) (ff_161 xs, gg_167, pp_329, dd 155 Ln, 155, 2083)) (rr_pr rfl (dd_k (by decide) rfl) rfl) ?_
  refine (am_bl 2 (f' := (0, 37, [.ref 150, .ref 23], [.ref 23, .ref 150])) rfl).trans ?_
  refine Eq.trans (b := am_runs (0, 40, [.ref 150, .ref 23], []) (ff_161 xs, gg_167, pp_330, dd 155 Ln, 155, 2083)) (rr_pr rfl (dd_k (by decide) rfl) rfl) ?_
  exact am_gr rfl rfl rfl
set_option maxRecDepth 10000 in
theorem kc_37 (xs : Nat → Int32) (Ln : Nat) : am_runs (am_en 0 [.ref 155, .ref 23]) (ff_162 xs, gg_168, pp_332, dd 156 Ln, 156, 2091) = some (none, (ff_166 xs, gg_172, pp_341, dd 160 Ln, 160, 2118)) := by
  show am_runs (0, 0, [.ref 155, .ref 23], []) (ff_162 xs, gg_168, pp_332, dd 156 Ln, 156, 2091) = _
  refine (am_bl 1 (f' := (0, 1, [.ref 155, .ref 23], [.ref 155])) rfl).trans ?_
  refine Eq.trans (b := am_runs (0, 4, [.ref 155, .ref 23], []) (ff_162 xs, gg_168, pp_332, dd 156 Ln, 156, 2091)) (am_goi rfl rfl) ?_
  refine (am_bl 2 (f' := (0, 7, [.ref 155, .ref 23], [.int 8, .ref 155])) rfl).trans ?_
  refine Eq.trans (b := am_runs (0, 9, [.ref 155, .ref 23], [.ref 156, .ref 155]) (ff_163 xs, gg_169, pp_333, dd 157 Ln, 157, 2099)) (am_tna rfl rfl (by decide) (by decide) (by decide) (by decide) (by decide) (dd_s rfl) rfl) ?_
  refine Eq.trans (b := am_runs (0, 12, [.ref 155, .ref 23], []) (ff_163 xs, gg_169, pp_334, dd 157 Ln, 157, 2099)) (rr_pr rfl (dd_k (by decide) rfl) rfl) ?_
  refine (am_bl 2 (f' := (0, 15, [.ref 155, .ref 23], [.int 8, .ref 155])) rfl).trans ?_
  refine Eq.trans (b := am_runs (0, 17, [.ref 155, .ref 23], [.ref 157, .ref 155]) (ff_164 xs, gg_170, pp_335, dd 158 Ln, 158, 2107)) (am_tna rfl rfl (by decide) (by decide) (by decide) (by decide) (by decide) (dd_s rfl) rfl) ?_
  refine Eq.trans (b := am_runs (0, 20, [.ref 155, .ref 23], []) (ff_164 xs, gg_170, pp_336, dd 158 Ln, 158, 2107)) (rr_pr rfl (dd_k (by decide) rfl) rfl) ?_
  refine (am_bl 2 (f' := (0, 23, [.ref 155, .ref 23], [.int 8, .ref 155])) rfl).trans ?_
  refine Eq.trans (b := am_runs (0, 25, [.ref 155, .ref 23], [.ref 158, .ref 155]) (ff_165 xs, gg_171, pp_337, dd 159 Ln, 159, 2115)) (am_tna rfl rfl (by decide) (by decide) (by decide) (by decide) (by decide) (dd_s rfl) rfl) ?_
  refine Eq.trans (b := am_runs (0, 28, [.ref 155, .ref 23], []) (ff_165 xs, gg_171, pp_338, dd 159 Ln, 159, 2115)) (rr_pr rfl (dd_k (by decide) rfl) rfl) ?_
  refine (am_bl 2 (f' := (0, 30, [.ref 155, .ref 23], [.int 3, .ref 155])) rfl).trans ?_
  refine Eq.trans (b := am_runs (0, 32, [.ref 155, .ref 23], [.ref 159, .ref 155]) (ff_166 xs, gg_172, pp_339, dd 160 Ln, 160, 2118)) (am_tna rfl rfl (by decide) (by decide) (by decide) (by decide) (by decide) (dd_s rfl) rfl) ?_
  refine Eq.trans (b := am_runs (0, 35, [.ref 155, .ref 23], []) (ff_166 xs, gg_172, pp_340, dd 160 Ln, 160, 2118)) (rr_pr rfl (dd_k (by decide) rfl) rfl) ?_
  refine (am_bl 2 (f' := (0, 37, [.ref 155, .ref 23], [.ref 23, .ref 155])) rfl).trans ?_
  refine Eq.trans (b := am_runs (0, 40, [.ref 155, .ref 23], []) (ff_166 xs, gg_172, pp_341, dd 160 Ln, 160, 2118)) (rr_pr rfl (dd_k (by decide) rfl) rfl) ?_
  exact am_gr rfl rfl rfl
set_option maxRecDepth 10000 in
theorem kc_38 (xs : Nat → Int32) (Ln : Nat) : am_runs (am_en 0 [.ref 160, .ref 23]) (ff_167 xs, gg_173, pp_343, dd 161 Ln, 161, 2126) = some (none, (ff_171 xs, gg_177, pp_352, dd 165 Ln, 165, 2153)) := by
  show am_runs (0, 0, [.ref 160, .ref 23], []) (ff_167 xs, gg_173, pp_343, dd 161 Ln, 161, 2126) = _
  refine (am_bl 1 (f' := (0, 1, [.ref 160, .ref 23], [.ref 160])) rfl).trans ?_
  refine Eq.trans (b := am_runs (0, 4, [.ref 160, .ref 23], []) (ff_167 xs, gg_173, pp_343, dd 161 Ln, 161, 2126)) (am_goi rfl rfl) ?_
  refine (am_bl 2 (f' := (0, 7, [.ref 160, .ref 23], [.int 8, .ref 160])) rfl).trans ?_
  refine Eq.trans (b := am_runs (0, 9, [.ref 160, .ref 23], [.ref 161, .ref 160]) (ff_168 xs, gg_174, pp_344, dd 162 Ln, 162, 2134)) (am_tna rfl rfl (by decide) (by decide) (by decide) (by decide) (by decide) (dd_s rfl) rfl) ?_
  refine Eq.trans (b := am_runs (0, 12, [.ref 160, .ref 23], []) (ff_168 xs, gg_174, pp_345, dd 162 Ln, 162, 2134)) (rr_pr rfl (dd_k (by decide) rfl) rfl) ?_
  refine (am_bl 2 (f' := (0, 15, [.ref 160, .ref 23], [.int 8, .ref 160])) rfl).trans ?_
  refine Eq.trans (b := am_runs (0, 17, [.ref 160, .ref 23], [.ref 162, .ref 160]) (ff_169 xs, gg_175, pp_346, dd 163 Ln, 163, 2142)) (am_tna rfl rfl (by decide) (by decide) (by decide) (by decide) (by decide) (dd_s rfl) rfl) ?_
  refine Eq.trans (b := am_runs (0, 20, [.ref 160, .ref 23], []) (ff_169 xs, gg_175, pp_347, dd 163 Ln, 163, 2142)) (rr_pr rfl (dd_k (by decide) rfl) rfl) ?_
  refine (am_bl 2 (f' := (0, 23, [.ref 160, .ref 23], [.int 8, .ref 160])) rfl).trans ?_
  refine Eq.trans (b := am_runs (0, 25, [.ref 160, .ref 23], [.ref 163, .ref 160]) (ff_170 xs, gg_176, pp_348, dd 164 Ln, 164, 2150)) (am_tna rfl rfl (by decide) (by decide) (by decide) (by decide) (by decide) (dd_s rfl) rfl) ?_
  refine Eq.trans (b := am_runs (0, 28, [.ref 160, .ref 23], []) (ff_170 xs, gg_176, pp_349, dd 164 Ln, 164, 2150)) (rr_pr rfl (dd_k (by decide) rfl) rfl) ?_
  refine (am_bl 2 (f' := (0, 30, [.ref 160, .ref 23], [.int 3, .ref 160])) rfl).trans ?_
  refine Eq.trans (b := am_runs (0, 32, [.ref 160, .ref 23], [.ref 164, .ref 160]) (ff_171 xs, gg_177, pp_350, dd 165 Ln, 165, 2153)) (am_tna rfl rfl (by decide) (by decide) (by decide) (by decide) (by decide) (dd_s rfl) rfl) ?_
  refine Eq.trans (b := am_runs (0, 35, [.ref 160, .ref 23], []) (ff_171 xs, gg_177, pp_351, dd 165 Ln, 165, 2153)) (rr_pr rfl (dd_k (by decide) rfl) rfl) ?_
  refine (am_bl 2 (f' := (0, 37, [.ref 160, .ref 23], [.ref 23, .ref 160])) rfl).trans ?_
  refine Eq.trans (b := am_runs (0, 40, [.ref 160, .ref 23], []) (ff_171 xs, gg_177, pp_352, dd 165 Ln, 165, 2153)) (rr_pr rfl (dd_k (by decide) rfl) rfl) ?_
  exact am_gr rfl rfl rfl
set_option maxRecDepth 10000 in
theorem kc_39 (xs : Nat → Int32) (Ln : Nat) : am_runs (am_en 56 [.ref 143, .ref 23]) (ff_150 xs, gg_156, pp_307, dd 144 Ln, 144, 2009) = some (none, (ff_171 xs, gg_177, pp_353, dd 165 Ln, 165, 2153)) := by
  show am_runs (56, 0, [.ref 143, .ref 23, .retAddr 0], []) (ff_150 xs, gg_156, pp_307, dd 144 Ln, 144, 2009) = _
  refine (am_bl 1 (f' := (56, 1, [.ref 143, .ref 23, .retAddr 0], [.ref 143])) rfl).trans ?_
  refine Eq.trans (b := am_runs (56, 4, [.ref 143, .ref 23, .retAddr 0], []) (ff_150 xs, gg_156, pp_307, dd 144 Ln, 144, 2009)) (am_goi rfl rfl) ?_
  refine (am_bl 2 (f' := (56, 6, [.ref 143, .ref 23, .retAddr 0], [.int 4, .ref 143])) rfl).trans ?_
  refine Eq.trans (b := am_runs (56, 9, [.ref 143, .ref 23, .retAddr 0], [.ref 144, .ref 143]) (ff_151 xs, gg_157, pp_308, dd 145 Ln, 145, 2013)) (am_tnb rfl (by decide) (by decide) (by decide) (by decide) (by decide) (dd_s rfl) rfl) ?_
  refine Eq.trans (b := am_runs (56, 12, [.ref 143, .ref 23, .retAddr 0], []) (ff_151 xs, gg_157, pp_309, dd 145 Ln, 145, 2013)) (rr_pr rfl (dd_k (by decide) rfl) rfl) ?_
  refine (am_bl 4 (f' := (56, 16, [.ref 143, .ref 23, .int 0], [.int 3, .int 0])) rfl).trans ?_
  refine Eq.trans (b := am_runs (56, 19, [.ref 143, .ref 23, .int 0], []) (ff_151 xs, gg_157, pp_309, dd 145 Ln, 145, 2013)) ((rj_gt rfl).trans (if_neg (by decide))) ?_
  refine (am_bl 1 (f' := (56, 20, [.ref 143, .ref 23, .int 0], [.ref 143])) rfl).trans ?_
  refine Eq.trans (b := am_runs (56, 23, [.ref 143, .ref 23, .int 0], [.ref 144]) (ff_151 xs, gg_157, pp_309, dd 145 Ln, 145, 2013)) (ar_gr rfl (dd_k (by decide) rfl) rfl) ?_
  refine (am_bl 1 (f' := (56, 24, [.ref 143, .ref 23, .int 0], [.int 0, .ref 144])) rfl).trans ?_
  refine Eq.trans (b := am_runs (56, 27, [.ref 143, .ref 23, .int 0], [.ref 145, .int 0, .ref 144]) (ff_152 xs, gg_158, pp_310, dd 146 Ln, 146, 2021)) (am_tnw rfl (by decide) (by decide) (dd_s rfl) rfl) ?_
  refine (am_bl 2 (f' := (56, 29, [.ref 143, .ref 23, .int 0], [.ref 23, .ref 145, .ref 145, .int 0, .ref 144])) rfl).trans ?_
  refine Eq.trans (b := am_runs (56, 32, [.ref 143, .ref 23, .int 0], [.ref 145, .int 0, .ref 144]) (ff_156 xs, gg_162, pp_319, dd 150 Ln, 150, 2048)) (ar_cI0 rfl rfl rfl rfl rfl rfl rfl rfl (kc_35 xs Ln)) ?_
  refine Eq.trans (b := am_runs (56, 33, [.ref 143, .ref 23, .int 0], []) (ff_156 xs, gg_162, pp_320, dd 150 Ln, 150, 2048)) (am_tsr rfl (dd_k (by decide) rfl) (dd_k (by decide) rfl) rfl rfl) ?_
  refine (am_bl 4 (f' := (56, 16, [.ref 143, .ref 23, .int 1], [.int 3, .int 1])) rfl).trans ?_
  refine Eq.trans (b := am_runs (56, 19, [.ref 143, .ref 23, .int 1], []) (ff_156 xs, gg_162, pp_320, dd 150 Ln, 150, 2048)) ((rj_gt rfl).trans (if_neg (by decide))) ?_
  refine (am_bl 1 (f' := (56, 20, [.ref 143, .ref 23, .int 1], [.ref 143])) rfl).trans ?_
  refine Eq.trans (b := am_runs (56, 23, [.ref 143, .ref 23, .int 1], [.ref 144]) (ff_156 xs, gg_162, pp_320, dd 150 Ln, 150, 2048)) (ar_gr rfl (dd_k (by decide) rfl) rfl) ?_
  refine (am_bl 1 (f' := (56, 24, [.ref 143, .ref 23, .int 1], [.int 1, .ref 144])) rfl).trans ?_
  refine Eq.trans (b := am_runs (56, 27, [.ref 143, .ref 23, .int 1], [.ref 150, .int 1, .ref 144]) (ff_157 xs, gg_163, pp_321, dd 151 Ln, 151, 2056)) (am_tnw rfl (by decide) (by decide) (dd_s rfl) rfl) ?_
  refine (am_bl 2 (f' := (56, 29, [.ref 143, .ref 23, .int 1], [.ref 23, .ref 150, .ref 150, .int 1, .ref 144])) rfl).trans ?_
  refine Eq.trans (b := am_runs (56, 32, [.ref 143, .ref 23, .int 1], [.ref 150, .int 1, .ref 144]) (ff_161 xs, gg_167, pp_330, dd 155 Ln, 155, 2083)) (ar_cI0 rfl rfl rfl rfl rfl rfl rfl rfl (kc_36 xs Ln)) ?_
  refine Eq.trans (b := am_runs (56, 33, [.ref 143, .ref 23, .int 1], []) (ff_161 xs, gg_167, pp_331, dd 155 Ln, 155, 2083)) (am_tsr rfl (dd_k (by decide) rfl) (dd_k (by decide) rfl) rfl rfl) ?_
  refine (am_bl 4 (f' := (56, 16, [.ref 143, .ref 23, .int 2], [.int 3, .int 2])) rfl).trans ?_
  refine Eq.trans (b := am_runs (56, 19, [.ref 143, .ref 23, .int 2], []) (ff_161 xs, gg_167, pp_331, dd 155 Ln, 155, 2083)) ((rj_gt rfl).trans (if_neg (by decide))) ?_
  refine (am_bl 1 (f' := (56, 20, [.ref 143, .ref 23, .int 2], [.ref 143])) rfl).trans ?_
  refine Eq.trans (b := am_runs (56, 23, [.ref 143, .ref 23, .int 2], [.ref 144]) (ff_161 xs, gg_167, pp_331, dd 155 Ln, 155, 2083)) (ar_gr rfl (dd_k (by decide) rfl) rfl) ?_
  refine (am_bl 1 (f' := (56, 24, [.ref 143, .ref 23, .int 2], [.int 2, .ref 144])) rfl).trans ?_
  refine Eq.trans (b := am_runs (56, 27, [.ref 143, .ref 23, .int 2], [.ref 155, .int 2, .ref 144]) (ff_162 xs, gg_168, pp_332, dd 156 Ln, 156, 2091)) (am_tnw rfl (by decide) (by decide) (dd_s rfl) rfl) ?_
  refine (am_bl 2 (f' := (56, 29, [.ref 143, .ref 23, .int 2], [.ref 23, .ref 155, .ref 155, .int 2, .ref 144])) rfl).trans ?_
  refine Eq.trans (b := am_runs (56, 32, [.ref 143, .ref 23, .int 2], [.ref 155, .int 2, .ref 144]) (ff_166 xs, gg_172, pp_341, dd 160 Ln, 160, 2118)) (ar_cI0 rfl rfl rfl rfl rfl rfl rfl rfl (kc_37 xs Ln)) ?_
  refine Eq.trans (b := am_runs (56, 33, [.ref 143, .ref 23, .int 2], []) (ff_166 xs, gg_172, pp_342, dd 160 Ln, 160, 2118)) (am_tsr rfl (dd_k (by decide) rfl) (dd_k (by decide) rfl) rfl rfl) ?_
  refine (am_bl 4 (f' := (56, 16, [.ref 143, .ref 23, .int 3], [.int 3, .int 3])) rfl).trans ?_
  refine Eq.trans (b := am_runs (56, 19, [.ref 143, .ref 23, .int 3], []) (ff_166 xs, gg_172, pp_342, dd 160 Ln, 160, 2118)) ((rj_gt rfl).trans (if_neg (by decide))) ?_
  refine (am_bl 1 (f' := (56, 20, [.ref 143, .ref 23, .int 3], [.ref 143])) rfl).trans ?_
  refine Eq.trans (b := am_runs (56, 23, [.ref 143, .ref 23, .int 3], [.ref 144]) (ff_166 xs, gg_172, pp_342, dd 160 Ln, 160, 2118)) (ar_gr rfl (dd_k (by decide) rfl) rfl) ?_
  refine (am_bl 1 (f' := (56, 24, [.ref 143, .ref 23, .int 3], [.int 3, .ref 144])) rfl).trans ?_
  refine Eq.trans (b := am_runs (56, 27, [.ref 143, .ref 23, .int 3], [.ref 160, .int 3, .ref 144]) (ff_167 xs, gg_173, pp_343, dd 161 Ln, 161, 2126)) (am_tnw rfl (by decide) (by decide) (dd_s rfl) rfl) ?_
  refine (am_bl 2 (f' := (56, 29, [.ref 143, .ref 23, .int 3], [.ref 23, .ref 160, .ref 160, .int 3, .ref 144])) rfl).trans ?_
  refine Eq.trans (b := am_runs (56, 32, [.ref 143, .ref 23, .int 3], [.ref 160, .int 3, .ref 144]) (ff_171 xs, gg_177, pp_352, dd 165 Ln, 165, 2153)) (ar_cI0 rfl rfl rfl rfl rfl rfl rfl rfl (kc_38 xs Ln)) ?_
  refine Eq.trans (b := am_runs (56, 33, [.ref 143, .ref 23, .int 3], []) (ff_171 xs, gg_177, pp_353, dd 165 Ln, 165, 2153)) (am_tsr rfl (dd_k (by decide) rfl) (dd_k (by decide) rfl) rfl rfl) ?_
  refine (am_bl 4 (f' := (56, 16, [.ref 143, .ref 23, .int 4], [.int 3, .int 4])) rfl).trans ?_
  refine Eq.trans (b := am_runs (56, 39, [.ref 143, .ref 23, .int 4], []) (ff_171 xs, gg_177, pp_353, dd 165 Ln, 165, 2153)) ((rj_gt rfl).trans (if_pos (by decide))) ?_
  exact am_gr rfl rfl rfl
set_option maxRecDepth 10000 in
theorem kc_40 (xs : Nat → Int32) (Ln : Nat) : am_runs (am_en 99 [.ref 165]) (ff_172 xs, gg_178, pp_355, dd 166 Ln, 166, 2158) = some (none, (ff_175 xs, gg_181, pp_361, dd 169 Ln, 169, 2177)) := by
  show am_runs (99, 0, [.ref 165], []) (ff_172 xs, gg_178, pp_355, dd 166 Ln, 166, 2158) = _
  refine (am_bl 1 (f' := (99, 1, [.ref 165], [.ref 165])) rfl).trans ?_
  refine Eq.trans (b := am_runs (99, 4, [.ref 165], []) (ff_172 xs, gg_178, pp_355, dd 166 Ln, 166, 2158)) (am_goi rfl rfl) ?_
  refine (am_bl 2 (f' := (99, 7, [.ref 165], [.int 8, .ref 165])) rfl).trans ?_
  refine Eq.trans (b := am_runs (99, 9, [.ref 165], [.ref 166, .ref 165]) (ff_173 xs, gg_179, pp_356, dd 167 Ln, 167, 2166)) (am_tna rfl rfl (by decide) (by decide) (by decide) (by decide) (by decide) (dd_s rfl) rfl) ?_
  refine Eq.trans (b := am_runs (99, 12, [.ref 165], []) (ff_173 xs, gg_179, pp_357, dd 167 Ln, 167, 2166)) (rr_pr rfl (dd_k (by decide) rfl) rfl) ?_
  refine (am_bl 2 (f' := (99, 15, [.ref 165], [.int 8, .ref 165])) rfl).trans ?_
  refine Eq.trans (b := am_runs (99, 17, [.ref 165], [.ref 167, .ref 165]) (ff_174 xs, gg_180, pp_358, dd 168 Ln, 168, 2174)) (am_tna rfl rfl (by decide) (by decide) (by decide) (by decide) (by decide) (dd_s rfl) rfl) ?_
  refine Eq.trans (b := am_runs (99, 20, [.ref 165], []) (ff_174 xs, gg_180, pp_359, dd 168 Ln, 168, 2174)) (rr_pr rfl (dd_k (by decide) rfl) rfl) ?_
  refine (am_bl 2 (f' := (99, 22, [.ref 165], [.int 3, .ref 165])) rfl).trans ?_
  refine Eq.trans (b := am_runs (99, 24, [.ref 165], [.ref 168, .ref 165]) (ff_175 xs, gg_181, pp_360, dd 169 Ln, 169, 2177)) (am_tna rfl rfl (by decide) (by decide) (by decide) (by decide) (by decide) (dd_s rfl) rfl) ?_
  refine Eq.trans (b := am_runs (99, 27, [.ref 165], []) (ff_175 xs, gg_181, pp_361, dd 169 Ln, 169, 2177)) (rr_pr rfl (dd_k (by decide) rfl) rfl) ?_
  exact am_gr rfl rfl rfl
set_option maxRecDepth 10000 in
theorem kc_41 (xs : Nat → Int32) (Ln : Nat) : am_runs (am_en 0 [.ref 171, .ref 23]) (ff_178 xs, gg_184, pp_366, dd 172 Ln, 172, 2196) = some (none, (ff_182 xs, gg_188, pp_375, dd 176 Ln, 176, 2223)) := by
  show am_runs (0, 0, [.ref 171, .ref 23], []) (ff_178 xs, gg_184, pp_366, dd 172 Ln, 172, 2196) = _
  refine (am_bl 1 (f' := (0, 1, [.ref 171, .ref 23], [.ref 171])) rfl).trans ?_
  refine Eq.trans (b := am_runs (0, 4, [.ref 171, .ref 23], []) (ff_178 xs, gg_184, pp_366, dd 172 Ln, 172, 2196)) (am_goi rfl rfl) ?_
  refine (am_bl 2 (f' := (0, 7, [.ref 171, .ref 23], [.int 8, .ref 171])) rfl).trans ?_
  refine Eq.trans (b := am_runs (0, 9, [.ref 171, .ref 23], [.ref 172, .ref 171]) (ff_179 xs, gg_185, pp_367, dd 173 Ln, 173, 2204)) (am_tna rfl rfl (by decide) (by decide) (by decide) (by decide) (by decide) (dd_s rfl) rfl) ?_
  refine Eq.trans (b := am_runs (0, 12, [.ref 171, .ref 23], []) (ff_179 xs, gg_185, pp_368, dd 173 Ln, 173, 2204)) (rr_pr rfl (dd_k (by decide) rfl) rfl) ?_
  refine (am_bl 2 (f' := (0, 15, [.ref 171, .ref 23], [.int 8, .ref 171])) rfl).trans ?_
  refine Eq.trans (b := am_runs (0, 17, [.ref 171, .ref 23], [.ref 173, .ref 171]) (ff_180 xs, gg_186, pp_369, dd 174 Ln, 174, 2212)) (am_tna rfl rfl (by decide) (by decide) (by decide) (by decide) (by decide) (dd_s rfl) rfl) ?_
  refine Eq.trans (b := am_runs (0, 20, [.ref 171, .ref 23], []) (ff_180 xs, gg_186, pp_370, dd 174 Ln, 174, 2212)) (rr_pr rfl (dd_k (by decide) rfl) rfl) ?_
  refine (am_bl 2 (f' := (0, 23, [.ref 171, .ref 23], [.int 8, .ref 171])) rfl).trans ?_
  refine Eq.trans (b := am_runs (0, 25, [.ref 171, .ref 23], [.ref 174, .ref 171]) (ff_181 xs, gg_187, pp_371, dd 175 Ln, 175, 2220)) (am_tna rfl rfl (by decide) (by decide) (by decide) (by decide) (by decide) (dd_s rfl) rfl) ?_
  refine Eq.trans (b := am_runs (0, 28, [.ref 171, .ref 23], []) (ff_181 xs, gg_187, pp_372, dd 175 Ln, 175, 2220)) (rr_pr rfl (dd_k (by decide) rfl) rfl) ?_
  refine (am_bl 2 (f' := (0, 30, [.ref 171, .ref 23], [.int 3, .ref 171])) rfl).trans ?_
  refine Eq.trans (b := am_runs (0, 32, [.ref 171, .ref 23], [.ref 175, .ref 171]) (ff_182 xs, gg_188, pp_373, dd 176 Ln, 176, 2223)) (am_tna rfl rfl (by decide) (by decide) (by decide) (by decide) (by decide) (dd_s rfl) rfl) ?_
  refine Eq.trans (b := am_runs (0, 35, [.ref 171, .ref 23], []) (ff_182 xs, gg_188, pp_374, dd 176 Ln, 176, 2223)) (rr_pr rfl (dd_k (by decide) rfl) rfl) ?_
  refine (am_bl 2 (f' := (0, 37, [.ref 171, .ref 23], [.ref 23, .ref 171])) rfl).trans ?_
  refine Eq.trans (b := am_runs (0, 40, [.ref 171, .ref 23], []) (ff_182 xs, gg_188, pp_375, dd 176 Ln, 176, 2223)) (rr_pr rfl (dd_k (by decide) rfl) rfl) ?_
  exact am_gr rfl rfl rfl
set_option maxRecDepth 10000 in
theorem kc_42 (xs : Nat → Int32) (Ln : Nat) : am_runs (am_en 1 [.ref 169, .ref 23]) (ff_176 xs, gg_182, pp_363, dd 170 Ln, 170, 2180) = some (none, (ff_182 xs, gg_188, pp_376, dd 176 Ln, 176, 2223)) := by
  show am_runs (1, 0, [.ref 169, .ref 23], []) (ff_176 xs, gg_182, pp_363, dd 170 Ln, 170, 2180) = _
  refine (am_bl 1 (f' := (1, 1, [.ref 169, .ref 23], [.ref 169])) rfl).trans ?_
  refine Eq.trans (b := am_runs (1, 4, [.ref 169, .ref 23], []) (ff_176 xs, gg_182, pp_363, dd 170 Ln, 170, 2180)) (am_goi rfl rfl) ?_
  refine (am_bl 2 (f' := (1, 7, [.ref 169, .ref 23], [.int 8, .ref 169])) rfl).trans ?_
  refine Eq.trans (b := am_runs (1, 9, [.ref 169, .ref 23], [.ref 170, .ref 169]) (ff_177 xs, gg_183, pp_364, dd 171 Ln, 171, 2188)) (am_tna rfl rfl (by decide) (by decide) (by decide) (by decide) (by decide) (dd_s rfl) rfl) ?_
  refine Eq.trans (b := am_runs (1, 12, [.ref 169, .ref 23], []) (ff_177 xs, gg_183, pp_365, dd 171 Ln, 171, 2188)) (rr_pr rfl (dd_k (by decide) rfl) rfl) ?_
  refine (am_bl 1 (f' := (1, 13, [.ref 169, .ref 23], [.ref 169])) rfl).trans ?_
  refine Eq.trans (b := am_runs (1, 16, [.ref 169, .ref 23], [.ref 171, .ref 169]) (ff_178 xs, gg_184, pp_366, dd 172 Ln, 172, 2196)) (am_tnw rfl (by decide) (by decide) (dd_s rfl) rfl) ?_
  refine (am_bl 2 (f' := (1, 18, [.ref 169, .ref 23], [.ref 23, .ref 171, .ref 171, .ref 169])) rfl).trans ?_
  refine Eq.trans (b := am_runs (1, 21, [.ref 169, .ref 23], [.ref 171, .ref 169]) (ff_182 xs, gg_188, pp_375, dd 176 Ln, 176, 2223)) (ar_cI0 rfl rfl rfl rfl rfl rfl rfl rfl (kc_41 xs Ln)) ?_
  refine Eq.trans (b := am_runs (1, 24, [.ref 169, .ref 23], []) (ff_182 xs, gg_188, pp_376, dd 176 Ln, 176, 2223)) (rr_pr rfl (dd_k (by decide) rfl) rfl) ?_
  exact am_gr rfl rfl rfl
set_option maxRecDepth 10000 in
theorem kc_43 (xs : Nat → Int32) (Ln : Nat) : am_runs (am_en 29 [.ref 176]) (ff_183 xs, gg_189, pp_378, dd 177 Ln, 177, 2225) = some (none, (ff_183 xs, gg_191, pp_378, dd 177 Ln, 177, 2225)) := by
  show am_runs (29, 0, [.ref 176], []) (ff_183 xs, gg_189, pp_378, dd 177 Ln, 177, 2225) = _
  refine (am_bl 1 (f' := (29, 1, [.ref 176], [.ref 176])) rfl).trans ?_
  refine Eq.trans (b := am_runs (29, 4, [.ref 176], []) (ff_183 xs, gg_189, pp_378, dd 177 Ln, 177, 2225)) (am_goi rfl rfl) ?_
  refine (am_bl 2 (f' := (29, 6, [.ref 176], [.long 0, .ref 176])) rfl).trans ?_
  refine Eq.trans (b := am_runs (29, 9, [.ref 176], []) (ff_183 xs, gg_190, pp_378, dd 177 Ln, 177, 2225)) (rr_pl rfl (dd_k (by decide) rfl) rfl) ?_
  refine (am_bl 2 (f' := (29, 11, [.ref 176], [.long 1, .ref 176])) rfl).trans ?_
  refine Eq.trans (b := am_runs (29, 14, [.ref 176], []) (ff_183 xs, gg_191, pp_378, dd 177 Ln, 177, 2225)) (rr_pl rfl (dd_k (by decide) rfl) rfl) ?_
  exact am_gr rfl rfl rfl
set_option maxRecDepth 10000 in
theorem kc_44 (xs : Nat → Int32) (Ln : Nat) : am_runs (am_en 110 [.ref 0]) (ff_1 xs, gg_1, pp_1, dd 1 Ln, 1, 13) = some (none, (ff_186 xs, gg_191, pp_379, dd 177 Ln, 177, 2225)) := by
  show am_runs (110, 0, [.ref 0], []) (ff_1 xs, gg_1, pp_1, dd 1 Ln, 1, 13) = _
  refine (am_bl 1 (f' := (110, 1, [.ref 0], [.ref 0])) rfl).trans ?_
  refine Eq.trans (b := am_runs (110, 4, [.ref 0], []) (ff_1 xs, gg_1, pp_1, dd 1 Ln, 1, 13)) (am_goi rfl rfl) ?_
  refine (am_bl 2 (f' := (110, 8, [.ref 0], [.int 1000, .ref 0])) rfl).trans ?_
  refine Eq.trans (b := am_runs (110, 10, [.ref 0], [.ref 1, .ref 0]) (ff_2 xs, gg_2, pp_2, dd 2 Ln, 2, 1013)) (am_tna rfl rfl (by decide) (by decide) (by decide) (by decide) (by decide) (dd_s rfl) rfl) ?_
  refine Eq.trans (b := am_runs (110, 13, [.ref 0], []) (ff_2 xs, gg_2, pp_3, dd 2 Ln, 2, 1013)) (rr_pr rfl (dd_k (by decide) rfl) rfl) ?_
  refine (am_bl 2 (f' := (110, 15, [.ref 0], [.int 0, .ref 0])) rfl).trans ?_
  refine Eq.trans (b := am_runs (110, 18, [.ref 0], []) (ff_3 xs, gg_2, pp_3, dd 2 Ln, 2, 1013)) (rr_pi rfl (dd_k (by decide) rfl) rfl) ?_
  refine (am_bl 1 (f' := (110, 19, [.ref 0], [.ref 0])) rfl).trans ?_
  refine Eq.trans (b := am_runs (110, 22, [.ref 0], [.ref 2, .ref 0]) (ff_4 xs, gg_3, pp_4, dd 3 Ln, 3, 1020)) (am_tnw rfl (by decide) (by decide) (dd_s rfl) rfl) ?_
  refine (am_bl 2 (f' := (110, 24, [.ref 0], [.ref 0, .ref 2, .ref 2, .ref 0])) rfl).trans ?_
  refine Eq.trans (b := am_runs (110, 27, [.ref 0], [.ref 1, .ref 2, .ref 2, .ref 0]) (ff_4 xs, gg_3, pp_4, dd 3 Ln, 3, 1020)) (ar_gr rfl (dd_k (by decide) rfl) rfl) ?_
  refine Eq.trans (b := am_runs (110, 30, [.ref 0], [.ref 2, .ref 0]) (ff_25 xs, gg_29, pp_45, dd 23 Ln, 23, 1155)) (ar_cI0 rfl rfl rfl rfl rfl rfl rfl rfl (kc_7 xs Ln)) ?_
  refine Eq.trans (b := am_runs (110, 33, [.ref 0], []) (ff_25 xs, gg_29, pp_46, dd 23 Ln, 23, 1155)) (rr_pr rfl (dd_k (by decide) rfl) rfl) ?_
  refine (am_bl 1 (f' := (110, 34, [.ref 0], [.ref 0])) rfl).trans ?_
  refine Eq.trans (b := am_runs (110, 37, [.ref 0], [.ref 23, .ref 0]) (ff_26 xs, gg_30, pp_47, dd 24 Ln, 24, 1170)) (am_tnw rfl (by decide) (by decide) (dd_s rfl) rfl) ?_
  refine (am_bl 1 (f' := (110, 38, [.ref 0], [.ref 23, .ref 23, .ref 0])) rfl).trans ?_
  refine Eq.trans (b := am_runs (110, 41, [.ref 0], [.ref 23, .ref 0]) (ff_43 xs, gg_52, pp_79, dd 40 Ln, 40, 1274)) (ar_cI0 rfl rfl rfl rfl rfl rfl rfl rfl (kc_13 xs Ln)) ?_
  refine Eq.trans (b := am_runs (110, 44, [.ref 0], []) (ff_43 xs, gg_52, pp_80, dd 40 Ln, 40, 1274)) (rr_pr rfl (dd_k (by decide) rfl) rfl) ?_
  refine (am_bl 1 (f' := (110, 45, [.ref 0], [.ref 0])) rfl).trans ?_
  refine Eq.trans (b := am_runs (110, 48, [.ref 0], [.ref 40, .ref 0]) (ff_44 xs, gg_53, pp_81, dd 41 Ln, 41, 1282)) (am_tnw rfl (by decide) (by decide) (dd_s rfl) rfl) ?_
  refine (am_bl 2 (f' := (110, 50, [.ref 0], [.ref 0, .ref 40, .ref 40, .ref 0])) rfl).trans ?_
  refine Eq.trans (b := am_runs (110, 53, [.ref 0], [.ref 23, .ref 40, .ref 40, .ref 0]) (ff_44 xs, gg_53, pp_81, dd 41 Ln, 41, 1282)) (ar_gr rfl (dd_k (by decide) rfl) rfl) ?_
  refine Eq.trans (b := am_runs (110, 56, [.ref 0], [.ref 40, .ref 0]) (ff_48 xs, gg_57, pp_90, dd 45 Ln, 45, 1309)) (ar_cI0 rfl rfl rfl rfl rfl rfl rfl rfl (kc_14 xs Ln)) ?_
  refine Eq.trans (b := am_runs (110, 59, [.ref 0], []) (ff_48 xs, gg_57, pp_91, dd 45 Ln, 45, 1309)) (rr_pr rfl (dd_k (by decide) rfl) rfl) ?_
  refine (am_bl 1 (f' := (110, 60, [.ref 0], [.ref 0])) rfl).trans ?_
  refine Eq.trans (b := am_runs (110, 63, [.ref 0], [.ref 45, .ref 0]) (ff_49 xs, gg_58, pp_92, dd 46 Ln, 46, 1314)) (am_tnw rfl (by decide) (by decide) (dd_s rfl) rfl) ?_
  refine (am_bl 2 (f' := (110, 65, [.ref 0], [.ref 0, .ref 45, .ref 45, .ref 0])) rfl).trans ?_
  refine Eq.trans (b := am_runs (110, 68, [.ref 0], [.ref 23, .ref 45, .ref 45, .ref 0]) (ff_49 xs, gg_58, pp_92, dd 46 Ln, 46, 1314)) (ar_gr rfl (dd_k (by decide) rfl) rfl) ?_
  refine Eq.trans (b := am_runs (110, 71, [.ref 0], [.ref 45, .ref 0]) (ff_149 xs, gg_155, pp_305, dd 143 Ln, 143, 1998)) (ar_cI0 rfl rfl rfl rfl rfl rfl rfl rfl (kc_34 xs Ln)) ?_
  refine Eq.trans (b := am_runs (110, 74, [.ref 0], []) (ff_149 xs, gg_155, pp_306, dd 143 Ln, 143, 1998)) (rr_pr rfl (dd_k (by decide) rfl) rfl) ?_
  refine (am_bl 1 (f' := (110, 75, [.ref 0], [.ref 0])) rfl).trans ?_
  refine Eq.trans (b := am_runs (110, 78, [.ref 0], [.ref 143, .ref 0]) (ff_150 xs, gg_156, pp_307, dd 144 Ln, 144, 2009)) (am_tnw rfl (by decide) (by decide) (dd_s rfl) rfl) ?_
  refine (am_bl 2 (f' := (110, 80, [.ref 0], [.ref 0, .ref 143, .ref 143, .ref 0])) rfl).trans ?_
  refine Eq.trans (b := am_runs (110, 83, [.ref 0], [.ref 23, .ref 143, .ref 143, .ref 0]) (ff_150 xs, gg_156, pp_307, dd 144 Ln, 144, 2009)) (ar_gr rfl (dd_k (by decide) rfl) rfl) ?_
  refine Eq.trans (b := am_runs (110, 86, [.ref 0], [.ref 143, .ref 0]) (ff_171 xs, gg_177, pp_353, dd 165 Ln, 165, 2153)) (ar_cI0 rfl rfl rfl rfl rfl rfl rfl rfl (kc_39 xs Ln)) ?_
  refine Eq.trans (b := am_runs (110, 89, [.ref 0], []) (ff_171 xs, gg_177, pp_354, dd 165 Ln, 165, 2153)) (rr_pr rfl (dd_k (by decide) rfl) rfl) ?_
  refine (am_bl 1 (f' := (110, 90, [.ref 0], [.ref 0])) rfl).trans ?_
  refine Eq.trans (b := am_runs (110, 93, [.ref 0], [.ref 165, .ref 0]) (ff_172 xs, gg_178, pp_355, dd 166 Ln, 166, 2158)) (am_tnw rfl (by decide) (by decide) (dd_s rfl) rfl) ?_
  refine (am_bl 1 (f' := (110, 94, [.ref 0], [.ref 165, .ref 165, .ref 0])) rfl).trans ?_
  refine Eq.trans (b := am_runs (110, 97, [.ref 0], [.ref 165, .ref 0]) (ff_175 xs, gg_181, pp_361, dd 169 Ln, 169, 2177)) (ar_cI0 rfl rfl rfl rfl rfl rfl rfl rfl (kc_40 xs Ln)) ?_
  refine Eq.trans (b := am_runs (110, 100, [.ref 0], []) (ff_175 xs, gg_181, pp_362, dd 169 Ln, 169, 2177)) (rr_pr rfl (dd_k (by decide) rfl) rfl) ?_
  refine (am_bl 1 (f' := (110, 101, [.ref 0], [.ref 0])) rfl).trans ?_
  refine Eq.trans (b := am_runs (110, 104, [.ref 0], [.ref 169, .ref 0]) (ff_176 xs, gg_182, pp_363, dd 170 Ln, 170, 2180)) (am_tnw rfl (by decide) (by decide) (dd_s rfl) rfl) ?_
  refine (am_bl 2 (f' := (110, 106, [.ref 0], [.ref 0, .ref 169, .ref 169, .ref 0])) rfl).trans ?_
  refine Eq.trans (b := am_runs (110, 109, [.ref 0], [.ref 23, .ref 169, .ref 169, .ref 0]) (ff_176 xs, gg_182, pp_363, dd 170 Ln, 170, 2180)) (ar_gr rfl (dd_k (by decide) rfl) rfl) ?_
  refine Eq.trans (b := am_runs (110, 112, [.ref 0], [.ref 169, .ref 0]) (ff_182 xs, gg_188, pp_376, dd 176 Ln, 176, 2223)) (ar_cI0 rfl rfl rfl rfl rfl rfl rfl rfl (kc_42 xs Ln)) ?_
  refine Eq.trans (b := am_runs (110, 115, [.ref 0], []) (ff_182 xs, gg_188, pp_377, dd 176 Ln, 176, 2223)) (rr_pr rfl (dd_k (by decide) rfl) rfl) ?_
  refine (am_bl 1 (f' := (110, 116, [.ref 0], [.ref 0])) rfl).trans ?_
  refine Eq.trans (b := am_runs (110, 119, [.ref 0], [.ref 176, .ref 0]) (ff_183 xs, gg_189, pp_378, dd 177 Ln, 177, 2225)) (am_tnw rfl (by decide) (by decide) (dd_s rfl) rfl) ?_
  refine (am_bl 1 (f' := (110, 120, [.ref 0], [.ref 176, .ref 176, .ref 0])) rfl).trans ?_
  refine Eq.trans (b := am_runs (110, 123, [.ref 0], [.ref 176, .ref 0]) (ff_183 xs, gg_191, pp_378, dd 177 Ln, 177, 2225)) (ar_cI0 rfl rfl rfl rfl rfl rfl rfl rfl (kc_43 xs Ln)) ?_
  refine Eq.trans (b := am_runs (110, 126, [.ref 0], []) (ff_183 xs, gg_191, pp_379, dd 177 Ln, 177, 2225)) (rr_pr rfl (dd_k (by decide) rfl) rfl) ?_
  refine (am_bl 2 (f' := (110, 128, [.ref 0], [.int 0, .ref 0])) rfl).trans ?_
  refine Eq.trans (b := am_runs (110, 131, [.ref 0], []) (ff_184 xs, gg_191, pp_379, dd 177 Ln, 177, 2225)) (rr_pi rfl (dd_k (by decide) rfl) rfl) ?_
  refine (am_bl 2 (f' := (110, 133, [.ref 0], [.int (-1), .ref 0])) rfl).trans ?_
  refine Eq.trans (b := am_runs (110, 136, [.ref 0], []) (ff_185 xs, gg_191, pp_379, dd 177 Ln, 177, 2225)) (rr_pi rfl (dd_k (by decide) rfl) rfl) ?_
  refine (am_bl 2 (f' := (110, 138, [.ref 0], [.int 0, .ref 0])) rfl).trans ?_
  refine Eq.trans (b := am_runs (110, 141, [.ref 0], []) (ff_186 xs, gg_191, pp_379, dd 177 Ln, 177, 2225)) (rr_pi rfl (dd_k (by decide) rfl) rfl) ?_
  exact am_gr rfl rfl rfl
set_option maxRecDepth 10000 in
theorem kc_45 (xs : Nat → Int32) (Ln : Nat) : am_runs (am_en 182 [.ref 177]) (ff_187 xs, gg_192, pp_380, dd 178 Ln, 178, 2279) = some (none, (ff_202 xs, gg_205, pp_406, dd 191 Ln, 191, 4408)) := by
  show am_runs (182, 0, [.ref 177], []) (ff_187 xs, gg_192, pp_380, dd 178 Ln, 178, 2279) = _
  refine (am_bl 1 (f' := (182, 1, [.ref 177], [.ref 177])) rfl).trans ?_
  refine Eq.trans (b := am_runs (182, 4, [.ref 177], []) (ff_187 xs, gg_192, pp_380, dd 178 Ln, 178, 2279)) (am_goi rfl rfl) ?_
  refine (am_bl 2 (f' := (182, 8, [.ref 177], [.int 1000, .ref 177])) rfl).trans ?_
  refine Eq.trans (b := am_runs (182, 10, [.ref 177], [.ref 178, .ref 177]) (ff_188 xs, gg_193, pp_381, dd 179 Ln, 179, 3279)) (am_tna rfl rfl (by decide) (by decide) (by decide) (by decide) (by decide) (dd_s rfl) rfl) ?_
  refine Eq.trans (b := am_runs (182, 13, [.ref 177], []) (ff_188 xs, gg_193, pp_382, dd 179 Ln, 179, 3279)) (rr_pr rfl (dd_k (by decide) rfl) rfl) ?_
  refine (am_bl 2 (f' := (182, 15, [.ref 177], [.int (-1), .ref 177])) rfl).trans ?_
  refine Eq.trans (b := am_runs (182, 18, [.ref 177], []) (ff_189 xs, gg_193, pp_382, dd 179 Ln, 179, 3279)) (rr_pi rfl (dd_k (by decide) rfl) rfl) ?_
  refine (am_bl 2 (f' := (182, 21, [.ref 177], [.int 8, .ref 177])) rfl).trans ?_
  refine Eq.trans (b := am_runs (182, 23, [.ref 177], [.ref 179, .ref 177]) (ff_190 xs, gg_194, pp_383, dd 180 Ln, 180, 3287)) (am_tna rfl rfl (by decide) (by decide) (by decide) (by decide) (by decide) (dd_s rfl) rfl) ?_
  refine Eq.trans (b := am_runs (182, 26, [.ref 177], []) (ff_190 xs, gg_194, pp_384, dd 180 Ln, 180, 3287)) (rr_pr rfl (dd_k (by decide) rfl) rfl) ?_
  refine (am_bl 2 (f' := (182, 30, [.ref 177], [.int 172, .ref 177])) rfl).trans ?_
  refine Eq.trans (b := am_runs (182, 32, [.ref 177], [.ref 180, .ref 177]) (ff_191 xs, gg_195, pp_385, dd 181 Ln, 181, 3459)) (am_tna rfl rfl (by decide) (by decide) (by decide) (by decide) (by decide) (dd_s rfl) rfl) ?_
  refine Eq.trans (b := am_runs (182, 35, [.ref 177], []) (ff_191 xs, gg_195, pp_386, dd 181 Ln, 181, 3459)) (rr_pr rfl (dd_k (by decide) rfl) rfl) ?_
  refine (am_bl 2 (f' := (182, 39, [.ref 177], [.int 172, .ref 177])) rfl).trans ?_
  refine Eq.trans (b := am_runs (182, 41, [.ref 177], [.ref 181, .ref 177]) (ff_192 xs, gg_196, pp_387, dd 182 Ln, 182, 3631)) (am_tna rfl rfl (by decide) (by decide) (by decide) (by decide) (by decide) (dd_s rfl) rfl) ?_
  refine Eq.trans (b := am_runs (182, 44, [.ref 177], []) (ff_192 xs, gg_196, pp_388, dd 182 Ln, 182, 3631)) (rr_pr rfl (dd_k (by decide) rfl) rfl) ?_
  refine (am_bl 2 (f' := (182, 47, [.ref 177], [.int 30, .ref 177])) rfl).trans ?_
  refine Eq.trans (b := am_runs (182, 49, [.ref 177], [.ref 182, .ref 177]) (ff_193 xs, gg_197, pp_389, dd 183 Ln, 183, 3661)) (am_tna rfl rfl (by decide) (by decide) (by decide) (by decide) (by decide) (dd_s rfl) rfl) ?_
  refine Eq.trans (b := am_runs (182, 52, [.ref 177], []) (ff_193 xs, gg_197, pp_390, dd 183 Ln, 183, 3661)) (rr_pr rfl (dd_k (by decide) rfl) rfl) ?_
  refine (am_bl 2 (f' := (182, 56, [.ref 177], [.int 480, .ref 177])) rfl).trans ?_
  refine Eq.trans (b := am_runs (182, 58, [.ref 177], [.ref 183, .ref 177]) (ff_194 xs, gg_198, pp_391, dd 184 Ln, 184, 4141)) (am_tna rfl rfl (by decide) (by decide) (by decide) (by decide) (by decide) (dd_s rfl) rfl) ?_
  refine Eq.trans (b := am_runs (182, 61, [.ref 177], []) (ff_194 xs, gg_198, pp_392, dd 184 Ln, 184, 4141)) (rr_pr rfl (dd_k (by decide) rfl) rfl) ?_
  refine (am_bl 2 (f' := (182, 64, [.ref 177], [.int 90, .ref 177])) rfl).trans ?_
  refine Eq.trans (b := am_runs (182, 66, [.ref 177], [.ref 184, .ref 177]) (ff_195 xs, gg_199, pp_393, dd 185 Ln, 185, 4231)) (am_tna rfl rfl (by decide) (by decide) (by decide) (by decide) (by decide) (dd_s rfl) rfl) ?_
  refine Eq.trans (b := am_runs (182, 69, [.ref 177], []) (ff_195 xs, gg_199, pp_394, dd 185 Ln, 185, 4231)) (rr_pr rfl (dd_k (by decide) rfl) rfl) ?_
  refine (am_bl 2 (f' := (182, 71, [.ref 177], [.int (-1), .ref 177])) rfl).trans ?_
  refine Eq.trans (b := am_runs (182, 74, [.ref 177], []) (ff_196 xs, gg_199, pp_394, dd 185 Ln, 185, 4231)) (rr_pi rfl (dd_k (by decide) rfl) rfl) ?_
  refine (am_bl 2 (f' := (182, 77, [.ref 177], [.int 120, .ref 177])) rfl).trans ?_
  refine Eq.trans (b := am_runs (182, 79, [.ref 177], [.ref 185, .ref 177]) (ff_197 xs, gg_200, pp_395, dd 186 Ln, 186, 4351)) (am_tna rfl rfl (by decide) (by decide) (by decide) (by decide) (by decide) (dd_s rfl) rfl) ?_
  refine Eq.trans (b := am_runs (182, 82, [.ref 177], []) (ff_197 xs, gg_200, pp_396, dd 186 Ln, 186, 4351)) (rr_pr rfl (dd_k (by decide) rfl) rfl) ?_
  refine (am_bl 2 (f' := (182, 85, [.ref 177], [.int 8, .ref 177])) rfl).trans ?_
  refine Eq.trans (b := am_runs (182, 87, [.ref 177], [.ref 186, .ref 177]) (ff_198 xs, gg_201, pp_397, dd 187 Ln, 187, 4359)) (am_tna rfl rfl (by decide) (by decide) (by decide) (by decide) (by decide) (dd_s rfl) rfl) ?_
  refine Eq.trans (b := am_runs (182, 90, [.ref 177], []) (ff_198 xs, gg_201, pp_398, dd 187 Ln, 187, 4359)) (rr_pr rfl (dd_k (by decide) rfl) rfl) ?_
  refine (am_bl 2 (f' := (182, 93, [.ref 177], [.int 8, .ref 177])) rfl).trans ?_
  refine Eq.trans (b := am_runs (182, 95, [.ref 177], [.ref 187, .ref 177]) (ff_199 xs, gg_202, pp_399, dd 188 Ln, 188, 4367)) (am_tna rfl rfl (by decide) (by decide) (by decide) (by decide) (by decide) (dd_s rfl) rfl) ?_
  refine Eq.trans (b := am_runs (182, 98, [.ref 177], []) (ff_199 xs, gg_202, pp_400, dd 188 Ln, 188, 4367)) (rr_pr rfl (dd_k (by decide) rfl) rfl) ?_
  refine (am_bl 2 (f' := (182, 100, [.ref 177], [.int 3, .ref 177])) rfl).trans ?_
  refine Eq.trans (b := am_runs (182, 102, [.ref 177], [.ref 188, .ref 177]) (ff_200 xs, gg_203, pp_401, dd 189 Ln, 189, 4370)) (am_tna rfl rfl (by decide) (by decide) (by decide) (by decide) (by decide) (dd_s rfl) rfl) ?_
  refine Eq.trans (b := am_runs (182, 105, [.ref 177], []) (ff_200 xs, gg_203, pp_402, dd 189 Ln, 189, 4370)) (rr_pr rfl (dd_k (by decide) rfl) rfl) ?_
  refine (am_bl 2 (f' := (182, 108, [.ref 177], [.int 30, .ref 177])) rfl).trans ?_
  refine Eq.trans (b := am_runs (182, 110, [.ref 177], [.ref 189, .ref 177]) (ff_201 xs, gg_204, pp_403, dd 190 Ln, 190, 4400)) (am_tna rfl rfl (by decide) (by decide) (by decide) (by decide) (by decide) (dd_s rfl) rfl) ?_
  refine Eq.trans (b := am_runs (182, 113, [.ref 177], []) (ff_201 xs, gg_204, pp_404, dd 190 Ln, 190, 4400)) (rr_pr rfl (dd_k (by decide) rfl) rfl) ?_
  refine (am_bl 2 (f' := (182, 116, [.ref 177], [.int 8, .ref 177])) rfl).trans ?_
  refine Eq.trans (b := am_runs (182, 118, [.ref 177], [.ref 190, .ref 177]) (ff_202 xs, gg_205, pp_405, dd 191 Ln, 191, 4408)) (am_tna rfl rfl (by decide) (by decide) (by decide) (by decide) (by decide) (dd_s rfl) rfl) ?_
  refine Eq.trans (b := am_runs (182, 121, [.ref 177], []) (ff_202 xs, gg_205, pp_406, dd 191 Ln, 191, 4408)) (rr_pr rfl (dd_k (by decide) rfl) rfl) ?_
  exact am_gr rfl rfl rfl
