/-! RULES over a memory that is told in its pieces: ints f, longs g, pointers p, kinds d, counts e -/
section AMR
variable {q pc n idx j : Nat} {i : Instr} {inf : am_I} {L S rest : List Value} {P : Prop} {a k ci : Nat} {ix : Int32}
variable {f : Nat → Nat → Int32} {g : Nat → Nat → Int64} {p : Nat → Nat → Option Nat} {d : Nat → Nat × Nat} {e : Nat × Nat}
theorem ar_gi (h : am_fetch q pc = some (.getfield idx, 3, (ci, k, 0))) (hk : d a = (ci, n)) : am_runs (q, pc, L, .ref a :: S) (f, g, p, d, e) = am_runs (q, pc + 3, L, .int (f a k) :: S) (f, g, p, d, e) := am_ggi h (congrArg Prod.fst hk)
theorem ar_gz (h : am_fetch q pc = some (.getfield idx, 3, (ci, k, 3))) (hk : d a = (ci, n)) : am_runs (q, pc, L, .ref a :: S) (f, g, p, d, e) = am_runs (q, pc + 3, L, .int (f a k) :: S) (f, g, p, d, e) := am_ggz h (congrArg Prod.fst hk)
theorem ar_gl (h : am_fetch q pc = some (.getfield idx, 3, (ci, k, 1))) (hk : d a = (ci, n)) : am_runs (q, pc, L, .ref a :: S) (f, g, p, d, e) = am_runs (q, pc + 3, L, .long (g a k) :: S) (f, g, p, d, e) := am_ggl h (congrArg Prod.fst hk)
theorem ar_gr {r : Nat} (h : am_fetch q pc = some (.getfield idx, 3, (ci, k, 2))) (hk : d a = (ci, n)) (hr : p a k = some r) : am_runs (q, pc, L, .ref a :: S) (f, g, p, d, e) = am_runs (q, pc + 3, L, .ref r :: S) (f, g, p, d, e) := am_ggr h (congrArg Prod.fst hk) hr
theorem ar_pi {x : Int32} (h : am_fetch q pc = some (.putfield idx, 3, (ci, k, 0))) (hk : d a = (ci, n)) : am_runs (q, pc, L, .int x :: .ref a :: S) (f, g, p, d, e) = am_runs (q, pc + 3, L, S) (am_u f a k x, g, p, d, e) := am_gpi h (congrArg Prod.fst hk)
theorem ar_pz {x : Int32} (h : am_fetch q pc = some (.putfield idx, 3, (ci, k, 3))) (hk : d a = (ci, n)) (hx : x = 0 ∨ x = 1) : am_runs (q, pc, L, .int x :: .ref a :: S) (f, g, p, d, e) = am_runs (q, pc + 3, L, S) (am_u f a k x, g, p, d, e) := am_gpz h (congrArg Prod.fst hk) hx
theorem ar_pl {x : Int64} (h : am_fetch q pc = some (.putfield idx, 3, (ci, k, 1))) (hk : d a = (ci, n)) : am_runs (q, pc, L, .long x :: .ref a :: S) (f, g, p, d, e) = am_runs (q, pc + 3, L, S) (f, am_u g a k x, p, d, e) := am_gpl h (congrArg Prod.fst hk)
theorem ar_pr {x : Nat} (h : am_fetch q pc = some (.putfield idx, 3, (ci, k, 2))) (hk : d a = (ci, n)) : am_runs (q, pc, L, .ref x :: .ref a :: S) (f, g, p, d, e) = am_runs (q, pc + 3, L, S) (f, g, am_u p a k (some x), d, e) := am_gpr h (congrArg Prod.fst hk)
theorem ar_ai (h : am_fetch q pc = some (.iaload, 1, inf)) (hk : d a = (14, n)) (hb : am_out ix n = false) (hj : ix.toNatClampNeg = j) : am_runs (q, pc, L, .int ix :: .ref a :: S) (f, g, p, d, e) = am_runs (q, pc + 1, L, .int (f a j) :: S) (f, g, p, d, e) := am_gaiN h hk hb hj
theorem ar_al (h : am_fetch q pc = some (.laload, 1, inf)) (hk : d a = (15, n)) (hb : am_out ix n = false) (hj : ix.toNatClampNeg = j) : am_runs (q, pc, L, .int ix :: .ref a :: S) (f, g, p, d, e) = am_runs (q, pc + 1, L, .long (g a j) :: S) (f, g, p, d, e) := am_galN h hk hb hj
theorem ar_ab (h : am_fetch q pc = some (.baload, 1, inf)) (hk : d a = (13, n)) (hb : am_out ix n = false) (hj : ix.toNatClampNeg = j) : am_runs (q, pc, L, .int ix :: .ref a :: S) (f, g, p, d, e) = am_runs (q, pc + 1, L, .int (f a j) :: S) (f, g, p, d, e) := am_gabN h hk hb hj
theorem ar_az (h : am_fetch q pc = some (.baload, 1, inf)) (hk : d a = (16, n)) (hb : am_out ix n = false) (hj : ix.toNatClampNeg = j) : am_runs (q, pc, L, .int ix :: .ref a :: S) (f, g, p, d, e) = am_runs (q, pc + 1, L, .int (f a j) :: S) (f, g, p, d, e) := am_gazN h hk hb hj
theorem ar_aa {r : Nat} (h : am_fetch q pc = some (.aaload, 1, inf)) (hk : d a = (17, n)) (hb : am_out ix n = false) (hj : ix.toNatClampNeg = j) (hr : p a j = some r) : am_runs (q, pc, L, .int ix :: .ref a :: S) (f, g, p, d, e) = am_runs (q, pc + 1, L, .ref r :: S) (f, g, p, d, e) := am_gaa h hk hb (by rw [hj]; exact hr)
theorem ar_asc (h : am_fetch q pc = some (.iaload, 1, inf)) (hb : am_out ix (d am_SC).2 = false) (hj : ix.toNatClampNeg = j) : am_runs (q, pc, L, .int ix :: .retAddr 1 :: S) (f, g, p, d, e) = am_runs (q, pc + 1, L, .int (f am_SC j) :: S) (f, g, p, d, e) := by rw [← hj]; exact am_gas h hb
theorem ar_si {x : Int32} (h : am_fetch q pc = some (.iastore, 1, inf)) (hk : d a = (14, n)) (hb : am_out ix n = false) (hj : ix.toNatClampNeg = j) : am_runs (q, pc, L, .int x :: .int ix :: .ref a :: S) (f, g, p, d, e) = am_runs (q, pc + 1, L, S) (am_u f a j x, g, p, d, e) := am_gsiN h hk hb hj
theorem ar_sl {x : Int64} (h : am_fetch q pc = some (.lastore, 1, inf)) (hk : d a = (15, n)) (hb : am_out ix n = false) (hj : ix.toNatClampNeg = j) : am_runs (q, pc, L, .long x :: .int ix :: .ref a :: S) (f, g, p, d, e) = am_runs (q, pc + 1, L, S) (f, am_u g a j x, p, d, e) := am_gslN h hk hb hj
theorem ar_sb {x : Int32} (h : am_fetch q pc = some (.bastore, 1, inf)) (hk : d a = (13, n)) (hb : am_out ix n = false) (hj : ix.toNatClampNeg = j) : am_runs (q, pc, L, .int x :: .int ix :: .ref a :: S) (f, g, p, d, e) = am_runs (q, pc + 1, L, S) (am_u f a j (vp_nar .byte x), g, p, d, e) := am_gsbN h hk hb hj
theorem ar_sz {x : Int32} (h : am_fetch q pc = some (.bastore, 1, inf)) (hk : d a = (16, n)) (hb : am_out ix n = false) (hj : ix.toNatClampNeg = j) : am_runs (q, pc, L, .int x :: .int ix :: .ref a :: S) (f, g, p, d, e) = am_runs (q, pc + 1, L, S) (am_u f a j (vp_nar .boolean x), g, p, d, e) := am_gszN h hk hb hj
theorem ar_len {m : Nat} {y : Int32} (h : am_fetch q pc = some (.arraylength, 1, inf)) (hk : d a = (m, n)) (hm : Nat.blt 12 m = true) (hm2 : Nat.blt m 18 = true) (hy : nI n = y) : am_runs (q, pc, L, .ref a :: S) (f, g, p, d, e) = am_runs (q, pc + 1, L, .int y :: S) (f, g, p, d, e) := by
  rw [← hy]
  have hP : 12 < (d a).1 ∧ (d a).1 < 18 := by rw [hk]; exact ⟨Nat.le_of_ble_eq_true hm, Nat.le_of_ble_eq_true hm2⟩
  refine (am_gb h hP rfl).trans ?_
  show am_runs (q, pc + 1, L, .int (nI (d a).2) :: S) (f, g, p, d, e) = _
  rw [hk]
theorem ar_lsc (h : am_fetch q pc = some (.arraylength, 1, inf)) : am_runs (q, pc, L, .retAddr 1 :: S) (f, g, p, d, e) = am_runs (q, pc + 1, L, .int (nI (d am_SC).2) :: S) (f, g, p, d, e) := am_g h rfl
theorem ar_cpy {b : Nat} {nn dp sp : Int32} {n1 n2 : Nat} (h : am_fetch q pc = some (.invokestatic idx, 3, (9003, 5, 0))) (hc : Nat.ble (am_cat S) 8 = true) (ha : d a = (14, n1)) (hb : d b = (14, n2)) (hab : a ≠ b) (h1 : ¬ nn < 0) (h2 : ¬ sp < 0) (h3 : ¬ dp < 0) (h4 : sp.toNatClampNeg + nn.toNatClampNeg ≤ n1) (h5 : dp.toNatClampNeg + nn.toNatClampNeg ≤ n2) : am_runs (q, pc, L, .int nn :: .int dp :: .ref b :: .int sp :: .ref a :: S) (f, g, p, d, e) = am_runs (q, pc + 3, L, S) (va_up f b (va_cpy (f a) (f b) sp.toNatClampNeg dp.toNatClampNeg nn.toNatClampNeg), g, p, d, e) := by
  have hP : am_cat S ≤ 8 ∧ (d a).1 = 14 ∧ (d b).1 = 14 ∧ a ≠ b ∧ ¬ nn < 0 ∧ ¬ sp < 0 ∧ ¬ dp < 0 ∧ sp.toNatClampNeg + nn.toNatClampNeg ≤ (d a).2 ∧ dp.toNatClampNeg + nn.toNatClampNeg ≤ (d b).2 := by
    rw [ha, hb]
    exact ⟨Nat.le_of_ble_eq_true hc, rfl, rfl, hab, h1, h2, h3, h4, h5⟩
  exact am_gbl h hP (am_leb_rfl _) rfl
theorem ar_str {w : Nat} (h : am_fetch q pc = some (.invokevirtual idx, 3, (9001, 0, 0))) (hc : Nat.ble (am_cat S) 8 = true) (hw : w < 47) : am_runs (q, pc, L, .float (UInt32.ofNat w) :: S) (f, g, p, d, e) = am_runs (q, pc + 3, L, .int (nI (am_slen w)) :: S) (f, g, p, d, e) := by
  have e1 : (UInt32.ofNat w).toNat = w := by rw [UInt32.toNat_ofNat']; omega
  have hP : am_cat S ≤ 8 ∧ (UInt32.ofNat w).toNat < 47 := by rw [e1]; exact ⟨Nat.le_of_ble_eq_true hc, hw⟩
  have := am_gb (f' := (q, pc + 3, L, .int (nI (am_slen (UInt32.ofNat w).toNat)) :: S)) (μ := (f, g, p, d, e)) (S := .float (UInt32.ofNat w) :: S) (L := L) h hP rfl
  rw [e1] at this
  exact this
theorem ar_sch {w : Nat} (h : am_fetch q pc = some (.invokevirtual idx, 3, (9002, 1, 0))) (hc : Nat.ble (am_cat S) 8 = true) (hw : w < 47) (hb : am_out ix (am_slen w) = false) (hj : ix.toNatClampNeg = j) : am_runs (q, pc, L, .int ix :: .float (UInt32.ofNat w) :: S) (f, g, p, d, e) = am_runs (q, pc + 3, L, .int (nI (am_sch w j)) :: S) (f, g, p, d, e) := by
  have e1 : (UInt32.ofNat w).toNat = w := by rw [UInt32.toNat_ofNat']; omega
  have hP : am_cat S ≤ 8 ∧ (UInt32.ofNat w).toNat < 47 ∧ am_out ix (am_slen (UInt32.ofNat w).toNat) = false := by rw [e1]; exact ⟨Nat.le_of_ble_eq_true hc, hw, hb⟩
  have := am_gb (f' := (q, pc + 3, L, .int (nI (am_sch (UInt32.ofNat w).toNat ix.toNatClampNeg)) :: S)) (μ := (f, g, p, d, e)) (S := .int ix :: .float (UInt32.ofNat w) :: S) (L := L) h hP rfl
  rw [e1, hj] at this
  exact this
theorem ar_sw {t : Nat} (h : am_fetch q pc = some (i, n, inf)) (ht : am_sem i n inf q pc L S (f, g, p, d, e) = am_nx (q, t, L, rest) (f, g, p, d, e)) : am_runs (q, pc, L, S) (f, g, p, d, e) = am_runs (q, t, L, rest) (f, g, p, d, e) := am_g h ht
variable {c nn b : Nat} {μ μ' : am_M} {v : Value} {as : List Value} {x y : Int32}
theorem ar_cS (h : am_fetch q pc = some (.invokestatic idx, 3, (c, nn, 13))) (h9 : Nat.blt c 9000 = true) (h1 : Nat.blt c q = true) (h2 : Nat.ble nn S.length = true) (hS : S.drop nn = rest) (hA : (S.take nn).reverse = as) (h3 : Nat.ble (am_cat rest) 8 = true) (hl : Nat.ble (am_lc as).length (am_ms c).2.2.1 = true) (hc : am_runs (am_en c as) μ = some (some v, μ')) : am_runs (q, pc, L, S) μ = am_runs (q, pc + 3, L, v :: rest) μ' := by
  subst hS hA
  exact am_gcS h h9 h1 h2 h3 hl hc
theorem ar_cS0 (h : am_fetch q pc = some (.invokestatic idx, 3, (c, nn, 13))) (h9 : Nat.blt c 9000 = true) (h1 : Nat.blt c q = true) (h2 : Nat.ble nn S.length = true) (hS : S.drop nn = rest) (hA : (S.take nn).reverse = as) (h3 : Nat.ble (am_cat rest) 8 = true) (hl : Nat.ble (am_lc as).length (am_ms c).2.2.1 = true) (hc : am_runs (am_en c as) μ = some (none, μ')) : am_runs (q, pc, L, S) μ = am_runs (q, pc + 3, L, rest) μ' := by
  subst hS hA
  exact am_gcS h h9 h1 h2 h3 hl hc
theorem ar_cV {ci : Nat} (h : am_fetch q pc = some (.invokevirtual idx, 3, (c, nn, ci))) (h9 : Nat.blt c 9000 = true) (h1 : Nat.blt c q = true) (h2 : Nat.ble nn S.length = true) (hS : S.drop nn = .ref b :: rest) (hA : (S.take nn).reverse = as) (h3 : Nat.ble (am_cat rest) 8 = true) (hk : μ.2.2.2.1 b = (ci, n)) (hl : Nat.ble (am_lc (.ref b :: as)).length (am_ms c).2.2.1 = true) (hc : am_runs (am_en c (.ref b :: as)) μ = some (some v, μ')) : am_runs (q, pc, L, S) μ = am_runs (q, pc + 3, L, v :: rest) μ' := by
  subst hA
  exact am_gcV h h9 h1 h2 hS h3 (congrArg Prod.fst hk) hl hc
theorem ar_cV0 {ci : Nat} (h : am_fetch q pc = some (.invokevirtual idx, 3, (c, nn, ci))) (h9 : Nat.blt c 9000 = true) (h1 : Nat.blt c q = true) (h2 : Nat.ble nn S.length = true) (hS : S.drop nn = .ref b :: rest) (hA : (S.take nn).reverse = as) (h3 : Nat.ble (am_cat rest) 8 = true) (hk : μ.2.2.2.1 b = (ci, n)) (hl : Nat.ble (am_lc (.ref b :: as)).length (am_ms c).2.2.1 = true) (hc : am_runs (am_en c (.ref b :: as)) μ = some (none, μ')) : am_runs (q, pc, L, S) μ = am_runs (q, pc + 3, L, rest) μ' := by
  subst hA
  exact am_gcV h h9 h1 h2 hS h3 (congrArg Prod.fst hk) hl hc
theorem ar_cI (h : am_fetch q pc = some (.invokespecial idx, 3, (c, nn, 13))) (h9 : Nat.blt c 9000 = true) (h1 : Nat.blt c q = true) (h2 : Nat.ble nn S.length = true) (hS : S.drop nn = .ref b :: rest) (hA : (S.take nn).reverse = as) (h3 : Nat.ble (am_cat rest) 8 = true) (hl : Nat.ble (am_lc (.ref b :: as)).length (am_ms c).2.2.1 = true) (hc : am_runs (am_en c (.ref b :: as)) μ = some (some v, μ')) : am_runs (q, pc, L, S) μ = am_runs (q, pc + 3, L, v :: rest) μ' := by
  subst hA
  exact am_gcI h h9 h1 h2 hS h3 hl hc
theorem ar_cI0 (h : am_fetch q pc = some (.invokespecial idx, 3, (c, nn, 13))) (h9 : Nat.blt c 9000 = true) (h1 : Nat.blt c q = true) (h2 : Nat.ble nn S.length = true) (hS : S.drop nn = .ref b :: rest) (hA : (S.take nn).reverse = as) (h3 : Nat.ble (am_cat rest) 8 = true) (hl : Nat.ble (am_lc (.ref b :: as)).length (am_ms c).2.2.1 = true) (hc : am_runs (am_en c (.ref b :: as)) μ = some (none, μ')) : am_runs (q, pc, L, S) μ = am_runs (q, pc + 3, L, rest) μ' := by
  subst hA
  exact am_gcI h h9 h1 h2 hS h3 hl hc
theorem ar_max (h : am_fetch q pc = some (.invokestatic idx, 3, (9005, 2, 0))) (hc : Nat.ble (am_cat S) 8 = true) : am_runs (q, pc, L, .int y :: .int x :: S) μ = am_runs (q, pc + 3, L, .int (if x < y then y else x) :: S) μ := am_gmax h hc
theorem ar_min (h : am_fetch q pc = some (.invokestatic idx, 3, (9006, 2, 0))) (hc : Nat.ble (am_cat S) 8 = true) : am_runs (q, pc, L, .int y :: .int x :: S) μ = am_runs (q, pc + 3, L, .int (if y < x then y else x) :: S) μ := am_gmin h hc
/-- a branch whose side is known -/
theorem ar_bt [Decidable P] {f1 f2 : am_F} (h : am_fetch q pc = some (i, n, inf)) (hs : am_sem i n inf q pc L S μ = am_b P (am_nx f1 μ) (am_nx f2 μ)) (hP : P) : am_runs (q, pc, L, S) μ = am_runs f1 μ := am_g h (hs.trans (am_b_pos hP))
theorem ar_bf [Decidable P] {f1 f2 : am_F} (h : am_fetch q pc = some (i, n, inf)) (hs : am_sem i n inf q pc L S μ = am_b P (am_nx f1 μ) (am_nx f2 μ)) (hP : ¬ P) : am_runs (q, pc, L, S) μ = am_runs f2 μ := am_g h (hs.trans (am_b_neg hP))
end AMR
/-- what a run ends with, told by equations -/
theorem am_gend {v v' : Option Value} {f f' : Nat → Nat → Int32} {g g' : Nat → Nat → Int64} {p p' : Nat → Nat → Option Nat} {d : Nat → Nat × Nat} {e : Nat × Nat} (hv : v = v') (hf : f = f') (hg : g = g') (hp : p = p') : am_ge (some (v, (f, g, p, d, e))) (some (v', (f', g', p', d, e))) := by
  subst hv hf hg hp
  exact am_ge_rfl
theorem am_nI1 (k : Nat) : nI k + 1 = nI (k + 1) := (nI_succ k).symm
theorem am_lt_S {x : Int32} (h : ¬ x < 0) (h2 : x.toNatClampNeg + 1 < 2 ^ 31) : x < nI (x.toNatClampNeg + 1) := by
  have := nI_lt (a := x.toNatClampNeg) (b := x.toNatClampNeg + 1) (by omega) h2
  rw [am_nI_cl h] at this
  exact this
