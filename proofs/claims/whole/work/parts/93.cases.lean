/-! THE LAW'S CASES: two calls, and their answers compared -/
def StepE (f : Nat → Nat → Int32) (g : Nat → Nat → Int64) (p : Nat → Nat → Option Nat) (d : Nat → Nat × Nat) (e : Nat × Nat) (pc i : Nat) : Prop := ∃ f' g' p', am_runs (327, pc, [.retAddr 1, .ref 0, .ref 177, .ref 191, .int (nI i), .retAddr 0, .retAddr 0], []) (f, g, p, d, e) = am_runs (327, 1977, [.retAddr 1, .ref 0, .ref 177, .ref 191, .int (nI i), .retAddr 0, .retAddr 0], []) (f', g', p', d, e) ∧ Inv f' p' ∧ am_T0 p' d
def bz (v : Int32) : Int32 := if v = 0 then 0 else 1
theorem bz_b (v : Int32) : bz v = 0 ∨ bz v = 1 := by
  unfold bz
  by_cases c : v = 0
  · rw [if_pos c]; exact Or.inl rfl
  · rw [if_neg c]; exact Or.inr rfl
theorem jz {v : Int32} {A B : Option am_X} (F : Int32 → Option am_X) (h0 : A = F 0) (h1 : B = F 1) : (if v = 0 then A else B) = F (bz v) := by
  unfold bz
  by_cases c : v = 0
  · rw [if_pos c, if_pos c]; exact h0
  · rw [if_neg c, if_neg c]; exact h1
theorem lc_self (x : Int64) : lg_cmp x x = 0 := by
  unfold lg_cmp
  rw [if_neg (Int64.lt_irrefl (a := x)), if_pos rfl]
theorem rr_sc {q pc Ln j : Nat} {L S : List Value} {inf : am_I} {f : Nat → Nat → Int32} {g : Nat → Nat → Int64} {p : Nat → Nat → Option Nat} {d : Nat → Nat × Nat} {e : Nat × Nat} {ix v : Int32} (h : am_fetch q pc = some (.iaload, 1, inf)) (hD : d am_SC = (18, Ln)) (hL : Ln ≤ 3072) (hx : ix = nI j) (hj : j < Ln) (hv : f am_SC j = v) : am_runs (q, pc, L, .int ix :: .retAddr 1 :: S) (f, g, p, d, e) = am_runs (q, pc + 1, L, .int v :: S) (f, g, p, d, e) := by
  rw [← hv]
  refine ar_asc h ?_ ?_
  · rw [hD, hx]; exact am_out_nI hj (by omega)
  · rw [hx]; exact nI_clamp (by omega)
theorem sx1 (i : Nat) : nI i + 1 = nI (i + 1) := by rw [show (1 : Int32) = nI 1 from rfl, nI_add]
theorem sx2 (i : Nat) : nI i + 2 = nI (i + 2) := by rw [show (2 : Int32) = nI 2 from rfl, nI_add]
theorem sx3 (i : Nat) : nI i + 3 = nI (i + 3) := by rw [show (3 : Int32) = nI 3 from rfl, nI_add]
theorem sx4 (i : Nat) : nI i + 4 = nI (i + 4) := by rw [show (4 : Int32) = nI 4 from rfl, nI_add]
theorem sx5 (i : Nat) : nI i + 5 = nI (i + 5) := by rw [show (5 : Int32) = nI 5 from rfl, nI_add]
set_option maxRecDepth 20000 in
theorem c_feed {f : Nat → Nat → Int32} {g : Nat → Nat → Int64} {p : Nat → Nat → Option Nat} {d : Nat → Nat × Nat} {e : Nat × Nat} {Ln i : Nat} (hI : Inv f p) (hT : am_T0 p d) (hD : d am_SC = (18, Ln)) (hL : Ln ≤ 3072) (hi : i + 6 ≤ Ln) : StepE f g p d e 268 i := by
  obtain ⟨x, f1, g1, p1, f2, g2, k1, k2, hI2, hT2, hs1, hs2⟩ := q_feed (g := g) (e := e) (x0 := (f am_SC (i + 1))) (x1 := (f am_SC (i + 2))) (x2 := (f am_SC (i + 3))) (x3 := (f am_SC (i + 4))) (x4 := (f am_SC (i + 5))) hI hT 
  refine ⟨f2, g2, p1, ?_, hI2, hT2⟩
  refine (am_bl 5 (f' := (327, 274, [.retAddr 1, .ref 0, .ref 177, .ref 191, .int (nI i), .retAddr 0, .retAddr 0], [.int (nI i + 1), .retAddr 1, .ref 0])) rfl).trans ?_
  refine Eq.trans (b := am_runs (327, 275, [.retAddr 1, .ref 0, .ref 177, .ref 191, .int (nI i), .retAddr 0, .retAddr 0], [.int (f am_SC (i + 1)), .ref 0]) (f, g, p, d, e)) (rr_sc rfl hD hL (sx1 i) (by omega) rfl) ?_
  refine (am_bl 4 (f' := (327, 280, [.retAddr 1, .ref 0, .ref 177, .ref 191, .int (nI i), .retAddr 0, .retAddr 0], [.int (nI i + 2), .retAddr 1, .int (f am_SC (i + 1)), .ref 0])) rfl).trans ?_
  refine Eq.trans (b := am_runs (327, 281, [.retAddr 1, .ref 0, .ref 177, .ref 191, .int (nI i), .retAddr 0, .retAddr 0], [.int (f am_SC (i + 2)), .int (f am_SC (i + 1)), .ref 0]) (f, g, p, d, e)) (rr_sc rfl hD hL (sx2 i) (by omega) rfl) ?_
  refine (am_bl 4 (f' := (327, 286, [.retAddr 1, .ref 0, .ref 177, .ref 191, .int (nI i), .retAddr 0, .retAddr 0], [.int (nI i + 3), .retAddr 1, .int (f am_SC (i + 2)), .int (f am_SC (i + 1)), .ref 0])) rfl).trans ?_
  refine Eq.trans (b := am_runs (327, 287, [.retAddr 1, .ref 0, .ref 177, .ref 191, .int (nI i), .retAddr 0, .retAddr 0], [.int (f am_SC (i + 3)), .int (f am_SC (i + 2)), .int (f am_SC (i + 1)), .ref 0]) (f, g, p, d, e)) (rr_sc rfl hD hL (sx3 i) (by omega) rfl) ?_
  refine (am_bl 4 (f' := (327, 292, [.retAddr 1, .ref 0, .ref 177, .ref 191, .int (nI i), .retAddr 0, .retAddr 0], [.int (nI i + 4), .retAddr 1, .int (f am_SC (i + 3)), .int (f am_SC (i + 2)), .int (f am_SC (i + 1)), .ref 0])) rfl).trans ?_
  refine Eq.trans (b := am_runs (327, 293, [.retAddr 1, .ref 0, .ref 177, .ref 191, .int (nI i), .retAddr 0, .retAddr 0], [.int (f am_SC (i + 4)), .int (f am_SC (i + 3)), .int (f am_SC (i + 2)), .int (f am_SC (i + 1)), .ref 0]) (f, g, p, d, e)) (rr_sc rfl hD hL (sx4 i) (by omega) rfl) ?_
  refine (am_bl 4 (f' := (327, 298, [.retAddr 1, .ref 0, .ref 177, .ref 191, .int (nI i), .retAddr 0, .retAddr 0], [.int (nI i + 5), .retAddr 1, .int (f am_SC (i + 4)), .int (f am_SC (i + 3)), .int (f am_SC (i + 2)), .int (f am_SC (i + 1)), .ref 0])) rfl).trans ?_
  refine Eq.trans (b := am_runs (327, 299, [.retAddr 1, .ref 0, .ref 177, .ref 191, .int (nI i), .retAddr 0, .retAddr 0], [.int (f am_SC (i + 5)), .int (f am_SC (i + 4)), .int (f am_SC (i + 3)), .int (f am_SC (i + 2)), .int (f am_SC (i + 1)), .ref 0]) (f, g, p, d, e)) (rr_sc rfl hD hL (sx5 i) (by omega) rfl) ?_
  refine Eq.trans (b := am_runs (327, 302, [.retAddr 1, .ref 0, .ref 177, .ref 191, .int (nI i), .retAddr 0, .retAddr 0], [.int x]) (f1, g1, p1, d, e)) (ar_cV rfl rfl rfl rfl rfl rfl rfl (t0_k hT rfl) rfl k1) ?_
  refine (am_bl 5 (f' := (327, 308, [.retAddr 1, .ref 0, .ref 177, .ref 191, .int (nI i), .retAddr 0, .retAddr 0], [.int (nI i + 1), .retAddr 1, .ref 177, .int x])) rfl).trans ?_
  refine Eq.trans (b := am_runs (327, 309, [.retAddr 1, .ref 0, .ref 177, .ref 191, .int (nI i), .retAddr 0, .retAddr 0], [.int (f am_SC (i + 1)), .ref 177, .int x]) (f1, g1, p1, d, e)) (rr_sc rfl hD hL (sx1 i) (by omega) (congrFun hs1 _)) ?_
  refine (am_bl 4 (f' := (327, 314, [.retAddr 1, .ref 0, .ref 177, .ref 191, .int (nI i), .retAddr 0, .retAddr 0], [.int (nI i + 2), .retAddr 1, .int (f am_SC (i + 1)), .ref 177, .int x])) rfl).trans ?_
  refine Eq.trans (b := am_runs (327, 315, [.retAddr 1, .ref 0, .ref 177, .ref 191, .int (nI i), .retAddr 0, .retAddr 0], [.int (f am_SC (i + 2)), .int (f am_SC (i + 1)), .ref 177, .int x]) (f1, g1, p1, d, e)) (rr_sc rfl hD hL (sx2 i) (by omega) (congrFun hs1 _)) ?_
  refine (am_bl 4 (f' := (327, 320, [.retAddr 1, .ref 0, .ref 177, .ref 191, .int (nI i), .retAddr 0, .retAddr 0], [.int (nI i + 3), .retAddr 1, .int (f am_SC (i + 2)), .int (f am_SC (i + 1)), .ref 177, .int x])) rfl).trans ?_
  refine Eq.trans (b := am_runs (327, 321, [.retAddr 1, .ref 0, .ref 177, .ref 191, .int (nI i), .retAddr 0, .retAddr 0], [.int (f am_SC (i + 3)), .int (f am_SC (i + 2)), .int (f am_SC (i + 1)), .ref 177, .int x]) (f1, g1, p1, d, e)) (rr_sc rfl hD hL (sx3 i) (by omega) (congrFun hs1 _)) ?_
  refine (am_bl 4 (f' := (327, 326, [.retAddr 1, .ref 0, .ref 177, .ref 191, .int (nI i), .retAddr 0, .retAddr 0], [.int (nI i + 4), .retAddr 1, .int (f am_SC (i + 3)), .int (f am_SC (i + 2)), .int (f am_SC (i + 1)), .ref 177, .int x])) rfl).trans ?_
  refine Eq.trans (b := am_runs (327, 327, [.retAddr 1, .ref 0, .ref 177, .ref 191, .int (nI i), .retAddr 0, .retAddr 0], [.int (f am_SC (i + 4)), .int (f am_SC (i + 3)), .int (f am_SC (i + 2)), .int (f am_SC (i + 1)), .ref 177, .int x]) (f1, g1, p1, d, e)) (rr_sc rfl hD hL (sx4 i) (by omega) (congrFun hs1 _)) ?_
  refine (am_bl 4 (f' := (327, 332, [.retAddr 1, .ref 0, .ref 177, .ref 191, .int (nI i), .retAddr 0, .retAddr 0], [.int (nI i + 5), .retAddr 1, .int (f am_SC (i + 4)), .int (f am_SC (i + 3)), .int (f am_SC (i + 2)), .int (f am_SC (i + 1)), .ref 177, .int x])) rfl).trans ?_
  refine Eq.trans (b := am_runs (327, 333, [.retAddr 1, .ref 0, .ref 177, .ref 191, .int (nI i), .retAddr 0, .retAddr 0], [.int (f am_SC (i + 5)), .int (f am_SC (i + 4)), .int (f am_SC (i + 3)), .int (f am_SC (i + 2)), .int (f am_SC (i + 1)), .ref 177, .int x]) (f1, g1, p1, d, e)) (rr_sc rfl hD hL (sx5 i) (by omega) (congrFun hs1 _)) ?_
  refine Eq.trans (b := am_runs (327, 336, [.retAddr 1, .ref 0, .ref 177, .ref 191, .int (nI i), .retAddr 0, .retAddr 0], [.int x, .int x]) (f2, g2, p1, d, e)) (ar_cV rfl rfl rfl rfl rfl rfl rfl (t0_k hT rfl) rfl k2) ?_
  exact (rj_eq rfl).trans (if_pos rfl)
set_option maxRecDepth 20000 in
theorem c_legion {f : Nat → Nat → Int32} {g : Nat → Nat → Int64} {p : Nat → Nat → Option Nat} {d : Nat → Nat × Nat} {e : Nat × Nat} {Ln i : Nat} (hI : Inv f p) (hT : am_T0 p d) (hD : d am_SC = (18, Ln)) (hL : Ln ≤ 3072) (hi : i + 6 ≤ Ln) : StepE f g p d e 341 i := by
  obtain ⟨x, f1, g1, p1, f2, g2, k1, k2, hI2, hT2, hs1, hs2⟩ := q_legion (g := g) (e := e) (x0 := (f am_SC (i + 1))) hI hT 
  refine ⟨f2, g2, p1, ?_, hI2, hT2⟩
  refine (am_bl 5 (f' := (327, 347, [.retAddr 1, .ref 0, .ref 177, .ref 191, .int (nI i), .retAddr 0, .retAddr 0], [.int (nI i + 1), .retAddr 1, .ref 0])) rfl).trans ?_
  refine Eq.trans (b := am_runs (327, 348, [.retAddr 1, .ref 0, .ref 177, .ref 191, .int (nI i), .retAddr 0, .retAddr 0], [.int (f am_SC (i + 1)), .ref 0]) (f, g, p, d, e)) (rr_sc rfl hD hL (sx1 i) (by omega) rfl) ?_
  refine Eq.trans (b := am_runs (327, 351, [.retAddr 1, .ref 0, .ref 177, .ref 191, .int (nI i), .retAddr 0, .retAddr 0], [.int x]) (f1, g1, p1, d, e)) (ar_cV rfl rfl rfl rfl rfl rfl rfl (t0_k hT rfl) rfl k1) ?_
  refine (am_bl 5 (f' := (327, 357, [.retAddr 1, .ref 0, .ref 177, .ref 191, .int (nI i), .retAddr 0, .retAddr 0], [.int (nI i + 1), .retAddr 1, .ref 177, .int x])) rfl).trans ?_
  refine Eq.trans (b := am_runs (327, 358, [.retAddr 1, .ref 0, .ref 177, .ref 191, .int (nI i), .retAddr 0, .retAddr 0], [.int (f am_SC (i + 1)), .ref 177, .int x]) (f1, g1, p1, d, e)) (rr_sc rfl hD hL (sx1 i) (by omega) (congrFun hs1 _)) ?_
  refine Eq.trans (b := am_runs (327, 361, [.retAddr 1, .ref 0, .ref 177, .ref 191, .int (nI i), .retAddr 0, .retAddr 0], [.int x, .int x]) (f2, g2, p1, d, e)) (ar_cV rfl rfl rfl rfl rfl rfl rfl (t0_k hT rfl) rfl k2) ?_
  exact (rj_eq rfl).trans (if_pos rfl)
set_option maxRecDepth 20000 in
theorem c_fault {f : Nat → Nat → Int32} {g : Nat → Nat → Int64} {p : Nat → Nat → Option Nat} {d : Nat → Nat × Nat} {e : Nat × Nat} {Ln i : Nat} (hI : Inv f p) (hT : am_T0 p d) (hD : d am_SC = (18, Ln)) (hL : Ln ≤ 3072) (hi : i + 6 ≤ Ln) : StepE f g p d e 366 i := by
  obtain ⟨x, f1, g1, p1, f2, g2, k1, k2, hI2, hT2, hs1, hs2⟩ := q_fault (g := g) (e := e)  hI hT 
  refine ⟨f2, g2, p1, ?_, hI2, hT2⟩
  refine (am_bl 1 (f' := (327, 367, [.retAddr 1, .ref 0, .ref 177, .ref 191, .int (nI i), .retAddr 0, .retAddr 0], [.ref 0])) rfl).trans ?_
  refine Eq.trans (b := am_runs (327, 370, [.retAddr 1, .ref 0, .ref 177, .ref 191, .int (nI i), .retAddr 0, .retAddr 0], [.int x]) (f1, g1, p1, d, e)) (ar_cV rfl rfl rfl rfl rfl rfl rfl (t0_k hT rfl) rfl k1) ?_
  refine (am_bl 1 (f' := (327, 371, [.retAddr 1, .ref 0, .ref 177, .ref 191, .int (nI i), .retAddr 0, .retAddr 0], [.ref 177, .int x])) rfl).trans ?_
  refine Eq.trans (b := am_runs (327, 374, [.retAddr 1, .ref 0, .ref 177, .ref 191, .int (nI i), .retAddr 0, .retAddr 0], [.int x, .int x]) (f2, g2, p1, d, e)) (ar_cV rfl rfl rfl rfl rfl rfl rfl (t0_k hT rfl) rfl k2) ?_
  exact (rj_eq rfl).trans (if_pos rfl)
set_option maxRecDepth 20000 in
theorem c_where {f : Nat → Nat → Int32} {g : Nat → Nat → Int64} {p : Nat → Nat → Option Nat} {d : Nat → Nat × Nat} {e : Nat × Nat} {Ln i : Nat} (hI : Inv f p) (hT : am_T0 p d) (hD : d am_SC = (18, Ln)) (hL : Ln ≤ 3072) (hi : i + 6 ≤ Ln) : StepE f g p d e 379 i := by
  obtain ⟨x, f1, g1, p1, f2, g2, k1, k2, hI2, hT2, hs1, hs2⟩ := q_where (g := g) (e := e)  hI hT 
  refine ⟨f2, g2, p1, ?_, hI2, hT2⟩
  refine (am_bl 1 (f' := (327, 380, [.retAddr 1, .ref 0, .ref 177, .ref 191, .int (nI i), .retAddr 0, .retAddr 0], [.ref 0])) rfl).trans ?_
  refine Eq.trans (b := am_runs (327, 383, [.retAddr 1, .ref 0, .ref 177, .ref 191, .int (nI i), .retAddr 0, .retAddr 0], [.int x]) (f1, g1, p1, d, e)) (ar_cV rfl rfl rfl rfl rfl rfl rfl (t0_k hT rfl) rfl k1) ?_
  refine (am_bl 1 (f' := (327, 384, [.retAddr 1, .ref 0, .ref 177, .ref 191, .int (nI i), .retAddr 0, .retAddr 0], [.ref 177, .int x])) rfl).trans ?_
  refine Eq.trans (b := am_runs (327, 387, [.retAddr 1, .ref 0, .ref 177, .ref 191, .int (nI i), .retAddr 0, .retAddr 0], [.int x, .int x]) (f2, g2, p1, d, e)) (ar_cV rfl rfl rfl rfl rfl rfl rfl (t0_k hT rfl) rfl k2) ?_
  exact (rj_eq rfl).trans (if_pos rfl)
set_option maxRecDepth 20000 in
theorem c_man {f : Nat → Nat → Int32} {g : Nat → Nat → Int64} {p : Nat → Nat → Option Nat} {d : Nat → Nat × Nat} {e : Nat × Nat} {Ln i : Nat} (hI : Inv f p) (hT : am_T0 p d) (hD : d am_SC = (18, Ln)) (hL : Ln ≤ 3072) (hi : i + 6 ≤ Ln) : StepE f g p d e 392 i := by
  obtain ⟨x, f1, g1, p1, f2, g2, k1, k2, hI2, hT2, hs1, hs2⟩ := q_man (g := g) (e := e) (x0 := (f am_SC (i + 1))) (x1 := (f am_SC (i + 2))) hI hT 
  refine ⟨f2, g2, p1, ?_, hI2, hT2⟩
  refine (am_bl 5 (f' := (327, 398, [.retAddr 1, .ref 0, .ref 177, .ref 191, .int (nI i), .retAddr 0, .retAddr 0], [.int (nI i + 1), .retAddr 1, .ref 0])) rfl).trans ?_
  refine Eq.trans (b := am_runs (327, 399, [.retAddr 1, .ref 0, .ref 177, .ref 191, .int (nI i), .retAddr 0, .retAddr 0], [.int (f am_SC (i + 1)), .ref 0]) (f, g, p, d, e)) (rr_sc rfl hD hL (sx1 i) (by omega) rfl) ?_
  refine (am_bl 4 (f' := (327, 404, [.retAddr 1, .ref 0, .ref 177, .ref 191, .int (nI i), .retAddr 0, .retAddr 0], [.int (nI i + 2), .retAddr 1, .int (f am_SC (i + 1)), .ref 0])) rfl).trans ?_
  refine Eq.trans (b := am_runs (327, 405, [.retAddr 1, .ref 0, .ref 177, .ref 191, .int (nI i), .retAddr 0, .retAddr 0], [.int (f am_SC (i + 2)), .int (f am_SC (i + 1)), .ref 0]) (f, g, p, d, e)) (rr_sc rfl hD hL (sx2 i) (by omega) rfl) ?_
  refine Eq.trans (b := am_runs (327, 408, [.retAddr 1, .ref 0, .ref 177, .ref 191, .int (nI i), .retAddr 0, .retAddr 0], [.int x]) (f1, g1, p1, d, e)) (ar_cV rfl rfl rfl rfl rfl rfl rfl (t0_k hT rfl) rfl k1) ?_
  refine (am_bl 5 (f' := (327, 414, [.retAddr 1, .ref 0, .ref 177, .ref 191, .int (nI i), .retAddr 0, .retAddr 0], [.int (nI i + 1), .retAddr 1, .ref 177, .int x])) rfl).trans ?_
  refine Eq.trans (b := am_runs (327, 415, [.retAddr 1, .ref 0, .ref 177, .ref 191, .int (nI i), .retAddr 0, .retAddr 0], [.int (f am_SC (i + 1)), .ref 177, .int x]) (f1, g1, p1, d, e)) (rr_sc rfl hD hL (sx1 i) (by omega) (congrFun hs1 _)) ?_
  refine (am_bl 4 (f' := (327, 420, [.retAddr 1, .ref 0, .ref 177, .ref 191, .int (nI i), .retAddr 0, .retAddr 0], [.int (nI i + 2), .retAddr 1, .int (f am_SC (i + 1)), .ref 177, .int x])) rfl).trans ?_
  refine Eq.trans (b := am_runs (327, 421, [.retAddr 1, .ref 0, .ref 177, .ref 191, .int (nI i), .retAddr 0, .retAddr 0], [.int (f am_SC (i + 2)), .int (f am_SC (i + 1)), .ref 177, .int x]) (f1, g1, p1, d, e)) (rr_sc rfl hD hL (sx2 i) (by omega) (congrFun hs1 _)) ?_
  refine Eq.trans (b := am_runs (327, 424, [.retAddr 1, .ref 0, .ref 177, .ref 191, .int (nI i), .retAddr 0, .retAddr 0], [.int x, .int x]) (f2, g2, p1, d, e)) (ar_cV rfl rfl rfl rfl rfl rfl rfl (t0_k hT rfl) rfl k2) ?_
  exact (rj_eq rfl).trans (if_pos rfl)
set_option maxRecDepth 20000 in
theorem c_ten {f : Nat → Nat → Int32} {g : Nat → Nat → Int64} {p : Nat → Nat → Option Nat} {d : Nat → Nat × Nat} {e : Nat × Nat} {Ln i : Nat} (hI : Inv f p) (hT : am_T0 p d) (hD : d am_SC = (18, Ln)) (hL : Ln ≤ 3072) (hi : i + 6 ≤ Ln) : StepE f g p d e 429 i := by
  obtain ⟨x, f1, g1, p1, f2, g2, k1, k2, hI2, hT2, hs1, hs2⟩ := q_ten (g := g) (e := e) (x0 := (f am_SC (i + 1))) (x1 := (f am_SC (i + 2))) hI hT 
  refine ⟨f2, g2, p1, ?_, hI2, hT2⟩
  refine (am_bl 5 (f' := (327, 435, [.retAddr 1, .ref 0, .ref 177, .ref 191, .int (nI i), .retAddr 0, .retAddr 0], [.int (nI i + 1), .retAddr 1, .ref 0])) rfl).trans ?_
  refine Eq.trans (b := am_runs (327, 436, [.retAddr 1, .ref 0, .ref 177, .ref 191, .int (nI i), .retAddr 0, .retAddr 0], [.int (f am_SC (i + 1)), .ref 0]) (f, g, p, d, e)) (rr_sc rfl hD hL (sx1 i) (by omega) rfl) ?_
  refine (am_bl 4 (f' := (327, 441, [.retAddr 1, .ref 0, .ref 177, .ref 191, .int (nI i), .retAddr 0, .retAddr 0], [.int (nI i + 2), .retAddr 1, .int (f am_SC (i + 1)), .ref 0])) rfl).trans ?_
  refine Eq.trans (b := am_runs (327, 442, [.retAddr 1, .ref 0, .ref 177, .ref 191, .int (nI i), .retAddr 0, .retAddr 0], [.int (f am_SC (i + 2)), .int (f am_SC (i + 1)), .ref 0]) (f, g, p, d, e)) (rr_sc rfl hD hL (sx2 i) (by omega) rfl) ?_
  refine Eq.trans (b := am_runs (327, 445, [.retAddr 1, .ref 0, .ref 177, .ref 191, .int (nI i), .retAddr 0, .retAddr 0], [.int x]) (f1, g1, p1, d, e)) (ar_cV rfl rfl rfl rfl rfl rfl rfl (t0_k hT rfl) rfl k1) ?_
  refine (am_bl 5 (f' := (327, 451, [.retAddr 1, .ref 0, .ref 177, .ref 191, .int (nI i), .retAddr 0, .retAddr 0], [.int (nI i + 1), .retAddr 1, .ref 177, .int x])) rfl).trans ?_
  refine Eq.trans (b := am_runs (327, 452, [.retAddr 1, .ref 0, .ref 177, .ref 191, .int (nI i), .retAddr 0, .retAddr 0], [.int (f am_SC (i + 1)), .ref 177, .int x]) (f1, g1, p1, d, e)) (rr_sc rfl hD hL (sx1 i) (by omega) (congrFun hs1 _)) ?_
  refine (am_bl 4 (f' := (327, 457, [.retAddr 1, .ref 0, .ref 177, .ref 191, .int (nI i), .retAddr 0, .retAddr 0], [.int (nI i + 2), .retAddr 1, .int (f am_SC (i + 1)), .ref 177, .int x])) rfl).trans ?_
  refine Eq.trans (b := am_runs (327, 458, [.retAddr 1, .ref 0, .ref 177, .ref 191, .int (nI i), .retAddr 0, .retAddr 0], [.int (f am_SC (i + 2)), .int (f am_SC (i + 1)), .ref 177, .int x]) (f1, g1, p1, d, e)) (rr_sc rfl hD hL (sx2 i) (by omega) (congrFun hs1 _)) ?_
  refine Eq.trans (b := am_runs (327, 461, [.retAddr 1, .ref 0, .ref 177, .ref 191, .int (nI i), .retAddr 0, .retAddr 0], [.int x, .int x]) (f2, g2, p1, d, e)) (ar_cV rfl rfl rfl rfl rfl rfl rfl (t0_k hT rfl) rfl k2) ?_
  exact (rj_eq rfl).trans (if_pos rfl)
set_option maxRecDepth 20000 in
theorem c_there {f : Nat → Nat → Int32} {g : Nat → Nat → Int64} {p : Nat → Nat → Option Nat} {d : Nat → Nat × Nat} {e : Nat × Nat} {Ln i : Nat} (hI : Inv f p) (hT : am_T0 p d) (hD : d am_SC = (18, Ln)) (hL : Ln ≤ 3072) (hi : i + 6 ≤ Ln) : StepE f g p d e 466 i := by
  obtain ⟨x, f1, g1, p1, f2, g2, k1, k2, hI2, hT2, hs1, hs2⟩ := q_there (g := g) (e := e)  hI hT 
  refine ⟨f2, g2, p1, ?_, hI2, hT2⟩
  refine (am_bl 1 (f' := (327, 467, [.retAddr 1, .ref 0, .ref 177, .ref 191, .int (nI i), .retAddr 0, .retAddr 0], [.ref 0])) rfl).trans ?_
  refine Eq.trans (b := am_runs (327, 470, [.retAddr 1, .ref 0, .ref 177, .ref 191, .int (nI i), .retAddr 0, .retAddr 0], [.int x]) (f1, g1, p1, d, e)) (ar_cV rfl rfl rfl rfl rfl rfl rfl (t0_k hT rfl) rfl k1) ?_
  refine (am_bl 1 (f' := (327, 471, [.retAddr 1, .ref 0, .ref 177, .ref 191, .int (nI i), .retAddr 0, .retAddr 0], [.ref 177, .int x])) rfl).trans ?_
  refine Eq.trans (b := am_runs (327, 474, [.retAddr 1, .ref 0, .ref 177, .ref 191, .int (nI i), .retAddr 0, .retAddr 0], [.int x, .int x]) (f2, g2, p1, d, e)) (ar_cV rfl rfl rfl rfl rfl rfl rfl (t0_k hT rfl) rfl k2) ?_
  exact (rj_eq rfl).trans (if_pos rfl)
set_option maxRecDepth 20000 in
theorem c_anger {f : Nat → Nat → Int32} {g : Nat → Nat → Int64} {p : Nat → Nat → Option Nat} {d : Nat → Nat × Nat} {e : Nat × Nat} {Ln i : Nat} (hI : Inv f p) (hT : am_T0 p d) (hD : d am_SC = (18, Ln)) (hL : Ln ≤ 3072) (hi : i + 6 ≤ Ln) : StepE f g p d e 479 i := by
  obtain ⟨x, f1, g1, p1, f2, g2, k1, k2, hI2, hT2, hs1, hs2⟩ := q_anger (g := g) (e := e)  hI hT 
  refine ⟨f2, g2, p1, ?_, hI2, hT2⟩
  refine (am_bl 1 (f' := (327, 480, [.retAddr 1, .ref 0, .ref 177, .ref 191, .int (nI i), .retAddr 0, .retAddr 0], [.ref 0])) rfl).trans ?_
  refine Eq.trans (b := am_runs (327, 483, [.retAddr 1, .ref 0, .ref 177, .ref 191, .int (nI i), .retAddr 0, .retAddr 0], [.int x]) (f1, g1, p1, d, e)) (ar_cV rfl rfl rfl rfl rfl rfl rfl (t0_k hT rfl) rfl k1) ?_
  refine (am_bl 1 (f' := (327, 484, [.retAddr 1, .ref 0, .ref 177, .ref 191, .int (nI i), .retAddr 0, .retAddr 0], [.ref 177, .int x])) rfl).trans ?_
  refine Eq.trans (b := am_runs (327, 487, [.retAddr 1, .ref 0, .ref 177, .ref 191, .int (nI i), .retAddr 0, .retAddr 0], [.int x, .int x]) (f2, g2, p1, d, e)) (ar_cV rfl rfl rfl rfl rfl rfl rfl (t0_k hT rfl) rfl k2) ?_
  exact (rj_eq rfl).trans (if_pos rfl)
set_option maxRecDepth 20000 in
theorem c_mutiny {f : Nat → Nat → Int32} {g : Nat → Nat → Int64} {p : Nat → Nat → Option Nat} {d : Nat → Nat × Nat} {e : Nat × Nat} {Ln i : Nat} (hI : Inv f p) (hT : am_T0 p d) (hD : d am_SC = (18, Ln)) (hL : Ln ≤ 3072) (hi : i + 6 ≤ Ln) : StepE f g p d e 492 i := by
  obtain ⟨x, f1, g1, p1, f2, g2, k1, k2, hI2, hT2, hs1, hs2⟩ := q_mutiny (g := g) (e := e)  hI hT 
  refine ⟨f2, g2, p1, ?_, hI2, hT2⟩
  refine (am_bl 1 (f' := (327, 493, [.retAddr 1, .ref 0, .ref 177, .ref 191, .int (nI i), .retAddr 0, .retAddr 0], [.ref 0])) rfl).trans ?_
  refine Eq.trans (b := am_runs (327, 496, [.retAddr 1, .ref 0, .ref 177, .ref 191, .int (nI i), .retAddr 0, .retAddr 0], [.int x]) (f1, g1, p1, d, e)) (ar_cV rfl rfl rfl rfl rfl rfl rfl (t0_k hT rfl) rfl k1) ?_
  refine (am_bl 1 (f' := (327, 497, [.retAddr 1, .ref 0, .ref 177, .ref 191, .int (nI i), .retAddr 0, .retAddr 0], [.ref 177, .int x])) rfl).trans ?_
  refine Eq.trans (b := am_runs (327, 500, [.retAddr 1, .ref 0, .ref 177, .ref 191, .int (nI i), .retAddr 0, .retAddr 0], [.int x, .int x]) (f2, g2, p1, d, e)) (ar_cV rfl rfl rfl rfl rfl rfl rfl (t0_k hT rfl) rfl k2) ?_
  exact (rj_eq rfl).trans (if_pos rfl)
set_option maxRecDepth 20000 in
theorem c_runs {f : Nat → Nat → Int32} {g : Nat → Nat → Int64} {p : Nat → Nat → Option Nat} {d : Nat → Nat × Nat} {e : Nat × Nat} {Ln i : Nat} (hI : Inv f p) (hT : am_T0 p d) (hD : d am_SC = (18, Ln)) (hL : Ln ≤ 3072) (hi : i + 6 ≤ Ln) : StepE f g p d e 505 i := by
  obtain ⟨x, f1, g1, p1, f2, g2, k1, k2, hI2, hT2, hs1, hs2⟩ := q_runs (g := g) (e := e) (x0 := (f am_SC (i + 1))) hI hT 
  refine ⟨f2, g2, p1, ?_, hI2, hT2⟩
  refine (am_bl 5 (f' := (327, 511, [.retAddr 1, .ref 0, .ref 177, .ref 191, .int (nI i), .retAddr 0, .retAddr 0], [.int (nI i + 1), .retAddr 1, .ref 0])) rfl).trans ?_
  refine Eq.trans (b := am_runs (327, 512, [.retAddr 1, .ref 0, .ref 177, .ref 191, .int (nI i), .retAddr 0, .retAddr 0], [.int (f am_SC (i + 1)), .ref 0]) (f, g, p, d, e)) (rr_sc rfl hD hL (sx1 i) (by omega) rfl) ?_
  refine Eq.trans (b := am_runs (327, 515, [.retAddr 1, .ref 0, .ref 177, .ref 191, .int (nI i), .retAddr 0, .retAddr 0], [.int x]) (f1, g1, p1, d, e)) (ar_cV rfl rfl rfl rfl rfl rfl rfl (t0_k hT rfl) rfl k1) ?_
  refine (am_bl 5 (f' := (327, 521, [.retAddr 1, .ref 0, .ref 177, .ref 191, .int (nI i), .retAddr 0, .retAddr 0], [.int (nI i + 1), .retAddr 1, .ref 177, .int x])) rfl).trans ?_
  refine Eq.trans (b := am_runs (327, 522, [.retAddr 1, .ref 0, .ref 177, .ref 191, .int (nI i), .retAddr 0, .retAddr 0], [.int (f am_SC (i + 1)), .ref 177, .int x]) (f1, g1, p1, d, e)) (rr_sc rfl hD hL (sx1 i) (by omega) (congrFun hs1 _)) ?_
  refine Eq.trans (b := am_runs (327, 525, [.retAddr 1, .ref 0, .ref 177, .ref 191, .int (nI i), .retAddr 0, .retAddr 0], [.int x, .int x]) (f2, g2, p1, d, e)) (ar_cV rfl rfl rfl rfl rfl rfl rfl (t0_k hT rfl) rfl k2) ?_
  exact (rj_eq rfl).trans (if_pos rfl)
set_option maxRecDepth 20000 in
theorem c_holds {f : Nat → Nat → Int32} {g : Nat → Nat → Int64} {p : Nat → Nat → Option Nat} {d : Nat → Nat × Nat} {e : Nat × Nat} {Ln i : Nat} (hI : Inv f p) (hT : am_T0 p d) (hD : d am_SC = (18, Ln)) (hL : Ln ≤ 3072) (hi : i + 6 ≤ Ln) : StepE f g p d e 530 i := by
  obtain ⟨x, f1, g1, p1, f2, g2, k1, k2, hI2, hT2, hs1, hs2⟩ := q_holds (g := g) (e := e) (x0 := (f am_SC (i + 1))) hI hT 
  refine ⟨f2, g2, p1, ?_, hI2, hT2⟩
  refine (am_bl 5 (f' := (327, 536, [.retAddr 1, .ref 0, .ref 177, .ref 191, .int (nI i), .retAddr 0, .retAddr 0], [.int (nI i + 1), .retAddr 1, .ref 0])) rfl).trans ?_
  refine Eq.trans (b := am_runs (327, 537, [.retAddr 1, .ref 0, .ref 177, .ref 191, .int (nI i), .retAddr 0, .retAddr 0], [.int (f am_SC (i + 1)), .ref 0]) (f, g, p, d, e)) (rr_sc rfl hD hL (sx1 i) (by omega) rfl) ?_
  refine Eq.trans (b := am_runs (327, 540, [.retAddr 1, .ref 0, .ref 177, .ref 191, .int (nI i), .retAddr 0, .retAddr 0], [.int x]) (f1, g1, p1, d, e)) (ar_cV rfl rfl rfl rfl rfl rfl rfl (t0_k hT rfl) rfl k1) ?_
  refine (am_bl 5 (f' := (327, 546, [.retAddr 1, .ref 0, .ref 177, .ref 191, .int (nI i), .retAddr 0, .retAddr 0], [.int (nI i + 1), .retAddr 1, .ref 177, .int x])) rfl).trans ?_
  refine Eq.trans (b := am_runs (327, 547, [.retAddr 1, .ref 0, .ref 177, .ref 191, .int (nI i), .retAddr 0, .retAddr 0], [.int (f am_SC (i + 1)), .ref 177, .int x]) (f1, g1, p1, d, e)) (rr_sc rfl hD hL (sx1 i) (by omega) (congrFun hs1 _)) ?_
  refine Eq.trans (b := am_runs (327, 550, [.retAddr 1, .ref 0, .ref 177, .ref 191, .int (nI i), .retAddr 0, .retAddr 0], [.int x, .int x]) (f2, g2, p1, d, e)) (ar_cV rfl rfl rfl rfl rfl rfl rfl (t0_k hT rfl) rfl k2) ?_
  exact (rj_eq rfl).trans (if_pos rfl)
set_option maxRecDepth 20000 in
theorem c_worst {f : Nat → Nat → Int32} {g : Nat → Nat → Int64} {p : Nat → Nat → Option Nat} {d : Nat → Nat × Nat} {e : Nat × Nat} {Ln i : Nat} (hI : Inv f p) (hT : am_T0 p d) (hD : d am_SC = (18, Ln)) (hL : Ln ≤ 3072) (hi : i + 6 ≤ Ln) : StepE f g p d e 555 i := by
  obtain ⟨x, f1, g1, p1, f2, g2, k1, k2, hI2, hT2, hs1, hs2⟩ := q_worst (g := g) (e := e)  hI hT 
  refine ⟨f2, g2, p1, ?_, hI2, hT2⟩
  refine (am_bl 1 (f' := (327, 556, [.retAddr 1, .ref 0, .ref 177, .ref 191, .int (nI i), .retAddr 0, .retAddr 0], [.ref 0])) rfl).trans ?_
  refine Eq.trans (b := am_runs (327, 559, [.retAddr 1, .ref 0, .ref 177, .ref 191, .int (nI i), .retAddr 0, .retAddr 0], [.int x]) (f1, g1, p1, d, e)) (ar_cV rfl rfl rfl rfl rfl rfl rfl (t0_k hT rfl) rfl k1) ?_
  refine (am_bl 1 (f' := (327, 560, [.retAddr 1, .ref 0, .ref 177, .ref 191, .int (nI i), .retAddr 0, .retAddr 0], [.ref 177, .int x])) rfl).trans ?_
  refine Eq.trans (b := am_runs (327, 563, [.retAddr 1, .ref 0, .ref 177, .ref 191, .int (nI i), .retAddr 0, .retAddr 0], [.int x, .int x]) (f2, g2, p1, d, e)) (ar_cV rfl rfl rfl rfl rfl rfl rfl (t0_k hT rfl) rfl k2) ?_
  exact (rj_eq rfl).trans (if_pos rfl)
set_option maxRecDepth 20000 in
theorem c_breaks {f : Nat → Nat → Int32} {g : Nat → Nat → Int64} {p : Nat → Nat → Option Nat} {d : Nat → Nat × Nat} {e : Nat × Nat} {Ln i : Nat} (hI : Inv f p) (hT : am_T0 p d) (hD : d am_SC = (18, Ln)) (hL : Ln ≤ 3072) (hi : i + 6 ≤ Ln) : StepE f g p d e 568 i := by
  obtain ⟨x, f1, g1, p1, f2, g2, k1, k2, hI2, hT2, hs1, hs2⟩ := q_breaks (g := g) (e := e)  hI hT 
  refine ⟨f2, g2, p1, ?_, hI2, hT2⟩
  refine (am_bl 1 (f' := (327, 569, [.retAddr 1, .ref 0, .ref 177, .ref 191, .int (nI i), .retAddr 0, .retAddr 0], [.ref 0])) rfl).trans ?_
  refine Eq.trans (b := am_runs (327, 572, [.retAddr 1, .ref 0, .ref 177, .ref 191, .int (nI i), .retAddr 0, .retAddr 0], [.int x]) (f1, g1, p1, d, e)) (ar_cV rfl rfl rfl rfl rfl rfl rfl (t0_k hT rfl) rfl k1) ?_
  refine (am_bl 1 (f' := (327, 573, [.retAddr 1, .ref 0, .ref 177, .ref 191, .int (nI i), .retAddr 0, .retAddr 0], [.ref 177, .int x])) rfl).trans ?_
  refine Eq.trans (b := am_runs (327, 576, [.retAddr 1, .ref 0, .ref 177, .ref 191, .int (nI i), .retAddr 0, .retAddr 0], [.int x, .int x]) (f2, g2, p1, d, e)) (ar_cV rfl rfl rfl rfl rfl rfl rfl (t0_k hT rfl) rfl k2) ?_
  exact (rj_eq rfl).trans (if_pos rfl)
set_option maxRecDepth 20000 in
theorem c_brace {f : Nat → Nat → Int32} {g : Nat → Nat → Int64} {p : Nat → Nat → Option Nat} {d : Nat → Nat × Nat} {e : Nat × Nat} {Ln i : Nat} (hI : Inv f p) (hT : am_T0 p d) (hD : d am_SC = (18, Ln)) (hL : Ln ≤ 3072) (hi : i + 6 ≤ Ln) : StepE f g p d e 581 i := by
  obtain ⟨x, f1, g1, p1, f2, g2, k1, k2, hI2, hT2, hs1, hs2⟩ := q_brace (g := g) (e := e) (x0 := (f am_SC (i + 1))) hI hT 
  refine ⟨f2, g2, p1, ?_, hI2, hT2⟩
  refine (am_bl 5 (f' := (327, 587, [.retAddr 1, .ref 0, .ref 177, .ref 191, .int (nI i), .retAddr 0, .retAddr 0], [.int (nI i + 1), .retAddr 1, .ref 0])) rfl).trans ?_
  refine Eq.trans (b := am_runs (327, 588, [.retAddr 1, .ref 0, .ref 177, .ref 191, .int (nI i), .retAddr 0, .retAddr 0], [.int (f am_SC (i + 1)), .ref 0]) (f, g, p, d, e)) (rr_sc rfl hD hL (sx1 i) (by omega) rfl) ?_
  refine Eq.trans (b := am_runs (327, 591, [.retAddr 1, .ref 0, .ref 177, .ref 191, .int (nI i), .retAddr 0, .retAddr 0], [.int x]) (f1, g1, p1, d, e)) (ar_cV rfl rfl rfl rfl rfl rfl rfl (t0_k hT rfl) rfl k1) ?_
  refine (am_bl 5 (f' := (327, 597, [.retAddr 1, .ref 0, .ref 177, .ref 191, .int (nI i), .retAddr 0, .retAddr 0], [.int (nI i + 1), .retAddr 1, .ref 177, .int x])) rfl).trans ?_
  refine Eq.trans (b := am_runs (327, 598, [.retAddr 1, .ref 0, .ref 177, .ref 191, .int (nI i), .retAddr 0, .retAddr 0], [.int (f am_SC (i + 1)), .ref 177, .int x]) (f1, g1, p1, d, e)) (rr_sc rfl hD hL (sx1 i) (by omega) (congrFun hs1 _)) ?_
  refine Eq.trans (b := am_runs (327, 601, [.retAddr 1, .ref 0, .ref 177, .ref 191, .int (nI i), .retAddr 0, .retAddr 0], [.int x, .int x]) (f2, g2, p1, d, e)) (ar_cV rfl rfl rfl rfl rfl rfl rfl (t0_k hT rfl) rfl k2) ?_
  exact (rj_eq rfl).trans (if_pos rfl)
set_option maxRecDepth 20000 in
theorem c_toHearten {f : Nat → Nat → Int32} {g : Nat → Nat → Int64} {p : Nat → Nat → Option Nat} {d : Nat → Nat × Nat} {e : Nat × Nat} {Ln i : Nat} (hI : Inv f p) (hT : am_T0 p d) (hD : d am_SC = (18, Ln)) (hL : Ln ≤ 3072) (hi : i + 6 ≤ Ln) : StepE f g p d e 606 i := by
  obtain ⟨x, f1, g1, p1, f2, g2, k1, k2, hI2, hT2, hs1, hs2⟩ := q_toHearten (g := g) (e := e) (x0 := (f am_SC (i + 1))) hI hT 
  refine ⟨f2, g2, p1, ?_, hI2, hT2⟩
  refine (am_bl 5 (f' := (327, 612, [.retAddr 1, .ref 0, .ref 177, .ref 191, .int (nI i), .retAddr 0, .retAddr 0], [.int (nI i + 1), .retAddr 1, .ref 0])) rfl).trans ?_
  refine Eq.trans (b := am_runs (327, 613, [.retAddr 1, .ref 0, .ref 177, .ref 191, .int (nI i), .retAddr 0, .retAddr 0], [.int (f am_SC (i + 1)), .ref 0]) (f, g, p, d, e)) (rr_sc rfl hD hL (sx1 i) (by omega) rfl) ?_
  refine Eq.trans (b := am_runs (327, 616, [.retAddr 1, .ref 0, .ref 177, .ref 191, .int (nI i), .retAddr 0, .retAddr 0], [.int x]) (f1, g1, p1, d, e)) (ar_cV rfl rfl rfl rfl rfl rfl rfl (t0_k hT rfl) rfl k1) ?_
  refine (am_bl 5 (f' := (327, 622, [.retAddr 1, .ref 0, .ref 177, .ref 191, .int (nI i), .retAddr 0, .retAddr 0], [.int (nI i + 1), .retAddr 1, .ref 177, .int x])) rfl).trans ?_
  refine Eq.trans (b := am_runs (327, 623, [.retAddr 1, .ref 0, .ref 177, .ref 191, .int (nI i), .retAddr 0, .retAddr 0], [.int (f am_SC (i + 1)), .ref 177, .int x]) (f1, g1, p1, d, e)) (rr_sc rfl hD hL (sx1 i) (by omega) (congrFun hs1 _)) ?_
  refine Eq.trans (b := am_runs (327, 626, [.retAddr 1, .ref 0, .ref 177, .ref 191, .int (nI i), .retAddr 0, .retAddr 0], [.int x, .int x]) (f2, g2, p1, d, e)) (ar_cV rfl rfl rfl rfl rfl rfl rfl (t0_k hT rfl) rfl k2) ?_
  exact (rj_eq rfl).trans (if_pos rfl)
set_option maxRecDepth 20000 in
theorem c_fearFor {f : Nat → Nat → Int32} {g : Nat → Nat → Int64} {p : Nat → Nat → Option Nat} {d : Nat → Nat × Nat} {e : Nat × Nat} {Ln i : Nat} (hI : Inv f p) (hT : am_T0 p d) (hD : d am_SC = (18, Ln)) (hL : Ln ≤ 3072) (hi : i + 6 ≤ Ln) : StepE f g p d e 631 i := by
  obtain ⟨x, f1, g1, p1, f2, g2, k1, k2, hI2, hT2, hs1, hs2⟩ := q_fearFor (g := g) (e := e) (x0 := (f am_SC (i + 1))) hI hT 
  refine ⟨f2, g2, p1, ?_, hI2, hT2⟩
  refine (am_bl 5 (f' := (327, 637, [.retAddr 1, .ref 0, .ref 177, .ref 191, .int (nI i), .retAddr 0, .retAddr 0], [.int (nI i + 1), .retAddr 1, .ref 0])) rfl).trans ?_
  refine Eq.trans (b := am_runs (327, 638, [.retAddr 1, .ref 0, .ref 177, .ref 191, .int (nI i), .retAddr 0, .retAddr 0], [.int (f am_SC (i + 1)), .ref 0]) (f, g, p, d, e)) (rr_sc rfl hD hL (sx1 i) (by omega) rfl) ?_
  refine Eq.trans (b := am_runs (327, 641, [.retAddr 1, .ref 0, .ref 177, .ref 191, .int (nI i), .retAddr 0, .retAddr 0], [.int x]) (f1, g1, p1, d, e)) (ar_cV rfl rfl rfl rfl rfl rfl rfl (t0_k hT rfl) rfl k1) ?_
  refine (am_bl 5 (f' := (327, 647, [.retAddr 1, .ref 0, .ref 177, .ref 191, .int (nI i), .retAddr 0, .retAddr 0], [.int (nI i + 1), .retAddr 1, .ref 177, .int x])) rfl).trans ?_
  refine Eq.trans (b := am_runs (327, 648, [.retAddr 1, .ref 0, .ref 177, .ref 191, .int (nI i), .retAddr 0, .retAddr 0], [.int (f am_SC (i + 1)), .ref 177, .int x]) (f1, g1, p1, d, e)) (rr_sc rfl hD hL (sx1 i) (by omega) (congrFun hs1 _)) ?_
  refine Eq.trans (b := am_runs (327, 651, [.retAddr 1, .ref 0, .ref 177, .ref 191, .int (nI i), .retAddr 0, .retAddr 0], [.int x, .int x]) (f2, g2, p1, d, e)) (ar_cV rfl rfl rfl rfl rfl rfl rfl (t0_k hT rfl) rfl k2) ?_
  exact (rj_eq rfl).trans (if_pos rfl)
set_option maxRecDepth 20000 in
theorem c_sets {f : Nat → Nat → Int32} {g : Nat → Nat → Int64} {p : Nat → Nat → Option Nat} {d : Nat → Nat × Nat} {e : Nat × Nat} {Ln i : Nat} (hI : Inv f p) (hT : am_T0 p d) (hD : d am_SC = (18, Ln)) (hL : Ln ≤ 3072) (hi : i + 6 ≤ Ln) : StepE f g p d e 656 i := by
  obtain ⟨x, f1, g1, p1, f2, g2, k1, k2, hI2, hT2, hs1, hs2⟩ := q_sets (g := g) (e := e) (x0 := (f am_SC (i + 1))) hI hT 
  refine ⟨f2, g2, p1, ?_, hI2, hT2⟩
  refine (am_bl 5 (f' := (327, 662, [.retAddr 1, .ref 0, .ref 177, .ref 191, .int (nI i), .retAddr 0, .retAddr 0], [.int (nI i + 1), .retAddr 1, .ref 0])) rfl).trans ?_
  refine Eq.trans (b := am_runs (327, 663, [.retAddr 1, .ref 0, .ref 177, .ref 191, .int (nI i), .retAddr 0, .retAddr 0], [.int (f am_SC (i + 1)), .ref 0]) (f, g, p, d, e)) (rr_sc rfl hD hL (sx1 i) (by omega) rfl) ?_
  refine Eq.trans (b := am_runs (327, 666, [.retAddr 1, .ref 0, .ref 177, .ref 191, .int (nI i), .retAddr 0, .retAddr 0], [.int x]) (f1, g1, p1, d, e)) (ar_cV rfl rfl rfl rfl rfl rfl rfl (t0_k hT rfl) rfl k1) ?_
  refine (am_bl 5 (f' := (327, 672, [.retAddr 1, .ref 0, .ref 177, .ref 191, .int (nI i), .retAddr 0, .retAddr 0], [.int (nI i + 1), .retAddr 1, .ref 177, .int x])) rfl).trans ?_
  refine Eq.trans (b := am_runs (327, 673, [.retAddr 1, .ref 0, .ref 177, .ref 191, .int (nI i), .retAddr 0, .retAddr 0], [.int (f am_SC (i + 1)), .ref 177, .int x]) (f1, g1, p1, d, e)) (rr_sc rfl hD hL (sx1 i) (by omega) (congrFun hs1 _)) ?_
  refine Eq.trans (b := am_runs (327, 676, [.retAddr 1, .ref 0, .ref 177, .ref 191, .int (nI i), .retAddr 0, .retAddr 0], [.int x, .int x]) (f2, g2, p1, d, e)) (ar_cV rfl rfl rfl rfl rfl rfl rfl (t0_k hT rfl) rfl k2) ?_
  exact (rj_eq rfl).trans (if_pos rfl)
set_option maxRecDepth 20000 in
theorem c_drawn {f : Nat → Nat → Int32} {g : Nat → Nat → Int64} {p : Nat → Nat → Option Nat} {d : Nat → Nat × Nat} {e : Nat × Nat} {Ln i : Nat} (hI : Inv f p) (hT : am_T0 p d) (hD : d am_SC = (18, Ln)) (hL : Ln ≤ 3072) (hi : i + 6 ≤ Ln) : StepE f g p d e 681 i := by
  obtain ⟨x, f1, g1, p1, f2, g2, k1, k2, hI2, hT2, hs1, hs2⟩ := q_drawn (g := g) (e := e) (x0 := (f am_SC (i + 1))) (x1 := (bz (f am_SC (i + 2)))) hI hT 
  refine ⟨f2, g2, p1, ?_, hI2, hT2⟩
  refine (am_bl 5 (f' := (327, 687, [.retAddr 1, .ref 0, .ref 177, .ref 191, .int (nI i), .retAddr 0, .retAddr 0], [.int (nI i + 1), .retAddr 1, .ref 0])) rfl).trans ?_
  refine Eq.trans (b := am_runs (327, 688, [.retAddr 1, .ref 0, .ref 177, .ref 191, .int (nI i), .retAddr 0, .retAddr 0], [.int (f am_SC (i + 1)), .ref 0]) (f, g, p, d, e)) (rr_sc rfl hD hL (sx1 i) (by omega) rfl) ?_
  refine (am_bl 4 (f' := (327, 693, [.retAddr 1, .ref 0, .ref 177, .ref 191, .int (nI i), .retAddr 0, .retAddr 0], [.int (nI i + 2), .retAddr 1, .int (f am_SC (i + 1)), .ref 0])) rfl).trans ?_
  refine Eq.trans (b := am_runs (327, 694, [.retAddr 1, .ref 0, .ref 177, .ref 191, .int (nI i), .retAddr 0, .retAddr 0], [.int (f am_SC (i + 2)), .int (f am_SC (i + 1)), .ref 0]) (f, g, p, d, e)) (rr_sc rfl hD hL (sx2 i) (by omega) rfl) ?_
  refine Eq.trans (b := am_runs (327, 702, [.retAddr 1, .ref 0, .ref 177, .ref 191, .int (nI i), .retAddr 0, .retAddr 0], [.int (bz (f am_SC (i + 2))), .int (f am_SC (i + 1)), .ref 0]) (f, g, p, d, e)) ((ri_eq rfl).trans (jz (fun y => am_runs (327, 702, [.retAddr 1, .ref 0, .ref 177, .ref 191, .int (nI i), .retAddr 0, .retAddr 0], [.int y, .int (f am_SC (i + 1)), .ref 0]) (f, g, p, d, e)) (am_bl 1 (f' := (327, 702, [.retAddr 1, .ref 0, .ref 177, .ref 191, .int (nI i), .retAddr 0, .retAddr 0], [.int 0, .int (f am_SC (i + 1)), .ref 0])) rfl) (am_bl 2 (f' := (327, 702, [.retAddr 1, .ref 0, .ref 177, .ref 191, .int (nI i), .retAddr 0, .retAddr 0], [.int 1, .int (f am_SC (i + 1)), .ref 0])) rfl))) ?_
  refine Eq.trans (b := am_runs (327, 705, [.retAddr 1, .ref 0, .ref 177, .ref 191, .int (nI i), .retAddr 0, .retAddr 0], [.long x]) (f1, g1, p1, d, e)) (ar_cV rfl rfl rfl rfl rfl rfl rfl (t0_k hT rfl) rfl k1) ?_
  refine (am_bl 5 (f' := (327, 711, [.retAddr 1, .ref 0, .ref 177, .ref 191, .int (nI i), .retAddr 0, .retAddr 0], [.int (nI i + 1), .retAddr 1, .ref 177, .long x])) rfl).trans ?_
  refine Eq.trans (b := am_runs (327, 712, [.retAddr 1, .ref 0, .ref 177, .ref 191, .int (nI i), .retAddr 0, .retAddr 0], [.int (f am_SC (i + 1)), .ref 177, .long x]) (f1, g1, p1, d, e)) (rr_sc rfl hD hL (sx1 i) (by omega) (congrFun hs1 _)) ?_
  refine (am_bl 4 (f' := (327, 717, [.retAddr 1, .ref 0, .ref 177, .ref 191, .int (nI i), .retAddr 0, .retAddr 0], [.int (nI i + 2), .retAddr 1, .int (f am_SC (i + 1)), .ref 177, .long x])) rfl).trans ?_
  refine Eq.trans (b := am_runs (327, 718, [.retAddr 1, .ref 0, .ref 177, .ref 191, .int (nI i), .retAddr 0, .retAddr 0], [.int (f am_SC (i + 2)), .int (f am_SC (i + 1)), .ref 177, .long x]) (f1, g1, p1, d, e)) (rr_sc rfl hD hL (sx2 i) (by omega) (congrFun hs1 _)) ?_
  refine Eq.trans (b := am_runs (327, 726, [.retAddr 1, .ref 0, .ref 177, .ref 191, .int (nI i), .retAddr 0, .retAddr 0], [.int (bz (f am_SC (i + 2))), .int (f am_SC (i + 1)), .ref 177, .long x]) (f1, g1, p1, d, e)) ((ri_eq rfl).trans (jz (fun y => am_runs (327, 726, [.retAddr 1, .ref 0, .ref 177, .ref 191, .int (nI i), .retAddr 0, .retAddr 0], [.int y, .int (f am_SC (i + 1)), .ref 177, .long x]) (f1, g1, p1, d, e)) (am_bl 1 (f' := (327, 726, [.retAddr 1, .ref 0, .ref 177, .ref 191, .int (nI i), .retAddr 0, .retAddr 0], [.int 0, .int (f am_SC (i + 1)), .ref 177, .long x])) rfl) (am_bl 2 (f' := (327, 726, [.retAddr 1, .ref 0, .ref 177, .ref 191, .int (nI i), .retAddr 0, .retAddr 0], [.int 1, .int (f am_SC (i + 1)), .ref 177, .long x])) rfl))) ?_
  refine Eq.trans (b := am_runs (327, 729, [.retAddr 1, .ref 0, .ref 177, .ref 191, .int (nI i), .retAddr 0, .retAddr 0], [.long x, .long x]) (f2, g2, p1, d, e)) (ar_cV rfl rfl rfl rfl rfl rfl rfl (t0_k hT rfl) rfl k2) ?_
  refine (am_bl 1 (f' := (327, 730, [.retAddr 1, .ref 0, .ref 177, .ref 191, .int (nI i), .retAddr 0, .retAddr 0], [.int (lg_cmp x x)])) rfl).trans ?_
  exact (ri_eq rfl).trans (if_pos (lc_self x))
set_option maxRecDepth 20000 in
theorem c_holdsAfter {f : Nat → Nat → Int32} {g : Nat → Nat → Int64} {p : Nat → Nat → Option Nat} {d : Nat → Nat × Nat} {e : Nat × Nat} {Ln i : Nat} (hI : Inv f p) (hT : am_T0 p d) (hD : d am_SC = (18, Ln)) (hL : Ln ≤ 3072) (hi : i + 6 ≤ Ln) : StepE f g p d e 735 i := by
  obtain ⟨x, f1, g1, p1, f2, g2, k1, k2, hI2, hT2, hs1, hs2⟩ := q_holdsAfter (g := g) (e := e) (x0 := (f am_SC (i + 1))) (x1 := (f am_SC (i + 2))) (x2 := (bz (f am_SC (i + 3)))) hI hT 
  refine ⟨f2, g2, p1, ?_, hI2, hT2⟩
  refine (am_bl 5 (f' := (327, 741, [.retAddr 1, .ref 0, .ref 177, .ref 191, .int (nI i), .retAddr 0, .retAddr 0], [.int (nI i + 1), .retAddr 1, .ref 0])) rfl).trans ?_
  refine Eq.trans (b := am_runs (327, 742, [.retAddr 1, .ref 0, .ref 177, .ref 191, .int (nI i), .retAddr 0, .retAddr 0], [.int (f am_SC (i + 1)), .ref 0]) (f, g, p, d, e)) (rr_sc rfl hD hL (sx1 i) (by omega) rfl) ?_
  refine (am_bl 4 (f' := (327, 747, [.retAddr 1, .ref 0, .ref 177, .ref 191, .int (nI i), .retAddr 0, .retAddr 0], [.int (nI i + 2), .retAddr 1, .int (f am_SC (i + 1)), .ref 0])) rfl).trans ?_
  refine Eq.trans (b := am_runs (327, 748, [.retAddr 1, .ref 0, .ref 177, .ref 191, .int (nI i), .retAddr 0, .retAddr 0], [.int (f am_SC (i + 2)), .int (f am_SC (i + 1)), .ref 0]) (f, g, p, d, e)) (rr_sc rfl hD hL (sx2 i) (by omega) rfl) ?_
  refine (am_bl 4 (f' := (327, 753, [.retAddr 1, .ref 0, .ref 177, .ref 191, .int (nI i), .retAddr 0, .retAddr 0], [.int (nI i + 3), .retAddr 1, .int (f am_SC (i + 2)), .int (f am_SC (i + 1)), .ref 0])) rfl).trans ?_
  refine Eq.trans (b := am_runs (327, 754, [.retAddr 1, .ref 0, .ref 177, .ref 191, .int (nI i), .retAddr 0, .retAddr 0], [.int (f am_SC (i + 3)), .int (f am_SC (i + 2)), .int (f am_SC (i + 1)), .ref 0]) (f, g, p, d, e)) (rr_sc rfl hD hL (sx3 i) (by omega) rfl) ?_
  refine Eq.trans (b := am_runs (327, 762, [.retAddr 1, .ref 0, .ref 177, .ref 191, .int (nI i), .retAddr 0, .retAddr 0], [.int (bz (f am_SC (i + 3))), .int (f am_SC (i + 2)), .int (f am_SC (i + 1)), .ref 0]) (f, g, p, d, e)) ((ri_eq rfl).trans (jz (fun y => am_runs (327, 762, [.retAddr 1, .ref 0, .ref 177, .ref 191, .int (nI i), .retAddr 0, .retAddr 0], [.int y, .int (f am_SC (i + 2)), .int (f am_SC (i + 1)), .ref 0]) (f, g, p, d, e)) (am_bl 1 (f' := (327, 762, [.retAddr 1, .ref 0, .ref 177, .ref 191, .int (nI i), .retAddr 0, .retAddr 0], [.int 0, .int (f am_SC (i + 2)), .int (f am_SC (i + 1)), .ref 0])) rfl) (am_bl 2 (f' := (327, 762, [.retAddr 1, .ref 0, .ref 177, .ref 191, .int (nI i), .retAddr 0, .retAddr 0], [.int 1, .int (f am_SC (i + 2)), .int (f am_SC (i + 1)), .ref 0])) rfl))) ?_
  refine Eq.trans (b := am_runs (327, 765, [.retAddr 1, .ref 0, .ref 177, .ref 191, .int (nI i), .retAddr 0, .retAddr 0], [.long x]) (f1, g1, p1, d, e)) (ar_cV rfl rfl rfl rfl rfl rfl rfl (t0_k hT rfl) rfl k1) ?_
  refine (am_bl 5 (f' := (327, 771, [.retAddr 1, .ref 0, .ref 177, .ref 191, .int (nI i), .retAddr 0, .retAddr 0], [.int (nI i + 1), .retAddr 1, .ref 177, .long x])) rfl).trans ?_
  refine Eq.trans (b := am_runs (327, 772, [.retAddr 1, .ref 0, .ref 177, .ref 191, .int (nI i), .retAddr 0, .retAddr 0], [.int (f am_SC (i + 1)), .ref 177, .long x]) (f1, g1, p1, d, e)) (rr_sc rfl hD hL (sx1 i) (by omega) (congrFun hs1 _)) ?_
  refine (am_bl 4 (f' := (327, 777, [.retAddr 1, .ref 0, .ref 177, .ref 191, .int (nI i), .retAddr 0, .retAddr 0], [.int (nI i + 2), .retAddr 1, .int (f am_SC (i + 1)), .ref 177, .long x])) rfl).trans ?_
  refine Eq.trans (b := am_runs (327, 778, [.retAddr 1, .ref 0, .ref 177, .ref 191, .int (nI i), .retAddr 0, .retAddr 0], [.int (f am_SC (i + 2)), .int (f am_SC (i + 1)), .ref 177, .long x]) (f1, g1, p1, d, e)) (rr_sc rfl hD hL (sx2 i) (by omega) (congrFun hs1 _)) ?_
  refine (am_bl 4 (f' := (327, 783, [.retAddr 1, .ref 0, .ref 177, .ref 191, .int (nI i), .retAddr 0, .retAddr 0], [.int (nI i + 3), .retAddr 1, .int (f am_SC (i + 2)), .int (f am_SC (i + 1)), .ref 177, .long x])) rfl).trans ?_
  refine Eq.trans (b := am_runs (327, 784, [.retAddr 1, .ref 0, .ref 177, .ref 191, .int (nI i), .retAddr 0, .retAddr 0], [.int (f am_SC (i + 3)), .int (f am_SC (i + 2)), .int (f am_SC (i + 1)), .ref 177, .long x]) (f1, g1, p1, d, e)) (rr_sc rfl hD hL (sx3 i) (by omega) (congrFun hs1 _)) ?_
  refine Eq.trans (b := am_runs (327, 792, [.retAddr 1, .ref 0, .ref 177, .ref 191, .int (nI i), .retAddr 0, .retAddr 0], [.int (bz (f am_SC (i + 3))), .int (f am_SC (i + 2)), .int (f am_SC (i + 1)), .ref 177, .long x]) (f1, g1, p1, d, e)) ((ri_eq rfl).trans (jz (fun y => am_runs (327, 792, [.retAddr 1, .ref 0, .ref 177, .ref 191, .int (nI i), .retAddr 0, .retAddr 0], [.int y, .int (f am_SC (i + 2)), .int (f am_SC (i + 1)), .ref 177, .long x]) (f1, g1, p1, d, e)) (am_bl 1 (f' := (327, 792, [.retAddr 1, .ref 0, .ref 177, .ref 191, .int (nI i), .retAddr 0, .retAddr 0], [.int 0, .int (f am_SC (i + 2)), .int (f am_SC (i + 1)), .ref 177, .long x])) rfl) (am_bl 2 (f' := (327, 792, [.retAddr 1, .ref 0, .ref 177, .ref 191, .int (nI i), .retAddr 0, .retAddr 0], [.int 1, .int (f am_SC (i + 2)), .int (f am_SC (i + 1)), .ref 177, .long x])) rfl))) ?_
  refine Eq.trans (b := am_runs (327, 795, [.retAddr 1, .ref 0, .ref 177, .ref 191, .int (nI i), .retAddr 0, .retAddr 0], [.long x, .long x]) (f2, g2, p1, d, e)) (ar_cV rfl rfl rfl rfl rfl rfl rfl (t0_k hT rfl) rfl k2) ?_
  refine (am_bl 1 (f' := (327, 796, [.retAddr 1, .ref 0, .ref 177, .ref 191, .int (nI i), .retAddr 0, .retAddr 0], [.int (lg_cmp x x)])) rfl).trans ?_
  exact (ri_eq rfl).trans (if_pos (lc_self x))
set_option maxRecDepth 20000 in
theorem c_mutinyAfter {f : Nat → Nat → Int32} {g : Nat → Nat → Int64} {p : Nat → Nat → Option Nat} {d : Nat → Nat × Nat} {e : Nat × Nat} {Ln i : Nat} (hI : Inv f p) (hT : am_T0 p d) (hD : d am_SC = (18, Ln)) (hL : Ln ≤ 3072) (hi : i + 6 ≤ Ln) : StepE f g p d e 801 i := by
  obtain ⟨x, f1, g1, p1, f2, g2, k1, k2, hI2, hT2, hs1, hs2⟩ := q_mutinyAfter (g := g) (e := e) (x0 := (f am_SC (i + 1))) (x1 := (bz (f am_SC (i + 2)))) hI hT 
  refine ⟨f2, g2, p1, ?_, hI2, hT2⟩
  refine (am_bl 5 (f' := (327, 807, [.retAddr 1, .ref 0, .ref 177, .ref 191, .int (nI i), .retAddr 0, .retAddr 0], [.int (nI i + 1), .retAddr 1, .ref 0])) rfl).trans ?_
  refine Eq.trans (b := am_runs (327, 808, [.retAddr 1, .ref 0, .ref 177, .ref 191, .int (nI i), .retAddr 0, .retAddr 0], [.int (f am_SC (i + 1)), .ref 0]) (f, g, p, d, e)) (rr_sc rfl hD hL (sx1 i) (by omega) rfl) ?_
  refine (am_bl 4 (f' := (327, 813, [.retAddr 1, .ref 0, .ref 177, .ref 191, .int (nI i), .retAddr 0, .retAddr 0], [.int (nI i + 2), .retAddr 1, .int (f am_SC (i + 1)), .ref 0])) rfl).trans ?_
  refine Eq.trans (b := am_runs (327, 814, [.retAddr 1, .ref 0, .ref 177, .ref 191, .int (nI i), .retAddr 0, .retAddr 0], [.int (f am_SC (i + 2)), .int (f am_SC (i + 1)), .ref 0]) (f, g, p, d, e)) (rr_sc rfl hD hL (sx2 i) (by omega) rfl) ?_
  refine Eq.trans (b := am_runs (327, 822, [.retAddr 1, .ref 0, .ref 177, .ref 191, .int (nI i), .retAddr 0, .retAddr 0], [.int (bz (f am_SC (i + 2))), .int (f am_SC (i + 1)), .ref 0]) (f, g, p, d, e)) ((ri_eq rfl).trans (jz (fun y => am_runs (327, 822, [.retAddr 1, .ref 0, .ref 177, .ref 191, .int (nI i), .retAddr 0, .retAddr 0], [.int y, .int (f am_SC (i + 1)), .ref 0]) (f, g, p, d, e)) (am_bl 1 (f' := (327, 822, [.retAddr 1, .ref 0, .ref 177, .ref 191, .int (nI i), .retAddr 0, .retAddr 0], [.int 0, .int (f am_SC (i + 1)), .ref 0])) rfl) (am_bl 2 (f' := (327, 822, [.retAddr 1, .ref 0, .ref 177, .ref 191, .int (nI i), .retAddr 0, .retAddr 0], [.int 1, .int (f am_SC (i + 1)), .ref 0])) rfl))) ?_
  refine Eq.trans (b := am_runs (327, 825, [.retAddr 1, .ref 0, .ref 177, .ref 191, .int (nI i), .retAddr 0, .retAddr 0], [.long x]) (f1, g1, p1, d, e)) (ar_cV rfl rfl rfl rfl rfl rfl rfl (t0_k hT rfl) rfl k1) ?_
  refine (am_bl 5 (f' := (327, 831, [.retAddr 1, .ref 0, .ref 177, .ref 191, .int (nI i), .retAddr 0, .retAddr 0], [.int (nI i + 1), .retAddr 1, .ref 177, .long x])) rfl).trans ?_
  refine Eq.trans (b := am_runs (327, 832, [.retAddr 1, .ref 0, .ref 177, .ref 191, .int (nI i), .retAddr 0, .retAddr 0], [.int (f am_SC (i + 1)), .ref 177, .long x]) (f1, g1, p1, d, e)) (rr_sc rfl hD hL (sx1 i) (by omega) (congrFun hs1 _)) ?_
  refine (am_bl 4 (f' := (327, 837, [.retAddr 1, .ref 0, .ref 177, .ref 191, .int (nI i), .retAddr 0, .retAddr 0], [.int (nI i + 2), .retAddr 1, .int (f am_SC (i + 1)), .ref 177, .long x])) rfl).trans ?_
  refine Eq.trans (b := am_runs (327, 838, [.retAddr 1, .ref 0, .ref 177, .ref 191, .int (nI i), .retAddr 0, .retAddr 0], [.int (f am_SC (i + 2)), .int (f am_SC (i + 1)), .ref 177, .long x]) (f1, g1, p1, d, e)) (rr_sc rfl hD hL (sx2 i) (by omega) (congrFun hs1 _)) ?_
  refine Eq.trans (b := am_runs (327, 846, [.retAddr 1, .ref 0, .ref 177, .ref 191, .int (nI i), .retAddr 0, .retAddr 0], [.int (bz (f am_SC (i + 2))), .int (f am_SC (i + 1)), .ref 177, .long x]) (f1, g1, p1, d, e)) ((ri_eq rfl).trans (jz (fun y => am_runs (327, 846, [.retAddr 1, .ref 0, .ref 177, .ref 191, .int (nI i), .retAddr 0, .retAddr 0], [.int y, .int (f am_SC (i + 1)), .ref 177, .long x]) (f1, g1, p1, d, e)) (am_bl 1 (f' := (327, 846, [.retAddr 1, .ref 0, .ref 177, .ref 191, .int (nI i), .retAddr 0, .retAddr 0], [.int 0, .int (f am_SC (i + 1)), .ref 177, .long x])) rfl) (am_bl 2 (f' := (327, 846, [.retAddr 1, .ref 0, .ref 177, .ref 191, .int (nI i), .retAddr 0, .retAddr 0], [.int 1, .int (f am_SC (i + 1)), .ref 177, .long x])) rfl))) ?_
  refine Eq.trans (b := am_runs (327, 849, [.retAddr 1, .ref 0, .ref 177, .ref 191, .int (nI i), .retAddr 0, .retAddr 0], [.long x, .long x]) (f2, g2, p1, d, e)) (ar_cV rfl rfl rfl rfl rfl rfl rfl (t0_k hT rfl) rfl k2) ?_
  refine (am_bl 1 (f' := (327, 850, [.retAddr 1, .ref 0, .ref 177, .ref 191, .int (nI i), .retAddr 0, .retAddr 0], [.int (lg_cmp x x)])) rfl).trans ?_
  exact (ri_eq rfl).trans (if_pos (lc_self x))
set_option maxRecDepth 20000 in
theorem c_runsAfter {f : Nat → Nat → Int32} {g : Nat → Nat → Int64} {p : Nat → Nat → Option Nat} {d : Nat → Nat × Nat} {e : Nat × Nat} {Ln i : Nat} (hI : Inv f p) (hT : am_T0 p d) (hD : d am_SC = (18, Ln)) (hL : Ln ≤ 3072) (hi : i + 6 ≤ Ln) : StepE f g p d e 855 i := by
  obtain ⟨x, f1, g1, p1, f2, g2, k1, k2, hI2, hT2, hs1, hs2⟩ := q_runsAfter (g := g) (e := e) (x0 := (f am_SC (i + 1))) (x1 := (f am_SC (i + 2))) (x2 := (bz (f am_SC (i + 3)))) hI hT 
  refine ⟨f2, g2, p1, ?_, hI2, hT2⟩
  refine (am_bl 5 (f' := (327, 861, [.retAddr 1, .ref 0, .ref 177, .ref 191, .int (nI i), .retAddr 0, .retAddr 0], [.int (nI i + 1), .retAddr 1, .ref 0])) rfl).trans ?_
  refine Eq.trans (b := am_runs (327, 862, [.retAddr 1, .ref 0, .ref 177, .ref 191, .int (nI i), .retAddr 0, .retAddr 0], [.int (f am_SC (i + 1)), .ref 0]) (f, g, p, d, e)) (rr_sc rfl hD hL (sx1 i) (by omega) rfl) ?_
  refine (am_bl 4 (f' := (327, 867, [.retAddr 1, .ref 0, .ref 177, .ref 191, .int (nI i), .retAddr 0, .retAddr 0], [.int (nI i + 2), .retAddr 1, .int (f am_SC (i + 1)), .ref 0])) rfl).trans ?_
  refine Eq.trans (b := am_runs (327, 868, [.retAddr 1, .ref 0, .ref 177, .ref 191, .int (nI i), .retAddr 0, .retAddr 0], [.int (f am_SC (i + 2)), .int (f am_SC (i + 1)), .ref 0]) (f, g, p, d, e)) (rr_sc rfl hD hL (sx2 i) (by omega) rfl) ?_
  refine (am_bl 4 (f' := (327, 873, [.retAddr 1, .ref 0, .ref 177, .ref 191, .int (nI i), .retAddr 0, .retAddr 0], [.int (nI i + 3), .retAddr 1, .int (f am_SC (i + 2)), .int (f am_SC (i + 1)), .ref 0])) rfl).trans ?_
  refine Eq.trans (b := am_runs (327, 874, [.retAddr 1, .ref 0, .ref 177, .ref 191, .int (nI i), .retAddr 0, .retAddr 0], [.int (f am_SC (i + 3)), .int (f am_SC (i + 2)), .int (f am_SC (i + 1)), .ref 0]) (f, g, p, d, e)) (rr_sc rfl hD hL (sx3 i) (by omega) rfl) ?_
  refine Eq.trans (b := am_runs (327, 882, [.retAddr 1, .ref 0, .ref 177, .ref 191, .int (nI i), .retAddr 0, .retAddr 0], [.int (bz (f am_SC (i + 3))), .int (f am_SC (i + 2)), .int (f am_SC (i + 1)), .ref 0]) (f, g, p, d, e)) ((ri_eq rfl).trans (jz (fun y => am_runs (327, 882, [.retAddr 1, .ref 0, .ref 177, .ref 191, .int (nI i), .retAddr 0, .retAddr 0], [.int y, .int (f am_SC (i + 2)), .int (f am_SC (i + 1)), .ref 0]) (f, g, p, d, e)) (am_bl 1 (f' := (327, 882, [.retAddr 1, .ref 0, .ref 177, .ref 191, .int (nI i), .retAddr 0, .retAddr 0], [.int 0, .int (f am_SC (i + 2)), .int (f am_SC (i + 1)), .ref 0])) rfl) (am_bl 2 (f' := (327, 882, [.retAddr 1, .ref 0, .ref 177, .ref 191, .int (nI i), .retAddr 0, .retAddr 0], [.int 1, .int (f am_SC (i + 2)), .int (f am_SC (i + 1)), .ref 0])) rfl))) ?_
  refine Eq.trans (b := am_runs (327, 885, [.retAddr 1, .ref 0, .ref 177, .ref 191, .int (nI i), .retAddr 0, .retAddr 0], [.long x]) (f1, g1, p1, d, e)) (ar_cV rfl rfl rfl rfl rfl rfl rfl (t0_k hT rfl) rfl k1) ?_
  refine (am_bl 5 (f' := (327, 891, [.retAddr 1, .ref 0, .ref 177, .ref 191, .int (nI i), .retAddr 0, .retAddr 0], [.int (nI i + 1), .retAddr 1, .ref 177, .long x])) rfl).trans ?_
  refine Eq.trans (b := am_runs (327, 892, [.retAddr 1, .ref 0, .ref 177, .ref 191, .int (nI i), .retAddr 0, .retAddr 0], [.int (f am_SC (i + 1)), .ref 177, .long x]) (f1, g1, p1, d, e)) (rr_sc rfl hD hL (sx1 i) (by omega) (congrFun hs1 _)) ?_
  refine (am_bl 4 (f' := (327, 897, [.retAddr 1, .ref 0, .ref 177, .ref 191, .int (nI i), .retAddr 0, .retAddr 0], [.int (nI i + 2), .retAddr 1, .int (f am_SC (i + 1)), .ref 177, .long x])) rfl).trans ?_
  refine Eq.trans (b := am_runs (327, 898, [.retAddr 1, .ref 0, .ref 177, .ref 191, .int (nI i), .retAddr 0, .retAddr 0], [.int (f am_SC (i + 2)), .int (f am_SC (i + 1)), .ref 177, .long x]) (f1, g1, p1, d, e)) (rr_sc rfl hD hL (sx2 i) (by omega) (congrFun hs1 _)) ?_
  refine (am_bl 4 (f' := (327, 903, [.retAddr 1, .ref 0, .ref 177, .ref 191, .int (nI i), .retAddr 0, .retAddr 0], [.int (nI i + 3), .retAddr 1, .int (f am_SC (i + 2)), .int (f am_SC (i + 1)), .ref 177, .long x])) rfl).trans ?_
  refine Eq.trans (b := am_runs (327, 904, [.retAddr 1, .ref 0, .ref 177, .ref 191, .int (nI i), .retAddr 0, .retAddr 0], [.int (f am_SC (i + 3)), .int (f am_SC (i + 2)), .int (f am_SC (i + 1)), .ref 177, .long x]) (f1, g1, p1, d, e)) (rr_sc rfl hD hL (sx3 i) (by omega) (congrFun hs1 _)) ?_
  refine Eq.trans (b := am_runs (327, 912, [.retAddr 1, .ref 0, .ref 177, .ref 191, .int (nI i), .retAddr 0, .retAddr 0], [.int (bz (f am_SC (i + 3))), .int (f am_SC (i + 2)), .int (f am_SC (i + 1)), .ref 177, .long x]) (f1, g1, p1, d, e)) ((ri_eq rfl).trans (jz (fun y => am_runs (327, 912, [.retAddr 1, .ref 0, .ref 177, .ref 191, .int (nI i), .retAddr 0, .retAddr 0], [.int y, .int (f am_SC (i + 2)), .int (f am_SC (i + 1)), .ref 177, .long x]) (f1, g1, p1, d, e)) (am_bl 1 (f' := (327, 912, [.retAddr 1, .ref 0, .ref 177, .ref 191, .int (nI i), .retAddr 0, .retAddr 0], [.int 0, .int (f am_SC (i + 2)), .int (f am_SC (i + 1)), .ref 177, .long x])) rfl) (am_bl 2 (f' := (327, 912, [.retAddr 1, .ref 0, .ref 177, .ref 191, .int (nI i), .retAddr 0, .retAddr 0], [.int 1, .int (f am_SC (i + 2)), .int (f am_SC (i + 1)), .ref 177, .long x])) rfl))) ?_
  refine Eq.trans (b := am_runs (327, 915, [.retAddr 1, .ref 0, .ref 177, .ref 191, .int (nI i), .retAddr 0, .retAddr 0], [.long x, .long x]) (f2, g2, p1, d, e)) (ar_cV rfl rfl rfl rfl rfl rfl rfl (t0_k hT rfl) rfl k2) ?_
  refine (am_bl 1 (f' := (327, 916, [.retAddr 1, .ref 0, .ref 177, .ref 191, .int (nI i), .retAddr 0, .retAddr 0], [.int (lg_cmp x x)])) rfl).trans ?_
  exact (ri_eq rfl).trans (if_pos (lc_self x))
set_option maxRecDepth 20000 in
theorem c_worstSet {f : Nat → Nat → Int32} {g : Nat → Nat → Int64} {p : Nat → Nat → Option Nat} {d : Nat → Nat × Nat} {e : Nat × Nat} {Ln i : Nat} (hI : Inv f p) (hT : am_T0 p d) (hD : d am_SC = (18, Ln)) (hL : Ln ≤ 3072) (hi : i + 6 ≤ Ln) : StepE f g p d e 921 i := by
  obtain ⟨x, f1, g1, p1, f2, g2, k1, k2, hI2, hT2, hs1, hs2⟩ := q_worstSet (g := g) (e := e) (x0 := (f am_SC (i + 1))) (x1 := (f am_SC (i + 2))) hI hT 
  refine ⟨f2, g2, p1, ?_, hI2, hT2⟩
  refine (am_bl 5 (f' := (327, 927, [.retAddr 1, .ref 0, .ref 177, .ref 191, .int (nI i), .retAddr 0, .retAddr 0], [.int (nI i + 1), .retAddr 1, .ref 0])) rfl).trans ?_
  refine Eq.trans (b := am_runs (327, 928, [.retAddr 1, .ref 0, .ref 177, .ref 191, .int (nI i), .retAddr 0, .retAddr 0], [.int (f am_SC (i + 1)), .ref 0]) (f, g, p, d, e)) (rr_sc rfl hD hL (sx1 i) (by omega) rfl) ?_
  refine (am_bl 4 (f' := (327, 933, [.retAddr 1, .ref 0, .ref 177, .ref 191, .int (nI i), .retAddr 0, .retAddr 0], [.int (nI i + 2), .retAddr 1, .int (f am_SC (i + 1)), .ref 0])) rfl).trans ?_
  refine Eq.trans (b := am_runs (327, 934, [.retAddr 1, .ref 0, .ref 177, .ref 191, .int (nI i), .retAddr 0, .retAddr 0], [.int (f am_SC (i + 2)), .int (f am_SC (i + 1)), .ref 0]) (f, g, p, d, e)) (rr_sc rfl hD hL (sx2 i) (by omega) rfl) ?_
  refine Eq.trans (b := am_runs (327, 937, [.retAddr 1, .ref 0, .ref 177, .ref 191, .int (nI i), .retAddr 0, .retAddr 0], [.int x]) (f1, g1, p1, d, e)) (ar_cV rfl rfl rfl rfl rfl rfl rfl (t0_k hT rfl) rfl k1) ?_
  refine (am_bl 5 (f' := (327, 943, [.retAddr 1, .ref 0, .ref 177, .ref 191, .int (nI i), .retAddr 0, .retAddr 0], [.int (nI i + 1), .retAddr 1, .ref 177, .int x])) rfl).trans ?_
  refine Eq.trans (b := am_runs (327, 944, [.retAddr 1, .ref 0, .ref 177, .ref 191, .int (nI i), .retAddr 0, .retAddr 0], [.int (f am_SC (i + 1)), .ref 177, .int x]) (f1, g1, p1, d, e)) (rr_sc rfl hD hL (sx1 i) (by omega) (congrFun hs1 _)) ?_
  refine (am_bl 4 (f' := (327, 949, [.retAddr 1, .ref 0, .ref 177, .ref 191, .int (nI i), .retAddr 0, .retAddr 0], [.int (nI i + 2), .retAddr 1, .int (f am_SC (i + 1)), .ref 177, .int x])) rfl).trans ?_
  refine Eq.trans (b := am_runs (327, 950, [.retAddr 1, .ref 0, .ref 177, .ref 191, .int (nI i), .retAddr 0, .retAddr 0], [.int (f am_SC (i + 2)), .int (f am_SC (i + 1)), .ref 177, .int x]) (f1, g1, p1, d, e)) (rr_sc rfl hD hL (sx2 i) (by omega) (congrFun hs1 _)) ?_
  refine Eq.trans (b := am_runs (327, 953, [.retAddr 1, .ref 0, .ref 177, .ref 191, .int (nI i), .retAddr 0, .retAddr 0], [.int x, .int x]) (f2, g2, p1, d, e)) (ar_cV rfl rfl rfl rfl rfl rfl rfl (t0_k hT rfl) rfl k2) ?_
  exact (rj_eq rfl).trans (if_pos rfl)
set_option maxRecDepth 20000 in
theorem c_order {f : Nat → Nat → Int32} {g : Nat → Nat → Int64} {p : Nat → Nat → Option Nat} {d : Nat → Nat × Nat} {e : Nat × Nat} {Ln i : Nat} (hI : Inv f p) (hT : am_T0 p d) (hD : d am_SC = (18, Ln)) (hL : Ln ≤ 3072) (hi : i + 6 ≤ Ln) : StepE f g p d e 958 i := by
  obtain ⟨x, f1, g1, p1, f2, g2, k1, k2, hI2, hT2, hs1, hs2⟩ := q_order (g := g) (e := e) (x0 := (f am_SC (i + 1))) hI hT 
  refine ⟨f2, g2, p1, ?_, hI2, hT2⟩
  refine (am_bl 5 (f' := (327, 964, [.retAddr 1, .ref 0, .ref 177, .ref 191, .int (nI i), .retAddr 0, .retAddr 0], [.int (nI i + 1), .retAddr 1, .ref 0])) rfl).trans ?_
  refine Eq.trans (b := am_runs (327, 965, [.retAddr 1, .ref 0, .ref 177, .ref 191, .int (nI i), .retAddr 0, .retAddr 0], [.int (f am_SC (i + 1)), .ref 0]) (f, g, p, d, e)) (rr_sc rfl hD hL (sx1 i) (by omega) rfl) ?_
  refine Eq.trans (b := am_runs (327, 968, [.retAddr 1, .ref 0, .ref 177, .ref 191, .int (nI i), .retAddr 0, .retAddr 0], [.int x]) (f1, g1, p1, d, e)) (ar_cV rfl rfl rfl rfl rfl rfl rfl (t0_k hT rfl) rfl k1) ?_
  refine (am_bl 5 (f' := (327, 974, [.retAddr 1, .ref 0, .ref 177, .ref 191, .int (nI i), .retAddr 0, .retAddr 0], [.int (nI i + 1), .retAddr 1, .ref 177, .int x])) rfl).trans ?_
  refine Eq.trans (b := am_runs (327, 975, [.retAddr 1, .ref 0, .ref 177, .ref 191, .int (nI i), .retAddr 0, .retAddr 0], [.int (f am_SC (i + 1)), .ref 177, .int x]) (f1, g1, p1, d, e)) (rr_sc rfl hD hL (sx1 i) (by omega) (congrFun hs1 _)) ?_
  refine Eq.trans (b := am_runs (327, 978, [.retAddr 1, .ref 0, .ref 177, .ref 191, .int (nI i), .retAddr 0, .retAddr 0], [.int x, .int x]) (f2, g2, p1, d, e)) (ar_cV rfl rfl rfl rfl rfl rfl rfl (t0_k hT rfl) rfl k2) ?_
  exact (rj_eq rfl).trans (if_pos rfl)
set_option maxRecDepth 20000 in
theorem c_orderOdds {f : Nat → Nat → Int32} {g : Nat → Nat → Int64} {p : Nat → Nat → Option Nat} {d : Nat → Nat × Nat} {e : Nat × Nat} {Ln i : Nat} (hI : Inv f p) (hT : am_T0 p d) (hD : d am_SC = (18, Ln)) (hL : Ln ≤ 3072) (hi : i + 6 ≤ Ln) : StepE f g p d e 983 i := by
  obtain ⟨x, f1, g1, p1, f2, g2, k1, k2, hI2, hT2, hs1, hs2⟩ := q_orderOdds (g := g) (e := e) (x0 := (f am_SC (i + 1))) (x1 := (bz (f am_SC (i + 2)))) hI hT 
  refine ⟨f2, g2, p1, ?_, hI2, hT2⟩
  refine (am_bl 5 (f' := (327, 989, [.retAddr 1, .ref 0, .ref 177, .ref 191, .int (nI i), .retAddr 0, .retAddr 0], [.int (nI i + 1), .retAddr 1, .ref 0])) rfl).trans ?_
  refine Eq.trans (b := am_runs (327, 990, [.retAddr 1, .ref 0, .ref 177, .ref 191, .int (nI i), .retAddr 0, .retAddr 0], [.int (f am_SC (i + 1)), .ref 0]) (f, g, p, d, e)) (rr_sc rfl hD hL (sx1 i) (by omega) rfl) ?_
  refine (am_bl 4 (f' := (327, 995, [.retAddr 1, .ref 0, .ref 177, .ref 191, .int (nI i), .retAddr 0, .retAddr 0], [.int (nI i + 2), .retAddr 1, .int (f am_SC (i + 1)), .ref 0])) rfl).trans ?_
  refine Eq.trans (b := am_runs (327, 996, [.retAddr 1, .ref 0, .ref 177, .ref 191, .int (nI i), .retAddr 0, .retAddr 0], [.int (f am_SC (i + 2)), .int (f am_SC (i + 1)), .ref 0]) (f, g, p, d, e)) (rr_sc rfl hD hL (sx2 i) (by omega) rfl) ?_
  refine Eq.trans (b := am_runs (327, 1004, [.retAddr 1, .ref 0, .ref 177, .ref 191, .int (nI i), .retAddr 0, .retAddr 0], [.int (bz (f am_SC (i + 2))), .int (f am_SC (i + 1)), .ref 0]) (f, g, p, d, e)) ((ri_eq rfl).trans (jz (fun y => am_runs (327, 1004, [.retAddr 1, .ref 0, .ref 177, .ref 191, .int (nI i), .retAddr 0, .retAddr 0], [.int y, .int (f am_SC (i + 1)), .ref 0]) (f, g, p, d, e)) (am_bl 1 (f' := (327, 1004, [.retAddr 1, .ref 0, .ref 177, .ref 191, .int (nI i), .retAddr 0, .retAddr 0], [.int 0, .int (f am_SC (i + 1)), .ref 0])) rfl) (am_bl 2 (f' := (327, 1004, [.retAddr 1, .ref 0, .ref 177, .ref 191, .int (nI i), .retAddr 0, .retAddr 0], [.int 1, .int (f am_SC (i + 1)), .ref 0])) rfl))) ?_
  refine Eq.trans (b := am_runs (327, 1007, [.retAddr 1, .ref 0, .ref 177, .ref 191, .int (nI i), .retAddr 0, .retAddr 0], [.long x]) (f1, g1, p1, d, e)) (ar_cV rfl rfl rfl rfl rfl rfl rfl (t0_k hT rfl) rfl k1) ?_
  refine (am_bl 5 (f' := (327, 1013, [.retAddr 1, .ref 0, .ref 177, .ref 191, .int (nI i), .retAddr 0, .retAddr 0], [.int (nI i + 1), .retAddr 1, .ref 177, .long x])) rfl).trans ?_
  refine Eq.trans (b := am_runs (327, 1014, [.retAddr 1, .ref 0, .ref 177, .ref 191, .int (nI i), .retAddr 0, .retAddr 0], [.int (f am_SC (i + 1)), .ref 177, .long x]) (f1, g1, p1, d, e)) (rr_sc rfl hD hL (sx1 i) (by omega) (congrFun hs1 _)) ?_
  refine (am_bl 4 (f' := (327, 1019, [.retAddr 1, .ref 0, .ref 177, .ref 191, .int (nI i), .retAddr 0, .retAddr 0], [.int (nI i + 2), .retAddr 1, .int (f am_SC (i + 1)), .ref 177, .long x])) rfl).trans ?_
  refine Eq.trans (b := am_runs (327, 1020, [.retAddr 1, .ref 0, .ref 177, .ref 191, .int (nI i), .retAddr 0, .retAddr 0], [.int (f am_SC (i + 2)), .int (f am_SC (i + 1)), .ref 177, .long x]) (f1, g1, p1, d, e)) (rr_sc rfl hD hL (sx2 i) (by omega) (congrFun hs1 _)) ?_
  refine Eq.trans (b := am_runs (327, 1028, [.retAddr 1, .ref 0, .ref 177, .ref 191, .int (nI i), .retAddr 0, .retAddr 0], [.int (bz (f am_SC (i + 2))), .int (f am_SC (i + 1)), .ref 177, .long x]) (f1, g1, p1, d, e)) ((ri_eq rfl).trans (jz (fun y => am_runs (327, 1028, [.retAddr 1, .ref 0, .ref 177, .ref 191, .int (nI i), .retAddr 0, .retAddr 0], [.int y, .int (f am_SC (i + 1)), .ref 177, .long x]) (f1, g1, p1, d, e)) (am_bl 1 (f' := (327, 1028, [.retAddr 1, .ref 0, .ref 177, .ref 191, .int (nI i), .retAddr 0, .retAddr 0], [.int 0, .int (f am_SC (i + 1)), .ref 177, .long x])) rfl) (am_bl 2 (f' := (327, 1028, [.retAddr 1, .ref 0, .ref 177, .ref 191, .int (nI i), .retAddr 0, .retAddr 0], [.int 1, .int (f am_SC (i + 1)), .ref 177, .long x])) rfl))) ?_
  refine Eq.trans (b := am_runs (327, 1031, [.retAddr 1, .ref 0, .ref 177, .ref 191, .int (nI i), .retAddr 0, .retAddr 0], [.long x, .long x]) (f2, g2, p1, d, e)) (ar_cV rfl rfl rfl rfl rfl rfl rfl (t0_k hT rfl) rfl k2) ?_
  refine (am_bl 1 (f' := (327, 1032, [.retAddr 1, .ref 0, .ref 177, .ref 191, .int (nI i), .retAddr 0, .retAddr 0], [.int (lg_cmp x x)])) rfl).trans ?_
  exact (ri_eq rfl).trans (if_pos (lc_self x))
set_option maxRecDepth 20000 in
theorem c_friends {f : Nat → Nat → Int32} {g : Nat → Nat → Int64} {p : Nat → Nat → Option Nat} {d : Nat → Nat × Nat} {e : Nat × Nat} {Ln i : Nat} (hI : Inv f p) (hT : am_T0 p d) (hD : d am_SC = (18, Ln)) (hL : Ln ≤ 3072) (hi : i + 6 ≤ Ln) : StepE f g p d e 1037 i := by
  obtain ⟨x, f1, g1, p1, f2, g2, k1, k2, hI2, hT2, hs1, hs2⟩ := q_friends (g := g) (e := e)  hI hT 
  refine ⟨f2, g2, p1, ?_, hI2, hT2⟩
  refine (am_bl 1 (f' := (327, 1038, [.retAddr 1, .ref 0, .ref 177, .ref 191, .int (nI i), .retAddr 0, .retAddr 0], [.ref 0])) rfl).trans ?_
  refine Eq.trans (b := am_runs (327, 1041, [.retAddr 1, .ref 0, .ref 177, .ref 191, .int (nI i), .retAddr 0, .retAddr 0], [.int x]) (f1, g1, p1, d, e)) (ar_cV rfl rfl rfl rfl rfl rfl rfl (t0_k hT rfl) rfl k1) ?_
  refine (am_bl 1 (f' := (327, 1042, [.retAddr 1, .ref 0, .ref 177, .ref 191, .int (nI i), .retAddr 0, .retAddr 0], [.ref 177, .int x])) rfl).trans ?_
  refine Eq.trans (b := am_runs (327, 1045, [.retAddr 1, .ref 0, .ref 177, .ref 191, .int (nI i), .retAddr 0, .retAddr 0], [.int x, .int x]) (f2, g2, p1, d, e)) (ar_cV rfl rfl rfl rfl rfl rfl rfl (t0_k hT rfl) rfl k2) ?_
  exact (rj_eq rfl).trans (if_pos rfl)
set_option maxRecDepth 20000 in
theorem c_newTen {f : Nat → Nat → Int32} {g : Nat → Nat → Int64} {p : Nat → Nat → Option Nat} {d : Nat → Nat × Nat} {e : Nat × Nat} {Ln i : Nat} (hI : Inv f p) (hT : am_T0 p d) (hD : d am_SC = (18, Ln)) (hL : Ln ≤ 3072) (hi : i + 6 ≤ Ln) : StepE f g p d e 1050 i := by
  obtain ⟨x, f1, g1, p1, f2, g2, k1, k2, hI2, hT2, hs1, hs2⟩ := q_newTen (g := g) (e := e) (x0 := (f am_SC (i + 1))) hI hT 
  refine ⟨f2, g2, p1, ?_, hI2, hT2⟩
  refine (am_bl 5 (f' := (327, 1056, [.retAddr 1, .ref 0, .ref 177, .ref 191, .int (nI i), .retAddr 0, .retAddr 0], [.int (nI i + 1), .retAddr 1, .ref 0])) rfl).trans ?_
  refine Eq.trans (b := am_runs (327, 1057, [.retAddr 1, .ref 0, .ref 177, .ref 191, .int (nI i), .retAddr 0, .retAddr 0], [.int (f am_SC (i + 1)), .ref 0]) (f, g, p, d, e)) (rr_sc rfl hD hL (sx1 i) (by omega) rfl) ?_
  refine Eq.trans (b := am_runs (327, 1060, [.retAddr 1, .ref 0, .ref 177, .ref 191, .int (nI i), .retAddr 0, .retAddr 0], [.int x]) (f1, g1, p1, d, e)) (ar_cV rfl rfl rfl rfl rfl rfl rfl (t0_k hT rfl) rfl k1) ?_
  refine (am_bl 5 (f' := (327, 1066, [.retAddr 1, .ref 0, .ref 177, .ref 191, .int (nI i), .retAddr 0, .retAddr 0], [.int (nI i + 1), .retAddr 1, .ref 177, .int x])) rfl).trans ?_
  refine Eq.trans (b := am_runs (327, 1067, [.retAddr 1, .ref 0, .ref 177, .ref 191, .int (nI i), .retAddr 0, .retAddr 0], [.int (f am_SC (i + 1)), .ref 177, .int x]) (f1, g1, p1, d, e)) (rr_sc rfl hD hL (sx1 i) (by omega) (congrFun hs1 _)) ?_
  refine Eq.trans (b := am_runs (327, 1070, [.retAddr 1, .ref 0, .ref 177, .ref 191, .int (nI i), .retAddr 0, .retAddr 0], [.int x, .int x]) (f2, g2, p1, d, e)) (ar_cV rfl rfl rfl rfl rfl rfl rfl (t0_k hT rfl) rfl k2) ?_
  exact (rj_eq rfl).trans (if_pos rfl)
set_option maxRecDepth 20000 in
theorem c_friendsNow {f : Nat → Nat → Int32} {g : Nat → Nat → Int64} {p : Nat → Nat → Option Nat} {d : Nat → Nat × Nat} {e : Nat × Nat} {Ln i : Nat} (hI : Inv f p) (hT : am_T0 p d) (hD : d am_SC = (18, Ln)) (hL : Ln ≤ 3072) (hi : i + 6 ≤ Ln) : StepE f g p d e 1075 i := by
  obtain ⟨x, f1, g1, p1, f2, g2, k1, k2, hI2, hT2, hs1, hs2⟩ := q_friendsNow (g := g) (e := e)  hI hT 
  refine ⟨f2, g2, p1, ?_, hI2, hT2⟩
  refine (am_bl 1 (f' := (327, 1076, [.retAddr 1, .ref 0, .ref 177, .ref 191, .int (nI i), .retAddr 0, .retAddr 0], [.ref 0])) rfl).trans ?_
  refine Eq.trans (b := am_runs (327, 1079, [.retAddr 1, .ref 0, .ref 177, .ref 191, .int (nI i), .retAddr 0, .retAddr 0], [.int x]) (f1, g1, p1, d, e)) (ar_cV rfl rfl rfl rfl rfl rfl rfl (t0_k hT rfl) rfl k1) ?_
  refine (am_bl 1 (f' := (327, 1080, [.retAddr 1, .ref 0, .ref 177, .ref 191, .int (nI i), .retAddr 0, .retAddr 0], [.ref 177, .int x])) rfl).trans ?_
  refine Eq.trans (b := am_runs (327, 1083, [.retAddr 1, .ref 0, .ref 177, .ref 191, .int (nI i), .retAddr 0, .retAddr 0], [.int x, .int x]) (f2, g2, p1, d, e)) (ar_cV rfl rfl rfl rfl rfl rfl rfl (t0_k hT rfl) rfl k2) ?_
  exact (rj_eq rfl).trans (if_pos rfl)
set_option maxRecDepth 20000 in
theorem c_doubt {f : Nat → Nat → Int32} {g : Nat → Nat → Int64} {p : Nat → Nat → Option Nat} {d : Nat → Nat × Nat} {e : Nat × Nat} {Ln i : Nat} (hI : Inv f p) (hT : am_T0 p d) (hD : d am_SC = (18, Ln)) (hL : Ln ≤ 3072) (hi : i + 6 ≤ Ln) : StepE f g p d e 1088 i := by
  obtain ⟨x, f1, g1, p1, f2, g2, k1, k2, hI2, hT2, hs1, hs2⟩ := q_doubt (g := g) (e := e) (x0 := (bz (f am_SC (i + 1)))) hI hT 
  refine ⟨f2, g2, p1, ?_, hI2, hT2⟩
  refine (am_bl 5 (f' := (327, 1094, [.retAddr 1, .ref 0, .ref 177, .ref 191, .int (nI i), .retAddr 0, .retAddr 0], [.int (nI i + 1), .retAddr 1, .ref 0])) rfl).trans ?_
  refine Eq.trans (b := am_runs (327, 1095, [.retAddr 1, .ref 0, .ref 177, .ref 191, .int (nI i), .retAddr 0, .retAddr 0], [.int (f am_SC (i + 1)), .ref 0]) (f, g, p, d, e)) (rr_sc rfl hD hL (sx1 i) (by omega) rfl) ?_
  refine Eq.trans (b := am_runs (327, 1103, [.retAddr 1, .ref 0, .ref 177, .ref 191, .int (nI i), .retAddr 0, .retAddr 0], [.int (bz (f am_SC (i + 1))), .ref 0]) (f, g, p, d, e)) ((ri_eq rfl).trans (jz (fun y => am_runs (327, 1103, [.retAddr 1, .ref 0, .ref 177, .ref 191, .int (nI i), .retAddr 0, .retAddr 0], [.int y, .ref 0]) (f, g, p, d, e)) (am_bl 1 (f' := (327, 1103, [.retAddr 1, .ref 0, .ref 177, .ref 191, .int (nI i), .retAddr 0, .retAddr 0], [.int 0, .ref 0])) rfl) (am_bl 2 (f' := (327, 1103, [.retAddr 1, .ref 0, .ref 177, .ref 191, .int (nI i), .retAddr 0, .retAddr 0], [.int 1, .ref 0])) rfl))) ?_
  refine Eq.trans (b := am_runs (327, 1106, [.retAddr 1, .ref 0, .ref 177, .ref 191, .int (nI i), .retAddr 0, .retAddr 0], [.long x]) (f1, g1, p1, d, e)) (ar_cV rfl rfl rfl rfl rfl rfl rfl (t0_k hT rfl) rfl k1) ?_
  refine (am_bl 5 (f' := (327, 1112, [.retAddr 1, .ref 0, .ref 177, .ref 191, .int (nI i), .retAddr 0, .retAddr 0], [.int (nI i + 1), .retAddr 1, .ref 177, .long x])) rfl).trans ?_
  refine Eq.trans (b := am_runs (327, 1113, [.retAddr 1, .ref 0, .ref 177, .ref 191, .int (nI i), .retAddr 0, .retAddr 0], [.int (f am_SC (i + 1)), .ref 177, .long x]) (f1, g1, p1, d, e)) (rr_sc rfl hD hL (sx1 i) (by omega) (congrFun hs1 _)) ?_
  refine Eq.trans (b := am_runs (327, 1121, [.retAddr 1, .ref 0, .ref 177, .ref 191, .int (nI i), .retAddr 0, .retAddr 0], [.int (bz (f am_SC (i + 1))), .ref 177, .long x]) (f1, g1, p1, d, e)) ((ri_eq rfl).trans (jz (fun y => am_runs (327, 1121, [.retAddr 1, .ref 0, .ref 177, .ref 191, .int (nI i), .retAddr 0, .retAddr 0], [.int y, .ref 177, .long x]) (f1, g1, p1, d, e)) (am_bl 1 (f' := (327, 1121, [.retAddr 1, .ref 0, .ref 177, .ref 191, .int (nI i), .retAddr 0, .retAddr 0], [.int 0, .ref 177, .long x])) rfl) (am_bl 2 (f' := (327, 1121, [.retAddr 1, .ref 0, .ref 177, .ref 191, .int (nI i), .retAddr 0, .retAddr 0], [.int 1, .ref 177, .long x])) rfl))) ?_
  refine Eq.trans (b := am_runs (327, 1124, [.retAddr 1, .ref 0, .ref 177, .ref 191, .int (nI i), .retAddr 0, .retAddr 0], [.long x, .long x]) (f2, g2, p1, d, e)) (ar_cV rfl rfl rfl rfl rfl rfl rfl (t0_k hT rfl) rfl k2) ?_
  refine (am_bl 1 (f' := (327, 1125, [.retAddr 1, .ref 0, .ref 177, .ref 191, .int (nI i), .retAddr 0, .retAddr 0], [.int (lg_cmp x x)])) rfl).trans ?_
  exact (ri_eq rfl).trans (if_pos (lc_self x))
set_option maxRecDepth 20000 in
theorem c_next {f : Nat → Nat → Int32} {g : Nat → Nat → Int64} {p : Nat → Nat → Option Nat} {d : Nat → Nat × Nat} {e : Nat × Nat} {Ln i : Nat} (hI : Inv f p) (hT : am_T0 p d) (hD : d am_SC = (18, Ln)) (hL : Ln ≤ 3072) (hi : i + 6 ≤ Ln) : StepE f g p d e 1130 i := by
  obtain ⟨x, f1, g1, p1, f2, g2, k1, k2, hI2, hT2, hs1, hs2⟩ := q_next (g := g) (e := e) (x0 := (f am_SC (i + 1))) (x1 := (bz (f am_SC (i + 2)))) hI hT 
  refine ⟨f2, g2, p1, ?_, hI2, hT2⟩
  refine (am_bl 5 (f' := (327, 1136, [.retAddr 1, .ref 0, .ref 177, .ref 191, .int (nI i), .retAddr 0, .retAddr 0], [.int (nI i + 1), .retAddr 1, .ref 0])) rfl).trans ?_
  refine Eq.trans (b := am_runs (327, 1137, [.retAddr 1, .ref 0, .ref 177, .ref 191, .int (nI i), .retAddr 0, .retAddr 0], [.int (f am_SC (i + 1)), .ref 0]) (f, g, p, d, e)) (rr_sc rfl hD hL (sx1 i) (by omega) rfl) ?_
  refine (am_bl 4 (f' := (327, 1142, [.retAddr 1, .ref 0, .ref 177, .ref 191, .int (nI i), .retAddr 0, .retAddr 0], [.int (nI i + 2), .retAddr 1, .int (f am_SC (i + 1)), .ref 0])) rfl).trans ?_
  refine Eq.trans (b := am_runs (327, 1143, [.retAddr 1, .ref 0, .ref 177, .ref 191, .int (nI i), .retAddr 0, .retAddr 0], [.int (f am_SC (i + 2)), .int (f am_SC (i + 1)), .ref 0]) (f, g, p, d, e)) (rr_sc rfl hD hL (sx2 i) (by omega) rfl) ?_
  refine Eq.trans (b := am_runs (327, 1151, [.retAddr 1, .ref 0, .ref 177, .ref 191, .int (nI i), .retAddr 0, .retAddr 0], [.int (bz (f am_SC (i + 2))), .int (f am_SC (i + 1)), .ref 0]) (f, g, p, d, e)) ((ri_eq rfl).trans (jz (fun y => am_runs (327, 1151, [.retAddr 1, .ref 0, .ref 177, .ref 191, .int (nI i), .retAddr 0, .retAddr 0], [.int y, .int (f am_SC (i + 1)), .ref 0]) (f, g, p, d, e)) (am_bl 1 (f' := (327, 1151, [.retAddr 1, .ref 0, .ref 177, .ref 191, .int (nI i), .retAddr 0, .retAddr 0], [.int 0, .int (f am_SC (i + 1)), .ref 0])) rfl) (am_bl 2 (f' := (327, 1151, [.retAddr 1, .ref 0, .ref 177, .ref 191, .int (nI i), .retAddr 0, .retAddr 0], [.int 1, .int (f am_SC (i + 1)), .ref 0])) rfl))) ?_
  refine Eq.trans (b := am_runs (327, 1154, [.retAddr 1, .ref 0, .ref 177, .ref 191, .int (nI i), .retAddr 0, .retAddr 0], [.long x]) (f1, g1, p1, d, e)) (ar_cV rfl rfl rfl rfl rfl rfl rfl (t0_k hT rfl) rfl k1) ?_
  refine (am_bl 5 (f' := (327, 1160, [.retAddr 1, .ref 0, .ref 177, .ref 191, .int (nI i), .retAddr 0, .retAddr 0], [.int (nI i + 1), .retAddr 1, .ref 177, .long x])) rfl).trans ?_
  refine Eq.trans (b := am_runs (327, 1161, [.retAddr 1, .ref 0, .ref 177, .ref 191, .int (nI i), .retAddr 0, .retAddr 0], [.int (f am_SC (i + 1)), .ref 177, .long x]) (f1, g1, p1, d, e)) (rr_sc rfl hD hL (sx1 i) (by omega) (congrFun hs1 _)) ?_
  refine (am_bl 4 (f' := (327, 1166, [.retAddr 1, .ref 0, .ref 177, .ref 191, .int (nI i), .retAddr 0, .retAddr 0], [.int (nI i + 2), .retAddr 1, .int (f am_SC (i + 1)), .ref 177, .long x])) rfl).trans ?_
  refine Eq.trans (b := am_runs (327, 1167, [.retAddr 1, .ref 0, .ref 177, .ref 191, .int (nI i), .retAddr 0, .retAddr 0], [.int (f am_SC (i + 2)), .int (f am_SC (i + 1)), .ref 177, .long x]) (f1, g1, p1, d, e)) (rr_sc rfl hD hL (sx2 i) (by omega) (congrFun hs1 _)) ?_
  refine Eq.trans (b := am_runs (327, 1175, [.retAddr 1, .ref 0, .ref 177, .ref 191, .int (nI i), .retAddr 0, .retAddr 0], [.int (bz (f am_SC (i + 2))), .int (f am_SC (i + 1)), .ref 177, .long x]) (f1, g1, p1, d, e)) ((ri_eq rfl).trans (jz (fun y => am_runs (327, 1175, [.retAddr 1, .ref 0, .ref 177, .ref 191, .int (nI i), .retAddr 0, .retAddr 0], [.int y, .int (f am_SC (i + 1)), .ref 177, .long x]) (f1, g1, p1, d, e)) (am_bl 1 (f' := (327, 1175, [.retAddr 1, .ref 0, .ref 177, .ref 191, .int (nI i), .retAddr 0, .retAddr 0], [.int 0, .int (f am_SC (i + 1)), .ref 177, .long x])) rfl) (am_bl 2 (f' := (327, 1175, [.retAddr 1, .ref 0, .ref 177, .ref 191, .int (nI i), .retAddr 0, .retAddr 0], [.int 1, .int (f am_SC (i + 1)), .ref 177, .long x])) rfl))) ?_
  refine Eq.trans (b := am_runs (327, 1178, [.retAddr 1, .ref 0, .ref 177, .ref 191, .int (nI i), .retAddr 0, .retAddr 0], [.long x, .long x]) (f2, g2, p1, d, e)) (ar_cV rfl rfl rfl rfl rfl rfl rfl (t0_k hT rfl) rfl k2) ?_
  refine (am_bl 1 (f' := (327, 1179, [.retAddr 1, .ref 0, .ref 177, .ref 191, .int (nI i), .retAddr 0, .retAddr 0], [.int (lg_cmp x x)])) rfl).trans ?_
  exact (ri_eq rfl).trans (if_pos (lc_self x))
set_option maxRecDepth 20000 in
theorem c_doubtIf {f : Nat → Nat → Int32} {g : Nat → Nat → Int64} {p : Nat → Nat → Option Nat} {d : Nat → Nat × Nat} {e : Nat × Nat} {Ln i : Nat} (hI : Inv f p) (hT : am_T0 p d) (hD : d am_SC = (18, Ln)) (hL : Ln ≤ 3072) (hi : i + 6 ≤ Ln) : StepE f g p d e 1184 i := by
  obtain ⟨x, f1, g1, p1, f2, g2, k1, k2, hI2, hT2, hs1, hs2⟩ := q_doubtIf (g := g) (e := e) (x0 := (f am_SC (i + 1))) (x1 := (bz (f am_SC (i + 2)))) (x2 := (bz (f am_SC (i + 3)))) hI hT (bz_b _)
  refine ⟨f2, g2, p1, ?_, hI2, hT2⟩
  refine (am_bl 5 (f' := (327, 1190, [.retAddr 1, .ref 0, .ref 177, .ref 191, .int (nI i), .retAddr 0, .retAddr 0], [.int (nI i + 1), .retAddr 1, .ref 0])) rfl).trans ?_
  refine Eq.trans (b := am_runs (327, 1191, [.retAddr 1, .ref 0, .ref 177, .ref 191, .int (nI i), .retAddr 0, .retAddr 0], [.int (f am_SC (i + 1)), .ref 0]) (f, g, p, d, e)) (rr_sc rfl hD hL (sx1 i) (by omega) rfl) ?_
  refine (am_bl 4 (f' := (327, 1196, [.retAddr 1, .ref 0, .ref 177, .ref 191, .int (nI i), .retAddr 0, .retAddr 0], [.int (nI i + 2), .retAddr 1, .int (f am_SC (i + 1)), .ref 0])) rfl).trans ?_
  refine Eq.trans (b := am_runs (327, 1197, [.retAddr 1, .ref 0, .ref 177, .ref 191, .int (nI i), .retAddr 0, .retAddr 0], [.int (f am_SC (i + 2)), .int (f am_SC (i + 1)), .ref 0]) (f, g, p, d, e)) (rr_sc rfl hD hL (sx2 i) (by omega) rfl) ?_
  refine Eq.trans (b := am_runs (327, 1205, [.retAddr 1, .ref 0, .ref 177, .ref 191, .int (nI i), .retAddr 0, .retAddr 0], [.int (bz (f am_SC (i + 2))), .int (f am_SC (i + 1)), .ref 0]) (f, g, p, d, e)) ((ri_eq rfl).trans (jz (fun y => am_runs (327, 1205, [.retAddr 1, .ref 0, .ref 177, .ref 191, .int (nI i), .retAddr 0, .retAddr 0], [.int y, .int (f am_SC (i + 1)), .ref 0]) (f, g, p, d, e)) (am_bl 1 (f' := (327, 1205, [.retAddr 1, .ref 0, .ref 177, .ref 191, .int (nI i), .retAddr 0, .retAddr 0], [.int 0, .int (f am_SC (i + 1)), .ref 0])) rfl) (am_bl 2 (f' := (327, 1205, [.retAddr 1, .ref 0, .ref 177, .ref 191, .int (nI i), .retAddr 0, .retAddr 0], [.int 1, .int (f am_SC (i + 1)), .ref 0])) rfl))) ?_
  refine (am_bl 4 (f' := (327, 1210, [.retAddr 1, .ref 0, .ref 177, .ref 191, .int (nI i), .retAddr 0, .retAddr 0], [.int (nI i + 3), .retAddr 1, .int (bz (f am_SC (i + 2))), .int (f am_SC (i + 1)), .ref 0])) rfl).trans ?_
  refine Eq.trans (b := am_runs (327, 1211, [.retAddr 1, .ref 0, .ref 177, .ref 191, .int (nI i), .retAddr 0, .retAddr 0], [.int (f am_SC (i + 3)), .int (bz (f am_SC (i + 2))), .int (f am_SC (i + 1)), .ref 0]) (f, g, p, d, e)) (rr_sc rfl hD hL (sx3 i) (by omega) rfl) ?_
  refine Eq.trans (b := am_runs (327, 1219, [.retAddr 1, .ref 0, .ref 177, .ref 191, .int (nI i), .retAddr 0, .retAddr 0], [.int (bz (f am_SC (i + 3))), .int (bz (f am_SC (i + 2))), .int (f am_SC (i + 1)), .ref 0]) (f, g, p, d, e)) ((ri_eq rfl).trans (jz (fun y => am_runs (327, 1219, [.retAddr 1, .ref 0, .ref 177, .ref 191, .int (nI i), .retAddr 0, .retAddr 0], [.int y, .int (bz (f am_SC (i + 2))), .int (f am_SC (i + 1)), .ref 0]) (f, g, p, d, e)) (am_bl 1 (f' := (327, 1219, [.retAddr 1, .ref 0, .ref 177, .ref 191, .int (nI i), .retAddr 0, .retAddr 0], [.int 0, .int (bz (f am_SC (i + 2))), .int (f am_SC (i + 1)), .ref 0])) rfl) (am_bl 2 (f' := (327, 1219, [.retAddr 1, .ref 0, .ref 177, .ref 191, .int (nI i), .retAddr 0, .retAddr 0], [.int 1, .int (bz (f am_SC (i + 2))), .int (f am_SC (i + 1)), .ref 0])) rfl))) ?_
  refine Eq.trans (b := am_runs (327, 1222, [.retAddr 1, .ref 0, .ref 177, .ref 191, .int (nI i), .retAddr 0, .retAddr 0], [.long x]) (f1, g1, p1, d, e)) (ar_cV rfl rfl rfl rfl rfl rfl rfl (t0_k hT rfl) rfl k1) ?_
  refine (am_bl 5 (f' := (327, 1228, [.retAddr 1, .ref 0, .ref 177, .ref 191, .int (nI i), .retAddr 0, .retAddr 0], [.int (nI i + 1), .retAddr 1, .ref 177, .long x])) rfl).trans ?_
  refine Eq.trans (b := am_runs (327, 1229, [.retAddr 1, .ref 0, .ref 177, .ref 191, .int (nI i), .retAddr 0, .retAddr 0], [.int (f am_SC (i + 1)), .ref 177, .long x]) (f1, g1, p1, d, e)) (rr_sc rfl hD hL (sx1 i) (by omega) (congrFun hs1 _)) ?_
  refine (am_bl 4 (f' := (327, 1234, [.retAddr 1, .ref 0, .ref 177, .ref 191, .int (nI i), .retAddr 0, .retAddr 0], [.int (nI i + 2), .retAddr 1, .int (f am_SC (i + 1)), .ref 177, .long x])) rfl).trans ?_
  refine Eq.trans (b := am_runs (327, 1235, [.retAddr 1, .ref 0, .ref 177, .ref 191, .int (nI i), .retAddr 0, .retAddr 0], [.int (f am_SC (i + 2)), .int (f am_SC (i + 1)), .ref 177, .long x]) (f1, g1, p1, d, e)) (rr_sc rfl hD hL (sx2 i) (by omega) (congrFun hs1 _)) ?_
  refine Eq.trans (b := am_runs (327, 1243, [.retAddr 1, .ref 0, .ref 177, .ref 191, .int (nI i), .retAddr 0, .retAddr 0], [.int (bz (f am_SC (i + 2))), .int (f am_SC (i + 1)), .ref 177, .long x]) (f1, g1, p1, d, e)) ((ri_eq rfl).trans (jz (fun y => am_runs (327, 1243, [.retAddr 1, .ref 0, .ref 177, .ref 191, .int (nI i), .retAddr 0, .retAddr 0], [.int y, .int (f am_SC (i + 1)), .ref 177, .long x]) (f1, g1, p1, d, e)) (am_bl 1 (f' := (327, 1243, [.retAddr 1, .ref 0, .ref 177, .ref 191, .int (nI i), .retAddr 0, .retAddr 0], [.int 0, .int (f am_SC (i + 1)), .ref 177, .long x])) rfl) (am_bl 2 (f' := (327, 1243, [.retAddr 1, .ref 0, .ref 177, .ref 191, .int (nI i), .retAddr 0, .retAddr 0], [.int 1, .int (f am_SC (i + 1)), .ref 177, .long x])) rfl))) ?_
  refine (am_bl 4 (f' := (327, 1248, [.retAddr 1, .ref 0, .ref 177, .ref 191, .int (nI i), .retAddr 0, .retAddr 0], [.int (nI i + 3), .retAddr 1, .int (bz (f am_SC (i + 2))), .int (f am_SC (i + 1)), .ref 177, .long x])) rfl).trans ?_
  refine Eq.trans (b := am_runs (327, 1249, [.retAddr 1, .ref 0, .ref 177, .ref 191, .int (nI i), .retAddr 0, .retAddr 0], [.int (f am_SC (i + 3)), .int (bz (f am_SC (i + 2))), .int (f am_SC (i + 1)), .ref 177, .long x]) (f1, g1, p1, d, e)) (rr_sc rfl hD hL (sx3 i) (by omega) (congrFun hs1 _)) ?_
  refine Eq.trans (b := am_runs (327, 1257, [.retAddr 1, .ref 0, .ref 177, .ref 191, .int (nI i), .retAddr 0, .retAddr 0], [.int (bz (f am_SC (i + 3))), .int (bz (f am_SC (i + 2))), .int (f am_SC (i + 1)), .ref 177, .long x]) (f1, g1, p1, d, e)) ((ri_eq rfl).trans (jz (fun y => am_runs (327, 1257, [.retAddr 1, .ref 0, .ref 177, .ref 191, .int (nI i), .retAddr 0, .retAddr 0], [.int y, .int (bz (f am_SC (i + 2))), .int (f am_SC (i + 1)), .ref 177, .long x]) (f1, g1, p1, d, e)) (am_bl 1 (f' := (327, 1257, [.retAddr 1, .ref 0, .ref 177, .ref 191, .int (nI i), .retAddr 0, .retAddr 0], [.int 0, .int (bz (f am_SC (i + 2))), .int (f am_SC (i + 1)), .ref 177, .long x])) rfl) (am_bl 2 (f' := (327, 1257, [.retAddr 1, .ref 0, .ref 177, .ref 191, .int (nI i), .retAddr 0, .retAddr 0], [.int 1, .int (bz (f am_SC (i + 2))), .int (f am_SC (i + 1)), .ref 177, .long x])) rfl))) ?_
  refine Eq.trans (b := am_runs (327, 1260, [.retAddr 1, .ref 0, .ref 177, .ref 191, .int (nI i), .retAddr 0, .retAddr 0], [.long x, .long x]) (f2, g2, p1, d, e)) (ar_cV rfl rfl rfl rfl rfl rfl rfl (t0_k hT rfl) rfl k2) ?_
  refine (am_bl 1 (f' := (327, 1261, [.retAddr 1, .ref 0, .ref 177, .ref 191, .int (nI i), .retAddr 0, .retAddr 0], [.int (lg_cmp x x)])) rfl).trans ?_
  exact (ri_eq rfl).trans (if_pos (lc_self x))
set_option maxRecDepth 20000 in
theorem c_honest {f : Nat → Nat → Int32} {g : Nat → Nat → Int64} {p : Nat → Nat → Option Nat} {d : Nat → Nat × Nat} {e : Nat × Nat} {Ln i : Nat} (hI : Inv f p) (hT : am_T0 p d) (hD : d am_SC = (18, Ln)) (hL : Ln ≤ 3072) (hi : i + 6 ≤ Ln) : StepE f g p d e 1266 i := by
  obtain ⟨x, f1, g1, p1, f2, g2, k1, k2, hI2, hT2, hs1, hs2⟩ := q_honest (g := g) (e := e) (x0 := (bz (f am_SC (i + 1)))) hI hT 
  refine ⟨f2, g2, p1, ?_, hI2, hT2⟩
  refine (am_bl 5 (f' := (327, 1272, [.retAddr 1, .ref 0, .ref 177, .ref 191, .int (nI i), .retAddr 0, .retAddr 0], [.int (nI i + 1), .retAddr 1, .ref 0])) rfl).trans ?_
  refine Eq.trans (b := am_runs (327, 1273, [.retAddr 1, .ref 0, .ref 177, .ref 191, .int (nI i), .retAddr 0, .retAddr 0], [.int (f am_SC (i + 1)), .ref 0]) (f, g, p, d, e)) (rr_sc rfl hD hL (sx1 i) (by omega) rfl) ?_
  refine Eq.trans (b := am_runs (327, 1281, [.retAddr 1, .ref 0, .ref 177, .ref 191, .int (nI i), .retAddr 0, .retAddr 0], [.int (bz (f am_SC (i + 1))), .ref 0]) (f, g, p, d, e)) ((ri_eq rfl).trans (jz (fun y => am_runs (327, 1281, [.retAddr 1, .ref 0, .ref 177, .ref 191, .int (nI i), .retAddr 0, .retAddr 0], [.int y, .ref 0]) (f, g, p, d, e)) (am_bl 1 (f' := (327, 1281, [.retAddr 1, .ref 0, .ref 177, .ref 191, .int (nI i), .retAddr 0, .retAddr 0], [.int 0, .ref 0])) rfl) (am_bl 2 (f' := (327, 1281, [.retAddr 1, .ref 0, .ref 177, .ref 191, .int (nI i), .retAddr 0, .retAddr 0], [.int 1, .ref 0])) rfl))) ?_
  refine Eq.trans (b := am_runs (327, 1284, [.retAddr 1, .ref 0, .ref 177, .ref 191, .int (nI i), .retAddr 0, .retAddr 0], [.long x]) (f1, g1, p1, d, e)) (ar_cV rfl rfl rfl rfl rfl rfl rfl (t0_k hT rfl) rfl k1) ?_
  refine (am_bl 5 (f' := (327, 1290, [.retAddr 1, .ref 0, .ref 177, .ref 191, .int (nI i), .retAddr 0, .retAddr 0], [.int (nI i + 1), .retAddr 1, .ref 177, .long x])) rfl).trans ?_
  refine Eq.trans (b := am_runs (327, 1291, [.retAddr 1, .ref 0, .ref 177, .ref 191, .int (nI i), .retAddr 0, .retAddr 0], [.int (f am_SC (i + 1)), .ref 177, .long x]) (f1, g1, p1, d, e)) (rr_sc rfl hD hL (sx1 i) (by omega) (congrFun hs1 _)) ?_
  refine Eq.trans (b := am_runs (327, 1299, [.retAddr 1, .ref 0, .ref 177, .ref 191, .int (nI i), .retAddr 0, .retAddr 0], [.int (bz (f am_SC (i + 1))), .ref 177, .long x]) (f1, g1, p1, d, e)) ((ri_eq rfl).trans (jz (fun y => am_runs (327, 1299, [.retAddr 1, .ref 0, .ref 177, .ref 191, .int (nI i), .retAddr 0, .retAddr 0], [.int y, .ref 177, .long x]) (f1, g1, p1, d, e)) (am_bl 1 (f' := (327, 1299, [.retAddr 1, .ref 0, .ref 177, .ref 191, .int (nI i), .retAddr 0, .retAddr 0], [.int 0, .ref 177, .long x])) rfl) (am_bl 2 (f' := (327, 1299, [.retAddr 1, .ref 0, .ref 177, .ref 191, .int (nI i), .retAddr 0, .retAddr 0], [.int 1, .ref 177, .long x])) rfl))) ?_
  refine Eq.trans (b := am_runs (327, 1302, [.retAddr 1, .ref 0, .ref 177, .ref 191, .int (nI i), .retAddr 0, .retAddr 0], [.long x, .long x]) (f2, g2, p1, d, e)) (ar_cV rfl rfl rfl rfl rfl rfl rfl (t0_k hT rfl) rfl k2) ?_
  refine (am_bl 1 (f' := (327, 1303, [.retAddr 1, .ref 0, .ref 177, .ref 191, .int (nI i), .retAddr 0, .retAddr 0], [.int (lg_cmp x x)])) rfl).trans ?_
  exact (ri_eq rfl).trans (if_pos (lc_self x))
set_option maxRecDepth 20000 in
theorem c_gone {f : Nat → Nat → Int32} {g : Nat → Nat → Int64} {p : Nat → Nat → Option Nat} {d : Nat → Nat × Nat} {e : Nat × Nat} {Ln i : Nat} (hI : Inv f p) (hT : am_T0 p d) (hD : d am_SC = (18, Ln)) (hL : Ln ≤ 3072) (hi : i + 6 ≤ Ln) : StepE f g p d e 1308 i := by
  obtain ⟨x, f1, g1, p1, f2, g2, k1, k2, hI2, hT2, hs1, hs2⟩ := q_gone (g := g) (e := e)  hI hT 
  refine ⟨f2, g2, p1, ?_, hI2, hT2⟩
  refine (am_bl 1 (f' := (327, 1309, [.retAddr 1, .ref 0, .ref 177, .ref 191, .int (nI i), .retAddr 0, .retAddr 0], [.ref 0])) rfl).trans ?_
  refine Eq.trans (b := am_runs (327, 1312, [.retAddr 1, .ref 0, .ref 177, .ref 191, .int (nI i), .retAddr 0, .retAddr 0], [.int x]) (f1, g1, p1, d, e)) (ar_cV rfl rfl rfl rfl rfl rfl rfl (t0_k hT rfl) rfl k1) ?_
  refine (am_bl 1 (f' := (327, 1313, [.retAddr 1, .ref 0, .ref 177, .ref 191, .int (nI i), .retAddr 0, .retAddr 0], [.ref 177, .int x])) rfl).trans ?_
  refine Eq.trans (b := am_runs (327, 1316, [.retAddr 1, .ref 0, .ref 177, .ref 191, .int (nI i), .retAddr 0, .retAddr 0], [.int x, .int x]) (f2, g2, p1, d, e)) (ar_cV rfl rfl rfl rfl rfl rfl rfl (t0_k hT rfl) rfl k2) ?_
  exact (rj_eq rfl).trans (if_pos rfl)
set_option maxRecDepth 20000 in
theorem c_goneAt {f : Nat → Nat → Int32} {g : Nat → Nat → Int64} {p : Nat → Nat → Option Nat} {d : Nat → Nat × Nat} {e : Nat × Nat} {Ln i : Nat} (hI : Inv f p) (hT : am_T0 p d) (hD : d am_SC = (18, Ln)) (hL : Ln ≤ 3072) (hi : i + 6 ≤ Ln) : StepE f g p d e 1321 i := by
  obtain ⟨x, f1, g1, p1, f2, g2, k1, k2, hI2, hT2, hs1, hs2⟩ := q_goneAt (g := g) (e := e) (x0 := (f am_SC (i + 1))) hI hT 
  refine ⟨f2, g2, p1, ?_, hI2, hT2⟩
  refine (am_bl 5 (f' := (327, 1327, [.retAddr 1, .ref 0, .ref 177, .ref 191, .int (nI i), .retAddr 0, .retAddr 0], [.int (nI i + 1), .retAddr 1, .ref 0])) rfl).trans ?_
  refine Eq.trans (b := am_runs (327, 1328, [.retAddr 1, .ref 0, .ref 177, .ref 191, .int (nI i), .retAddr 0, .retAddr 0], [.int (f am_SC (i + 1)), .ref 0]) (f, g, p, d, e)) (rr_sc rfl hD hL (sx1 i) (by omega) rfl) ?_
  refine Eq.trans (b := am_runs (327, 1331, [.retAddr 1, .ref 0, .ref 177, .ref 191, .int (nI i), .retAddr 0, .retAddr 0], [.int x]) (f1, g1, p1, d, e)) (ar_cV rfl rfl rfl rfl rfl rfl rfl (t0_k hT rfl) rfl k1) ?_
  refine (am_bl 5 (f' := (327, 1337, [.retAddr 1, .ref 0, .ref 177, .ref 191, .int (nI i), .retAddr 0, .retAddr 0], [.int (nI i + 1), .retAddr 1, .ref 177, .int x])) rfl).trans ?_
  refine Eq.trans (b := am_runs (327, 1338, [.retAddr 1, .ref 0, .ref 177, .ref 191, .int (nI i), .retAddr 0, .retAddr 0], [.int (f am_SC (i + 1)), .ref 177, .int x]) (f1, g1, p1, d, e)) (rr_sc rfl hD hL (sx1 i) (by omega) (congrFun hs1 _)) ?_
  refine Eq.trans (b := am_runs (327, 1341, [.retAddr 1, .ref 0, .ref 177, .ref 191, .int (nI i), .retAddr 0, .retAddr 0], [.int x, .int x]) (f2, g2, p1, d, e)) (ar_cV rfl rfl rfl rfl rfl rfl rfl (t0_k hT rfl) rfl k2) ?_
  exact (rj_eq rfl).trans (if_pos rfl)
set_option maxRecDepth 20000 in
theorem c_goneOf {f : Nat → Nat → Int32} {g : Nat → Nat → Int64} {p : Nat → Nat → Option Nat} {d : Nat → Nat × Nat} {e : Nat × Nat} {Ln i : Nat} (hI : Inv f p) (hT : am_T0 p d) (hD : d am_SC = (18, Ln)) (hL : Ln ≤ 3072) (hi : i + 6 ≤ Ln) : StepE f g p d e 1346 i := by
  obtain ⟨x, f1, g1, p1, f2, g2, k1, k2, hI2, hT2, hs1, hs2⟩ := q_goneOf (g := g) (e := e) (x0 := (f am_SC (i + 1))) hI hT 
  refine ⟨f2, g2, p1, ?_, hI2, hT2⟩
  refine (am_bl 5 (f' := (327, 1352, [.retAddr 1, .ref 0, .ref 177, .ref 191, .int (nI i), .retAddr 0, .retAddr 0], [.int (nI i + 1), .retAddr 1, .ref 0])) rfl).trans ?_
  refine Eq.trans (b := am_runs (327, 1353, [.retAddr 1, .ref 0, .ref 177, .ref 191, .int (nI i), .retAddr 0, .retAddr 0], [.int (f am_SC (i + 1)), .ref 0]) (f, g, p, d, e)) (rr_sc rfl hD hL (sx1 i) (by omega) rfl) ?_
  refine Eq.trans (b := am_runs (327, 1356, [.retAddr 1, .ref 0, .ref 177, .ref 191, .int (nI i), .retAddr 0, .retAddr 0], [.int x]) (f1, g1, p1, d, e)) (ar_cV rfl rfl rfl rfl rfl rfl rfl (t0_k hT rfl) rfl k1) ?_
  refine (am_bl 5 (f' := (327, 1362, [.retAddr 1, .ref 0, .ref 177, .ref 191, .int (nI i), .retAddr 0, .retAddr 0], [.int (nI i + 1), .retAddr 1, .ref 177, .int x])) rfl).trans ?_
  refine Eq.trans (b := am_runs (327, 1363, [.retAddr 1, .ref 0, .ref 177, .ref 191, .int (nI i), .retAddr 0, .retAddr 0], [.int (f am_SC (i + 1)), .ref 177, .int x]) (f1, g1, p1, d, e)) (rr_sc rfl hD hL (sx1 i) (by omega) (congrFun hs1 _)) ?_
  refine Eq.trans (b := am_runs (327, 1366, [.retAddr 1, .ref 0, .ref 177, .ref 191, .int (nI i), .retAddr 0, .retAddr 0], [.int x, .int x]) (f2, g2, p1, d, e)) (ar_cV rfl rfl rfl rfl rfl rfl rfl (t0_k hT rfl) rfl k2) ?_
  exact (rj_eq rfl).trans (if_pos rfl)
set_option maxRecDepth 20000 in
theorem c_surelyGone {f : Nat → Nat → Int32} {g : Nat → Nat → Int64} {p : Nat → Nat → Option Nat} {d : Nat → Nat × Nat} {e : Nat × Nat} {Ln i : Nat} (hI : Inv f p) (hT : am_T0 p d) (hD : d am_SC = (18, Ln)) (hL : Ln ≤ 3072) (hi : i + 6 ≤ Ln) : StepE f g p d e 1371 i := by
  obtain ⟨x, f1, g1, p1, f2, g2, k1, k2, hI2, hT2, hs1, hs2⟩ := q_surelyGone (g := g) (e := e)  hI hT 
  refine ⟨f2, g2, p1, ?_, hI2, hT2⟩
  refine (am_bl 1 (f' := (327, 1372, [.retAddr 1, .ref 0, .ref 177, .ref 191, .int (nI i), .retAddr 0, .retAddr 0], [.ref 0])) rfl).trans ?_
  refine Eq.trans (b := am_runs (327, 1375, [.retAddr 1, .ref 0, .ref 177, .ref 191, .int (nI i), .retAddr 0, .retAddr 0], [.int x]) (f1, g1, p1, d, e)) (ar_cV rfl rfl rfl rfl rfl rfl rfl (t0_k hT rfl) rfl k1) ?_
  refine (am_bl 1 (f' := (327, 1376, [.retAddr 1, .ref 0, .ref 177, .ref 191, .int (nI i), .retAddr 0, .retAddr 0], [.ref 177, .int x])) rfl).trans ?_
  refine Eq.trans (b := am_runs (327, 1379, [.retAddr 1, .ref 0, .ref 177, .ref 191, .int (nI i), .retAddr 0, .retAddr 0], [.int x, .int x]) (f2, g2, p1, d, e)) (ar_cV rfl rfl rfl rfl rfl rfl rfl (t0_k hT rfl) rfl k2) ?_
  exact (rj_eq rfl).trans (if_pos rfl)
set_option maxRecDepth 20000 in
theorem c_ask {f : Nat → Nat → Int32} {g : Nat → Nat → Int64} {p : Nat → Nat → Option Nat} {d : Nat → Nat × Nat} {e : Nat × Nat} {Ln i : Nat} (hI : Inv f p) (hT : am_T0 p d) (hD : d am_SC = (18, Ln)) (hL : Ln ≤ 3072) (hi : i + 6 ≤ Ln) : StepE f g p d e 1384 i := by
  obtain ⟨x, f1, g1, p1, f2, g2, k1, k2, hI2, hT2, hs1, hs2⟩ := q_ask (g := g) (e := e)  hI hT 
  refine ⟨f2, g2, p1, ?_, hI2, hT2⟩
  refine (am_bl 1 (f' := (327, 1385, [.retAddr 1, .ref 0, .ref 177, .ref 191, .int (nI i), .retAddr 0, .retAddr 0], [.ref 0])) rfl).trans ?_
  refine Eq.trans (b := am_runs (327, 1388, [.retAddr 1, .ref 0, .ref 177, .ref 191, .int (nI i), .retAddr 0, .retAddr 0], [.int x]) (f1, g1, p1, d, e)) (ar_cV rfl rfl rfl rfl rfl rfl rfl (t0_k hT rfl) rfl k1) ?_
  refine (am_bl 1 (f' := (327, 1389, [.retAddr 1, .ref 0, .ref 177, .ref 191, .int (nI i), .retAddr 0, .retAddr 0], [.ref 177, .int x])) rfl).trans ?_
  refine Eq.trans (b := am_runs (327, 1392, [.retAddr 1, .ref 0, .ref 177, .ref 191, .int (nI i), .retAddr 0, .retAddr 0], [.int x, .int x]) (f2, g2, p1, d, e)) (ar_cV rfl rfl rfl rfl rfl rfl rfl (t0_k hT rfl) rfl k2) ?_
  exact (rj_eq rfl).trans (if_pos rfl)
set_option maxRecDepth 20000 in
theorem c_askLeaves {f : Nat → Nat → Int32} {g : Nat → Nat → Int64} {p : Nat → Nat → Option Nat} {d : Nat → Nat × Nat} {e : Nat × Nat} {Ln i : Nat} (hI : Inv f p) (hT : am_T0 p d) (hD : d am_SC = (18, Ln)) (hL : Ln ≤ 3072) (hi : i + 6 ≤ Ln) : StepE f g p d e 1397 i := by
  obtain ⟨x, f1, g1, p1, f2, g2, k1, k2, hI2, hT2, hs1, hs2⟩ := q_askLeaves (g := g) (e := e)  hI hT 
  refine ⟨f2, g2, p1, ?_, hI2, hT2⟩
  refine (am_bl 1 (f' := (327, 1398, [.retAddr 1, .ref 0, .ref 177, .ref 191, .int (nI i), .retAddr 0, .retAddr 0], [.ref 0])) rfl).trans ?_
  refine Eq.trans (b := am_runs (327, 1401, [.retAddr 1, .ref 0, .ref 177, .ref 191, .int (nI i), .retAddr 0, .retAddr 0], [.int x]) (f1, g1, p1, d, e)) (ar_cV rfl rfl rfl rfl rfl rfl rfl (t0_k hT rfl) rfl k1) ?_
  refine (am_bl 1 (f' := (327, 1402, [.retAddr 1, .ref 0, .ref 177, .ref 191, .int (nI i), .retAddr 0, .retAddr 0], [.ref 177, .int x])) rfl).trans ?_
  refine Eq.trans (b := am_runs (327, 1405, [.retAddr 1, .ref 0, .ref 177, .ref 191, .int (nI i), .retAddr 0, .retAddr 0], [.int x, .int x]) (f2, g2, p1, d, e)) (ar_cV rfl rfl rfl rfl rfl rfl rfl (t0_k hT rfl) rfl k2) ?_
  exact (rj_eq rfl).trans (if_pos rfl)
set_option maxRecDepth 20000 in
theorem c_line {f : Nat → Nat → Int32} {g : Nat → Nat → Int64} {p : Nat → Nat → Option Nat} {d : Nat → Nat × Nat} {e : Nat × Nat} {Ln i : Nat} (hI : Inv f p) (hT : am_T0 p d) (hD : d am_SC = (18, Ln)) (hL : Ln ≤ 3072) (hi : i + 6 ≤ Ln) : StepE f g p d e 1410 i := by
  obtain ⟨x, f1, g1, p1, f2, g2, k1, k2, hI2, hT2, hs1, hs2⟩ := q_line (g := g) (e := e) (x0 := (f am_SC (i + 1))) (x1 := (bz (f am_SC (i + 2)))) (x2 := (bz (f am_SC (i + 3)))) (x3 := (bz (f am_SC (i + 4)))) hI hT 
  refine ⟨f2, g2, p1, ?_, hI2, hT2⟩
  refine (am_bl 5 (f' := (327, 1416, [.retAddr 1, .ref 0, .ref 177, .ref 191, .int (nI i), .retAddr 0, .retAddr 0], [.int (nI i + 1), .retAddr 1, .ref 0])) rfl).trans ?_
  refine Eq.trans (b := am_runs (327, 1417, [.retAddr 1, .ref 0, .ref 177, .ref 191, .int (nI i), .retAddr 0, .retAddr 0], [.int (f am_SC (i + 1)), .ref 0]) (f, g, p, d, e)) (rr_sc rfl hD hL (sx1 i) (by omega) rfl) ?_
  refine (am_bl 4 (f' := (327, 1422, [.retAddr 1, .ref 0, .ref 177, .ref 191, .int (nI i), .retAddr 0, .retAddr 0], [.int (nI i + 2), .retAddr 1, .int (f am_SC (i + 1)), .ref 0])) rfl).trans ?_
  refine Eq.trans (b := am_runs (327, 1423, [.retAddr 1, .ref 0, .ref 177, .ref 191, .int (nI i), .retAddr 0, .retAddr 0], [.int (f am_SC (i + 2)), .int (f am_SC (i + 1)), .ref 0]) (f, g, p, d, e)) (rr_sc rfl hD hL (sx2 i) (by omega) rfl) ?_
  refine Eq.trans (b := am_runs (327, 1431, [.retAddr 1, .ref 0, .ref 177, .ref 191, .int (nI i), .retAddr 0, .retAddr 0], [.int (bz (f am_SC (i + 2))), .int (f am_SC (i + 1)), .ref 0]) (f, g, p, d, e)) ((ri_eq rfl).trans (jz (fun y => am_runs (327, 1431, [.retAddr 1, .ref 0, .ref 177, .ref 191, .int (nI i), .retAddr 0, .retAddr 0], [.int y, .int (f am_SC (i + 1)), .ref 0]) (f, g, p, d, e)) (am_bl 1 (f' := (327, 1431, [.retAddr 1, .ref 0, .ref 177, .ref 191, .int (nI i), .retAddr 0, .retAddr 0], [.int 0, .int (f am_SC (i + 1)), .ref 0])) rfl) (am_bl 2 (f' := (327, 1431, [.retAddr 1, .ref 0, .ref 177, .ref 191, .int (nI i), .retAddr 0, .retAddr 0], [.int 1, .int (f am_SC (i + 1)), .ref 0])) rfl))) ?_
  refine (am_bl 4 (f' := (327, 1436, [.retAddr 1, .ref 0, .ref 177, .ref 191, .int (nI i), .retAddr 0, .retAddr 0], [.int (nI i + 3), .retAddr 1, .int (bz (f am_SC (i + 2))), .int (f am_SC (i + 1)), .ref 0])) rfl).trans ?_
  refine Eq.trans (b := am_runs (327, 1437, [.retAddr 1, .ref 0, .ref 177, .ref 191, .int (nI i), .retAddr 0, .retAddr 0], [.int (f am_SC (i + 3)), .int (bz (f am_SC (i + 2))), .int (f am_SC (i + 1)), .ref 0]) (f, g, p, d, e)) (rr_sc rfl hD hL (sx3 i) (by omega) rfl) ?_
  refine Eq.trans (b := am_runs (327, 1445, [.retAddr 1, .ref 0, .ref 177, .ref 191, .int (nI i), .retAddr 0, .retAddr 0], [.int (bz (f am_SC (i + 3))), .int (bz (f am_SC (i + 2))), .int (f am_SC (i + 1)), .ref 0]) (f, g, p, d, e)) ((ri_eq rfl).trans (jz (fun y => am_runs (327, 1445, [.retAddr 1, .ref 0, .ref 177, .ref 191, .int (nI i), .retAddr 0, .retAddr 0], [.int y, .int (bz (f am_SC (i + 2))), .int (f am_SC (i + 1)), .ref 0]) (f, g, p, d, e)) (am_bl 1 (f' := (327, 1445, [.retAddr 1, .ref 0, .ref 177, .ref 191, .int (nI i), .retAddr 0, .retAddr 0], [.int 0, .int (bz (f am_SC (i + 2))), .int (f am_SC (i + 1)), .ref 0])) rfl) (am_bl 2 (f' := (327, 1445, [.retAddr 1, .ref 0, .ref 177, .ref 191, .int (nI i), .retAddr 0, .retAddr 0], [.int 1, .int (bz (f am_SC (i + 2))), .int (f am_SC (i + 1)), .ref 0])) rfl))) ?_
  refine (am_bl 4 (f' := (327, 1450, [.retAddr 1, .ref 0, .ref 177, .ref 191, .int (nI i), .retAddr 0, .retAddr 0], [.int (nI i + 4), .retAddr 1, .int (bz (f am_SC (i + 3))), .int (bz (f am_SC (i + 2))), .int (f am_SC (i + 1)), .ref 0])) rfl).trans ?_
  refine Eq.trans (b := am_runs (327, 1451, [.retAddr 1, .ref 0, .ref 177, .ref 191, .int (nI i), .retAddr 0, .retAddr 0], [.int (f am_SC (i + 4)), .int (bz (f am_SC (i + 3))), .int (bz (f am_SC (i + 2))), .int (f am_SC (i + 1)), .ref 0]) (f, g, p, d, e)) (rr_sc rfl hD hL (sx4 i) (by omega) rfl) ?_
  refine Eq.trans (b := am_runs (327, 1459, [.retAddr 1, .ref 0, .ref 177, .ref 191, .int (nI i), .retAddr 0, .retAddr 0], [.int (bz (f am_SC (i + 4))), .int (bz (f am_SC (i + 3))), .int (bz (f am_SC (i + 2))), .int (f am_SC (i + 1)), .ref 0]) (f, g, p, d, e)) ((ri_eq rfl).trans (jz (fun y => am_runs (327, 1459, [.retAddr 1, .ref 0, .ref 177, .ref 191, .int (nI i), .retAddr 0, .retAddr 0], [.int y, .int (bz (f am_SC (i + 3))), .int (bz (f am_SC (i + 2))), .int (f am_SC (i + 1)), .ref 0]) (f, g, p, d, e)) (am_bl 1 (f' := (327, 1459, [.retAddr 1, .ref 0, .ref 177, .ref 191, .int (nI i), .retAddr 0, .retAddr 0], [.int 0, .int (bz (f am_SC (i + 3))), .int (bz (f am_SC (i + 2))), .int (f am_SC (i + 1)), .ref 0])) rfl) (am_bl 2 (f' := (327, 1459, [.retAddr 1, .ref 0, .ref 177, .ref 191, .int (nI i), .retAddr 0, .retAddr 0], [.int 1, .int (bz (f am_SC (i + 3))), .int (bz (f am_SC (i + 2))), .int (f am_SC (i + 1)), .ref 0])) rfl))) ?_
  refine Eq.trans (b := am_runs (327, 1462, [.retAddr 1, .ref 0, .ref 177, .ref 191, .int (nI i), .retAddr 0, .retAddr 0], [.int x]) (f1, g1, p1, d, e)) (ar_cV rfl rfl rfl rfl rfl rfl rfl (t0_k hT rfl) rfl k1) ?_
  refine (am_bl 5 (f' := (327, 1468, [.retAddr 1, .ref 0, .ref 177, .ref 191, .int (nI i), .retAddr 0, .retAddr 0], [.int (nI i + 1), .retAddr 1, .ref 177, .int x])) rfl).trans ?_
  refine Eq.trans (b := am_runs (327, 1469, [.retAddr 1, .ref 0, .ref 177, .ref 191, .int (nI i), .retAddr 0, .retAddr 0], [.int (f am_SC (i + 1)), .ref 177, .int x]) (f1, g1, p1, d, e)) (rr_sc rfl hD hL (sx1 i) (by omega) (congrFun hs1 _)) ?_
  refine (am_bl 4 (f' := (327, 1474, [.retAddr 1, .ref 0, .ref 177, .ref 191, .int (nI i), .retAddr 0, .retAddr 0], [.int (nI i + 2), .retAddr 1, .int (f am_SC (i + 1)), .ref 177, .int x])) rfl).trans ?_
  refine Eq.trans (b := am_runs (327, 1475, [.retAddr 1, .ref 0, .ref 177, .ref 191, .int (nI i), .retAddr 0, .retAddr 0], [.int (f am_SC (i + 2)), .int (f am_SC (i + 1)), .ref 177, .int x]) (f1, g1, p1, d, e)) (rr_sc rfl hD hL (sx2 i) (by omega) (congrFun hs1 _)) ?_
  refine Eq.trans (b := am_runs (327, 1483, [.retAddr 1, .ref 0, .ref 177, .ref 191, .int (nI i), .retAddr 0, .retAddr 0], [.int (bz (f am_SC (i + 2))), .int (f am_SC (i + 1)), .ref 177, .int x]) (f1, g1, p1, d, e)) ((ri_eq rfl).trans (jz (fun y => am_runs (327, 1483, [.retAddr 1, .ref 0, .ref 177, .ref 191, .int (nI i), .retAddr 0, .retAddr 0], [.int y, .int (f am_SC (i + 1)), .ref 177, .int x]) (f1, g1, p1, d, e)) (am_bl 1 (f' := (327, 1483, [.retAddr 1, .ref 0, .ref 177, .ref 191, .int (nI i), .retAddr 0, .retAddr 0], [.int 0, .int (f am_SC (i + 1)), .ref 177, .int x])) rfl) (am_bl 2 (f' := (327, 1483, [.retAddr 1, .ref 0, .ref 177, .ref 191, .int (nI i), .retAddr 0, .retAddr 0], [.int 1, .int (f am_SC (i + 1)), .ref 177, .int x])) rfl))) ?_
  refine (am_bl 4 (f' := (327, 1488, [.retAddr 1, .ref 0, .ref 177, .ref 191, .int (nI i), .retAddr 0, .retAddr 0], [.int (nI i + 3), .retAddr 1, .int (bz (f am_SC (i + 2))), .int (f am_SC (i + 1)), .ref 177, .int x])) rfl).trans ?_
  refine Eq.trans (b := am_runs (327, 1489, [.retAddr 1, .ref 0, .ref 177, .ref 191, .int (nI i), .retAddr 0, .retAddr 0], [.int (f am_SC (i + 3)), .int (bz (f am_SC (i + 2))), .int (f am_SC (i + 1)), .ref 177, .int x]) (f1, g1, p1, d, e)) (rr_sc rfl hD hL (sx3 i) (by omega) (congrFun hs1 _)) ?_
  refine Eq.trans (b := am_runs (327, 1497, [.retAddr 1, .ref 0, .ref 177, .ref 191, .int (nI i), .retAddr 0, .retAddr 0], [.int (bz (f am_SC (i + 3))), .int (bz (f am_SC (i + 2))), .int (f am_SC (i + 1)), .ref 177, .int x]) (f1, g1, p1, d, e)) ((ri_eq rfl).trans (jz (fun y => am_runs (327, 1497, [.retAddr 1, .ref 0, .ref 177, .ref 191, .int (nI i), .retAddr 0, .retAddr 0], [.int y, .int (bz (f am_SC (i + 2))), .int (f am_SC (i + 1)), .ref 177, .int x]) (f1, g1, p1, d, e)) (am_bl 1 (f' := (327, 1497, [.retAddr 1, .ref 0, .ref 177, .ref 191, .int (nI i), .retAddr 0, .retAddr 0], [.int 0, .int (bz (f am_SC (i + 2))), .int (f am_SC (i + 1)), .ref 177, .int x])) rfl) (am_bl 2 (f' := (327, 1497, [.retAddr 1, .ref 0, .ref 177, .ref 191, .int (nI i), .retAddr 0, .retAddr 0], [.int 1, .int (bz (f am_SC (i + 2))), .int (f am_SC (i + 1)), .ref 177, .int x])) rfl))) ?_
  refine (am_bl 4 (f' := (327, 1502, [.retAddr 1, .ref 0, .ref 177, .ref 191, .int (nI i), .retAddr 0, .retAddr 0], [.int (nI i + 4), .retAddr 1, .int (bz (f am_SC (i + 3))), .int (bz (f am_SC (i + 2))), .int (f am_SC (i + 1)), .ref 177, .int x])) rfl).trans ?_
  refine Eq.trans (b := am_runs (327, 1503, [.retAddr 1, .ref 0, .ref 177, .ref 191, .int (nI i), .retAddr 0, .retAddr 0], [.int (f am_SC (i + 4)), .int (bz (f am_SC (i + 3))), .int (bz (f am_SC (i + 2))), .int (f am_SC (i + 1)), .ref 177, .int x]) (f1, g1, p1, d, e)) (rr_sc rfl hD hL (sx4 i) (by omega) (congrFun hs1 _)) ?_
  refine Eq.trans (b := am_runs (327, 1511, [.retAddr 1, .ref 0, .ref 177, .ref 191, .int (nI i), .retAddr 0, .retAddr 0], [.int (bz (f am_SC (i + 4))), .int (bz (f am_SC (i + 3))), .int (bz (f am_SC (i + 2))), .int (f am_SC (i + 1)), .ref 177, .int x]) (f1, g1, p1, d, e)) ((ri_eq rfl).trans (jz (fun y => am_runs (327, 1511, [.retAddr 1, .ref 0, .ref 177, .ref 191, .int (nI i), .retAddr 0, .retAddr 0], [.int y, .int (bz (f am_SC (i + 3))), .int (bz (f am_SC (i + 2))), .int (f am_SC (i + 1)), .ref 177, .int x]) (f1, g1, p1, d, e)) (am_bl 1 (f' := (327, 1511, [.retAddr 1, .ref 0, .ref 177, .ref 191, .int (nI i), .retAddr 0, .retAddr 0], [.int 0, .int (bz (f am_SC (i + 3))), .int (bz (f am_SC (i + 2))), .int (f am_SC (i + 1)), .ref 177, .int x])) rfl) (am_bl 2 (f' := (327, 1511, [.retAddr 1, .ref 0, .ref 177, .ref 191, .int (nI i), .retAddr 0, .retAddr 0], [.int 1, .int (bz (f am_SC (i + 3))), .int (bz (f am_SC (i + 2))), .int (f am_SC (i + 1)), .ref 177, .int x])) rfl))) ?_
  refine Eq.trans (b := am_runs (327, 1514, [.retAddr 1, .ref 0, .ref 177, .ref 191, .int (nI i), .retAddr 0, .retAddr 0], [.int x, .int x]) (f2, g2, p1, d, e)) (ar_cV rfl rfl rfl rfl rfl rfl rfl (t0_k hT rfl) rfl k2) ?_
  exact (rj_eq rfl).trans (if_pos rfl)
set_option maxRecDepth 20000 in
theorem c_rests {f : Nat → Nat → Int32} {g : Nat → Nat → Int64} {p : Nat → Nat → Option Nat} {d : Nat → Nat × Nat} {e : Nat × Nat} {Ln i : Nat} (hI : Inv f p) (hT : am_T0 p d) (hD : d am_SC = (18, Ln)) (hL : Ln ≤ 3072) (hi : i + 6 ≤ Ln) : StepE f g p d e 1519 i := by
  obtain ⟨x, f1, g1, p1, f2, g2, k1, k2, hI2, hT2, hs1, hs2⟩ := q_rests (g := g) (e := e) (x0 := (f am_SC (i + 1))) hI hT 
  refine ⟨f2, g2, p1, ?_, hI2, hT2⟩
  refine (am_bl 5 (f' := (327, 1525, [.retAddr 1, .ref 0, .ref 177, .ref 191, .int (nI i), .retAddr 0, .retAddr 0], [.int (nI i + 1), .retAddr 1, .ref 0])) rfl).trans ?_
  refine Eq.trans (b := am_runs (327, 1526, [.retAddr 1, .ref 0, .ref 177, .ref 191, .int (nI i), .retAddr 0, .retAddr 0], [.int (f am_SC (i + 1)), .ref 0]) (f, g, p, d, e)) (rr_sc rfl hD hL (sx1 i) (by omega) rfl) ?_
  refine Eq.trans (b := am_runs (327, 1529, [.retAddr 1, .ref 0, .ref 177, .ref 191, .int (nI i), .retAddr 0, .retAddr 0], [.int x]) (f1, g1, p1, d, e)) (ar_cV rfl rfl rfl rfl rfl rfl rfl (t0_k hT rfl) rfl k1) ?_
  refine (am_bl 5 (f' := (327, 1535, [.retAddr 1, .ref 0, .ref 177, .ref 191, .int (nI i), .retAddr 0, .retAddr 0], [.int (nI i + 1), .retAddr 1, .ref 177, .int x])) rfl).trans ?_
  refine Eq.trans (b := am_runs (327, 1536, [.retAddr 1, .ref 0, .ref 177, .ref 191, .int (nI i), .retAddr 0, .retAddr 0], [.int (f am_SC (i + 1)), .ref 177, .int x]) (f1, g1, p1, d, e)) (rr_sc rfl hD hL (sx1 i) (by omega) (congrFun hs1 _)) ?_
  refine Eq.trans (b := am_runs (327, 1539, [.retAddr 1, .ref 0, .ref 177, .ref 191, .int (nI i), .retAddr 0, .retAddr 0], [.int x, .int x]) (f2, g2, p1, d, e)) (ar_cV rfl rfl rfl rfl rfl rfl rfl (t0_k hT rfl) rfl k2) ?_
  exact (rj_eq rfl).trans (if_pos rfl)
set_option maxRecDepth 20000 in
theorem c_rest {f : Nat → Nat → Int32} {g : Nat → Nat → Int64} {p : Nat → Nat → Option Nat} {d : Nat → Nat × Nat} {e : Nat × Nat} {Ln i : Nat} (hI : Inv f p) (hT : am_T0 p d) (hD : d am_SC = (18, Ln)) (hL : Ln ≤ 3072) (hi : i + 6 ≤ Ln) : StepE f g p d e 1544 i := by
  obtain ⟨x, f1, g1, p1, f2, g2, k1, k2, hI2, hT2, hs1, hs2⟩ := q_rest (g := g) (e := e) (x0 := (f am_SC (i + 1))) hI hT 
  refine ⟨f2, g2, p1, ?_, hI2, hT2⟩
  refine (am_bl 5 (f' := (327, 1550, [.retAddr 1, .ref 0, .ref 177, .ref 191, .int (nI i), .retAddr 0, .retAddr 0], [.int (nI i + 1), .retAddr 1, .ref 0])) rfl).trans ?_
  refine Eq.trans (b := am_runs (327, 1551, [.retAddr 1, .ref 0, .ref 177, .ref 191, .int (nI i), .retAddr 0, .retAddr 0], [.int (f am_SC (i + 1)), .ref 0]) (f, g, p, d, e)) (rr_sc rfl hD hL (sx1 i) (by omega) rfl) ?_
  refine Eq.trans (b := am_runs (327, 1554, [.retAddr 1, .ref 0, .ref 177, .ref 191, .int (nI i), .retAddr 0, .retAddr 0], [.int x]) (f1, g1, p1, d, e)) (ar_cV rfl rfl rfl rfl rfl rfl rfl (t0_k hT rfl) rfl k1) ?_
  refine (am_bl 5 (f' := (327, 1560, [.retAddr 1, .ref 0, .ref 177, .ref 191, .int (nI i), .retAddr 0, .retAddr 0], [.int (nI i + 1), .retAddr 1, .ref 177, .int x])) rfl).trans ?_
  refine Eq.trans (b := am_runs (327, 1561, [.retAddr 1, .ref 0, .ref 177, .ref 191, .int (nI i), .retAddr 0, .retAddr 0], [.int (f am_SC (i + 1)), .ref 177, .int x]) (f1, g1, p1, d, e)) (rr_sc rfl hD hL (sx1 i) (by omega) (congrFun hs1 _)) ?_
  refine Eq.trans (b := am_runs (327, 1564, [.retAddr 1, .ref 0, .ref 177, .ref 191, .int (nI i), .retAddr 0, .retAddr 0], [.int x, .int x]) (f2, g2, p1, d, e)) (ar_cV rfl rfl rfl rfl rfl rfl rfl (t0_k hT rfl) rfl k2) ?_
  exact (rj_eq rfl).trans (if_pos rfl)
set_option maxRecDepth 20000 in
theorem c_wars {f : Nat → Nat → Int32} {g : Nat → Nat → Int64} {p : Nat → Nat → Option Nat} {d : Nat → Nat × Nat} {e : Nat × Nat} {Ln i : Nat} (hI : Inv f p) (hT : am_T0 p d) (hD : d am_SC = (18, Ln)) (hL : Ln ≤ 3072) (hi : i + 6 ≤ Ln) : StepE f g p d e 1569 i := by
  obtain ⟨x, f1, g1, p1, f2, g2, k1, k2, hI2, hT2, hs1, hs2⟩ := q_wars (g := g) (e := e) (x0 := (f am_SC (i + 1))) (x1 := (f am_SC (i + 2))) hI hT 
  refine ⟨f2, g2, p1, ?_, hI2, hT2⟩
  refine (am_bl 5 (f' := (327, 1575, [.retAddr 1, .ref 0, .ref 177, .ref 191, .int (nI i), .retAddr 0, .retAddr 0], [.int (nI i + 1), .retAddr 1, .ref 0])) rfl).trans ?_
  refine Eq.trans (b := am_runs (327, 1576, [.retAddr 1, .ref 0, .ref 177, .ref 191, .int (nI i), .retAddr 0, .retAddr 0], [.int (f am_SC (i + 1)), .ref 0]) (f, g, p, d, e)) (rr_sc rfl hD hL (sx1 i) (by omega) rfl) ?_
  refine (am_bl 4 (f' := (327, 1581, [.retAddr 1, .ref 0, .ref 177, .ref 191, .int (nI i), .retAddr 0, .retAddr 0], [.int (nI i + 2), .retAddr 1, .int (f am_SC (i + 1)), .ref 0])) rfl).trans ?_
  refine Eq.trans (b := am_runs (327, 1582, [.retAddr 1, .ref 0, .ref 177, .ref 191, .int (nI i), .retAddr 0, .retAddr 0], [.int (f am_SC (i + 2)), .int (f am_SC (i + 1)), .ref 0]) (f, g, p, d, e)) (rr_sc rfl hD hL (sx2 i) (by omega) rfl) ?_
  refine Eq.trans (b := am_runs (327, 1585, [.retAddr 1, .ref 0, .ref 177, .ref 191, .int (nI i), .retAddr 0, .retAddr 0], [.int x]) (f1, g1, p1, d, e)) (ar_cV rfl rfl rfl rfl rfl rfl rfl (t0_k hT rfl) rfl k1) ?_
  refine (am_bl 5 (f' := (327, 1591, [.retAddr 1, .ref 0, .ref 177, .ref 191, .int (nI i), .retAddr 0, .retAddr 0], [.int (nI i + 1), .retAddr 1, .ref 177, .int x])) rfl).trans ?_
  refine Eq.trans (b := am_runs (327, 1592, [.retAddr 1, .ref 0, .ref 177, .ref 191, .int (nI i), .retAddr 0, .retAddr 0], [.int (f am_SC (i + 1)), .ref 177, .int x]) (f1, g1, p1, d, e)) (rr_sc rfl hD hL (sx1 i) (by omega) (congrFun hs1 _)) ?_
  refine (am_bl 4 (f' := (327, 1597, [.retAddr 1, .ref 0, .ref 177, .ref 191, .int (nI i), .retAddr 0, .retAddr 0], [.int (nI i + 2), .retAddr 1, .int (f am_SC (i + 1)), .ref 177, .int x])) rfl).trans ?_
  refine Eq.trans (b := am_runs (327, 1598, [.retAddr 1, .ref 0, .ref 177, .ref 191, .int (nI i), .retAddr 0, .retAddr 0], [.int (f am_SC (i + 2)), .int (f am_SC (i + 1)), .ref 177, .int x]) (f1, g1, p1, d, e)) (rr_sc rfl hD hL (sx2 i) (by omega) (congrFun hs1 _)) ?_
  refine Eq.trans (b := am_runs (327, 1601, [.retAddr 1, .ref 0, .ref 177, .ref 191, .int (nI i), .retAddr 0, .retAddr 0], [.int x, .int x]) (f2, g2, p1, d, e)) (ar_cV rfl rfl rfl rfl rfl rfl rfl (t0_k hT rfl) rfl k2) ?_
  exact (rj_eq rfl).trans (if_pos rfl)
set_option maxRecDepth 20000 in
theorem c_warsLeft {f : Nat → Nat → Int32} {g : Nat → Nat → Int64} {p : Nat → Nat → Option Nat} {d : Nat → Nat × Nat} {e : Nat × Nat} {Ln i : Nat} (hI : Inv f p) (hT : am_T0 p d) (hD : d am_SC = (18, Ln)) (hL : Ln ≤ 3072) (hi : i + 6 ≤ Ln) : StepE f g p d e 1606 i := by
  obtain ⟨x, f1, g1, p1, f2, g2, k1, k2, hI2, hT2, hs1, hs2⟩ := q_warsLeft (g := g) (e := e) (x0 := (f am_SC (i + 1))) (x1 := (f am_SC (i + 2))) hI hT 
  refine ⟨f2, g2, p1, ?_, hI2, hT2⟩
  refine (am_bl 5 (f' := (327, 1612, [.retAddr 1, .ref 0, .ref 177, .ref 191, .int (nI i), .retAddr 0, .retAddr 0], [.int (nI i + 1), .retAddr 1, .ref 0])) rfl).trans ?_
  refine Eq.trans (b := am_runs (327, 1613, [.retAddr 1, .ref 0, .ref 177, .ref 191, .int (nI i), .retAddr 0, .retAddr 0], [.int (f am_SC (i + 1)), .ref 0]) (f, g, p, d, e)) (rr_sc rfl hD hL (sx1 i) (by omega) rfl) ?_
  refine (am_bl 4 (f' := (327, 1618, [.retAddr 1, .ref 0, .ref 177, .ref 191, .int (nI i), .retAddr 0, .retAddr 0], [.int (nI i + 2), .retAddr 1, .int (f am_SC (i + 1)), .ref 0])) rfl).trans ?_
  refine Eq.trans (b := am_runs (327, 1619, [.retAddr 1, .ref 0, .ref 177, .ref 191, .int (nI i), .retAddr 0, .retAddr 0], [.int (f am_SC (i + 2)), .int (f am_SC (i + 1)), .ref 0]) (f, g, p, d, e)) (rr_sc rfl hD hL (sx2 i) (by omega) rfl) ?_
  refine Eq.trans (b := am_runs (327, 1622, [.retAddr 1, .ref 0, .ref 177, .ref 191, .int (nI i), .retAddr 0, .retAddr 0], [.int x]) (f1, g1, p1, d, e)) (ar_cV rfl rfl rfl rfl rfl rfl rfl (t0_k hT rfl) rfl k1) ?_
  refine (am_bl 5 (f' := (327, 1628, [.retAddr 1, .ref 0, .ref 177, .ref 191, .int (nI i), .retAddr 0, .retAddr 0], [.int (nI i + 1), .retAddr 1, .ref 177, .int x])) rfl).trans ?_
  refine Eq.trans (b := am_runs (327, 1629, [.retAddr 1, .ref 0, .ref 177, .ref 191, .int (nI i), .retAddr 0, .retAddr 0], [.int (f am_SC (i + 1)), .ref 177, .int x]) (f1, g1, p1, d, e)) (rr_sc rfl hD hL (sx1 i) (by omega) (congrFun hs1 _)) ?_
  refine (am_bl 4 (f' := (327, 1634, [.retAddr 1, .ref 0, .ref 177, .ref 191, .int (nI i), .retAddr 0, .retAddr 0], [.int (nI i + 2), .retAddr 1, .int (f am_SC (i + 1)), .ref 177, .int x])) rfl).trans ?_
  refine Eq.trans (b := am_runs (327, 1635, [.retAddr 1, .ref 0, .ref 177, .ref 191, .int (nI i), .retAddr 0, .retAddr 0], [.int (f am_SC (i + 2)), .int (f am_SC (i + 1)), .ref 177, .int x]) (f1, g1, p1, d, e)) (rr_sc rfl hD hL (sx2 i) (by omega) (congrFun hs1 _)) ?_
  refine Eq.trans (b := am_runs (327, 1638, [.retAddr 1, .ref 0, .ref 177, .ref 191, .int (nI i), .retAddr 0, .retAddr 0], [.int x, .int x]) (f2, g2, p1, d, e)) (ar_cV rfl rfl rfl rfl rfl rfl rfl (t0_k hT rfl) rfl k2) ?_
  exact (rj_eq rfl).trans (if_pos rfl)
set_option maxRecDepth 20000 in
theorem c_warsOf {f : Nat → Nat → Int32} {g : Nat → Nat → Int64} {p : Nat → Nat → Option Nat} {d : Nat → Nat × Nat} {e : Nat × Nat} {Ln i : Nat} (hI : Inv f p) (hT : am_T0 p d) (hD : d am_SC = (18, Ln)) (hL : Ln ≤ 3072) (hi : i + 6 ≤ Ln) : StepE f g p d e 1643 i := by
  obtain ⟨x, f1, g1, p1, f2, g2, k1, k2, hI2, hT2, hs1, hs2⟩ := q_warsOf (g := g) (e := e) (x0 := (f am_SC (i + 1))) (x1 := (f am_SC (i + 2))) (x2 := (f am_SC (i + 3))) hI hT 
  refine ⟨f2, g2, p1, ?_, hI2, hT2⟩
  refine (am_bl 5 (f' := (327, 1649, [.retAddr 1, .ref 0, .ref 177, .ref 191, .int (nI i), .retAddr 0, .retAddr 0], [.int (nI i + 1), .retAddr 1, .ref 0])) rfl).trans ?_
  refine Eq.trans (b := am_runs (327, 1650, [.retAddr 1, .ref 0, .ref 177, .ref 191, .int (nI i), .retAddr 0, .retAddr 0], [.int (f am_SC (i + 1)), .ref 0]) (f, g, p, d, e)) (rr_sc rfl hD hL (sx1 i) (by omega) rfl) ?_
  refine (am_bl 4 (f' := (327, 1655, [.retAddr 1, .ref 0, .ref 177, .ref 191, .int (nI i), .retAddr 0, .retAddr 0], [.int (nI i + 2), .retAddr 1, .int (f am_SC (i + 1)), .ref 0])) rfl).trans ?_
  refine Eq.trans (b := am_runs (327, 1656, [.retAddr 1, .ref 0, .ref 177, .ref 191, .int (nI i), .retAddr 0, .retAddr 0], [.int (f am_SC (i + 2)), .int (f am_SC (i + 1)), .ref 0]) (f, g, p, d, e)) (rr_sc rfl hD hL (sx2 i) (by omega) rfl) ?_
  refine (am_bl 4 (f' := (327, 1661, [.retAddr 1, .ref 0, .ref 177, .ref 191, .int (nI i), .retAddr 0, .retAddr 0], [.int (nI i + 3), .retAddr 1, .int (f am_SC (i + 2)), .int (f am_SC (i + 1)), .ref 0])) rfl).trans ?_
  refine Eq.trans (b := am_runs (327, 1662, [.retAddr 1, .ref 0, .ref 177, .ref 191, .int (nI i), .retAddr 0, .retAddr 0], [.int (f am_SC (i + 3)), .int (f am_SC (i + 2)), .int (f am_SC (i + 1)), .ref 0]) (f, g, p, d, e)) (rr_sc rfl hD hL (sx3 i) (by omega) rfl) ?_
  refine Eq.trans (b := am_runs (327, 1665, [.retAddr 1, .ref 0, .ref 177, .ref 191, .int (nI i), .retAddr 0, .retAddr 0], [.int x]) (f1, g1, p1, d, e)) (ar_cV rfl rfl rfl rfl rfl rfl rfl (t0_k hT rfl) rfl k1) ?_
  refine (am_bl 5 (f' := (327, 1671, [.retAddr 1, .ref 0, .ref 177, .ref 191, .int (nI i), .retAddr 0, .retAddr 0], [.int (nI i + 1), .retAddr 1, .ref 177, .int x])) rfl).trans ?_
  refine Eq.trans (b := am_runs (327, 1672, [.retAddr 1, .ref 0, .ref 177, .ref 191, .int (nI i), .retAddr 0, .retAddr 0], [.int (f am_SC (i + 1)), .ref 177, .int x]) (f1, g1, p1, d, e)) (rr_sc rfl hD hL (sx1 i) (by omega) (congrFun hs1 _)) ?_
  refine (am_bl 4 (f' := (327, 1677, [.retAddr 1, .ref 0, .ref 177, .ref 191, .int (nI i), .retAddr 0, .retAddr 0], [.int (nI i + 2), .retAddr 1, .int (f am_SC (i + 1)), .ref 177, .int x])) rfl).trans ?_
  refine Eq.trans (b := am_runs (327, 1678, [.retAddr 1, .ref 0, .ref 177, .ref 191, .int (nI i), .retAddr 0, .retAddr 0], [.int (f am_SC (i + 2)), .int (f am_SC (i + 1)), .ref 177, .int x]) (f1, g1, p1, d, e)) (rr_sc rfl hD hL (sx2 i) (by omega) (congrFun hs1 _)) ?_
  refine (am_bl 4 (f' := (327, 1683, [.retAddr 1, .ref 0, .ref 177, .ref 191, .int (nI i), .retAddr 0, .retAddr 0], [.int (nI i + 3), .retAddr 1, .int (f am_SC (i + 2)), .int (f am_SC (i + 1)), .ref 177, .int x])) rfl).trans ?_
  refine Eq.trans (b := am_runs (327, 1684, [.retAddr 1, .ref 0, .ref 177, .ref 191, .int (nI i), .retAddr 0, .retAddr 0], [.int (f am_SC (i + 3)), .int (f am_SC (i + 2)), .int (f am_SC (i + 1)), .ref 177, .int x]) (f1, g1, p1, d, e)) (rr_sc rfl hD hL (sx3 i) (by omega) (congrFun hs1 _)) ?_
  refine Eq.trans (b := am_runs (327, 1687, [.retAddr 1, .ref 0, .ref 177, .ref 191, .int (nI i), .retAddr 0, .retAddr 0], [.int x, .int x]) (f2, g2, p1, d, e)) (ar_cV rfl rfl rfl rfl rfl rfl rfl (t0_k hT rfl) rfl k2) ?_
  exact (rj_eq rfl).trans (if_pos rfl)
set_option maxRecDepth 20000 in
theorem c_lot {f : Nat → Nat → Int32} {g : Nat → Nat → Int64} {p : Nat → Nat → Option Nat} {d : Nat → Nat × Nat} {e : Nat × Nat} {Ln i : Nat} (hI : Inv f p) (hT : am_T0 p d) (hD : d am_SC = (18, Ln)) (hL : Ln ≤ 3072) (hi : i + 6 ≤ Ln) : StepE f g p d e 1692 i := by
  obtain ⟨x, f1, g1, p1, f2, g2, k1, k2, hI2, hT2, hs1, hs2⟩ := q_lot (g := g) (e := e) (x0 := (f am_SC (i + 1))) hI hT 
  refine ⟨f2, g2, p1, ?_, hI2, hT2⟩
  refine (am_bl 5 (f' := (327, 1698, [.retAddr 1, .ref 0, .ref 177, .ref 191, .int (nI i), .retAddr 0, .retAddr 0], [.int (nI i + 1), .retAddr 1, .ref 0])) rfl).trans ?_
  refine Eq.trans (b := am_runs (327, 1699, [.retAddr 1, .ref 0, .ref 177, .ref 191, .int (nI i), .retAddr 0, .retAddr 0], [.int (f am_SC (i + 1)), .ref 0]) (f, g, p, d, e)) (rr_sc rfl hD hL (sx1 i) (by omega) rfl) ?_
  refine Eq.trans (b := am_runs (327, 1702, [.retAddr 1, .ref 0, .ref 177, .ref 191, .int (nI i), .retAddr 0, .retAddr 0], [.int x]) (f1, g1, p1, d, e)) (ar_cV rfl rfl rfl rfl rfl rfl rfl (t0_k hT rfl) rfl k1) ?_
  refine (am_bl 5 (f' := (327, 1708, [.retAddr 1, .ref 0, .ref 177, .ref 191, .int (nI i), .retAddr 0, .retAddr 0], [.int (nI i + 1), .retAddr 1, .ref 177, .int x])) rfl).trans ?_
  refine Eq.trans (b := am_runs (327, 1709, [.retAddr 1, .ref 0, .ref 177, .ref 191, .int (nI i), .retAddr 0, .retAddr 0], [.int (f am_SC (i + 1)), .ref 177, .int x]) (f1, g1, p1, d, e)) (rr_sc rfl hD hL (sx1 i) (by omega) (congrFun hs1 _)) ?_
  refine Eq.trans (b := am_runs (327, 1712, [.retAddr 1, .ref 0, .ref 177, .ref 191, .int (nI i), .retAddr 0, .retAddr 0], [.int x, .int x]) (f2, g2, p1, d, e)) (ar_cV rfl rfl rfl rfl rfl rfl rfl (t0_k hT rfl) rfl k2) ?_
  exact (rj_eq rfl).trans (if_pos rfl)
set_option maxRecDepth 20000 in
theorem c_braces {f : Nat → Nat → Int32} {g : Nat → Nat → Int64} {p : Nat → Nat → Option Nat} {d : Nat → Nat × Nat} {e : Nat × Nat} {Ln i : Nat} (hI : Inv f p) (hT : am_T0 p d) (hD : d am_SC = (18, Ln)) (hL : Ln ≤ 3072) (hi : i + 6 ≤ Ln) : StepE f g p d e 1717 i := by
  obtain ⟨x, f1, g1, p1, f2, g2, k1, k2, hI2, hT2, hs1, hs2⟩ := q_braces (g := g) (e := e) (x0 := (f am_SC (i + 1))) (x1 := (bz (f am_SC (i + 2)))) hI hT (bz_b _)
  refine ⟨f2, g2, p1, ?_, hI2, hT2⟩
  refine (am_bl 5 (f' := (327, 1723, [.retAddr 1, .ref 0, .ref 177, .ref 191, .int (nI i), .retAddr 0, .retAddr 0], [.int (nI i + 1), .retAddr 1, .ref 0])) rfl).trans ?_
  refine Eq.trans (b := am_runs (327, 1724, [.retAddr 1, .ref 0, .ref 177, .ref 191, .int (nI i), .retAddr 0, .retAddr 0], [.int (f am_SC (i + 1)), .ref 0]) (f, g, p, d, e)) (rr_sc rfl hD hL (sx1 i) (by omega) rfl) ?_
  refine (am_bl 4 (f' := (327, 1729, [.retAddr 1, .ref 0, .ref 177, .ref 191, .int (nI i), .retAddr 0, .retAddr 0], [.int (nI i + 2), .retAddr 1, .int (f am_SC (i + 1)), .ref 0])) rfl).trans ?_
  refine Eq.trans (b := am_runs (327, 1730, [.retAddr 1, .ref 0, .ref 177, .ref 191, .int (nI i), .retAddr 0, .retAddr 0], [.int (f am_SC (i + 2)), .int (f am_SC (i + 1)), .ref 0]) (f, g, p, d, e)) (rr_sc rfl hD hL (sx2 i) (by omega) rfl) ?_
  refine Eq.trans (b := am_runs (327, 1738, [.retAddr 1, .ref 0, .ref 177, .ref 191, .int (nI i), .retAddr 0, .retAddr 0], [.int (bz (f am_SC (i + 2))), .int (f am_SC (i + 1)), .ref 0]) (f, g, p, d, e)) ((ri_eq rfl).trans (jz (fun y => am_runs (327, 1738, [.retAddr 1, .ref 0, .ref 177, .ref 191, .int (nI i), .retAddr 0, .retAddr 0], [.int y, .int (f am_SC (i + 1)), .ref 0]) (f, g, p, d, e)) (am_bl 1 (f' := (327, 1738, [.retAddr 1, .ref 0, .ref 177, .ref 191, .int (nI i), .retAddr 0, .retAddr 0], [.int 0, .int (f am_SC (i + 1)), .ref 0])) rfl) (am_bl 2 (f' := (327, 1738, [.retAddr 1, .ref 0, .ref 177, .ref 191, .int (nI i), .retAddr 0, .retAddr 0], [.int 1, .int (f am_SC (i + 1)), .ref 0])) rfl))) ?_
  refine Eq.trans (b := am_runs (327, 1741, [.retAddr 1, .ref 0, .ref 177, .ref 191, .int (nI i), .retAddr 0, .retAddr 0], [.int x]) (f1, g1, p1, d, e)) (ar_cV rfl rfl rfl rfl rfl rfl rfl (t0_k hT rfl) rfl k1) ?_
  refine (am_bl 5 (f' := (327, 1747, [.retAddr 1, .ref 0, .ref 177, .ref 191, .int (nI i), .retAddr 0, .retAddr 0], [.int (nI i + 1), .retAddr 1, .ref 177, .int x])) rfl).trans ?_
  refine Eq.trans (b := am_runs (327, 1748, [.retAddr 1, .ref 0, .ref 177, .ref 191, .int (nI i), .retAddr 0, .retAddr 0], [.int (f am_SC (i + 1)), .ref 177, .int x]) (f1, g1, p1, d, e)) (rr_sc rfl hD hL (sx1 i) (by omega) (congrFun hs1 _)) ?_
  refine (am_bl 4 (f' := (327, 1753, [.retAddr 1, .ref 0, .ref 177, .ref 191, .int (nI i), .retAddr 0, .retAddr 0], [.int (nI i + 2), .retAddr 1, .int (f am_SC (i + 1)), .ref 177, .int x])) rfl).trans ?_
  refine Eq.trans (b := am_runs (327, 1754, [.retAddr 1, .ref 0, .ref 177, .ref 191, .int (nI i), .retAddr 0, .retAddr 0], [.int (f am_SC (i + 2)), .int (f am_SC (i + 1)), .ref 177, .int x]) (f1, g1, p1, d, e)) (rr_sc rfl hD hL (sx2 i) (by omega) (congrFun hs1 _)) ?_
  refine Eq.trans (b := am_runs (327, 1762, [.retAddr 1, .ref 0, .ref 177, .ref 191, .int (nI i), .retAddr 0, .retAddr 0], [.int (bz (f am_SC (i + 2))), .int (f am_SC (i + 1)), .ref 177, .int x]) (f1, g1, p1, d, e)) ((ri_eq rfl).trans (jz (fun y => am_runs (327, 1762, [.retAddr 1, .ref 0, .ref 177, .ref 191, .int (nI i), .retAddr 0, .retAddr 0], [.int y, .int (f am_SC (i + 1)), .ref 177, .int x]) (f1, g1, p1, d, e)) (am_bl 1 (f' := (327, 1762, [.retAddr 1, .ref 0, .ref 177, .ref 191, .int (nI i), .retAddr 0, .retAddr 0], [.int 0, .int (f am_SC (i + 1)), .ref 177, .int x])) rfl) (am_bl 2 (f' := (327, 1762, [.retAddr 1, .ref 0, .ref 177, .ref 191, .int (nI i), .retAddr 0, .retAddr 0], [.int 1, .int (f am_SC (i + 1)), .ref 177, .int x])) rfl))) ?_
  refine Eq.trans (b := am_runs (327, 1765, [.retAddr 1, .ref 0, .ref 177, .ref 191, .int (nI i), .retAddr 0, .retAddr 0], [.int x, .int x]) (f2, g2, p1, d, e)) (ar_cV rfl rfl rfl rfl rfl rfl rfl (t0_k hT rfl) rfl k2) ?_
  exact (rj_eq rfl).trans (if_pos rfl)
set_option maxRecDepth 20000 in
theorem c_move {f : Nat → Nat → Int32} {g : Nat → Nat → Int64} {p : Nat → Nat → Option Nat} {d : Nat → Nat × Nat} {e : Nat × Nat} {Ln i : Nat} (hI : Inv f p) (hT : am_T0 p d) (hD : d am_SC = (18, Ln)) (hL : Ln ≤ 3072) (hi : i + 6 ≤ Ln) : StepE f g p d e 1770 i := by
  obtain ⟨x, f1, g1, p1, f2, g2, k1, k2, hI2, hT2, hs1, hs2⟩ := q_move (g := g) (e := e) (x0 := (f am_SC (i + 1))) (x1 := (f am_SC (i + 2))) hI hT 
  refine ⟨f2, g2, p1, ?_, hI2, hT2⟩
  refine (am_bl 5 (f' := (327, 1776, [.retAddr 1, .ref 0, .ref 177, .ref 191, .int (nI i), .retAddr 0, .retAddr 0], [.int (nI i + 1), .retAddr 1, .ref 0])) rfl).trans ?_
  refine Eq.trans (b := am_runs (327, 1777, [.retAddr 1, .ref 0, .ref 177, .ref 191, .int (nI i), .retAddr 0, .retAddr 0], [.int (f am_SC (i + 1)), .ref 0]) (f, g, p, d, e)) (rr_sc rfl hD hL (sx1 i) (by omega) rfl) ?_
  refine (am_bl 4 (f' := (327, 1782, [.retAddr 1, .ref 0, .ref 177, .ref 191, .int (nI i), .retAddr 0, .retAddr 0], [.int (nI i + 2), .retAddr 1, .int (f am_SC (i + 1)), .ref 0])) rfl).trans ?_
  refine Eq.trans (b := am_runs (327, 1783, [.retAddr 1, .ref 0, .ref 177, .ref 191, .int (nI i), .retAddr 0, .retAddr 0], [.int (f am_SC (i + 2)), .int (f am_SC (i + 1)), .ref 0]) (f, g, p, d, e)) (rr_sc rfl hD hL (sx2 i) (by omega) rfl) ?_
  refine Eq.trans (b := am_runs (327, 1786, [.retAddr 1, .ref 0, .ref 177, .ref 191, .int (nI i), .retAddr 0, .retAddr 0], [.int x]) (f1, g1, p1, d, e)) (ar_cV rfl rfl rfl rfl rfl rfl rfl (t0_k hT rfl) rfl k1) ?_
  refine (am_bl 5 (f' := (327, 1792, [.retAddr 1, .ref 0, .ref 177, .ref 191, .int (nI i), .retAddr 0, .retAddr 0], [.int (nI i + 1), .retAddr 1, .ref 177, .int x])) rfl).trans ?_
  refine Eq.trans (b := am_runs (327, 1793, [.retAddr 1, .ref 0, .ref 177, .ref 191, .int (nI i), .retAddr 0, .retAddr 0], [.int (f am_SC (i + 1)), .ref 177, .int x]) (f1, g1, p1, d, e)) (rr_sc rfl hD hL (sx1 i) (by omega) (congrFun hs1 _)) ?_
  refine (am_bl 4 (f' := (327, 1798, [.retAddr 1, .ref 0, .ref 177, .ref 191, .int (nI i), .retAddr 0, .retAddr 0], [.int (nI i + 2), .retAddr 1, .int (f am_SC (i + 1)), .ref 177, .int x])) rfl).trans ?_
  refine Eq.trans (b := am_runs (327, 1799, [.retAddr 1, .ref 0, .ref 177, .ref 191, .int (nI i), .retAddr 0, .retAddr 0], [.int (f am_SC (i + 2)), .int (f am_SC (i + 1)), .ref 177, .int x]) (f1, g1, p1, d, e)) (rr_sc rfl hD hL (sx2 i) (by omega) (congrFun hs1 _)) ?_
  refine Eq.trans (b := am_runs (327, 1802, [.retAddr 1, .ref 0, .ref 177, .ref 191, .int (nI i), .retAddr 0, .retAddr 0], [.int x, .int x]) (f2, g2, p1, d, e)) (ar_cV rfl rfl rfl rfl rfl rfl rfl (t0_k hT rfl) rfl k2) ?_
  exact (rj_eq rfl).trans (if_pos rfl)
set_option maxRecDepth 20000 in
theorem c_seed {f : Nat → Nat → Int32} {g : Nat → Nat → Int64} {p : Nat → Nat → Option Nat} {d : Nat → Nat × Nat} {e : Nat × Nat} {Ln i : Nat} (hI : Inv f p) (hT : am_T0 p d) (hD : d am_SC = (18, Ln)) (hL : Ln ≤ 3072) (hi : i + 6 ≤ Ln) : StepE f g p d e 1807 i := by
  obtain ⟨x, f1, g1, p1, f2, g2, k1, k2, hI2, hT2, hs1, hs2⟩ := q_seed (g := g) (e := e) (x0 := (f am_SC (i + 1))) hI hT 
  refine ⟨f2, g2, p1, ?_, hI2, hT2⟩
  refine (am_bl 5 (f' := (327, 1813, [.retAddr 1, .ref 0, .ref 177, .ref 191, .int (nI i), .retAddr 0, .retAddr 0], [.int (nI i + 1), .retAddr 1, .ref 0])) rfl).trans ?_
  refine Eq.trans (b := am_runs (327, 1814, [.retAddr 1, .ref 0, .ref 177, .ref 191, .int (nI i), .retAddr 0, .retAddr 0], [.int (f am_SC (i + 1)), .ref 0]) (f, g, p, d, e)) (rr_sc rfl hD hL (sx1 i) (by omega) rfl) ?_
  refine Eq.trans (b := am_runs (327, 1817, [.retAddr 1, .ref 0, .ref 177, .ref 191, .int (nI i), .retAddr 0, .retAddr 0], [.int x]) (f1, g1, p1, d, e)) (ar_cV rfl rfl rfl rfl rfl rfl rfl (t0_k hT rfl) rfl k1) ?_
  refine (am_bl 5 (f' := (327, 1823, [.retAddr 1, .ref 0, .ref 177, .ref 191, .int (nI i), .retAddr 0, .retAddr 0], [.int (nI i + 1), .retAddr 1, .ref 177, .int x])) rfl).trans ?_
  refine Eq.trans (b := am_runs (327, 1824, [.retAddr 1, .ref 0, .ref 177, .ref 191, .int (nI i), .retAddr 0, .retAddr 0], [.int (f am_SC (i + 1)), .ref 177, .int x]) (f1, g1, p1, d, e)) (rr_sc rfl hD hL (sx1 i) (by omega) (congrFun hs1 _)) ?_
  refine Eq.trans (b := am_runs (327, 1827, [.retAddr 1, .ref 0, .ref 177, .ref 191, .int (nI i), .retAddr 0, .retAddr 0], [.int x, .int x]) (f2, g2, p1, d, e)) (ar_cV rfl rfl rfl rfl rfl rfl rfl (t0_k hT rfl) rfl k2) ?_
  exact (rj_eq rfl).trans (if_pos rfl)
set_option maxRecDepth 20000 in
theorem c_undo {f : Nat → Nat → Int32} {g : Nat → Nat → Int64} {p : Nat → Nat → Option Nat} {d : Nat → Nat × Nat} {e : Nat × Nat} {Ln i : Nat} (hI : Inv f p) (hT : am_T0 p d) (hD : d am_SC = (18, Ln)) (hL : Ln ≤ 3072) (hi : i + 6 ≤ Ln) : StepE f g p d e 1832 i := by
  obtain ⟨x, f1, g1, p1, f2, g2, k1, k2, hI2, hT2, hs1, hs2⟩ := q_undo (g := g) (e := e)  hI hT 
  refine ⟨f2, g2, p1, ?_, hI2, hT2⟩
  refine (am_bl 1 (f' := (327, 1833, [.retAddr 1, .ref 0, .ref 177, .ref 191, .int (nI i), .retAddr 0, .retAddr 0], [.ref 0])) rfl).trans ?_
  refine Eq.trans (b := am_runs (327, 1836, [.retAddr 1, .ref 0, .ref 177, .ref 191, .int (nI i), .retAddr 0, .retAddr 0], [.int x]) (f1, g1, p1, d, e)) (ar_cV rfl rfl rfl rfl rfl rfl rfl (t0_k hT rfl) rfl k1) ?_
  refine (am_bl 1 (f' := (327, 1837, [.retAddr 1, .ref 0, .ref 177, .ref 191, .int (nI i), .retAddr 0, .retAddr 0], [.ref 177, .int x])) rfl).trans ?_
  refine Eq.trans (b := am_runs (327, 1840, [.retAddr 1, .ref 0, .ref 177, .ref 191, .int (nI i), .retAddr 0, .retAddr 0], [.int x, .int x]) (f2, g2, p1, d, e)) (ar_cV rfl rfl rfl rfl rfl rfl rfl (t0_k hT rfl) rfl k2) ?_
  exact (rj_eq rfl).trans (if_pos rfl)
set_option maxRecDepth 20000 in
theorem c_image {f : Nat → Nat → Int32} {g : Nat → Nat → Int64} {p : Nat → Nat → Option Nat} {d : Nat → Nat × Nat} {e : Nat × Nat} {Ln i : Nat} (hI : Inv f p) (hT : am_T0 p d) (hD : d am_SC = (18, Ln)) (hL : Ln ≤ 3072) (hi : i + 6 ≤ Ln) : StepE f g p d e 1845 i := by
  obtain ⟨x, f1, g1, p1, f2, g2, k1, k2, hI2, hT2, hs1, hs2⟩ := q_image (g := g) (e := e)  hI hT 
  refine ⟨f2, g2, p1, ?_, hI2, hT2⟩
  refine (am_bl 1 (f' := (327, 1846, [.retAddr 1, .ref 0, .ref 177, .ref 191, .int (nI i), .retAddr 0, .retAddr 0], [.ref 0])) rfl).trans ?_
  refine Eq.trans (b := am_runs (327, 1849, [.retAddr 1, .ref 0, .ref 177, .ref 191, .int (nI i), .retAddr 0, .retAddr 0], [.int x]) (f1, g1, p1, d, e)) (ar_cV rfl rfl rfl rfl rfl rfl rfl (t0_k hT rfl) rfl k1) ?_
  refine (am_bl 1 (f' := (327, 1850, [.retAddr 1, .ref 0, .ref 177, .ref 191, .int (nI i), .retAddr 0, .retAddr 0], [.ref 177, .int x])) rfl).trans ?_
  refine Eq.trans (b := am_runs (327, 1853, [.retAddr 1, .ref 0, .ref 177, .ref 191, .int (nI i), .retAddr 0, .retAddr 0], [.int x, .int x]) (f2, g2, p1, d, e)) (ar_cV rfl rfl rfl rfl rfl rfl rfl (t0_k hT rfl) rfl k2) ?_
  exact (rj_eq rfl).trans (if_pos rfl)
set_option maxRecDepth 20000 in
theorem c_back {f : Nat → Nat → Int32} {g : Nat → Nat → Int64} {p : Nat → Nat → Option Nat} {d : Nat → Nat × Nat} {e : Nat × Nat} {Ln i : Nat} (hI : Inv f p) (hT : am_T0 p d) (hD : d am_SC = (18, Ln)) (hL : Ln ≤ 3072) (hi : i + 6 ≤ Ln) : StepE f g p d e 1858 i := by
  obtain ⟨x, f1, g1, p1, f2, g2, k1, k2, hI2, hT2, hs1, hs2⟩ := q_back (g := g) (e := e) (x0 := (f am_SC (i + 1))) hI hT 
  refine ⟨f2, g2, p1, ?_, hI2, hT2⟩
  refine (am_bl 5 (f' := (327, 1864, [.retAddr 1, .ref 0, .ref 177, .ref 191, .int (nI i), .retAddr 0, .retAddr 0], [.int (nI i + 1), .retAddr 1, .ref 0])) rfl).trans ?_
  refine Eq.trans (b := am_runs (327, 1865, [.retAddr 1, .ref 0, .ref 177, .ref 191, .int (nI i), .retAddr 0, .retAddr 0], [.int (f am_SC (i + 1)), .ref 0]) (f, g, p, d, e)) (rr_sc rfl hD hL (sx1 i) (by omega) rfl) ?_
  refine Eq.trans (b := am_runs (327, 1868, [.retAddr 1, .ref 0, .ref 177, .ref 191, .int (nI i), .retAddr 0, .retAddr 0], [.int x]) (f1, g1, p1, d, e)) (ar_cV rfl rfl rfl rfl rfl rfl rfl (t0_k hT rfl) rfl k1) ?_
  refine (am_bl 5 (f' := (327, 1874, [.retAddr 1, .ref 0, .ref 177, .ref 191, .int (nI i), .retAddr 0, .retAddr 0], [.int (nI i + 1), .retAddr 1, .ref 177, .int x])) rfl).trans ?_
  refine Eq.trans (b := am_runs (327, 1875, [.retAddr 1, .ref 0, .ref 177, .ref 191, .int (nI i), .retAddr 0, .retAddr 0], [.int (f am_SC (i + 1)), .ref 177, .int x]) (f1, g1, p1, d, e)) (rr_sc rfl hD hL (sx1 i) (by omega) (congrFun hs1 _)) ?_
  refine Eq.trans (b := am_runs (327, 1878, [.retAddr 1, .ref 0, .ref 177, .ref 191, .int (nI i), .retAddr 0, .retAddr 0], [.int x, .int x]) (f2, g2, p1, d, e)) (ar_cV rfl rfl rfl rfl rfl rfl rfl (t0_k hT rfl) rfl k2) ?_
  exact (rj_eq rfl).trans (if_pos rfl)
set_option maxRecDepth 20000 in
theorem c_size {f : Nat → Nat → Int32} {g : Nat → Nat → Int64} {p : Nat → Nat → Option Nat} {d : Nat → Nat × Nat} {e : Nat × Nat} {Ln i : Nat} (hI : Inv f p) (hT : am_T0 p d) (hD : d am_SC = (18, Ln)) (hL : Ln ≤ 3072) (hi : i + 6 ≤ Ln) : StepE f g p d e 1939 i := by
  obtain ⟨x, f1, g1, p1, f2, g2, k1, k2, hI2, hT2, hs1, hs2⟩ := q_size (g := g) (e := e) (x0 := (f am_SC (i + 1))) hI hT 
  refine ⟨f2, g2, p1, ?_, hI2, hT2⟩
  refine (am_bl 5 (f' := (327, 1945, [.retAddr 1, .ref 0, .ref 177, .ref 191, .int (nI i), .retAddr 0, .retAddr 0], [.int (nI i + 1), .retAddr 1, .ref 0])) rfl).trans ?_
  refine Eq.trans (b := am_runs (327, 1946, [.retAddr 1, .ref 0, .ref 177, .ref 191, .int (nI i), .retAddr 0, .retAddr 0], [.int (f am_SC (i + 1)), .ref 0]) (f, g, p, d, e)) (rr_sc rfl hD hL (sx1 i) (by omega) rfl) ?_
  refine Eq.trans (b := am_runs (327, 1949, [.retAddr 1, .ref 0, .ref 177, .ref 191, .int (nI i), .retAddr 0, .retAddr 0], [.int x]) (f1, g1, p1, d, e)) (ar_cV rfl rfl rfl rfl rfl rfl rfl (t0_k hT rfl) rfl k1) ?_
  refine (am_bl 5 (f' := (327, 1955, [.retAddr 1, .ref 0, .ref 177, .ref 191, .int (nI i), .retAddr 0, .retAddr 0], [.int (nI i + 1), .retAddr 1, .ref 177, .int x])) rfl).trans ?_
  refine Eq.trans (b := am_runs (327, 1956, [.retAddr 1, .ref 0, .ref 177, .ref 191, .int (nI i), .retAddr 0, .retAddr 0], [.int (f am_SC (i + 1)), .ref 177, .int x]) (f1, g1, p1, d, e)) (rr_sc rfl hD hL (sx1 i) (by omega) (congrFun hs1 _)) ?_
  refine Eq.trans (b := am_runs (327, 1959, [.retAddr 1, .ref 0, .ref 177, .ref 191, .int (nI i), .retAddr 0, .retAddr 0], [.int x, .int x]) (f2, g2, p1, d, e)) (ar_cV rfl rfl rfl rfl rfl rfl rfl (t0_k hT rfl) rfl k2) ?_
  exact (rj_eq rfl).trans (if_pos rfl)
set_option maxRecDepth 20000 in
theorem c_trouble {f : Nat → Nat → Int32} {g : Nat → Nat → Int64} {p : Nat → Nat → Option Nat} {d : Nat → Nat × Nat} {e : Nat × Nat} {Ln i : Nat} (hI : Inv f p) (hT : am_T0 p d) (hD : d am_SC = (18, Ln)) (hL : Ln ≤ 3072) (hi : i + 6 ≤ Ln) : StepE f g p d e 1964 i := by
  obtain ⟨x, f1, g1, p1, f2, g2, k1, k2, hI2, hT2, hs1, hs2⟩ := q_trouble (g := g) (e := e)  hI hT 
  refine ⟨f2, g2, p1, ?_, hI2, hT2⟩
  refine (am_bl 1 (f' := (327, 1965, [.retAddr 1, .ref 0, .ref 177, .ref 191, .int (nI i), .retAddr 0, .retAddr 0], [.ref 0])) rfl).trans ?_
  refine Eq.trans (b := am_runs (327, 1968, [.retAddr 1, .ref 0, .ref 177, .ref 191, .int (nI i), .retAddr 0, .retAddr 0], [.int x]) (f1, g1, p1, d, e)) (ar_cV rfl rfl rfl rfl rfl rfl rfl (t0_k hT rfl) rfl k1) ?_
  refine (am_bl 1 (f' := (327, 1969, [.retAddr 1, .ref 0, .ref 177, .ref 191, .int (nI i), .retAddr 0, .retAddr 0], [.ref 177, .int x])) rfl).trans ?_
  refine Eq.trans (b := am_runs (327, 1972, [.retAddr 1, .ref 0, .ref 177, .ref 191, .int (nI i), .retAddr 0, .retAddr 0], [.int x, .int x]) (f2, g2, p1, d, e)) (ar_cV rfl rfl rfl rfl rfl rfl rfl (t0_k hT rfl) rfl k2) ?_
  exact (rj_eq rfl).trans (if_pos rfl)
