/-! LINE, RESTS, REST; one DRAW -/
section LINE
variable {tens hl x0 x1 x2 x3 fR : Int32}
theorem in_two2 {n : Int32} {x1 : Int32} : (D_X12_in x1 0 n = 0 ∧ (if x1 < 0 then 2 else if x1 ≤ n then 0 else 2 : Int32) = 2) ∨ (D_X12_in x1 0 n = 1 ∧ (if x1 < 0 then 2 else if x1 ≤ n then 0 else 2 : Int32) = 0 ∧ ¬ x1 < 0 ∧ x1 ≤ n) := by
  unfold D_X12_in
  by_cases h0 : x1 < 0
  · rw [if_pos h0, if_pos h0]; exact Or.inl ⟨rfl, rfl⟩
  · rw [if_neg h0, if_neg h0]
    by_cases h1 : n < x1
    · rw [if_pos h1, if_neg (Int32.not_le.mpr h1)]; exact Or.inl ⟨rfl, rfl⟩
    · rw [if_neg h1, if_pos (Int32.not_lt.mp h1)]; exact Or.inr ⟨rfl, rfl, fun h => absurd h h0, Int32.not_lt.mp h1⟩
theorem dread_why (hh : hl = 0 ↔ tens = 0) : D_X12_dreadWhy x0 hl = D_X11_troubleOfDread x0 tens ∧ (D_X11_troubleOfDread x0 tens = 0 → ∃ d, d ≤ 9 ∧ x0 = nI d) := by
  unfold D_X12_dreadWhy D_X11_troubleOfDread D_X11_troubleOfLegion
  by_cases h0 : hl = 0
  · rw [if_pos h0, if_pos (hh.mp h0), firstOfN (by decide)]; exact ⟨rfl, fun h => absurd h (by decide)⟩
  · rw [if_neg h0, if_neg (fun g => h0 (hh.mpr g)), firstOf0]
    rcases in_two2 (x1 := x0) (n := 9) with ⟨g1, g2⟩ | ⟨g1, g2, g3, g4⟩
    · rw [g1, g2, if_pos rfl]; exact ⟨rfl, fun h => absurd h (by decide)⟩
    · rw [g1, g2, if_neg (by decide)]
      refine ⟨rfl, fun _ => ?_⟩
      obtain ⟨j, h1, h2⟩ := nI_of2 (n := 9) (by decide) g3 g4
      exact ⟨j, h1, h2⟩
theorem pub_line (hh : hl = 0 ↔ tens = 0) : D_X11_line x0 x1 x2 x3 tens = ((D_X12_line x0 x1 x2 x3 hl).1, (D_X12_line x0 x1 x2 x3 hl).2.2) := by
  obtain ⟨w1, -⟩ := dread_why (x0 := x0) hh
  unfold D_X11_line D_X12_line D_X11_line_a1
  rw [w1, refused2]
  by_cases h0 : D_X11_troubleOfDread x0 tens = 0
  · rw [if_pos ((refused1 _).mpr h0), if_pos h0, h0]; rfl
  · rw [if_neg (fun g => h0 ((refused1 _).mp g)), if_neg h0]
theorem rests_all : ∀ d, d < 10 → D_X11_rests_l1 (nI d) = (D_X12_seekRests (nI d)).1 ∧ am_sel (D_X11_rest_l1 (nI d)) (fun _ => (-2)) (fun u2 => (if u2 < 2 then 0 else 10 : Int32) + (u2 &&& 1)) = (D_X12_seekRests (nI d)).2 := by decide +kernel
theorem pub_rests (hh : hl = 0 ↔ tens = 0) : D_X11_rests x0 tens = ((D_X12_rests x0 hl fR).1, (D_X12_rests x0 hl fR).2.2.1) := by
  obtain ⟨w1, w2⟩ := dread_why (x0 := x0) hh
  unfold D_X11_rests D_X12_rests D_X12_rests_j1 D_X11_rests_a1 D_X12_rests_a3 D_X12_rests_a2
  rw [w1, refused2]
  by_cases h0 : D_X11_troubleOfDread x0 tens = 0
  · obtain ⟨d, d1, d2⟩ := w2 h0
    rw [if_pos ((refused1 _).mpr h0), if_pos h0, h0, d2, (rests_all d (by omega)).1]; rfl
  · rw [if_neg (fun g => h0 ((refused1 _).mp g)), if_neg h0]; rfl
theorem am_sel_map {σ ρ α β : Type} (E : σ ⊕ ρ) (f : α → β) (F : σ → α) (Y : ρ → α) : f (am_sel E F Y) = am_sel E (fun s => f (F s)) (fun r => f (Y r)) := by cases E <;> rfl
theorem pub_rest (hh : hl = 0 ↔ tens = 0) : D_X11_rest x0 tens = ((D_X12_rest x0 hl fR).1, (D_X12_rest x0 hl fR).2.2.1) := by
  obtain ⟨w1, w2⟩ := dread_why (x0 := x0) hh
  unfold D_X11_rest D_X12_rest D_X11_rest_a1 D_X12_rest_a3 D_X12_rest_a2
  rw [w1, refused2]
  by_cases h0 : D_X11_troubleOfDread x0 tens = 0
  · obtain ⟨d, d1, d2⟩ := w2 h0
    rw [if_pos ((refused1 _).mpr h0), if_pos h0, h0, d2, ← (rests_all d (by omega)).2]
    exact (am_sel_map (D_X11_rest_l1 (nI d)) (fun z => (z, (0 : Int32))) (fun _ => (-2)) (fun u2 => (if u2 < 2 then 0 else 10 : Int32) + (u2 &&& 1))).symm
  · rw [if_neg (fun g => h0 ((refused1 _).mp g)), if_neg h0]; rfl
end LINE
theorem i_bm {n : Nat} (h : n < 2 ^ 31) : ((n : Int)).bmod (2 ^ 32) = (n : Int) := Int.bmod_eq_of_le (by omega) (by omega)
theorem i_div {a b : Nat} (ha : a < 2 ^ 31) (hb : b < 2 ^ 31) : nI a / nI b = nI (a / b) := by
  have h1 : a / b < 2 ^ 31 := Nat.lt_of_le_of_lt (Nat.div_le_self a b) ha
  refine Int32.toInt_inj.mp ?_
  rw [Int32.toInt_div, nI_toInt ha, nI_toInt hb, nI_toInt h1, ← Int.ofNat_tdiv, i_bm h1]
theorem nI_sub {a b : Nat} (h : b ≤ a) : nI a - nI b = nI (a - b) := by
  obtain ⟨c, rfl⟩ : ∃ c, a = b + c := ⟨a - b, by omega⟩
  rw [← nI_add, Int32.add_comm, Int32.add_sub_cancel, show b + c - b = c by omega]
theorem i_rem {a b : Nat} (ha : a < 2 ^ 31) (hb : b < 2 ^ 31) : jrm (nI a) (nI b) = nI (a % b) := by
  unfold jrm
  rw [i_div ha hb, nI_mul, nI_sub (Nat.div_mul_le_self a b), ← Nat.mod_eq_sub_div_mul]
theorem am_fe_stay {σ ρ : Type} {f : Nat → σ → σ ⊕ ρ} {n n' : Nat} {s : σ} {r : ρ} (h : am_fe f n s = .inr r) (hn : n ≤ n') : am_fe f n' s = .inr r := by
  obtain ⟨c, rfl⟩ : ∃ c, n' = n + c := ⟨n' - n, by omega⟩
  induction c with
  | zero => exact h
  | succ c ih => rw [← Nat.add_assoc, am_fe_s, am_sel_r (ih (by omega))]
/-- the SEED behind a DRAW -/
def nxS (q : Nat) : Nat := (75 * q + 74) % 65537
theorem nxS_lt (q : Nat) : nxS q < 65537 := Nat.mod_lt _ (by decide)
theorem nxS_jrm {q : Nat} (h : q < 65537) : jrm (75 * nI q + 74) 65537 = nI (nxS q) := by
  rw [show (75 : Int32) = nI 75 from rfl, show (74 : Int32) = nI 74 from rfl, show (65537 : Int32) = nI 65537 from rfl, nI_mul, nI_add, i_rem (by omega) (by omega)]
  rfl
def bN (x : Int32) (k : Nat) : Nat := sN (b1 x) k
theorem ct_bN (x : Int32) : ct x = bN x 8 := by rw [ct_sN]; rfl
theorem draw_one {x : Int32} (hx : sm x) (h0 : 0 < ct x) {q : Nat} (hq : q < 65537) : ∃ m, m < 8 ∧ bt x m = true ∧ D_X6_drawOne x (nI q) = ((1 : Int32) <<< (nI m &&& 31), nI (nxS q)) ∧ D_X12_nextDraw (D_X12_ones x) (nI q) = (nI (nxS q % ct x), nI (nxS q)) ∧ D_X12_kth x (nI (nxS q % ct x)) = nI m ∧ am_ir (D_X12_kth_l1 x (nI (nxS q % ct x))) = true := by
  have hc := ct_le hx
  have hs := nxS_lt q
  have hl : nxS q % ct x < ct x := Nat.mod_lt _ h0
  generalize hle : nxS q % ct x = left at hl
  have key := am_fe_relI (f := st_X6_drawOne_38 x) (g := st_X12_kth_4 x (nI left)) (R := fun k s t => bN x k ≤ left ∧ s = nI (left - bN x k) ∧ t = (nI (bN x k), nI k)) (Q := fun s t => s = t ∧ ∃ m, m < 8 ∧ bt x m = true ∧ s = nI m) (n := 8) (s := nI left) (t := (0, 0)) ⟨Nat.zero_le _, rfl, rfl⟩ fun k s t hk hR => ?_
  · have hseed : D_X6_drawOne_l1 x (nI q) = am_fe (st_X6_drawOne_38 x) 8 (nI left) := by
      unfold D_X6_drawOne_l1
      rw [nxS_jrm hq, bc_ct hx, i_rem (by omega) (by omega), hle]
    rcases key with ⟨s, t, e1, e2, e3, -⟩ | ⟨s, t, e1, e2, e3, m, m1, m2, m3⟩
    · rw [← ct_bN] at e3; omega
    · refine ⟨m, m1, m2, ?_, ?_, ?_, ?_⟩
      · unfold D_X6_drawOne
        rw [bc_ct hx, if_neg (nI_ne0 h0 (by omega)), hseed, am_sel_r e1, nxS_jrm hq, m3]
      · unfold D_X12_nextDraw
        rw [nxS_jrm hq, on_ct hx, i_rem (by omega) (by omega), hle]
      · unfold D_X12_kth D_X12_kth_m1 D_X12_kth_l1
        rw [am_fe_stay e2 (show 8 ≤ 33 by omega)]
        show t = nI m
        rw [← e3]; exact m3
      · unfold D_X12_kth_l1
        rw [am_fe_stay e2 (show 8 ≤ 33 by omega)]
        rfl
  · obtain ⟨r1, r2, r3⟩ := hR
    unfold st_X6_drawOne_38 st_X12_kth_4
    rw [r3, has_eq x (by omega)]
    have hbs : bN x (k + 1) = bN x k + b1 x k := rfl
    dsimp only
    cases hb : bt x k with
    | false =>
      have h0 : D_X12_hasBit x (nI k) = 0 := (hasBit0 (by omega)).mpr hb
      have hb1 : b1 x k = 0 := by unfold b1; rw [hb]; rfl
      rw [if_pos h0, if_pos h0]
      refine Or.inl ⟨_, _, rfl, rfl, ?_, ?_, ?_⟩
      · rw [hbs, hb1]; exact r1
      · rw [hbs, hb1]; exact r2
      · rw [hbs, hb1, Nat.add_zero, Int32.add_zero, nI_1]
    | true =>
      have h0 : ¬ D_X12_hasBit x (nI k) = 0 := fun h => by rw [hasBit0 (by omega), hb] at h; cases h
      have hb1 : b1 x k = 1 := by unfold b1; rw [hb]; rfl
      rw [if_neg h0, if_neg h0, r2]
      by_cases c : left = bN x k
      · rw [if_pos (show nI (left - bN x k) = 0 by rw [c, Nat.sub_self]; rfl), if_pos (show nI left ≤ nI (bN x k) by rw [c]; exact Int32.le_refl _)]
        exact Or.inr ⟨_, _, rfl, rfl, rfl, k, hk, hb, rfl⟩
      · rw [if_neg (nI_ne0 (by omega) (by omega)), if_neg (nI_ge (by omega) (by omega))]
        refine Or.inl ⟨_, _, rfl, rfl, ?_, ?_, ?_⟩
        · rw [hbs, hb1]; omega
        · rw [hbs, hb1]
          obtain ⟨d, hd⟩ : ∃ d, left - bN x k = d + 1 := ⟨left - bN x k - 1, by omega⟩
          rw [hd, show left - (bN x k + 1) = d by omega, nI_succ, Int32.add_assoc, show (1 : Int32) + (-1) = 0 by decide, Int32.add_zero]
        · rw [hbs, hb1, nI_1, nI_1]
