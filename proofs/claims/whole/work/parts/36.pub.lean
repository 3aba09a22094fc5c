/-! CALLS: answer and trouble, class beside reference -/
theorem refused1 (t : Int32) : (D_X11_refused t).1 = 0 ↔ t = 0 := by
  unfold D_X11_refused
  by_cases h : t = 0
  · rw [if_pos h]; exact ⟨fun _ => h, fun _ => rfl⟩
  · rw [if_neg h]; exact ⟨fun g => absurd (show (1 : Int32) = 0 from g) (by decide), fun g => absurd g h⟩
theorem refused2 (t : Int32) : (D_X11_refused t).2 = t := rfl
theorem firstOf0 (x : Int32) : D_X11_firstOf 0 x = x := if_pos rfl
theorem firstOfN {t : Int32} (h : ¬ t = 0) (x : Int32) : D_X11_firstOf t x = t := if_neg h
section PUB
variable {M : Nat} {holds oneIn fear mutiny tens present braced seed x0 hl a b c : Int32} {kind nerve friendsOf fearTimes weight rr tenOf feared angerOf lotsOf st : Nat → Int32}
theorem start_why (hM : M ≤ 8) (hh : hl = 0 ↔ tens = 0) (hp : present = st (0 + 27)) (hs : sub_men present M) : (D_X12_startWhy x0 hl rr a b c st).1 = D_X11_troubleOfStart x0 tens present ∧ (D_X11_troubleOfStart x0 tens present = 0 → (D_X12_startWhy x0 hl rr a b c st).2 = (rr 2, (-1), 0) ∧ x0 &&& (present ^^^ (-1)) = 0 ∧ ¬ hl = 0) := by
  unfold D_X12_startWhy D_X11_troubleOfStart D_X11_troubleOfLegion
  rw [← show present = st 27 from hp]
  by_cases h0 : hl = 0
  · rw [if_pos h0, if_pos (hh.mp h0)]
    refine ⟨rfl, fun g => ?_⟩
    rw [firstOfN (by decide)] at g
    exact absurd g (by decide)
  · rw [if_neg h0, if_neg (fun g => h0 (hh.mpr g)), firstOf0]
    unfold D_X11_isPart
    by_cases hx : x0 &&& (present ^^^ (-1)) = 0
    · rw [if_pos hx, if_pos hx, if_neg (show ¬ (1 : Int32) = 0 by decide), if_neg (sm_pos (sub_sm hM (sub_of hx hs)))]
      exact ⟨rfl, fun _ => ⟨rfl, hx, h0⟩⟩
    · rw [if_neg hx, if_neg hx, if_pos rfl]
      refine ⟨?_, fun g => absurd g (by decide)⟩
      by_cases h2 : x0 < 0
      · rw [if_pos h2]
      · rw [if_neg h2]
theorem pub_there (hh : hl = 0 ↔ tens = 0) (hp : present = st (0 + 27)) : D_X11_there tens present = ((D_X12_there hl st).1, (D_X12_there hl st).2.2) := by
  unfold D_X11_there D_X11_there_a1 D_X12_there D_X12_there_j1 D_X12_there_a1 D_X12_there_a2 D_X11_troubleOfLegion
  by_cases h0 : hl = 0
  · rw [if_pos h0, if_pos (hh.mp h0)]; rfl
  · rw [if_neg h0, if_neg (fun g => h0 (hh.mpr g))]
    show (present, (0 : Int32)) = (st 27, 0)
    rw [hp]
theorem pub_anger (hL : LegR M holds oneIn fear mutiny tens kind nerve friendsOf fearTimes weight rr) (hN : NowR M 0 present braced seed tenOf feared angerOf lotsOf st) (hs : sub_men present M) (hh : hl = 0 ↔ tens = 0) : D_X11_anger tens present angerOf = ((D_X12_anger hl rr st).1, (D_X12_anger hl rr st).2.2) := by
  unfold D_X11_anger D_X11_anger_a1 D_X12_anger D_X12_anger_j1 D_X12_anger_a1 D_X12_anger_a2 D_X11_troubleOfLegion
  by_cases h0 : hl = 0
  · rw [if_pos h0, if_pos (hh.mp h0)]; rfl
  · rw [if_neg h0, if_neg (fun g => h0 (hh.mpr g))]
    show (D_X6_angerOfAll present angerOf, (0 : Int32)) = (D_X12_angerOf 0 rr st, 0)
    rw [anger_eq hL.M8 hL.r5 hN.1 hs hN.2.2.2.2.2.1]
theorem pub_mutiny (hL : LegR M holds oneIn fear mutiny tens kind nerve friendsOf fearTimes weight rr) (hN : NowR M 0 present braced seed tenOf feared angerOf lotsOf st) (hs : sub_men present M) (hh : hl = 0 ↔ tens = 0) : D_X11_mutiny tens present angerOf mutiny = ((D_X12_mutiny hl rr st).1, (D_X12_mutiny hl rr st).2.2) := by
  unfold D_X11_mutiny D_X11_mutiny_a1 D_X12_mutiny D_X12_mutiny_j1 D_X12_mutiny_a1 D_X12_mutiny_a2 D_X11_troubleOfLegion
  by_cases h0 : hl = 0
  · rw [if_pos h0, if_pos (hh.mp h0)]; rfl
  · rw [if_neg h0, if_neg (fun g => h0 (hh.mpr g)), if_pos ((refused1 0).mpr rfl), mutiny_eq hL.M8 hL.r5 hN.1 hs hN.2.2.2.2.2.1 hL.h3]
    by_cases h1 : D_X12_isMutiny 0 rr st = 0
    · rw [if_pos h1, if_pos h1]; rfl
    · rw [if_neg h1, if_neg h1]; rfl
theorem pub_runs (hL : LegR M holds oneIn fear mutiny tens kind nerve friendsOf fearTimes weight rr) (hN : NowR M 0 present braced seed tenOf feared angerOf lotsOf st) (hs : sub_men present M) (hh : hl = 0 ↔ tens = 0) : D_X11_runs x0 tens present braced fear weight nerve fearTimes feared = ((D_X12_runs x0 hl rr a b c st).1, (D_X12_runs x0 hl rr a b c st).2.2.1) := by
  obtain ⟨w1, w2⟩ := start_why (x0 := x0) (rr := rr) (a := a) (b := b) (c := c) hL.M8 hh hN.1 hs
  show (D_X11_runs_j1 x0 tens present braced fear weight nerve fearTimes feared, (D_X11_runs_a1 x0 tens present).2) = ((D_X12_runs_j1 x0 hl rr a b c st).1, (D_X12_runs_j1 x0 hl rr a b c st).2)
  unfold D_X11_runs_j1 D_X12_runs_j1 D_X12_runs_a3 D_X12_runs_a4 D_X12_runs_a2 D_X11_runs_a1
  rw [w1, refused2]
  by_cases h0 : D_X11_troubleOfStart x0 tens present = 0
  · obtain ⟨e, hx, -⟩ := w2 h0
    rw [if_pos ((refused1 _).mpr h0), if_pos h0, e, runFrom_rel hL hN hs hx, h0]
    rfl
  · rw [if_neg (fun g => h0 ((refused1 _).mp g)), if_neg h0]
    rfl
theorem pub_holds (hL : LegR M holds oneIn fear mutiny tens kind nerve friendsOf fearTimes weight rr) (hN : NowR M 0 present braced seed tenOf feared angerOf lotsOf st) (hs : sub_men present M) (hh : hl = 0 ↔ tens = 0) : D_X11_holds x0 tens present braced fear weight nerve fearTimes feared holds = ((D_X12_holds x0 hl rr a b c st).1, (D_X12_holds x0 hl rr a b c st).2.2.1) := by
  obtain ⟨w1, w2⟩ := start_why (x0 := x0) (rr := rr) (a := a) (b := b) (c := c) hL.M8 hh hN.1 hs
  show D_X11_holds x0 tens present braced fear weight nerve fearTimes feared holds = ((D_X12_holds_j1 x0 hl rr a b c st).1, (D_X12_holds_j1 x0 hl rr a b c st).2)
  unfold D_X11_holds D_X11_holds_a1 D_X11_holds_a2 D_X12_holds_j1 D_X12_holds_a3 D_X12_holds_a4 D_X12_holds_a2
  rw [w1, refused2]
  by_cases h0 : D_X11_troubleOfStart x0 tens present = 0
  · obtain ⟨e, hx, -⟩ := w2 h0
    rw [if_pos ((refused1 _).mpr h0), if_pos h0, e, holdFrom_rel hL hN hs hx, h0]
    show ((if D_X12_doesHold 0 x0 st rr 0 (rr 2) (-1) = 0 then 0 else 1 : Int32), (0 : Int32)) = ((if D_X12_doesHold 0 x0 st rr 0 (rr 2) (-1) = 0 then (0, D_X12_holds_a1.2) else (1, D_X12_holds_a1.2) : Int32 × Int32).1, (if D_X12_doesHold 0 x0 st rr 0 (rr 2) (-1) = 0 then (0, D_X12_holds_a1.2) else (1, D_X12_holds_a1.2) : Int32 × Int32).2)
    by_cases h1 : D_X12_doesHold 0 x0 st rr 0 (rr 2) (-1) = 0
    · rw [if_pos h1, if_pos h1]; rfl
    · rw [if_neg h1, if_neg h1]; rfl
  · rw [if_neg (fun g => h0 ((refused1 _).mp g)), if_neg h0]
    rfl
end PUB
