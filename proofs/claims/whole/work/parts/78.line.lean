/-! THE READER: readLine of the reference, case by case -/
section RLINE
variable {tape le fresh : Nat → Int32} {tk ns wh en sz a0 ft plc f n x : Int32}
abbrev Z10 : Type := Int32 × Int32 × Int32 × Int32 × Int32 × Int32 × Int32 × Int32 × (Nat → Int32) × (Nat → Int32)
theorem begins_no {w : Nat} {c : Int32} (h : D_X12_isWord w 0 tk ns le = 0) : D_X12_begins w c 0 tk ns le a0 ft plc fresh = (0, 0, ft, plc) := by
  unfold D_X12_begins; rw [if_pos h]
theorem begins_ok {w : Nat} {c : Int32} (h : ¬ D_X12_isWord w 0 tk ns le = 0) (hc : ¬ c = 0) (h1 : ¬ fresh 1 = 0) : D_X12_begins w c 0 tk ns le a0 ft plc fresh = (1, 0, ft, plc) := by
  unfold D_X12_begins D_X12_begins_j2 D_X12_begins_j1; rw [if_neg h, if_neg h1, if_neg hc]
theorem begins_many {w : Nat} {c : Int32} (h : ¬ D_X12_isWord w 0 tk ns le = 0) (hc : c = 0) (h1 : ¬ fresh 1 = 0) : D_X12_begins w c 0 tk ns le a0 ft plc fresh = (1, 1, 5, a0) := by
  unfold D_X12_begins D_X12_begins_j2 D_X12_begins_j1 D_X12_begins_a1; rw [if_neg h, if_neg h1, if_pos hc, bad_0]
theorem begins_lack {w : Nat} {c : Int32} (h : ¬ D_X12_isWord w 0 tk ns le = 0) (hc : ¬ c = 0) (h1 : fresh 1 = 0) : D_X12_begins w c 0 tk ns le a0 ft plc fresh = (1, 1, 6, a0) := by
  unfold D_X12_begins D_X12_begins_j2 D_X12_begins_a2 D_X12_begins_j1; rw [if_neg h, if_pos h1, if_neg hc, bad_0]
theorem ten_f : D_X12_tenLine 1 en sz tape a0 ns wh tk le fresh ft plc = (a0, ns, wh, tk, en, le, 1, ft, plc, fresh) := by unfold D_X12_tenLine; rw [if_neg (by decide)]
theorem man_f : D_X12_manLine 1 en sz tape a0 ns wh tk le fresh ft plc = (a0, ns, wh, tk, en, le, 1, ft, plc, fresh) := by unfold D_X12_manLine; rw [if_neg (by decide)]
theorem friend_f : D_X12_friendLine 1 en sz tape a0 ns wh tk le ft plc fresh = (a0, ns, wh, tk, en, le, 1, ft, plc, fresh) := by unfold D_X12_friendLine; rw [if_neg (by decide)]
theorem helmet_f : D_X12_helmetLine_j1 fresh a0 1 ft plc = (1, ft, plc) := by
  unfold D_X12_helmetLine_j1 D_X12_helmetLine_a1; rw [bad_1]
  by_cases c : fresh 41 ≤ 0
  · rw [if_pos c]
  · rw [if_neg c]
theorem gone_f : D_X12_goneLine_j1 fresh a0 1 ft plc = (1, ft, plc) := by
  unfold D_X12_goneLine_j1 D_X12_goneLine_a1; rw [bad_1]
  by_cases c : fresh 57 ≤ 0
  · rw [if_pos c]
  · rw [if_neg c]
theorem drew_f : D_X12_drewLine_j1 1 fresh a0 ft plc = (1, ft, plc) := by unfold D_X12_drewLine_j1; rw [if_neg (by decide)]
theorem among_f : D_X12_amongLine_j1 1 fresh a0 ft plc = (1, ft, plc) := by unfold D_X12_amongLine_j1; rw [if_neg (by decide)]
theorem helmet_x (h : D_X12_helmetLine_j1 fresh a0 f n x = (1, ft, plc)) : D_X12_helmetLine fresh a0 f n x en sz tape ns wh tk le = (1, ft, plc, a0, ns, wh, tk, en, le, fresh) ∧ G_X12_helmetLine fresh a0 f n x en sz tape le := by
  unfold D_X12_helmetLine G_X12_helmetLine; rw [h, if_neg (show ¬ (1 : Int32) = 0 by decide)]
  exact ⟨rfl, fun h => absurd h (show ¬ (1 : Int32) = 0 by decide), fun h => absurd h (show ¬ (1 : Int32) = 0 by decide), fun h => absurd h (show ¬ (1 : Int32) = 0 by decide), fun h => absurd h (show ¬ (1 : Int32) = 0 by decide), fun h => absurd h (show ¬ (1 : Int32) = 0 by decide), fun h => absurd h (show ¬ (1 : Int32) = 0 by decide)⟩
theorem gone_x (h : D_X12_goneLine_j1 fresh a0 f n x = (1, ft, plc)) : D_X12_goneLine fresh a0 f n x en sz tape ns wh tk le = (1, ft, plc, a0, ns, wh, tk, en, le, fresh) ∧ G_X12_goneLine fresh a0 f n x en sz tape le := by
  unfold D_X12_goneLine G_X12_goneLine; rw [h, if_neg (show ¬ (1 : Int32) = 0 by decide)]
  exact ⟨rfl, fun h => absurd h (show ¬ (1 : Int32) = 0 by decide), fun h => absurd h (show ¬ (1 : Int32) = 0 by decide)⟩
theorem drew_x (h : D_X12_drewLine_j1 f fresh a0 n x = (1, ft, plc)) : D_X12_drewLine f fresh a0 n x en sz tape ns wh tk le = (1, ft, plc, a0, ns, wh, tk, en, le, fresh) ∧ G_X12_drewLine f fresh a0 n x en sz tape le := by
  unfold D_X12_drewLine G_X12_drewLine; rw [h, if_neg (show ¬ (1 : Int32) = 0 by decide)]
  refine ⟨rfl, ?_⟩
  repeat' apply And.intro
  all_goals exact fun h => absurd h (show ¬ (1 : Int32) = 0 by decide)
theorem among_x (h : D_X12_amongLine_j1 f fresh a0 n x = (1, ft, plc)) : D_X12_amongLine f fresh a0 n x en sz tape ns wh tk le = (1, ft, plc, a0, ns, wh, tk, en, le, fresh) ∧ G_X12_amongLine f fresh a0 n x en sz tape le := by
  unfold D_X12_amongLine G_X12_amongLine; rw [h, if_neg (show ¬ (1 : Int32) = 0 by decide)]
  refine ⟨rfl, ?_⟩
  repeat' apply And.intro
  all_goals exact fun h => absurd h (show ¬ (1 : Int32) = 0 by decide)
theorem legion_x (h : ¬ fresh 1 ≤ 0) : D_X12_legionLine fresh a0 0 ft plc en sz tape ns wh tk le = (1, 3, a0, a0, ns, wh, tk, en, le, fresh) ∧ G_X12_legionLine fresh a0 0 ft plc en sz tape le := by
  have j : D_X12_legionLine_j1 fresh a0 0 ft plc = (1, 3, a0) := by unfold D_X12_legionLine_j1 D_X12_legionLine_a1; rw [if_neg h, bad_0]
  unfold D_X12_legionLine G_X12_legionLine; rw [j, if_neg (show ¬ (1 : Int32) = 0 by decide)]
  refine ⟨rfl, ?_⟩
  repeat' apply And.intro
  all_goals exact fun h => absurd h (show ¬ (1 : Int32) = 0 by decide)
theorem G_ten_f : G_X12_tenLine 1 en sz tape le fresh ft plc := by
  unfold G_X12_tenLine
  repeat' apply And.intro
  all_goals exact fun h => absurd h (show ¬ (1 : Int32) = 0 by decide)
theorem G_man_f : G_X12_manLine 1 en sz tape le fresh ft plc := by
  unfold G_X12_manLine
  repeat' apply And.intro
  all_goals exact fun h => absurd h (show ¬ (1 : Int32) = 0 by decide)
theorem G_friend_f : G_X12_friendLine 1 en sz tape le ft plc fresh := by
  unfold G_X12_friendLine
  repeat' apply And.intro
  all_goals exact fun h => absurd h (show ¬ (1 : Int32) = 0 by decide)

theorem rl_1 {Z : Int32 × Int32 × Int32 × Int32 × Int32 × (Nat → Int32) × Int32 × Int32 × Int32 × (Nat → Int32)} (h0 : D_X12_isWord 24 0 tk ns le = 0) (hb : D_X12_begins 29 (if 3 ≤ fresh 4 then 0 else 1 : Int32) 0 tk ns le a0 ft plc fresh = (1, f, n, x)) (hZ : D_X12_tenLine f en sz tape a0 ns wh tk le fresh n x = Z) (hG : G_X12_tenLine f en sz tape le fresh n x) (gw : ∀ w, w < 47 → G_X12_isWord w 0 tk ns le) : D_X12_readLine 0 tk ns le fresh a0 ft plc en sz tape wh = (Z.2.2.2.2.2.2.1, Z.2.2.2.2.2.2.2.1, Z.2.2.2.2.2.2.2.2.1, Z.1, Z.2.1, Z.2.2.1, Z.2.2.2.1, Z.2.2.2.2.1, Z.2.2.2.2.2.1, Z.2.2.2.2.2.2.2.2.2) ∧ G_X12_readLine 0 tk ns le fresh a0 ft plc en sz tape := by
  have a1 : D_X12_readLine_a1 0 tk ns le fresh a0 ft plc = (1, f, n, x) := by unfold D_X12_readLine_a1; exact hb
  have az : D_X12_readLine_a15 0 tk ns le fresh a0 ft plc en sz tape wh = Z := by unfold D_X12_readLine_a15; rw [a1]; exact hZ
  unfold D_X12_readLine D_X12_readLine_j1 G_X12_readLine
  rw [if_pos h0, a1, az]
  dsimp only
  rw [if_neg (show ¬ (1 : Int32) = 0 by decide)]
  exact ⟨rfl, ⟨gw 24 (by decide), fun _ => gw 29 (by decide), fun _ h => absurd h (show ¬ (1 : Int32) = 0 by decide), fun _ h _ => absurd h (show ¬ (1 : Int32) = 0 by decide), fun _ h _ _ => absurd h (show ¬ (1 : Int32) = 0 by decide), fun _ h _ _ _ => absurd h (show ¬ (1 : Int32) = 0 by decide), fun _ h _ _ _ _ => absurd h (show ¬ (1 : Int32) = 0 by decide), fun _ h _ _ _ _ _ => absurd h (show ¬ (1 : Int32) = 0 by decide), fun _ h _ _ _ _ _ _ => absurd h (show ¬ (1 : Int32) = 0 by decide), fun _ h _ _ _ _ _ => absurd h (show ¬ (1 : Int32) = 0 by decide), fun _ h _ _ _ _ => absurd h (show ¬ (1 : Int32) = 0 by decide), fun _ h _ _ _ => absurd h (show ¬ (1 : Int32) = 0 by decide), fun _ h _ _ => absurd h (show ¬ (1 : Int32) = 0 by decide), fun _ h _ => absurd h (show ¬ (1 : Int32) = 0 by decide), fun _ _ => hG, fun h => absurd h0 h⟩⟩
theorem rl_2 {Z : Int32 × Int32 × Int32 × Int32 × Int32 × (Nat → Int32) × Int32 × Int32 × Int32 × (Nat → Int32)} (h0 : D_X12_isWord 24 0 tk ns le = 0) (h1 : D_X12_isWord 29 0 tk ns le = 0) (hb : D_X12_begins 30 (if 8 ≤ fresh 5 then 0 else 1 : Int32) 0 tk ns le a0 ft plc fresh = (1, f, n, x)) (hZ : D_X12_manLine f en sz tape a0 ns wh tk le fresh n x = Z) (hG : G_X12_manLine f en sz tape le fresh n x) (gw : ∀ w, w < 47 → G_X12_isWord w 0 tk ns le) : D_X12_readLine 0 tk ns le fresh a0 ft plc en sz tape wh = (Z.2.2.2.2.2.2.1, Z.2.2.2.2.2.2.2.1, Z.2.2.2.2.2.2.2.2.1, Z.1, Z.2.1, Z.2.2.1, Z.2.2.2.1, Z.2.2.2.2.1, Z.2.2.2.2.2.1, Z.2.2.2.2.2.2.2.2.2) ∧ G_X12_readLine 0 tk ns le fresh a0 ft plc en sz tape := by
  have a1 : D_X12_readLine_a1 0 tk ns le fresh a0 ft plc = (0, 0, ft, plc) := by unfold D_X12_readLine_a1; exact begins_no h1
  have a2 : D_X12_readLine_a2 0 tk ns le fresh a0 ft plc = (1, f, n, x) := by unfold D_X12_readLine_a2; rw [a1]; exact hb
  have az : D_X12_readLine_a14 0 tk ns le fresh a0 ft plc en sz tape wh = Z := by unfold D_X12_readLine_a14; rw [a2]; exact hZ
  unfold D_X12_readLine D_X12_readLine_j1 G_X12_readLine
  rw [if_pos h0, a1, a2, az]
  dsimp only
  rw [if_pos (show (0 : Int32) = 0 from rfl), if_neg (show ¬ (1 : Int32) = 0 by decide)]
  exact ⟨rfl, ⟨gw 24 (by decide), fun _ => gw 29 (by decide), fun _ _ => gw 30 (by decide), fun _ _ h => absurd h (show ¬ (1 : Int32) = 0 by decide), fun _ _ h _ => absurd h (show ¬ (1 : Int32) = 0 by decide), fun _ _ h _ _ => absurd h (show ¬ (1 : Int32) = 0 by decide), fun _ _ h _ _ _ => absurd h (show ¬ (1 : Int32) = 0 by decide), fun _ _ h _ _ _ _ => absurd h (show ¬ (1 : Int32) = 0 by decide), fun _ _ h _ _ _ _ _ => absurd h (show ¬ (1 : Int32) = 0 by decide), fun _ _ h _ _ _ _ => absurd h (show ¬ (1 : Int32) = 0 by decide), fun _ _ h _ _ _ => absurd h (show ¬ (1 : Int32) = 0 by decide), fun _ _ h _ _ => absurd h (show ¬ (1 : Int32) = 0 by decide), fun _ _ h _ => absurd h (show ¬ (1 : Int32) = 0 by decide), fun _ _ _ => hG, fun _ h => absurd rfl h, fun h => absurd h0 h⟩⟩
theorem rl_3 {Z : Int32 × Int32 × Int32 × Int32 × Int32 × (Nat → Int32) × Int32 × Int32 × Int32 × (Nat → Int32)} (h0 : D_X12_isWord 24 0 tk ns le = 0) (h1 : D_X12_isWord 29 0 tk ns le = 0) (h2 : D_X12_isWord 30 0 tk ns le = 0) (hb : D_X12_begins 31 (if 8 ≤ fresh 6 then 0 else 1 : Int32) 0 tk ns le a0 ft plc fresh = (1, f, n, x)) (hZ : D_X12_friendLine f en sz tape a0 ns wh tk le n x fresh = Z) (hG : G_X12_friendLine f en sz tape le n x fresh) (gw : ∀ w, w < 47 → G_X12_isWord w 0 tk ns le) : D_X12_readLine 0 tk ns le fresh a0 ft plc en sz tape wh = (Z.2.2.2.2.2.2.1, Z.2.2.2.2.2.2.2.1, Z.2.2.2.2.2.2.2.2.1, Z.1, Z.2.1, Z.2.2.1, Z.2.2.2.1, Z.2.2.2.2.1, Z.2.2.2.2.2.1, Z.2.2.2.2.2.2.2.2.2) ∧ G_X12_readLine 0 tk ns le fresh a0 ft plc en sz tape := by
  have a1 : D_X12_readLine_a1 0 tk ns le fresh a0 ft plc = (0, 0, ft, plc) := by unfold D_X12_readLine_a1; exact begins_no h1
  have a2 : D_X12_readLine_a2 0 tk ns le fresh a0 ft plc = (0, 0, ft, plc) := by unfold D_X12_readLine_a2; rw [a1]; exact begins_no h2
  have a3 : D_X12_readLine_a3 0 tk ns le fresh a0 ft plc = (1, f, n, x) := by unfold D_X12_readLine_a3; rw [a2]; exact hb
  have az : D_X12_readLine_a13 0 tk ns le fresh a0 ft plc en sz tape wh = Z := by unfold D_X12_readLine_a13; rw [a3]; exact hZ
  unfold D_X12_readLine D_X12_readLine_j1 G_X12_readLine
  rw [if_pos h0, a1, a2, a3, az]
  dsimp only
  rw [if_pos (show (0 : Int32) = 0 from rfl), if_pos (show (0 : Int32) = 0 from rfl), if_neg (show ¬ (1 : Int32) = 0 by decide)]
  exact ⟨rfl, ⟨gw 24 (by decide), fun _ => gw 29 (by decide), fun _ _ => gw 30 (by decide), fun _ _ _ => gw 31 (by decide), fun _ _ _ h => absurd h (show ¬ (1 : Int32) = 0 by decide), fun _ _ _ h _ => absurd h (show ¬ (1 : Int32) = 0 by decide), fun _ _ _ h _ _ => absurd h (show ¬ (1 : Int32) = 0 by decide), fun _ _ _ h _ _ _ => absurd h (show ¬ (1 : Int32) = 0 by decide), fun _ _ _ h _ _ _ _ => absurd h (show ¬ (1 : Int32) = 0 by decide), fun _ _ _ h _ _ _ => absurd h (show ¬ (1 : Int32) = 0 by decide), fun _ _ _ h _ _ => absurd h (show ¬ (1 : Int32) = 0 by decide), fun _ _ _ h _ => absurd h (show ¬ (1 : Int32) = 0 by decide), fun _ _ _ _ => hG, fun _ _ h => absurd rfl h, fun _ h => absurd rfl h, fun h => absurd h0 h⟩⟩
theorem rl_4 {Z : Z10} (h0 : D_X12_isWord 24 0 tk ns le = 0) (h1 : D_X12_isWord 29 0 tk ns le = 0) (h2 : D_X12_isWord 30 0 tk ns le = 0) (h3 : D_X12_isWord 31 0 tk ns le = 0) (hb : D_X12_begins 32 1 0 tk ns le a0 ft plc fresh = (1, f, n, x)) (hZ : D_X12_helmetLine fresh a0 f n x en sz tape ns wh tk le = Z) (hG : G_X12_helmetLine fresh a0 f n x en sz tape le) (gw : ∀ w, w < 47 → G_X12_isWord w 0 tk ns le) : D_X12_readLine 0 tk ns le fresh a0 ft plc en sz tape wh = Z ∧ G_X12_readLine 0 tk ns le fresh a0 ft plc en sz tape := by
  have a1 : D_X12_readLine_a1 0 tk ns le fresh a0 ft plc = (0, 0, ft, plc) := by unfold D_X12_readLine_a1; exact begins_no h1
  have a2 : D_X12_readLine_a2 0 tk ns le fresh a0 ft plc = (0, 0, ft, plc) := by unfold D_X12_readLine_a2; rw [a1]; exact begins_no h2
  have a3 : D_X12_readLine_a3 0 tk ns le fresh a0 ft plc = (0, 0, ft, plc) := by unfold D_X12_readLine_a3; rw [a2]; exact begins_no h3
  have a4 : D_X12_readLine_a4 0 tk ns le fresh a0 ft plc = (1, f, n, x) := by unfold D_X12_readLine_a4; rw [a3]; exact hb
  have az : D_X12_readLine_a12 0 tk ns le fresh a0 ft plc en sz tape wh = Z := by unfold D_X12_readLine_a12; rw [a4]; exact hZ
  unfold D_X12_readLine D_X12_readLine_j1 G_X12_readLine
  rw [if_pos h0, a1, a2, a3, a4, az]
  dsimp only
  rw [if_pos (show (0 : Int32) = 0 from rfl), if_pos (show (0 : Int32) = 0 from rfl), if_pos (show (0 : Int32) = 0 from rfl), if_neg (show ¬ (1 : Int32) = 0 by decide)]
  exact ⟨rfl, ⟨gw 24 (by decide), fun _ => gw 29 (by decide), fun _ _ => gw 30 (by decide), fun _ _ _ => gw 31 (by decide), fun _ _ _ _ => gw 32 (by decide), fun _ _ _ _ h => absurd h (show ¬ (1 : Int32) = 0 by decide), fun _ _ _ _ h _ => absurd h (show ¬ (1 : Int32) = 0 by decide), fun _ _ _ _ h _ _ => absurd h (show ¬ (1 : Int32) = 0 by decide), fun _ _ _ _ h _ _ _ => absurd h (show ¬ (1 : Int32) = 0 by decide), fun _ _ _ _ h _ _ => absurd h (show ¬ (1 : Int32) = 0 by decide), fun _ _ _ _ h _ => absurd h (show ¬ (1 : Int32) = 0 by decide), fun _ _ _ _ _ => hG, fun _ _ _ h => absurd rfl h, fun _ _ h => absurd rfl h, fun _ h => absurd rfl h, fun h => absurd h0 h⟩⟩
theorem rl_5 {Z : Z10} (h0 : D_X12_isWord 24 0 tk ns le = 0) (h1 : D_X12_isWord 29 0 tk ns le = 0) (h2 : D_X12_isWord 30 0 tk ns le = 0) (h3 : D_X12_isWord 31 0 tk ns le = 0) (h4 : D_X12_isWord 32 0 tk ns le = 0) (hb : D_X12_begins 33 (if 6 ≤ fresh 7 then 0 else 1 : Int32) 0 tk ns le a0 ft plc fresh = (1, f, n, x)) (hZ : D_X12_drewLine f fresh a0 n x en sz tape ns wh tk le = Z) (hG : G_X12_drewLine f fresh a0 n x en sz tape le) (gw : ∀ w, w < 47 → G_X12_isWord w 0 tk ns le) : D_X12_readLine 0 tk ns le fresh a0 ft plc en sz tape wh = Z ∧ G_X12_readLine 0 tk ns le fresh a0 ft plc en sz tape := by
  have a1 : D_X12_readLine_a1 0 tk ns le fresh a0 ft plc = (0, 0, ft, plc) := by unfold D_X12_readLine_a1; exact begins_no h1
  have a2 : D_X12_readLine_a2 0 tk ns le fresh a0 ft plc = (0, 0, ft, plc) := by unfold D_X12_readLine_a2; rw [a1]; exact begins_no h2
  have a3 : D_X12_readLine_a3 0 tk ns le fresh a0 ft plc = (0, 0, ft, plc) := by unfold D_X12_readLine_a3; rw [a2]; exact begins_no h3
  have a4 : D_X12_readLine_a4 0 tk ns le fresh a0 ft plc = (0, 0, ft, plc) := by unfold D_X12_readLine_a4; rw [a3]; exact begins_no h4
  have a5 : D_X12_readLine_a5 0 tk ns le fresh a0 ft plc = (1, f, n, x) := by unfold D_X12_readLine_a5; rw [a4]; exact hb
  have az : D_X12_readLine_a11 0 tk ns le fresh a0 ft plc en sz tape wh = Z := by unfold D_X12_readLine_a11; rw [a5]; exact hZ
  unfold D_X12_readLine D_X12_readLine_j1 G_X12_readLine
  rw [if_pos h0, a1, a2, a3, a4, a5, az]
  dsimp only
  rw [if_pos (show (0 : Int32) = 0 from rfl), if_pos (show (0 : Int32) = 0 from rfl), if_pos (show (0 : Int32) = 0 from rfl), if_pos (show (0 : Int32) = 0 from rfl), if_neg (show ¬ (1 : Int32) = 0 by decide)]
  exact ⟨rfl, ⟨gw 24 (by decide), fun _ => gw 29 (by decide), fun _ _ => gw 30 (by decide), fun _ _ _ => gw 31 (by decide), fun _ _ _ _ => gw 32 (by decide), fun _ _ _ _ _ => gw 33 (by decide), fun _ _ _ _ _ h => absurd h (show ¬ (1 : Int32) = 0 by decide), fun _ _ _ _ _ h _ => absurd h (show ¬ (1 : Int32) = 0 by decide), fun _ _ _ _ _ h _ _ => absurd h (show ¬ (1 : Int32) = 0 by decide), fun _ _ _ _ _ h _ => absurd h (show ¬ (1 : Int32) = 0 by decide), fun _ _ _ _ _ _ => hG, fun _ _ _ _ h => absurd rfl h, fun _ _ _ h => absurd rfl h, fun _ _ h => absurd rfl h, fun _ h => absurd rfl h, fun h => absurd h0 h⟩⟩
theorem rl_6 {Z : Z10} (h0 : D_X12_isWord 24 0 tk ns le = 0) (h1 : D_X12_isWord 29 0 tk ns le = 0) (h2 : D_X12_isWord 30 0 tk ns le = 0) (h3 : D_X12_isWord 31 0 tk ns le = 0) (h4 : D_X12_isWord 32 0 tk ns le = 0) (h5 : D_X12_isWord 33 0 tk ns le = 0) (hb : D_X12_begins 34 1 0 tk ns le a0 ft plc fresh = (1, f, n, x)) (hZ : D_X12_goneLine fresh a0 f n x en sz tape ns wh tk le = Z) (hG : G_X12_goneLine fresh a0 f n x en sz tape le) (gw : ∀ w, w < 47 → G_X12_isWord w 0 tk ns le) : D_X12_readLine 0 tk ns le fresh a0 ft plc en sz tape wh = Z ∧ G_X12_readLine 0 tk ns le fresh a0 ft plc en sz tape := by
  have a1 : D_X12_readLine_a1 0 tk ns le fresh a0 ft plc = (0, 0, ft, plc) := by unfold D_X12_readLine_a1; exact begins_no h1
  have a2 : D_X12_readLine_a2 0 tk ns le fresh a0 ft plc = (0, 0, ft, plc) := by unfold D_X12_readLine_a2; rw [a1]; exact begins_no h2
  have a3 : D_X12_readLine_a3 0 tk ns le fresh a0 ft plc = (0, 0, ft, plc) := by unfold D_X12_readLine_a3; rw [a2]; exact begins_no h3
  have a4 : D_X12_readLine_a4 0 tk ns le fresh a0 ft plc = (0, 0, ft, plc) := by unfold D_X12_readLine_a4; rw [a3]; exact begins_no h4
  have a5 : D_X12_readLine_a5 0 tk ns le fresh a0 ft plc = (0, 0, ft, plc) := by unfold D_X12_readLine_a5; rw [a4]; exact begins_no h5
  have a6 : D_X12_readLine_a6 0 tk ns le fresh a0 ft plc = (1, f, n, x) := by unfold D_X12_readLine_a6; rw [a5]; exact hb
  have az : D_X12_readLine_a10 0 tk ns le fresh a0 ft plc en sz tape wh = Z := by unfold D_X12_readLine_a10; rw [a6]; exact hZ
  unfold D_X12_readLine D_X12_readLine_j1 G_X12_readLine
  rw [if_pos h0, a1, a2, a3, a4, a5, a6, az]
  dsimp only
  rw [if_pos (show (0 : Int32) = 0 from rfl), if_pos (show (0 : Int32) = 0 from rfl), if_pos (show (0 : Int32) = 0 from rfl), if_pos (show (0 : Int32) = 0 from rfl), if_pos (show (0 : Int32) = 0 from rfl), if_neg (show ¬ (1 : Int32) = 0 by decide)]
  exact ⟨rfl, ⟨gw 24 (by decide), fun _ => gw 29 (by decide), fun _ _ => gw 30 (by decide), fun _ _ _ => gw 31 (by decide), fun _ _ _ _ => gw 32 (by decide), fun _ _ _ _ _ => gw 33 (by decide), fun _ _ _ _ _ _ => gw 34 (by decide), fun _ _ _ _ _ _ h => absurd h (show ¬ (1 : Int32) = 0 by decide), fun _ _ _ _ _ _ h _ => absurd h (show ¬ (1 : Int32) = 0 by decide), fun _ _ _ _ _ _ _ => hG, fun _ _ _ _ _ h => absurd rfl h, fun _ _ _ _ h => absurd rfl h, fun _ _ _ h => absurd rfl h, fun _ _ h => absurd rfl h, fun _ h => absurd rfl h, fun h => absurd h0 h⟩⟩
theorem rl_7 {Z : Z10} (h0 : D_X12_isWord 24 0 tk ns le = 0) (h1 : D_X12_isWord 29 0 tk ns le = 0) (h2 : D_X12_isWord 30 0 tk ns le = 0) (h3 : D_X12_isWord 31 0 tk ns le = 0) (h4 : D_X12_isWord 32 0 tk ns le = 0) (h5 : D_X12_isWord 33 0 tk ns le = 0) (h6 : D_X12_isWord 34 0 tk ns le = 0) (hb : D_X12_begins 35 (if 5 ≤ fresh 8 then 0 else 1 : Int32) 0 tk ns le a0 ft plc fresh = (1, f, n, x)) (hZ : D_X12_amongLine f fresh a0 n x en sz tape ns wh tk le = Z) (hG : G_X12_amongLine f fresh a0 n x en sz tape le) (gw : ∀ w, w < 47 → G_X12_isWord w 0 tk ns le) : D_X12_readLine 0 tk ns le fresh a0 ft plc en sz tape wh = Z ∧ G_X12_readLine 0 tk ns le fresh a0 ft plc en sz tape := by
  have a1 : D_X12_readLine_a1 0 tk ns le fresh a0 ft plc = (0, 0, ft, plc) := by unfold D_X12_readLine_a1; exact begins_no h1
  have a2 : D_X12_readLine_a2 0 tk ns le fresh a0 ft plc = (0, 0, ft, plc) := by unfold D_X12_readLine_a2; rw [a1]; exact begins_no h2
  have a3 : D_X12_readLine_a3 0 tk ns le fresh a0 ft plc = (0, 0, ft, plc) := by unfold D_X12_readLine_a3; rw [a2]; exact begins_no h3
  have a4 : D_X12_readLine_a4 0 tk ns le fresh a0 ft plc = (0, 0, ft, plc) := by unfold D_X12_readLine_a4; rw [a3]; exact begins_no h4
  have a5 : D_X12_readLine_a5 0 tk ns le fresh a0 ft plc = (0, 0, ft, plc) := by unfold D_X12_readLine_a5; rw [a4]; exact begins_no h5
  have a6 : D_X12_readLine_a6 0 tk ns le fresh a0 ft plc = (0, 0, ft, plc) := by unfold D_X12_readLine_a6; rw [a5]; exact begins_no h6
  have a7 : D_X12_readLine_a7 0 tk ns le fresh a0 ft plc = (1, f, n, x) := by unfold D_X12_readLine_a7; rw [a6]; exact hb
  have az : D_X12_readLine_a9 0 tk ns le fresh a0 ft plc en sz tape wh = Z := by unfold D_X12_readLine_a9; rw [a7]; exact hZ
  unfold D_X12_readLine D_X12_readLine_j1 G_X12_readLine
  rw [if_pos h0, a1, a2, a3, a4, a5, a6, a7, az]
  dsimp only
  rw [if_pos (show (0 : Int32) = 0 from rfl), if_pos (show (0 : Int32) = 0 from rfl), if_pos (show (0 : Int32) = 0 from rfl), if_pos (show (0 : Int32) = 0 from rfl), if_pos (show (0 : Int32) = 0 from rfl), if_pos (show (0 : Int32) = 0 from rfl), if_neg (show ¬ (1 : Int32) = 0 by decide)]
  exact ⟨rfl, ⟨gw 24 (by decide), fun _ => gw 29 (by decide), fun _ _ => gw 30 (by decide), fun _ _ _ => gw 31 (by decide), fun _ _ _ _ => gw 32 (by decide), fun _ _ _ _ _ => gw 33 (by decide), fun _ _ _ _ _ _ => gw 34 (by decide), fun _ _ _ _ _ _ _ => gw 35 (by decide), fun _ _ _ _ _ _ _ _ => hG, fun _ _ _ _ _ _ h => absurd rfl h, fun _ _ _ _ _ h => absurd rfl h, fun _ _ _ _ h => absurd rfl h, fun _ _ _ h => absurd rfl h, fun _ _ h => absurd rfl h, fun _ h => absurd rfl h, fun h => absurd h0 h⟩⟩
theorem rl_0 {Z : Z10} (h0 : ¬ D_X12_isWord 24 0 tk ns le = 0) (hZ : D_X12_legionLine fresh a0 0 ft plc en sz tape ns wh tk le = Z) (hG : G_X12_legionLine fresh a0 0 ft plc en sz tape le) (gw : ∀ w, w < 47 → G_X12_isWord w 0 tk ns le) : D_X12_readLine 0 tk ns le fresh a0 ft plc en sz tape wh = Z ∧ G_X12_readLine 0 tk ns le fresh a0 ft plc en sz tape := by
  have az : D_X12_readLine_a16 0 tk ns le fresh a0 ft plc en sz tape wh = Z := hZ
  unfold D_X12_readLine D_X12_readLine_j1 G_X12_readLine
  rw [if_neg h0, az]
  exact ⟨rfl, ⟨gw 24 (by decide), fun h  => absurd h h0, fun h _ => absurd h h0, fun h _ _ => absurd h h0, fun h _ _ _ => absurd h h0, fun h _ _ _ _ => absurd h h0, fun h _ _ _ _ _ => absurd h h0, fun h _ _ _ _ _ _ => absurd h h0, fun h _ _ _ _ _ _ _ => absurd h h0, fun h _ _ _ _ _ _ => absurd h h0, fun h _ _ _ _ _ => absurd h h0, fun h _ _ _ _ => absurd h h0, fun h _ _ _ => absurd h h0, fun h _ _ => absurd h h0, fun h _ => absurd h h0, fun _ => hG⟩⟩
theorem rl_8 (h0 : D_X12_isWord 24 0 tk ns le = 0) (h1 : D_X12_isWord 29 0 tk ns le = 0) (h2 : D_X12_isWord 30 0 tk ns le = 0) (h3 : D_X12_isWord 31 0 tk ns le = 0) (h4 : D_X12_isWord 32 0 tk ns le = 0) (h5 : D_X12_isWord 33 0 tk ns le = 0) (h6 : D_X12_isWord 34 0 tk ns le = 0) (h7 : D_X12_isWord 35 0 tk ns le = 0) (gw : ∀ w, w < 47 → G_X12_isWord w 0 tk ns le) : D_X12_readLine 0 tk ns le fresh a0 ft plc en sz tape wh = (1, 1, a0, a0, ns, wh, tk, en, le, fresh) ∧ G_X12_readLine 0 tk ns le fresh a0 ft plc en sz tape := by
  have a1 : D_X12_readLine_a1 0 tk ns le fresh a0 ft plc = (0, 0, ft, plc) := by unfold D_X12_readLine_a1; exact begins_no h1
  have a2 : D_X12_readLine_a2 0 tk ns le fresh a0 ft plc = (0, 0, ft, plc) := by unfold D_X12_readLine_a2; rw [a1]; exact begins_no h2
  have a3 : D_X12_readLine_a3 0 tk ns le fresh a0 ft plc = (0, 0, ft, plc) := by unfold D_X12_readLine_a3; rw [a2]; exact begins_no h3
  have a4 : D_X12_readLine_a4 0 tk ns le fresh a0 ft plc = (0, 0, ft, plc) := by unfold D_X12_readLine_a4; rw [a3]; exact begins_no h4
  have a5 : D_X12_readLine_a5 0 tk ns le fresh a0 ft plc = (0, 0, ft, plc) := by unfold D_X12_readLine_a5; rw [a4]; exact begins_no h5
  have a6 : D_X12_readLine_a6 0 tk ns le fresh a0 ft plc = (0, 0, ft, plc) := by unfold D_X12_readLine_a6; rw [a5]; exact begins_no h6
  have a7 : D_X12_readLine_a7 0 tk ns le fresh a0 ft plc = (0, 0, ft, plc) := by unfold D_X12_readLine_a7; rw [a6]; exact begins_no h7
  have a8 : D_X12_readLine_a8 0 tk ns le fresh a0 ft plc = (1, 1, a0) := by unfold D_X12_readLine_a8; rw [a7]; exact bad_0 _ _
  unfold D_X12_readLine D_X12_readLine_j1 G_X12_readLine
  rw [if_pos h0, a1, a2, a3, a4, a5, a6, a7, a8]
  dsimp only
  rw [if_pos (show (0 : Int32) = 0 from rfl), if_pos (show (0 : Int32) = 0 from rfl), if_pos (show (0 : Int32) = 0 from rfl), if_pos (show (0 : Int32) = 0 from rfl), if_pos (show (0 : Int32) = 0 from rfl), if_pos (show (0 : Int32) = 0 from rfl), if_pos (show (0 : Int32) = 0 from rfl)]
  exact ⟨rfl, ⟨gw 24 (by decide), fun _ => gw 29 (by decide), fun _ _ => gw 30 (by decide), fun _ _ _ => gw 31 (by decide), fun _ _ _ _ => gw 32 (by decide), fun _ _ _ _ _ => gw 33 (by decide), fun _ _ _ _ _ _ => gw 34 (by decide), fun _ _ _ _ _ _ _ => gw 35 (by decide), fun _ _ _ _ _ _ _ h => absurd rfl h, fun _ _ _ _ _ _ h => absurd rfl h, fun _ _ _ _ _ h => absurd rfl h, fun _ _ _ _ h => absurd rfl h, fun _ _ _ h => absurd rfl h, fun _ _ h => absurd rfl h, fun _ h => absurd rfl h, fun h => absurd h0 h⟩⟩
end RLINE
