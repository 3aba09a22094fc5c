/-! SHAPES: where an object's rows lie (wip/gen/shapes.py) -/
def sh_Now (μ : am_M) (a : Nat) : Prop := μ.2.2.2.1 a = (6, 0) ∧ (μ.2.2.1 a 4 = some (a + 1) ∧ μ.2.2.2.1 (a + 1) = (14, 8)) ∧ (μ.2.2.1 a 5 = some (a + 2) ∧ μ.2.2.2.1 (a + 2) = (14, 8)) ∧ (μ.2.2.1 a 6 = some (a + 3) ∧ μ.2.2.2.1 (a + 3) = (14, 8)) ∧ (μ.2.2.1 a 7 = some (a + 4) ∧ μ.2.2.2.1 (a + 4) = (14, 3))
theorem sh_Now_k {μ : am_M} {a : Nat} (h : sh_Now μ a) : μ.2.2.2.1 a = (6, 0) := h.1
theorem sh_Now_p4 {μ : am_M} {a : Nat} (h : sh_Now μ a) : μ.2.2.1 a 4 = some (a + 1) := h.2.1.1
theorem sh_Now_a4 {μ : am_M} {a : Nat} (h : sh_Now μ a) : μ.2.2.2.1 (a + 1) = (14, 8) := h.2.1.2
theorem sh_Now_p5 {μ : am_M} {a : Nat} (h : sh_Now μ a) : μ.2.2.1 a 5 = some (a + 2) := h.2.2.1.1
theorem sh_Now_a5 {μ : am_M} {a : Nat} (h : sh_Now μ a) : μ.2.2.2.1 (a + 2) = (14, 8) := h.2.2.1.2
theorem sh_Now_p6 {μ : am_M} {a : Nat} (h : sh_Now μ a) : μ.2.2.1 a 6 = some (a + 3) := h.2.2.2.1.1
theorem sh_Now_a6 {μ : am_M} {a : Nat} (h : sh_Now μ a) : μ.2.2.2.1 (a + 3) = (14, 8) := h.2.2.2.1.2
theorem sh_Now_p7 {μ : am_M} {a : Nat} (h : sh_Now μ a) : μ.2.2.1 a 7 = some (a + 4) := h.2.2.2.2.1
theorem sh_Now_a7 {μ : am_M} {a : Nat} (h : sh_Now μ a) : μ.2.2.2.1 (a + 4) = (14, 3) := h.2.2.2.2.2
def sh_Hel (μ : am_M) (a : Nat) : Prop := μ.2.2.2.1 a = (2, 0) ∧ (μ.2.2.1 a 5 = some (a + 1) ∧ μ.2.2.2.1 (a + 1) = (14, 6)) ∧ (μ.2.2.1 a 6 = some (a + 2) ∧ μ.2.2.2.1 (a + 2) = (16, 6)) ∧ (μ.2.2.1 a 7 = some (a + 3) ∧ μ.2.2.2.1 (a + 3) = (7, 0)) ∧ (μ.2.2.1 a 8 = some (a + 4) ∧ μ.2.2.2.1 (a + 4) = (7, 0)) ∧ (μ.2.2.1 a 9 = some (a + 5) ∧ μ.2.2.2.1 (a + 5) = (7, 0))
theorem sh_Hel_k {μ : am_M} {a : Nat} (h : sh_Hel μ a) : μ.2.2.2.1 a = (2, 0) := h.1
theorem sh_Hel_p5 {μ : am_M} {a : Nat} (h : sh_Hel μ a) : μ.2.2.1 a 5 = some (a + 1) := h.2.1.1
theorem sh_Hel_a5 {μ : am_M} {a : Nat} (h : sh_Hel μ a) : μ.2.2.2.1 (a + 1) = (14, 6) := h.2.1.2
theorem sh_Hel_p6 {μ : am_M} {a : Nat} (h : sh_Hel μ a) : μ.2.2.1 a 6 = some (a + 2) := h.2.2.1.1
theorem sh_Hel_a6 {μ : am_M} {a : Nat} (h : sh_Hel μ a) : μ.2.2.2.1 (a + 2) = (16, 6) := h.2.2.1.2
theorem sh_Hel_p7 {μ : am_M} {a : Nat} (h : sh_Hel μ a) : μ.2.2.1 a 7 = some (a + 3) := h.2.2.2.1.1
theorem sh_Hel_a7 {μ : am_M} {a : Nat} (h : sh_Hel μ a) : μ.2.2.2.1 (a + 3) = (7, 0) := h.2.2.2.1.2
theorem sh_Hel_p8 {μ : am_M} {a : Nat} (h : sh_Hel μ a) : μ.2.2.1 a 8 = some (a + 4) := h.2.2.2.2.1.1
theorem sh_Hel_a8 {μ : am_M} {a : Nat} (h : sh_Hel μ a) : μ.2.2.2.1 (a + 4) = (7, 0) := h.2.2.2.2.1.2
theorem sh_Hel_p9 {μ : am_M} {a : Nat} (h : sh_Hel μ a) : μ.2.2.1 a 9 = some (a + 5) := h.2.2.2.2.2.1
theorem sh_Hel_a9 {μ : am_M} {a : Nat} (h : sh_Hel μ a) : μ.2.2.2.1 (a + 5) = (7, 0) := h.2.2.2.2.2.2
def sh_Ear (μ : am_M) (a : Nat) : Prop := μ.2.2.2.1 a = (1, 0) ∧ (μ.2.2.1 a 4 = some (a + 1) ∧ μ.2.2.2.1 (a + 1) = (14, 8)) ∧ (μ.2.2.1 a 5 = some (a + 2) ∧ μ.2.2.2.1 (a + 2) = (14, 5)) ∧ (μ.2.2.1 a 6 = some (a + 3) ∧ μ.2.2.2.1 (a + 3) = (14, 5))
theorem sh_Ear_k {μ : am_M} {a : Nat} (h : sh_Ear μ a) : μ.2.2.2.1 a = (1, 0) := h.1
theorem sh_Ear_p4 {μ : am_M} {a : Nat} (h : sh_Ear μ a) : μ.2.2.1 a 4 = some (a + 1) := h.2.1.1
theorem sh_Ear_a4 {μ : am_M} {a : Nat} (h : sh_Ear μ a) : μ.2.2.2.1 (a + 1) = (14, 8) := h.2.1.2
theorem sh_Ear_p5 {μ : am_M} {a : Nat} (h : sh_Ear μ a) : μ.2.2.1 a 5 = some (a + 2) := h.2.2.1.1
theorem sh_Ear_a5 {μ : am_M} {a : Nat} (h : sh_Ear μ a) : μ.2.2.2.1 (a + 2) = (14, 5) := h.2.2.1.2
theorem sh_Ear_p6 {μ : am_M} {a : Nat} (h : sh_Ear μ a) : μ.2.2.1 a 6 = some (a + 3) := h.2.2.2.1
theorem sh_Ear_a6 {μ : am_M} {a : Nat} (h : sh_Ear μ a) : μ.2.2.2.1 (a + 3) = (14, 5) := h.2.2.2.2
def sh_Leg (μ : am_M) (a : Nat) : Prop := μ.2.2.2.1 a = (4, 0) ∧ (μ.2.2.1 a 7 = some (a + 1) ∧ μ.2.2.2.1 (a + 1) = (14, 8)) ∧ (μ.2.2.1 a 8 = some (a + 2) ∧ μ.2.2.2.1 (a + 2) = (14, 8)) ∧ (μ.2.2.1 a 9 = some (a + 3) ∧ μ.2.2.2.1 (a + 3) = (14, 8)) ∧ (μ.2.2.1 a 10 = some (a + 4) ∧ μ.2.2.2.1 (a + 4) = (14, 8)) ∧ (μ.2.2.1 a 11 = some (a + 5) ∧ μ.2.2.2.1 (a + 5) = (14, 8)) ∧ (μ.2.2.1 a 12 = some (a + 6) ∧ μ.2.2.2.1 (a + 6) = (14, 8)) ∧ (μ.2.2.1 a 13 = some (a + 7) ∧ μ.2.2.2.1 (a + 7) = (2, 0)) ∧ (μ.2.2.1 a 14 = some (a + 13) ∧ μ.2.2.2.1 (a + 13) = (1, 0))
theorem sh_Leg_k {μ : am_M} {a : Nat} (h : sh_Leg μ a) : μ.2.2.2.1 a = (4, 0) := h.1
theorem sh_Leg_p7 {μ : am_M} {a : Nat} (h : sh_Leg μ a) : μ.2.2.1 a 7 = some (a + 1) := h.2.1.1
theorem sh_Leg_a7 {μ : am_M} {a : Nat} (h : sh_Leg μ a) : μ.2.2.2.1 (a + 1) = (14, 8) := h.2.1.2
theorem sh_Leg_p8 {μ : am_M} {a : Nat} (h : sh_Leg μ a) : μ.2.2.1 a 8 = some (a + 2) := h.2.2.1.1
theorem sh_Leg_a8 {μ : am_M} {a : Nat} (h : sh_Leg μ a) : μ.2.2.2.1 (a + 2) = (14, 8) := h.2.2.1.2
theorem sh_Leg_p9 {μ : am_M} {a : Nat} (h : sh_Leg μ a) : μ.2.2.1 a 9 = some (a + 3) := h.2.2.2.1.1
theorem sh_Leg_a9 {μ : am_M} {a : Nat} (h : sh_Leg μ a) : μ.2.2.2.1 (a + 3) = (14, 8) := h.2.2.2.1.2
theorem sh_Leg_p10 {μ : am_M} {a : Nat} (h : sh_Leg μ a) : μ.2.2.1 a 10 = some (a + 4) := h.2.2.2.2.1.1
theorem sh_Leg_a10 {μ : am_M} {a : Nat} (h : sh_Leg μ a) : μ.2.2.2.1 (a + 4) = (14, 8) := h.2.2.2.2.1.2
theorem sh_Leg_p11 {μ : am_M} {a : Nat} (h : sh_Leg μ a) : μ.2.2.1 a 11 = some (a + 5) := h.2.2.2.2.2.1.1
theorem sh_Leg_a11 {μ : am_M} {a : Nat} (h : sh_Leg μ a) : μ.2.2.2.1 (a + 5) = (14, 8) := h.2.2.2.2.2.1.2
theorem sh_Leg_p12 {μ : am_M} {a : Nat} (h : sh_Leg μ a) : μ.2.2.1 a 12 = some (a + 6) := h.2.2.2.2.2.2.1.1
theorem sh_Leg_a12 {μ : am_M} {a : Nat} (h : sh_Leg μ a) : μ.2.2.2.1 (a + 6) = (14, 8) := h.2.2.2.2.2.2.1.2
theorem sh_Leg_p13 {μ : am_M} {a : Nat} (h : sh_Leg μ a) : μ.2.2.1 a 13 = some (a + 7) := h.2.2.2.2.2.2.2.1.1
theorem sh_Leg_a13 {μ : am_M} {a : Nat} (h : sh_Leg μ a) : μ.2.2.2.1 (a + 7) = (2, 0) := h.2.2.2.2.2.2.2.1.2
theorem sh_Leg_p14 {μ : am_M} {a : Nat} (h : sh_Leg μ a) : μ.2.2.1 a 14 = some (a + 13) := h.2.2.2.2.2.2.2.2.1
theorem sh_Leg_a14 {μ : am_M} {a : Nat} (h : sh_Leg μ a) : μ.2.2.2.1 (a + 13) = (1, 0) := h.2.2.2.2.2.2.2.2.2
def sh_Odd (μ : am_M) (a : Nat) : Prop := μ.2.2.2.1 a = (7, 0)
theorem sh_Odd_k {μ : am_M} {a : Nat} (h : sh_Odd μ a) : μ.2.2.2.1 a = (7, 0) := h
def sh_Reg (μ : am_M) (a : Nat) : Prop := μ.2.2.2.1 a = (9, 0) ∧ (μ.2.2.1 a 1 = some (a + 1) ∧ μ.2.2.2.1 (a + 1) = (14, 8)) ∧ (μ.2.2.1 a 2 = some (a + 2) ∧ μ.2.2.2.1 (a + 2) = (14, 8)) ∧ (μ.2.2.1 a 3 = some (a + 3) ∧ μ.2.2.2.1 (a + 3) = (14, 3))
theorem sh_Reg_k {μ : am_M} {a : Nat} (h : sh_Reg μ a) : μ.2.2.2.1 a = (9, 0) := h.1
theorem sh_Reg_p1 {μ : am_M} {a : Nat} (h : sh_Reg μ a) : μ.2.2.1 a 1 = some (a + 1) := h.2.1.1
theorem sh_Reg_a1 {μ : am_M} {a : Nat} (h : sh_Reg μ a) : μ.2.2.2.1 (a + 1) = (14, 8) := h.2.1.2
theorem sh_Reg_p2 {μ : am_M} {a : Nat} (h : sh_Reg μ a) : μ.2.2.1 a 2 = some (a + 2) := h.2.2.1.1
theorem sh_Reg_a2 {μ : am_M} {a : Nat} (h : sh_Reg μ a) : μ.2.2.2.1 (a + 2) = (14, 8) := h.2.2.1.2
theorem sh_Reg_p3 {μ : am_M} {a : Nat} (h : sh_Reg μ a) : μ.2.2.1 a 3 = some (a + 3) := h.2.2.2.1
theorem sh_Reg_a3 {μ : am_M} {a : Nat} (h : sh_Reg μ a) : μ.2.2.2.1 (a + 3) = (14, 3) := h.2.2.2.2
def sh_Mod (μ : am_M) (a : Nat) : Prop := μ.2.2.2.1 a = (12, 0) ∧ (μ.2.2.1 a 1 = some (a + 1) ∧ μ.2.2.2.1 (a + 1) = (14, 1000)) ∧ (μ.2.2.1 a 12 = some (a + 2) ∧ μ.2.2.2.1 (a + 2) = (14, 8)) ∧ (μ.2.2.1 a 15 = some (a + 3) ∧ μ.2.2.2.1 (a + 3) = (14, 172)) ∧ (μ.2.2.1 a 16 = some (a + 4) ∧ μ.2.2.2.1 (a + 4) = (14, 172)) ∧ (μ.2.2.1 a 17 = some (a + 5) ∧ μ.2.2.2.1 (a + 5) = (14, 30)) ∧ (μ.2.2.1 a 18 = some (a + 6) ∧ μ.2.2.2.1 (a + 6) = (14, 480)) ∧ (μ.2.2.1 a 19 = some (a + 7) ∧ μ.2.2.2.1 (a + 7) = (14, 90)) ∧ (μ.2.2.1 a 25 = some (a + 8) ∧ μ.2.2.2.1 (a + 8) = (14, 120)) ∧ (μ.2.2.1 a 36 = some (a + 9) ∧ μ.2.2.2.1 (a + 9) = (14, 8)) ∧ (μ.2.2.1 a 37 = some (a + 10) ∧ μ.2.2.2.1 (a + 10) = (14, 8)) ∧ (μ.2.2.1 a 38 = some (a + 11) ∧ μ.2.2.2.1 (a + 11) = (14, 3)) ∧ (μ.2.2.1 a 51 = some (a + 12) ∧ μ.2.2.2.1 (a + 12) = (14, 30)) ∧ (μ.2.2.1 a 52 = some (a + 13) ∧ μ.2.2.2.1 (a + 13) = (14, 8))
theorem sh_Mod_k {μ : am_M} {a : Nat} (h : sh_Mod μ a) : μ.2.2.2.1 a = (12, 0) := h.1
theorem sh_Mod_p1 {μ : am_M} {a : Nat} (h : sh_Mod μ a) : μ.2.2.1 a 1 = some (a + 1) := h.2.1.1
theorem sh_Mod_a1 {μ : am_M} {a : Nat} (h : sh_Mod μ a) : μ.2.2.2.1 (a + 1) = (14, 1000) := h.2.1.2
theorem sh_Mod_p12 {μ : am_M} {a : Nat} (h : sh_Mod μ a) : μ.2.2.1 a 12 = some (a + 2) := h.2.2.1.1
theorem sh_Mod_a12 {μ : am_M} {a : Nat} (h : sh_Mod μ a) : μ.2.2.2.1 (a + 2) = (14, 8) := h.2.2.1.2
theorem sh_Mod_p15 {μ : am_M} {a : Nat} (h : sh_Mod μ a) : μ.2.2.1 a 15 = some (a + 3) := h.2.2.2.1.1
theorem sh_Mod_a15 {μ : am_M} {a : Nat} (h : sh_Mod μ a) : μ.2.2.2.1 (a + 3) = (14, 172) := h.2.2.2.1.2
theorem sh_Mod_p16 {μ : am_M} {a : Nat} (h : sh_Mod μ a) : μ.2.2.1 a 16 = some (a + 4) := h.2.2.2.2.1.1
theorem sh_Mod_a16 {μ : am_M} {a : Nat} (h : sh_Mod μ a) : μ.2.2.2.1 (a + 4) = (14, 172) := h.2.2.2.2.1.2
theorem sh_Mod_p17 {μ : am_M} {a : Nat} (h : sh_Mod μ a) : μ.2.2.1 a 17 = some (a + 5) := h.2.2.2.2.2.1.1
theorem sh_Mod_a17 {μ : am_M} {a : Nat} (h : sh_Mod μ a) : μ.2.2.2.1 (a + 5) = (14, 30) := h.2.2.2.2.2.1.2
theorem sh_Mod_p18 {μ : am_M} {a : Nat} (h : sh_Mod μ a) : μ.2.2.1 a 18 = some (a + 6) := h.2.2.2.2.2.2.1.1
theorem sh_Mod_a18 {μ : am_M} {a : Nat} (h : sh_Mod μ a) : μ.2.2.2.1 (a + 6) = (14, 480) := h.2.2.2.2.2.2.1.2
theorem sh_Mod_p19 {μ : am_M} {a : Nat} (h : sh_Mod μ a) : μ.2.2.1 a 19 = some (a + 7) := h.2.2.2.2.2.2.2.1.1
theorem sh_Mod_a19 {μ : am_M} {a : Nat} (h : sh_Mod μ a) : μ.2.2.2.1 (a + 7) = (14, 90) := h.2.2.2.2.2.2.2.1.2
theorem sh_Mod_p25 {μ : am_M} {a : Nat} (h : sh_Mod μ a) : μ.2.2.1 a 25 = some (a + 8) := h.2.2.2.2.2.2.2.2.1.1
theorem sh_Mod_a25 {μ : am_M} {a : Nat} (h : sh_Mod μ a) : μ.2.2.2.1 (a + 8) = (14, 120) := h.2.2.2.2.2.2.2.2.1.2
theorem sh_Mod_p36 {μ : am_M} {a : Nat} (h : sh_Mod μ a) : μ.2.2.1 a 36 = some (a + 9) := h.2.2.2.2.2.2.2.2.2.1.1
theorem sh_Mod_a36 {μ : am_M} {a : Nat} (h : sh_Mod μ a) : μ.2.2.2.1 (a + 9) = (14, 8) := h.2.2.2.2.2.2.2.2.2.1.2
theorem sh_Mod_p37 {μ : am_M} {a : Nat} (h : sh_Mod μ a) : μ.2.2.1 a 37 = some (a + 10) := h.2.2.2.2.2.2.2.2.2.2.1.1
theorem sh_Mod_a37 {μ : am_M} {a : Nat} (h : sh_Mod μ a) : μ.2.2.2.1 (a + 10) = (14, 8) := h.2.2.2.2.2.2.2.2.2.2.1.2
theorem sh_Mod_p38 {μ : am_M} {a : Nat} (h : sh_Mod μ a) : μ.2.2.1 a 38 = some (a + 11) := h.2.2.2.2.2.2.2.2.2.2.2.1.1
theorem sh_Mod_a38 {μ : am_M} {a : Nat} (h : sh_Mod μ a) : μ.2.2.2.1 (a + 11) = (14, 3) := h.2.2.2.2.2.2.2.2.2.2.2.1.2
theorem sh_Mod_p51 {μ : am_M} {a : Nat} (h : sh_Mod μ a) : μ.2.2.1 a 51 = some (a + 12) := h.2.2.2.2.2.2.2.2.2.2.2.2.1.1
theorem sh_Mod_a51 {μ : am_M} {a : Nat} (h : sh_Mod μ a) : μ.2.2.2.1 (a + 12) = (14, 30) := h.2.2.2.2.2.2.2.2.2.2.2.2.1.2
theorem sh_Mod_p52 {μ : am_M} {a : Nat} (h : sh_Mod μ a) : μ.2.2.1 a 52 = some (a + 13) := h.2.2.2.2.2.2.2.2.2.2.2.2.2.1
theorem sh_Mod_a52 {μ : am_M} {a : Nat} (h : sh_Mod μ a) : μ.2.2.2.1 (a + 13) = (14, 8) := h.2.2.2.2.2.2.2.2.2.2.2.2.2.2
