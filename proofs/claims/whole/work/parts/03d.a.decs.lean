/-! CHECKS of the code: each row of a method's list is what its bytes decode to, and links as the tables say -/
def am_fetch (q pc : Nat) : Option (Instr × Nat × am_I) := am_find (am_code q) pc
def am_len (i : Instr) : Nat := match i with
  | .iload _ | .lload _ | .aload _ | .istore _ | .lstore _ | .astore _ | .bipush _ | .ldc _ | .newarray _ => 2
  | .sipush _ | .ldc_w _ | .ldc2_w _ | .iinc _ _ | .goto _ | .ifCond _ _ | .if_icmp _ _ | .getfield _ | .putfield _ | .new _ | .anewarray _ | .invokestatic _ | .invokespecial _ | .invokevirtual _ => 3
  | _ => 1
def am_hasM (o idx c n k1 k2 ci : Nat) : Bool := am_lkM.any fun x => x.1 == o && x.2.1 == idx && x.2.2.1 == c && x.2.2.2.1 == n && (x.2.2.2.2.1 == k1 || x.2.2.2.2.1 == k2) && x.2.2.2.2.2.1 == ci
def am_hasF (o idx ci k : Nat) : Bool := am_lkF.any fun x => x.1 == o && x.2.1 == idx && x.2.2.1 == ci && x.2.2.2.1 == k
def am_hasC (o idx ci : Nat) : Bool := am_lkC.any fun x => x.1 == o && x.2.1 == idx && x.2.2.1 == ci
def am_hasI (o idx v : Nat) : Bool := am_lkI.any fun x => x.1 == o && x.2.1 == idx && x.2.2.1 == v
def am_hasS (o idx v : Nat) : Bool := am_lkS.any fun x => x.1 == o && x.2.1 == idx && x.2.2.1 == v
def am_hasJ (o idx v g : Nat) : Bool := am_lkJ.any fun x => x.1 == o && x.2.1 == idx && x.2.2.1 == v && x.2.2.2.1 == g
/-- the entries of what isn't a method of the tables: class, entry, number, place among the words -/
def am_lkX : List (Nat × Nat × Nat × Nat) := [(0, 3, 9000, 546), (1, 3, 9000, 234), (1, 48, 9005, 1223), (2, 3, 9000, 162), (3, 3, 9000, 445), (3, 37, 9006, 1309), (4, 3, 9000, 156), (5, 3, 9000, 472), (6, 3, 9000, 400), (6, 46, 9003, 1036), (6, 68, 9005, 904), (7, 1, 9000, 168), (8, 3, 9000, 150), (9, 3, 9000, 522), (9, 52, 9003, 1092), (10, 3, 9000, 350), (10, 35, 9001, 657), (10, 40, 9002, 667), (11, 1, 9000, 142), (12, 1, 9000, 1435), (12, 101, 9001, 1645), (12, 107, 9002, 1646), (13, 232, 9004, 1357)]
def am_hasX (o idx c : Nat) : Bool := am_lkX.any fun x => x.1 == o && x.2.1 == idx && x.2.2.1 == c
def am_ik (o : Nat) (ret : Option FieldType) (nm : String) (pc : Nat) (i : Instr) (n : Nat) (inf : am_I) : Bool := match i with
  | .getfield idx => n == 3 && am_hasF o idx inf.1 inf.2.1 && am_tt inf.1 inf.2.1 == inf.2.2 && decide (inf.1 < 13 ∧ inf.2.1 < am_N inf.1)
  | .putfield idx => n == 3 && am_hasF o idx inf.1 inf.2.1 && am_tt inf.1 inf.2.1 == inf.2.2 && decide (inf.1 < 13 ∧ inf.2.1 < am_N inf.1) && (!(am_TT inf.1 inf.2.1).2.2.2 || decide (nm = "<init>" ∧ (am_TT inf.1 inf.2.1).1 = am_own o))
  | .invokestatic idx => n == 3 && (if inf.1 < 9000 then am_hasM o idx inf.1 inf.2.1 1 4 13 else am_hasX o idx inf.1 && decide (9003 ≤ inf.1))
  | .invokespecial idx => n == 3 && (if inf.1 < 9000 then am_hasM o idx inf.1 inf.2.1 2 5 13 else am_hasX o idx inf.1 && inf.1 == 9000)
  | .invokevirtual idx => n == 3 && (if inf.1 < 9000 then am_hasM o idx inf.1 inf.2.1 0 3 inf.2.2 else inf.1 == 9999 || (am_hasX o idx inf.1 && (inf.1 == 9001 || inf.1 == 9002)))
  | .new idx => n == 3 && am_hasC o idx inf.1 && decide (inf.1 < 13)
  | .anewarray idx => n == 3 && am_hasC o idx 6 && inf.1 == 17
  | .newarray t => n == 2 && (match t with
    | .byte => inf.1 == 13
    | .int => inf.1 == 14
    | .long => inf.1 == 15
    | .boolean => inf.1 == 16
    | _ => false)
  | .goto off => n == 3 && decide ((pc : Int) + off = (inf.1 : Int))
  | .ifCond _ off => n == 3 && decide ((pc : Int) + off = (inf.1 : Int))
  | .if_icmp _ off => n == 3 && decide ((pc : Int) + off = (inf.1 : Int))
  | .ldc idx => n == 2 && (if inf.2.2 = 7 then am_hasS o idx inf.1 else am_hasI o idx inf.1)
  | .ldc_w idx => n == 3 && (if inf.2.2 = 7 then am_hasS o idx inf.1 else am_hasI o idx inf.1)
  | .ldc2_w idx => n == 3 && am_hasJ o idx inf.1 inf.2.1
  | .ireturn => n == 1 && decide ((ret = some .int ∧ inf.1 = 0) ∨ (ret = some .boolean ∧ inf.1 = 1))
  | .lreturn => n == 1 && decide (ret = some .long)
  | .areturn => n == 1 && decide (ret = some (.object "TenthBean$Legion"))
  | .return_ => n == 1 && decide (ret = none)
  | .tableswitch _ _ _ _ => true
  | .lookupswitch _ ps => (ps.toList.zip (ps.toList.drop 1)).all (fun (a, next) => a.1 < next.1)
  | i => n == am_len i
def am_okE2 (cc : ByteArray) (o : Nat) (ret : Option FieldType) (nm : String) (e : Nat × Instr × Nat × am_I) : Bool := decide (decode cc e.1 = .ok (e.2.1, e.2.2.1)) && am_ik o ret nm e.1 e.2.1 e.2.2.1 e.2.2.2
def am_okE (q : Nat) (e : Nat × Instr × Nat × am_I) : Bool := am_okE2 (am_ms q).2.1 (am_ms q).2.2.2.2 (am_ms q).2.2.2.1 (am_ms q).1.name e
theorem am_all_app {α : Type} {p : α → Bool} {l : List α} (n : Nat) (h1 : (l.take n).all p = true) (h2 : (l.drop n).all p = true) : l.all p = true := by
  rw [← List.take_append_drop n l, List.all_append, h1, h2]; rfl
theorem am_dd {α : Type} {p : α → Bool} {l : List α} (a n : Nat) (h : (l.drop (a + n)).all p = true) : ((l.drop a).drop n).all p = true := by
  rw [List.drop_drop]; exact h
