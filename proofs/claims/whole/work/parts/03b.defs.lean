/-! classes, their fields, the words -/
abbrev vwCl : List vw_C := [(RX0, TX0, 3), (RX1, TX1, 7), (RX2, TX2, 13), (RX3, TX3, 5), (RX4, TX4, 15), (RX5, TX5, 11), (RX6, TX6, 8), (RX7, TX7, 2), (RX8, TX8, 7), (RX9, TX9, 5), (RX10, TX10, 5), (RX11, TX11, 13), (RX12, TX12, 54)]
def am_tts : List (List Nat) := [[2, 2, 0], [0, 0, 0, 0, 2, 2, 2], [0, 0, 0, 0, 0, 2, 2, 2, 2, 2, 0, 0, 3], [2, 2, 0, 0, 0], [0, 0, 0, 0, 0, 0, 0, 2, 2, 2, 2, 2, 2, 2, 2], [2, 0, 0, 0, 0, 0, 0, 0, 0, 0, 0], [2, 0, 0, 0, 2, 2, 2, 2], [1, 1], [2, 2, 2, 2, 3, 0, 0], [0, 2, 2, 2, 0], [2, 0, 0, 0, 0], [2, 0, 2, 2, 2, 2, 2, 2, 2, 2, 0, 0, 0], [0, 2, 0, 0, 0, 0, 0, 0, 0, 0, 0, 0, 2, 3, 3, 2, 2, 2, 2, 2, 0, 0, 0, 0, 0, 2, 1, 1, 1, 1, 1, 0, 0, 0, 1, 1, 2, 2, 2, 0, 1, 1, 1, 1, 0, 0, 0, 0, 3, 0, 0, 2, 2, 0]]
def am_tt (k i : Nat) : Nat := (am_tts.getD k []).getD i 0
def am_gw : List Cond := lw_tbl.filter goodWord
/-- the links of nest mates: class, entry, method, host -/
def am_nest : List (String × Nat × MethodName × String) := lw_tbl.filterMap fun w => match w with
  | .methodLinkNest a i y h => some (a, i, y, h)
  | _ => none
