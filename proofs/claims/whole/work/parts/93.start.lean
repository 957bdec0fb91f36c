/-! the start -/
def mt_iS (k : Nat) : List (Nat × Int32) := if k = 10 then [(0, 0), (1, 1), (2, 1), (3, 0), (4, 0)] else if k = 11 then [(3, 0)] else if k = 15 then [(1, 0), (2, 0)] else if k = 84 then [(0, 0), (1, 0)] else if k = 103 then [(0, 0), (1, 0)] else if k = 1 then [(1, 0)] else if k = 85 then [(2, 0)] else if k = 3 then [(9, 0)] else if k = 90 then [(5, 0)] else if k = 96 then [(9, 0), (2, 0), (30, 0), (33, 0)] else if k = 98 then [(0, 1), (1, 1), (2, 0)] else []
def mt_stQ (S : mt_S) : Bool := decide (S.1 = 109) && (List.range 109).all (fun k => decide (S.2.1 k = mt_shN k) && decide ((mt_RT.getD k []).length ≤ 39) && (List.range 39).all (fun j => match mt_RN k j with
    | some v => decide (S.2.2.2.2 k j = some v)
    | none => true) && (mt_iS k).all (fun x => decide (S.2.2.1 k x.1 = some x.2))) && (List.range 35).all (fun j => (S.2.2.1 98 j).isSome)
def mt_iniQ : Bool := match f_X10_init 0 (mt_al mt_S0 10 10) with
  | some Sa => match f_X11_init Sa.1 (mt_al Sa 11 39) with
    | some Sb => decide (Sa.1 = 96) && decide (Sb.1 = 108) && mt_stQ (mt_al Sb 14 1)
    | none => false
  | none => false
theorem mt_iniQ_t : mt_iniQ = true := by decide +kernel
