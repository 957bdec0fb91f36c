/-! the table: pure, closed -/
abbrev mt_R4 : Type := Int64 × Int64 × Int64 × Int32
/-- the row h moves up for e -/
def mt_sh4 (e h : mt_R4) : Bool := decide (e.2.2.1 < h.2.2.1) || (decide (h.2.2.1 = e.2.2.1) && !decide (h.1 ≤ e.1))
def mt_i4i (e : mt_R4) : List mt_R4 → List mt_R4 → List mt_R4
  | [], B => e :: B
  | h :: A, B => if mt_sh4 e h = true then mt_i4i e A (h :: B) else (h :: A).reverse ++ e :: B
def mt_pnx (x y a : Int64) (s : Int32) (l : List mt_R4) : Option (List mt_R4) := if y < 1 then some l else if (3 * y) = 0 then none else if x ≤ ((1000000000000 + a) / (3 * y)) then (if l.length < 160 then some (mt_i4i (x, y, ((3 * x) * y) - a, s) l.reverse []) else none) else some l
def mt_fl : Nat → Nat → List mt_R4 → Option (List mt_R4)
  | 0, _, _ => none
  | n + 1, i, l => match l[i]? with
    | none => some l
    | some r => match mt_pnx r.1 r.2.2.1 r.2.1 (r.2.2.2 + 1) l with
      | none => none
      | some l1 => match mt_pnx r.2.1 r.2.2.1 r.1 (r.2.2.2 + 1) l1 with
        | none => none
        | some l2 => mt_fl n (i + 1) l2
theorem mt_fl_t : mt_fl 1000 0 [(1, 2, 5, 2)] = some mt_TT := by decide +kernel
/-- the numbers, the last one first -/
def mt_fn : List mt_R4 → List Int64 → List Int64
  | [], N => N
  | r :: l, N => match N with
    | [] => mt_fn l (r.2.2.1 :: N)
    | h :: _ => if r.2.2.1 = h then mt_fn l N else mt_fn l (r.2.2.1 :: N)
theorem mt_fn_t : (mt_fn mt_TT [2, 1]).reverse = mt_TN := by decide +kernel
theorem mt_TTl : mt_TT.length ≤ 158 ∧ 0 < mt_TT.length := by decide +kernel
theorem mt_TNl : mt_TN.length ≤ 160 ∧ 0 < mt_TN.length := by decide +kernel
