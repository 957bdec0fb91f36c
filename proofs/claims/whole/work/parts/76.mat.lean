/-! the matrix of a fraction, closed -/
def mt_PX : List mt_P := (0, 1, 0, 0, 0, 0, 0) :: (1, 0, 0, 0, 0, 0, 0) :: mt_PL
def mt_enL (y : mt_P) : List (Option Int64) := match f_X9_setTo 88 y.1 y.2.1 (mt_m [88] (fun _ _ => none) (fun _ _ => none)) with
  | some S => [S.2.2.2.1 88 0, S.2.2.2.1 88 1, S.2.2.2.1 88 2, S.2.2.2.1 88 3]
  | none => []
def mt_en (y : mt_P) (i : Nat) : Int64 := ((mt_enL y).getD i none).getD 0
def mt_chS (y : mt_P) : Bool := match f_X9_setTo 88 y.1 y.2.1 (mt_m [88] (fun _ _ => none) (fun _ _ => none)), f_X11_laysMatrix 96 y.1 y.2.1 (mt_m [96, 105] mt_n2 mt_n6) with
  | some S, some S' => [S.2.2.2.1 88 0, S.2.2.2.1 88 1, S.2.2.2.1 88 2, S.2.2.2.1 88 3].all (fun v => v.isSome) && decide ([S.2.2.2.1 88 0, S.2.2.2.1 88 1, S.2.2.2.1 88 2, S.2.2.2.1 88 3] = [S'.2.2.2.1 105 0, S'.2.2.2.1 105 1, S'.2.2.2.1 105 2, S'.2.2.2.1 105 3]) && mt_fq [96, 105] (fun k _ => decide (k = 105)) mt_n2 mt_n6 S'
  | _, _ => false
theorem mt_chS_t : mt_PX.all mt_chS = true := by decide +kernel
