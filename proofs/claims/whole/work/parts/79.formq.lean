/-! the form: closed -/
def mt_l20 (b : Int64) (k j : Nat) : Option Int64 := if k = 96 then (if j = 20 then some b else if j = 21 then some 0 else none) else none
def mt_chG (y : mt_P) : Bool := decide (1000000000 < mt_en y 1) || (match f_X11_laysForm_L84 1000 96 2147483648 (mt_m [96] mt_n2 (mt_l20 (((9 * mt_en y 1) * mt_en y 1) - 4))) with
  | some (r, S') => decide (r = 1) && decide (S'.2.2.2.1 96 21 = some ((3 * mt_en y 1) - 1)) && mt_fq [96] (fun _ j => decide (j = 21)) mt_n2 (mt_l20 (((9 * mt_en y 1) * mt_en y 1) - 4)) S'
  | none => false)
theorem mt_chG_t : mt_PL.all mt_chG = true := by decide +kernel
theorem mt_en_p : mt_PL.all (fun y => decide (1 ≤ mt_en y 1)) = true := by decide +kernel
