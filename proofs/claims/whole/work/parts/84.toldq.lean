/-! told: closed -/
def mt_D8C (k j : Nat) : Bool := (decide (k = 85) && decide (j = 2)) || decide (k = 86) || decide (k = 87)
def mt_D8M (k j : Nat) : Bool := (decide (k = 96) && (decide (j = 0) || (decide (10 ≤ j) && decide (j ≤ 14)) || decide (j = 30))) || decide (k = 104) || decide (k = 107)
def mt_chT (x : mt_P) : Bool := match f_X10_told 0 (mt_m [0, 9, 10, 85, 86, 87] (mt_px x) mt_n6), f_X11_told 96 (mt_m [96, 98, 104, 107] (mt_px x) mt_n6) with
  | some (r, S), some (r2, S2) => decide (r = r2) && (List.range 45).any (fun n => decide (S.2.2.1 85 2 = some (uI n)) && decide (S2.2.2.1 96 30 = some (uI n)) && (List.range n).all (fun m => (S.2.2.1 86 m).isSome && decide (S.2.2.1 86 m = S2.2.2.1 107 m))) && mt_fq [0, 9, 10, 85, 86, 87] mt_D8C (mt_px x) mt_n6 S && mt_fq [96, 98, 104, 107] mt_D8M (mt_px x) mt_n6 S2
  | _, _ => false
theorem mt_chT_t : mt_PL.all mt_chT = true := by decide +kernel
