/-! the reference's triples: closed -/
def mt_GL : List mt_T3 := (mt_gr 45 1 2 5).getD []
def mt_gaQ (n : Int64) (m : Nat) (r : mt_R4) (l : List mt_T3) : Bool := decide (mt_rw4 n 0 mt_TT = uI m) && decide (mt_cg n 0 mt_TT = 1) && decide (l.foldl (mt_sA n) (0, 0, 0) = (1, r.1, r.2.1)) && decide (5 ≤ n) && decide (n ≤ 1000000000000) && (match f_X11_down r.1 r.2.1 n mt_Z0 with
  | some (k, _) => decide (k = r.2.2.2)
  | none => false)
def mt_gqQ : Bool := match mt_gr 45 1 2 5 with
  | some l => decide (l.length ≤ 200) && decide (l.foldl mt_sN [1, 2] = mt_TN) && decide (l.map (fun t => t.2.2) |>.all (fun z => mt_TT.any (fun r => decide (r.2.2.1 = z)))) && (List.range mt_TT.length).all (fun m => match mt_TT[m]? with
    | some r => mt_gaQ r.2.2.1 m r l
    | none => false)
  | none => false
theorem mt_gqQ_t : mt_gqQ = true := by decide +kernel
def mt_ri (n : Int64) : Nat → List Int64 → Int32
  | _, [] => -1
  | i, v :: l => if v = n then uI i else mt_ri n (i + 1) l
theorem mt_riQ : (List.range mt_TN.length).all (fun m => decide (mt_cu (mt_TN.getD m 0) mt_TN = m + 1) && decide (mt_ri (mt_TN.getD m 0) 0 mt_TN = uI m)) = true := by decide +kernel
