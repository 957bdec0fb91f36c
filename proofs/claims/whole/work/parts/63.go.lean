/-! go: what is a place -/
def mt_isp (f : mt_S → Option (Int32 × mt_S)) : Option Int32 := match f mt_Z0 with
  | some (r, _) => some r
  | none => none
def mt_ipQ : Bool := (List.range 21).all (fun a => (List.range 21).all (fun b => match mt_isp (f_X10_isPlace (uI (a + 1)) (uI (b + 1))), mt_isp (f_X11_isPlace (uI (a + 1)) (uI (b + 1))) with
  | some r, some s => (decide (r = 0) && decide (s = 0)) || (decide (r = 1) && decide (s = 1) && mt_PL.any (fun y => decide (y.1 = uI (a + 1)) && decide (y.2.1 = uI (b + 1))))
  | _, _ => false))
theorem mt_ipQ_t : mt_ipQ = true := by decide +kernel
theorem mt_isp_C {p q r : Int32} (h : mt_isp (f_X10_isPlace p q) = some r) (T : mt_S) : f_X10_isPlace p q T = some (r, T) := by
  unfold mt_isp at h
  cases e : f_X10_isPlace p q mt_Z0 with
  | none => rw [e] at h; cases h
  | some z =>
    obtain ⟨r2, Z⟩ := z
    rw [e] at h
    cases h
    exact mt_pureR T (fun _ _ _ hp h => (ov_X10_isPlace hp h).1) e
theorem mt_isp_M {p q r : Int32} (h : mt_isp (f_X11_isPlace p q) = some r) (T : mt_S) : f_X11_isPlace p q T = some (r, T) := by
  unfold mt_isp at h
  cases e : f_X11_isPlace p q mt_Z0 with
  | none => rw [e] at h; cases h
  | some z =>
    obtain ⟨r2, Z⟩ := z
    rw [e] at h
    cases h
    exact mt_pureR T (fun _ _ _ hp h => (ov_X11_isPlace hp h).1) e
