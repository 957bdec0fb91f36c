/-! the number of a place: program and reference -/
def mt_chN (y : mt_P) : Bool := match f_X11_numberOf 96 y.1 y.2.1 (mt_m [96, 105] (fun _ _ => none) (fun _ _ => none)) with
  | some (r, S') => decide (r = mt_num y) && (List.range 39).all (fun j => decide (S'.2.2.1 96 j = none) && decide (S'.2.2.2.1 96 j = none))
  | none => false
theorem mt_chN_t : mt_PL.all mt_chN = true := by decide +kernel
def mt_chO (y : mt_P) : Bool := match f_X10_numberOf 0 y.1 y.2.1 (mt_m [0, 88] (fun _ _ => none) (fun _ _ => none)) with
  | some (r, _) => decide (r = mt_num y)
  | none => false
theorem mt_chO_t : mt_PL.all mt_chO = true := by decide +kernel
def mt_Dn (k j : Nat) : Bool := decide (k = 105) || (decide (k = 96) && decide (39 ≤ j))
theorem mt_numM {T : mt_S} (hs : mt_st T) {y : mt_P} (hy : y ∈ mt_PL) : ∃ T', f_X11_numberOf 96 y.1 y.2.1 T = some (mt_num y, T') ∧ mt_fr mt_Dn T T' := by
  have q := List.all_eq_true.mp mt_chN_t y hy
  unfold mt_chN at q
  cases e : f_X11_numberOf 96 y.1 y.2.1 (mt_m [96, 105] (fun _ _ => none) (fun _ _ => none)) with
  | none => rw [e] at q; cases q
  | some z =>
    obtain ⟨r, S'⟩ := z
    rw [e] at q
    obtain ⟨q1, q2⟩ := (Bool.and_eq_true _ _).mp q
    have q1 := of_decide_eq_true q1
    subst q1
    have e3 := mt_str (f := f_X11_numberOf 96 y.1 y.2.1) e (ov_X11_numberOf (mt_cp_self _) e).1
    have hov2 := (ov_X11_numberOf (T := T) (mt_cp_m hs) e).1
    have hT : mt_ov (mt_m [96, 105] (fun _ _ => none) (fun _ _ => none)) T = T := mt_ov_of (fun _ _ _ h => by cases h) (fun _ _ _ h => by cases h)
    rw [hT] at hov2
    have hfr0 := mt_fr_ov (T := T) (K := [96, 105]) e3.2.1
    refine ⟨_, hov2, ⟨rfl, rfl, rfl⟩, fun k j hD => ?_⟩
    unfold mt_Dn at hD
    simp only [Bool.or_eq_false_iff, Bool.and_eq_false_iff, decide_eq_false_iff_not] at hD
    by_cases k1 : k = 96
    · subst k1
      obtain ⟨z1, z2⟩ := (Bool.and_eq_true _ _).mp (List.all_eq_true.mp q2 j (List.mem_range.mpr (by omega)))
      exact ⟨mt_ovN (of_decide_eq_true z1), mt_ovNL (of_decide_eq_true z2)⟩
    · exact hfr0.2 k j (by
        have k3 : k ≠ 105 := by omega
        simp [k1, k3])
theorem mt_numC {T : mt_S} (hs : mt_st T) {y : mt_P} (hy : y ∈ mt_PL) : ∃ T', f_X10_numberOf 0 y.1 y.2.1 T = some (mt_num y, T') ∧ mt_fr (fun k _ => decide (k = 0) || decide (k = 88)) T T' := by
  have q := List.all_eq_true.mp mt_chO_t y hy
  unfold mt_chO at q
  cases e : f_X10_numberOf 0 y.1 y.2.1 (mt_m [0, 88] (fun _ _ => none) (fun _ _ => none)) with
  | none => rw [e] at q; cases q
  | some z =>
    obtain ⟨r, S'⟩ := z
    rw [e] at q
    have q1 := of_decide_eq_true q
    subst q1
    have e3 := mt_str (f := f_X10_numberOf 0 y.1 y.2.1) e (ov_X10_numberOf (mt_cp_self _) e).1
    have hov2 := (ov_X10_numberOf (T := T) (mt_cp_m hs) e).1
    have hT : mt_ov (mt_m [0, 88] (fun _ _ => none) (fun _ _ => none)) T = T := mt_ov_of (fun _ _ _ h => by cases h) (fun _ _ _ h => by cases h)
    rw [hT] at hov2
    exact ⟨_, hov2, (mt_fr_ov (K := [0, 88]) e3.2.1).mono (fun k j h => by
      simp only [Bool.or_eq_false_iff, decide_eq_false_iff_not] at h
      simp [h.1, h.2])⟩
