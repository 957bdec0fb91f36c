/-! going to a place -/
def mt_chK (y : mt_P) : Bool := match f_X4_walkTo 10 y.1 y.2.1 (mt_m [10] (fun _ _ => none) (fun _ _ => none)) with
  | some S' => (List.range 5).all (fun j => decide (S'.2.2.1 10 j = (mt_cm y)[j]?))
  | none => false
theorem mt_chK_t : mt_PL.all mt_chK = true := by decide +kernel
theorem mt_walk {T : mt_S} (hs : mt_st T) {x y : mt_P} {l : List mt_P} (hy : y ∈ mt_PL) (hB : mt_blk T 9 (x, l)) : ∃ T', f_X4_walkTo 10 y.1 y.2.1 T = some T' ∧ mt_blk T' 9 (y, l) ∧ mt_fr (fun k _ => decide (k = 10)) T T' := by
  have q := List.all_eq_true.mp mt_chK_t y hy
  unfold mt_chK at q
  cases e : f_X4_walkTo 10 y.1 y.2.1 (mt_m [10] (fun _ _ => none) (fun _ _ => none)) with
  | none => rw [e] at q; cases q
  | some S' =>
    rw [e] at q
    have e3 := mt_stv (f := f_X4_walkTo 10 y.1 y.2.1) e (ov_X4_walkTo (mt_cp_self _) e).1
    have hov2 := (ov_X4_walkTo (T := T) (mt_cp_m hs) e).1
    have hT : mt_ov (mt_m [10] (fun _ _ => none) (fun _ _ => none)) T = T := mt_ov_of (fun _ _ _ h => by cases h) (fun _ _ _ h => by cases h)
    rw [hT] at hov2
    have hfr : mt_fr (fun k _ => decide (k = 10)) T (mt_ov S' T) := (mt_fr_ov (K := [10]) e3.2.1).mono (fun k j h => by
      have h := of_decide_eq_false h
      simp [h])
    have hvd : mt_vd S' 10 = true := mt_vdm e3.1 e3.2.1 (by decide) (by decide) (by decide)
    refine ⟨_, hov2, ⟨fun j v hj => ?_, (hfr.2 11 3 rfl).1.trans hB.2.1, fun m z hm => ?_⟩, hfr⟩
    · have hj' : (mt_cm y)[j]? = some v := hj
      have hl : j < 5 := mt_lt_of hj'
      exact mt_ovI hvd ((of_decide_eq_true (List.all_eq_true.mp q j (List.mem_range.mpr hl))).trans hj')
    · obtain ⟨y1, y2, y3⟩ := hB.2.2 m z hm
      exact ⟨(hfr.2 12 m rfl).2.trans y1, (hfr.2 13 m rfl).1.trans y2, (hfr.2 14 m rfl).1.trans y3⟩
