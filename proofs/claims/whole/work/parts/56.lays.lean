/-! the way to the place; now -/
def mt_chW (x : mt_P) : Bool := match f_X11_lays 96 (mt_m [96, 98, 104] (mt_p98 x) (fun _ _ => none)) with
  | some S' => (List.range 5).all (fun j => decide (S'.2.2.1 96 (10 + j) = (mt_cm x)[j]?)) && (List.range 35).all (fun j => decide (S'.2.2.1 98 j = [x.1, x.2.1][j]?)) && (List.range 39).all (fun j => ((decide (10 ≤ j) && decide (j ≤ 14)) || decide (S'.2.2.1 96 j = none)) && (decide (S'.2.2.2.1 96 j = none) && decide (S'.2.2.2.1 98 j = none)))
  | none => false
theorem mt_chW_t : mt_PL.all mt_chW = true := by decide +kernel
def mt_Dw (k j : Nat) : Bool := decide (k = 104) || (decide (k = 96) && ((decide (10 ≤ j) && decide (j ≤ 14)) || decide (39 ≤ j))) || (decide (k = 98) && decide (35 ≤ j))
theorem mt_lays {T : mt_S} (hs : mt_st T) {x : mt_P} (hx : x ∈ mt_PL) (h0 : T.2.2.1 98 0 = some x.1) (h1 : T.2.2.1 98 1 = some x.2.1) : ∃ T', f_X11_lays 96 T = some T' ∧ (∀ j v, (mt_cm x)[j]? = some v → T'.2.2.1 96 (10 + j) = some v) ∧ mt_fr mt_Dw T T' := by
  have q := List.all_eq_true.mp mt_chW_t x hx
  unfold mt_chW at q
  cases e : f_X11_lays 96 (mt_m [96, 98, 104] (mt_p98 x) (fun _ _ => none)) with
  | none => rw [e] at q; cases q
  | some S' =>
    rw [e] at q
    obtain ⟨q, q5⟩ := (Bool.and_eq_true _ _).mp q
    obtain ⟨q1, q4⟩ := (Bool.and_eq_true _ _).mp q
    have e3 := mt_stv (f := f_X11_lays 96) e (ov_X11_lays (mt_cp_self _) e).1
    have hov2 := (ov_X11_lays (T := T) (mt_cp_m hs) e).1
    have hT : mt_ov (mt_m [96, 98, 104] (mt_p98 x) (fun _ _ => none)) T = T := mt_ov_of (fun k j v h => by
      have h : mt_p98 x k j = some v := h
      unfold mt_p98 at h
      by_cases hk : k = 98
      · rw [if_pos hk] at h; subst hk
        match j, h with
        | 0, h => exact h0.trans h
        | 1, h => exact h1.trans h
      · rw [if_neg hk] at h; cases h) (fun _ _ _ h => by cases h)
    rw [hT] at hov2
    have hfr0 := mt_fr_ov (T := T) (K := [96, 98, 104]) e3.2.1
    have hv96 : mt_vd S' 96 = true := mt_vdm e3.1 e3.2.1 (by decide) (by decide) (by decide)
    have hv98 : mt_vd S' 98 = true := mt_vdm e3.1 e3.2.1 (by decide) (by decide) (by decide)
    have h98 : ∀ j, j < 35 → (mt_ov S' T).2.2.1 98 j = T.2.2.1 98 j := fun j h35 => by
      have z := of_decide_eq_true (List.all_eq_true.mp q4 j (List.mem_range.mpr h35))
      match j, z with
      | 0, z => exact (mt_ovI hv98 z).trans h0.symm
      | 1, z => exact (mt_ovI hv98 z).trans h1.symm
      | j + 2, z => exact mt_ovN z
    have hLn : ∀ j, j < 39 → (mt_ov S' T).2.2.2.1 96 j = T.2.2.2.1 96 j ∧ (mt_ov S' T).2.2.2.1 98 j = T.2.2.2.1 98 j := fun j hj => by
      obtain ⟨-, z⟩ := (Bool.and_eq_true _ _).mp (List.all_eq_true.mp q5 j (List.mem_range.mpr hj))
      obtain ⟨z1, z2⟩ := (Bool.and_eq_true _ _).mp z
      exact ⟨mt_ovNL (of_decide_eq_true z1), mt_ovNL (of_decide_eq_true z2)⟩
    have h96 : ∀ j, j < 39 → ¬ (10 ≤ j ∧ j ≤ 14) → (mt_ov S' T).2.2.1 96 j = T.2.2.1 96 j := fun j hj hn => mt_ovN (by
      obtain ⟨z, -⟩ := (Bool.and_eq_true _ _).mp (List.all_eq_true.mp q5 j (List.mem_range.mpr hj))
      rw [Bool.or_eq_true, Bool.and_eq_true] at z
      rcases z with ⟨z1, z2⟩ | z
      · exact absurd ⟨of_decide_eq_true z1, of_decide_eq_true z2⟩ hn
      · exact of_decide_eq_true z)
    refine ⟨_, hov2, fun j v hj => ?_, ⟨rfl, rfl, rfl⟩, fun k j hD => ?_⟩
    · have hl : j < 5 := mt_lt_of hj
      exact mt_ovI hv96 ((of_decide_eq_true (List.all_eq_true.mp q1 j (List.mem_range.mpr hl))).trans hj)
    · unfold mt_Dw at hD
      simp only [Bool.or_eq_false_iff, Bool.and_eq_false_iff, decide_eq_false_iff_not] at hD
      by_cases k1 : k = 96
      · subst k1
        exact ⟨h96 j (by omega) (by omega), (hLn j (by omega)).1⟩
      · by_cases k2 : k = 98
        · subst k2
          exact ⟨h98 j (by omega), (hLn j (by omega)).2⟩
        · exact hfr0.2 k j (by
            have k3 : k ≠ 104 := by omega
            simp [k1, k2, k3])
