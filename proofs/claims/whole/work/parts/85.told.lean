/-! told -/
def mt_D8 (k j : Nat) : Bool := decide ((mt_shN k).2 ≤ j) || mt_D8C k j || mt_D8M k j
theorem mt_D8Q : mt_spQ mt_D8 [1, 2, 3, 4, 6, 7] = true := by decide +kernel
theorem t_28 {T : mt_S} (hi : mt_Inv T) : ∃ S', l_28 T = some S' ∧ mt_Inv S' := by
  have hs := hi.1
  obtain ⟨c, h1⟩ := hi.2.1
  have q := List.all_eq_true.mp mt_chT_t c.1 h1.1.1
  unfold mt_chT at q
  cases e : f_X10_told 0 (mt_m [0, 9, 10, 85, 86, 87] (mt_px c.1) mt_n6) with
  | none => rw [e] at q; cases q
  | some z =>
    obtain ⟨r, S⟩ := z
    cases e2 : f_X11_told 96 (mt_m [96, 98, 104, 107] (mt_px c.1) mt_n6) with
    | none => rw [e, e2] at q; cases q
    | some z2 =>
      obtain ⟨r2, S2⟩ := z2
      rw [e, e2] at q
      obtain ⟨q, q4⟩ := (Bool.and_eq_true _ _).mp q
      obtain ⟨q, q3⟩ := (Bool.and_eq_true _ _).mp q
      obtain ⟨q1, q2⟩ := (Bool.and_eq_true _ _).mp q
      have q1 := of_decide_eq_true q1
      subst q1
      obtain ⟨n, hn, q2⟩ := List.any_eq_true.mp q2
      have hn := List.mem_range.mp hn
      obtain ⟨q2, q7⟩ := (Bool.and_eq_true _ _).mp q2
      obtain ⟨q5, q6⟩ := (Bool.and_eq_true _ _).mp q2
      have q5 := of_decide_eq_true q5
      have q6 := of_decide_eq_true q6
      have hI := mt_px_of h1
      obtain ⟨a, b, d⟩ := mt_clR (f := f_X10_told 0) (fun _ _ _ _ hp h => (ov_X10_told hp h).1) hs hI mt_n6_h e
      have f1 := mt_fr_q (T := T) d hI mt_n6_h q3
      have fa : mt_fr mt_D8 T (mt_ov S T) := f1.mono (fun k j h => by
        unfold mt_D8 at h
        simp only [Bool.or_eq_false_iff] at h
        rw [Bool.or_eq_false_iff]
        exact ⟨h.1.1, by rw [h.1.2, Bool.and_false]⟩)
      have hs1 := fa.st hs
      have h2 := mt_iCur_c (mt_sp_of fa mt_D8Q rfl) h1
      have hI2 := mt_px_of h2
      obtain ⟨a2, b2, d2⟩ := mt_clR (f := f_X11_told 96) (fun _ _ _ _ hp h => (ov_X11_told hp h).1) hs1 hI2 mt_n6_h e2
      have f2 := mt_fr_q (T := mt_ov S T) d2 hI2 mt_n6_h q4
      have fb : mt_fr mt_D8 (mt_ov S T) (mt_ov S2 (mt_ov S T)) := f2.mono (fun k j h => by
        unfold mt_D8 at h
        simp only [Bool.or_eq_false_iff] at h
        rw [Bool.or_eq_false_iff]
        exact ⟨h.1.1, by rw [h.2, Bool.and_false]⟩)
      refine ⟨_, fw_b2 a (fw_b2 a2 (if_pos rfl)), mt_Inv_5 hi (fa.trans fb) mt_D8Q ⟨n, by omega, ?_, ?_, fun m hm => ?_⟩⟩
      · have z : (mt_ov S T).2.2.1 85 2 = some (uI n) := mt_ovI (mt_vdm b d (by decide) (by decide) (by decide)) q5
        exact (f2.2 85 2 (by decide)).1.trans z
      · exact mt_ovI (mt_vdm b2 d2 (by decide) (by decide) (by decide)) q6
      · obtain ⟨z1, z2⟩ := (Bool.and_eq_true _ _).mp (List.all_eq_true.mp q7 m (List.mem_range.mpr hm))
        have z2 := of_decide_eq_true z2
        cases ev : S.2.2.1 86 m with
        | none => rw [ev] at z1; cases z1
        | some v =>
          have z : (mt_ov S T).2.2.1 86 m = some v := mt_ovI (mt_vdm b d (by decide) (by decide) (by decide)) ev
          refine ⟨v, (f2.2 86 m ?_).1.trans z, mt_ovI (mt_vdm b2 d2 (by decide) (by decide) (by decide)) (by rw [← z2]; exact ev)⟩
          show (decide ((mt_shN 86).2 ≤ m) || (([96, 98, 104, 107] : List Nat).contains 86 && mt_D8M 86 m)) = false
          have : (mt_shN 86).2 = 44 := rfl
          have c0 : ([96, 98, 104, 107] : List Nat).contains 86 = false := by decide
          rw [c0, Bool.false_and, Bool.or_false]
          exact decide_eq_false (by omega)
