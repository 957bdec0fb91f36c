/-! letter -/
theorem isInG (w a b : Int32) (S : mt_S) : f_X11_isIn w.toInt64 a.toInt64 b.toInt64 S = some ((if w < a ∨ b < w then 0 else 1), S) := by
  unfold f_X11_isIn
  have h1 : ∀ u v : Int32, (u.toInt64 < v.toInt64 ↔ u < v) := fun u v => by rw [Int64.lt_iff_toInt_lt, Int32.toInt_toInt64, Int32.toInt_toInt64, Int32.lt_iff_toInt_lt]
  by_cases q : w < a
  · rw [if_pos ((h1 _ _).mpr q), if_pos (Or.inl q)]
  · rw [if_neg (fun z => q ((h1 _ _).mp z))]
    by_cases r : b < w
    · rw [if_pos ((h1 _ _).mpr r), if_pos (Or.inr r)]
    · rw [if_neg (fun z => r ((h1 _ _).mp z)), if_neg (fun z => z.elim q r)]
theorem mt_ltQ : mt_PL.all (fun x => decide (x.1 ≠ 0) && decide (1 ≤ x.1 + x.2.1) && decide (x.1 + x.2.1 ≠ 1) && decide (x.1 + x.2.1 ≠ 0)) = true := by decide +kernel
theorem mt_let {x : mt_P} (hx : x ∈ mt_PL) (i : Int32) : ∃ r, (∀ S, f_X9_letterIsA x.1 x.2.1 i S = some (r, S)) ∧ ∀ S, f_X11_isA x.1 (x.1 + x.2.1) i S = some (r, S) := by
  have q := List.all_eq_true.mp mt_ltQ x hx
  simp only [Bool.and_eq_true, decide_eq_true_eq] at q
  obtain ⟨⟨⟨q1, q2⟩, q3⟩, q4⟩ := q
  by_cases h : ((i * x.1) - (i * x.1) / (x.1 + x.2.1) * (x.1 + x.2.1)) ≤ (((i - 1) * x.1) - ((i - 1) * x.1) / (x.1 + x.2.1) * (x.1 + x.2.1))
  · exact ⟨0, fun S => fw_f q1 (fw_t q2 (fw_f q4 (fw_f q4 (fw_t h rfl)))), fun S => fw_f q3 (fw_f q4 (fw_f q4 (fw_t h rfl)))⟩
  · exact ⟨1, fun S => fw_f q1 (fw_t q2 (fw_f q4 (fw_f q4 (fw_f h rfl)))), fun S => fw_f q3 (fw_f q4 (fw_f q4 (fw_f h rfl)))⟩
theorem mt_nle {a b : Int32} : (¬ a ≤ b) ↔ b < a := by rw [Int32.lt_iff_toInt_lt, Int32.le_iff_toInt_le]; omega
theorem t_10 {T : mt_S} (w : Int32) (hi : mt_Inv T) : ∃ S', l_10 w T = some S' ∧ mt_Inv S' := by
  have hs := hi.1
  have hs0 : mt_st (mt_pI T 96 0 0) := hs
  obtain ⟨⟨x, l⟩, hg, hB, hR⟩ := hi.2.1
  refine ⟨mt_pI T 96 0 0, ?_, mt_Inv_c hs (mt_thr (by decide +kernel)) hi⟩
  have r0 : (mt_pI T 96 0 0).2.2.1 98 0 = some x.1 := (mt_I_ne (Or.inl (by decide))).trans hR.1
  have r1 : (mt_pI T 96 0 0).2.2.1 98 1 = some x.2.1 := (mt_I_ne (Or.inl (by decide))).trans hR.2.1
  by_cases hw : w < 1 ∨ x.1 + x.2.1 < w
  · have a1 : f_X10_letter 0 w T = some (-1, T) := by
      refine fw_t (T_K hs (by decide) rfl) (fw_b (T_rR hs (by decide) rfl rfl) (fw_b2 (mt_pl9 hs) ?_))
      by_cases h1 : w < 1
      · exact fw_t h1 rfl
      · exact fw_f h1 (fw_b2 (mt_tg9 hs hg.1 hB) (fw_f (mt_nle.mpr (hw.resolve_left h1)) rfl))
    have a2 : f_X11_letter 96 w T = some (-1, mt_pI T 96 0 0) := by
      refine fw_t (T_K hs (by decide) rfl) (fw_b (T_wI hs 0 (by decide) rfl) (fw_b (T_rR hs0 (by decide) rfl rfl) (fw_b (T_aI hs0 (j := 0) (by decide) rfl (n := 35) (by decide) (by decide) r0) (fw_b (T_rR hs0 (by decide) rfl rfl) (fw_b (T_aI hs0 (j := 1) (by decide) rfl (n := 35) (by decide) (by decide) r1) (fw_b2 (isInG w 1 _ _) ?_))))))
      rw [if_pos hw]; rfl
    exact fw_b2 a1 (fw_b2 a2 (if_pos rfl))
  · obtain ⟨h1, h2⟩ := not_or.mp hw
    obtain ⟨r, e1, e2⟩ := mt_let hg.1 w
    have h3 : w ≤ x.1 + x.2.1 := by
      rw [Int32.lt_iff_toInt_lt] at h2; rw [Int32.le_iff_toInt_le]; omega
    have a1 : f_X10_letter 0 w T = some (if r = 0 then 98 else 97, T) := by
      refine fw_t (T_K hs (by decide) rfl) (fw_b (T_rR hs (by decide) rfl rfl) (fw_b2 (mt_pl9 hs) (fw_f h1 (fw_b2 (mt_tg9 hs hg.1 hB) (fw_t h3 (fw_b2 (mt_p9 hs hg.1 hB) (fw_b2 (mt_q9 hs hg.1 hB) (fw_b2 (e1 T) ?_))))))))
      by_cases h0 : r = 0
      · rw [if_pos h0, if_pos h0]
      · rw [if_neg h0, if_neg h0]
    have a2 : f_X11_letter 96 w T = some (if r = 0 then 98 else 97, mt_pI T 96 0 0) := by
      refine fw_t (T_K hs (by decide) rfl) (fw_b (T_wI hs 0 (by decide) rfl) (fw_b (T_rR hs0 (by decide) rfl rfl) (fw_b (T_aI hs0 (j := 0) (by decide) rfl (n := 35) (by decide) (by decide) r0) (fw_b (T_rR hs0 (by decide) rfl rfl) (fw_b (T_aI hs0 (j := 1) (by decide) rfl (n := 35) (by decide) (by decide) r1) (fw_b2 (isInG w 1 _ _) ?_))))))
      rw [if_neg hw]
      refine fw_f (by decide) (fw_b (T_rR hs0 (by decide) rfl rfl) (fw_b (T_aI hs0 (j := 0) (by decide) rfl (n := 35) (by decide) (by decide) r0) (fw_b2 (e2 _) ?_)))
      by_cases h0 : r = 0
      · rw [if_pos h0, if_pos h0]
      · rw [if_neg h0, if_neg h0]
    exact fw_b2 a1 (fw_b2 a2 (if_pos rfl))
