/-! now -/
def mt_Dx (k j : Nat) : Bool := mt_Dw k j || (decide (k = 96) && decide (j = 0)) || decide (k = 88) || decide (k = 89) || decide (k = 105) || decide (k = 108)
theorem mt_Inv_x {T T' : mt_S} (hi : mt_Inv T) (hf : mt_fr mt_Dx T T') : mt_Inv T' := by
  obtain ⟨c, h1⟩ := hi.2.1
  obtain ⟨nx, h, h2⟩ := hi.2.2.1
  refine mt_Inv_A hi (hf.mono (fun k j q => ?_)) ⟨c, mt_iCur_c (hf.sp2 1 (fun k j hj q => ?_)) h1⟩ ⟨nx, h, mt_iHist_c (hf.sp2 2 (fun k j hj q => ?_)) h2⟩ (mt_iIm_c (hf.sp2 3 (fun k j hj q => ?_)) hi.2.2.2.1)
  · unfold mt_DA mt_DAc at q
    unfold mt_Dx mt_Dw
    simp only [Bool.or_eq_false_iff, Bool.and_eq_false_iff, decide_eq_false_iff_not] at q ⊢; omega
  · have z := mt_pcs.1 q
    by_cases k1 : k = 98
    · subst k1
      have hj : j < 35 := hj
      unfold mt_Dx mt_Dw
      simp only [Bool.or_eq_false_iff, Bool.and_eq_false_iff, decide_eq_false_iff_not]; omega
    · unfold mt_Dx mt_Dw
      simp only [Bool.or_eq_false_iff, Bool.and_eq_false_iff, decide_eq_false_iff_not]; omega
  · have z := mt_pcs.2.1 q
    unfold mt_Dx mt_Dw
    simp only [Bool.or_eq_false_iff, Bool.and_eq_false_iff, decide_eq_false_iff_not]; omega
  · have z := mt_pcs.2.2 q
    unfold mt_Dx mt_Dw
    simp only [Bool.or_eq_false_iff, Bool.and_eq_false_iff, decide_eq_false_iff_not]; omega
theorem t_4 {T : mt_S} (w : Int32) (hi : mt_Inv T) : ∃ S', l_4 w T = some S' ∧ mt_Inv S' := by
  have hs := hi.1
  have hs0 : mt_st (mt_pI T 96 0 0) := hs
  obtain ⟨⟨x, l⟩, hg, hB, hR⟩ := hi.2.1
  obtain ⟨nx, h, hh⟩ := hi.2.2.1
  obtain ⟨hgh, hC, hM⟩ := mt_hist.mp hh
  obtain ⟨n, ht⟩ := hi.2.2.2.2.1
  obtain ⟨T2, a2, b2, f2⟩ := mt_lays hs0 hg.1 ((mt_I_ne (Or.inl (by decide))).trans hR.1) ((mt_I_ne (Or.inl (by decide))).trans hR.2.1)
  have hs2 := f2.st hs0
  have f02 : mt_fr mt_Dx T T2 := ((mt_fr.refl _ T).I 96 0 0 rfl).trans (f2.mono (fun k j q => by
    unfold mt_Dx at q
    simp only [Bool.or_eq_false_iff] at q; exact q.1.1.1.1.1))
  have r0 : T2.2.2.1 98 0 = some x.1 := (f02.2 98 0 rfl).1.trans hR.1
  have r1 : T2.2.2.1 98 1 = some x.2.1 := (f02.2 98 1 rfl).1.trans hR.2.1
  have r2 : T2.2.2.1 98 2 = some (uI l.length) := (f02.2 98 2 rfl).1.trans hR.2.2.1
  have r3 : T2.2.2.1 96 9 = some (uI h.length) := (f02.2 96 9 rfl).1.trans hM.1
  have r4 : T2.2.2.1 96 2 = some (uI n) := (f02.2 96 2 rfl).1.trans ht.2.2.1
  refine ⟨T2, ?_, mt_Inv_x hi f02⟩
  have key : ∃ v, f_X10_now 0 w T = some (v, T) ∧ f_X11_now 96 w T = some (v, T2) := by
    by_cases h0 : w = 0
    · exact ⟨_, fw_t (T_K hs (by decide) rfl) (fw_b (T_rR hs (by decide) rfl rfl) (fw_b2 (mt_pl9 hs) (fw_t h0 (fw_b2 (mt_p9 hs hg.1 hB) rfl)))), fw_t (T_K hs (by decide) rfl) (fw_b (T_wI hs 0 (by decide) rfl) (fw_b a2 (fw_t h0 (fw_b (T_rR hs2 (by decide) rfl rfl) (fw_b (T_aI hs2 (j := 0) (by decide) rfl (n := 35) (by decide) (by decide) r0) rfl)))))⟩
    by_cases h1 : w = 1
    · exact ⟨_, fw_t (T_K hs (by decide) rfl) (fw_b (T_rR hs (by decide) rfl rfl) (fw_b2 (mt_pl9 hs) (fw_f h0 (fw_t h1 (fw_b2 (mt_q9 hs hg.1 hB) rfl))))), fw_t (T_K hs (by decide) rfl) (fw_b (T_wI hs 0 (by decide) rfl) (fw_b a2 (fw_f h0 (fw_t h1 (fw_b (T_rR hs2 (by decide) rfl rfl) (fw_b (T_aI hs2 (j := 1) (by decide) rfl (n := 35) (by decide) (by decide) r1) rfl))))))⟩
    by_cases h2 : w = 2
    · exact ⟨_, fw_t (T_K hs (by decide) rfl) (fw_b (T_rR hs (by decide) rfl rfl) (fw_b2 (mt_pl9 hs) (fw_f h0 (fw_f h1 (fw_t h2 (fw_b2 (fw_t (T_K hs (by decide) rfl) (fw_b (T_rI hs (by decide) rfl (hB.1 0 _ rfl)) rfl)) rfl)))))), fw_t (T_K hs (by decide) rfl) (fw_b (T_wI hs 0 (by decide) rfl) (fw_b a2 (fw_f h0 (fw_f h1 (fw_t h2 (fw_b (T_rI hs2 (by decide) rfl (b2 0 _ rfl)) rfl))))))⟩
    by_cases h3 : w = 3
    · exact ⟨_, fw_t (T_K hs (by decide) rfl) (fw_b (T_rR hs (by decide) rfl rfl) (fw_b2 (mt_pl9 hs) (fw_f h0 (fw_f h1 (fw_f h2 (fw_t h3 (fw_b2 (fw_t (T_K hs (by decide) rfl) (fw_b (T_rI hs (by decide) rfl (hB.1 1 _ rfl)) rfl)) rfl))))))), fw_t (T_K hs (by decide) rfl) (fw_b (T_wI hs 0 (by decide) rfl) (fw_b a2 (fw_f h0 (fw_f h1 (fw_f h2 (fw_t h3 (fw_b (T_rI hs2 (by decide) rfl (b2 1 _ rfl)) rfl)))))))⟩
    by_cases h4 : w = 4
    · exact ⟨_, fw_t (T_K hs (by decide) rfl) (fw_b (T_rR hs (by decide) rfl rfl) (fw_b2 (mt_pl9 hs) (fw_f h0 (fw_f h1 (fw_f h2 (fw_f h3 (fw_t h4 (fw_b2 (fw_t (T_K hs (by decide) rfl) (fw_b (T_rI hs (by decide) rfl (hB.1 2 _ rfl)) rfl)) rfl)))))))), fw_t (T_K hs (by decide) rfl) (fw_b (T_wI hs 0 (by decide) rfl) (fw_b a2 (fw_f h0 (fw_f h1 (fw_f h2 (fw_f h3 (fw_t h4 (fw_b (T_rI hs2 (by decide) rfl (b2 2 _ rfl)) rfl))))))))⟩
    by_cases h5 : w = 5
    · exact ⟨_, fw_t (T_K hs (by decide) rfl) (fw_b (T_rR hs (by decide) rfl rfl) (fw_b2 (mt_pl9 hs) (fw_f h0 (fw_f h1 (fw_f h2 (fw_f h3 (fw_f h4 (fw_t h5 (fw_b2 (fw_t (T_K hs (by decide) rfl) (fw_b (T_rI hs (by decide) rfl (hB.1 3 _ rfl)) rfl)) rfl))))))))), fw_t (T_K hs (by decide) rfl) (fw_b (T_wI hs 0 (by decide) rfl) (fw_b a2 (fw_f h0 (fw_f h1 (fw_f h2 (fw_f h3 (fw_f h4 (fw_t h5 (fw_b (T_rI hs2 (by decide) rfl (b2 3 _ rfl)) rfl)))))))))⟩
    by_cases h6 : w = 6
    · exact ⟨_, fw_t (T_K hs (by decide) rfl) (fw_b (T_rR hs (by decide) rfl rfl) (fw_b2 (mt_pl9 hs) (fw_f h0 (fw_f h1 (fw_f h2 (fw_f h3 (fw_f h4 (fw_f h5 (fw_t h6 (fw_b2 (fw_t (T_K hs (by decide) rfl) (fw_b (T_rI hs (by decide) rfl (hB.1 4 _ rfl)) rfl)) rfl)))))))))), fw_t (T_K hs (by decide) rfl) (fw_b (T_wI hs 0 (by decide) rfl) (fw_b a2 (fw_f h0 (fw_f h1 (fw_f h2 (fw_f h3 (fw_f h4 (fw_f h5 (fw_t h6 (fw_b (T_rI hs2 (by decide) rfl (b2 4 _ rfl)) rfl))))))))))⟩
    by_cases h7 : w = 7
    · exact ⟨_, fw_t (T_K hs (by decide) rfl) (fw_b (T_rR hs (by decide) rfl rfl) (fw_b2 (mt_pl9 hs) (fw_f h0 (fw_f h1 (fw_f h2 (fw_f h3 (fw_f h4 (fw_f h5 (fw_f h6 (fw_t h7 (fw_b (T_rR hs (by decide) rfl rfl) (fw_b2 (mt_mk9 hs) (fw_b2 (fw_t (T_K hs (by decide) rfl) (fw_b (T_rI hs (by decide) rfl hB.2.1) rfl)) rfl))))))))))))), fw_t (T_K hs (by decide) rfl) (fw_b (T_wI hs 0 (by decide) rfl) (fw_b a2 (fw_f h0 (fw_f h1 (fw_f h2 (fw_f h3 (fw_f h4 (fw_f h5 (fw_f h6 (fw_t h7 (fw_b (T_rR hs2 (by decide) rfl rfl) (fw_b (T_aI hs2 (j := 2) (by decide) rfl (n := 35) (by decide) (by decide) r2) rfl))))))))))))⟩
    by_cases h8 : w = 8
    · exact ⟨_, fw_t (T_K hs (by decide) rfl) (fw_b (T_rR hs (by decide) rfl rfl) (fw_b2 (mt_pl9 hs) (fw_f h0 (fw_f h1 (fw_f h2 (fw_f h3 (fw_f h4 (fw_f h5 (fw_f h6 (fw_f h7 (fw_t h8 (fw_b (T_rR hs (by decide) rfl rfl) (fw_b2 (fw_t (T_K hs (by decide) rfl) (fw_b (T_rI hs (by decide) rfl hC.2.2.2.1) rfl)) rfl))))))))))))), fw_t (T_K hs (by decide) rfl) (fw_b (T_wI hs 0 (by decide) rfl) (fw_b a2 (fw_f h0 (fw_f h1 (fw_f h2 (fw_f h3 (fw_f h4 (fw_f h5 (fw_f h6 (fw_f h7 (fw_t h8 (fw_b (T_rI hs2 (by decide) rfl r3) rfl))))))))))))⟩
    by_cases h9 : w = 9
    · exact ⟨_, fw_t (T_K hs (by decide) rfl) (fw_b (T_rR hs (by decide) rfl rfl) (fw_b2 (mt_pl9 hs) (fw_f h0 (fw_f h1 (fw_f h2 (fw_f h3 (fw_f h4 (fw_f h5 (fw_f h6 (fw_f h7 (fw_f h8 (fw_t h9 (fw_b (T_rR hs (by decide) rfl rfl) (fw_b2 (fw_t (T_K hs (by decide) rfl) (fw_b (T_rI hs (by decide) rfl ht.2.1) rfl)) rfl)))))))))))))), fw_t (T_K hs (by decide) rfl) (fw_b (T_wI hs 0 (by decide) rfl) (fw_b a2 (fw_f h0 (fw_f h1 (fw_f h2 (fw_f h3 (fw_f h4 (fw_f h5 (fw_f h6 (fw_f h7 (fw_f h8 (fw_t h9 (fw_b (T_rI hs2 (by decide) rfl r4) rfl)))))))))))))⟩
    exact ⟨-1, fw_t (T_K hs (by decide) rfl) (fw_b (T_rR hs (by decide) rfl rfl) (fw_b2 (mt_pl9 hs) (fw_f h0 (fw_f h1 (fw_f h2 (fw_f h3 (fw_f h4 (fw_f h5 (fw_f h6 (fw_f h7 (fw_f h8 (fw_f h9 (rfl))))))))))))), fw_t (T_K hs (by decide) rfl) (fw_b (T_wI hs 0 (by decide) rfl) (fw_b a2 (fw_f h0 (fw_f h1 (fw_f h2 (fw_f h3 (fw_f h4 (fw_f h5 (fw_f h6 (fw_f h7 (fw_f h8 (fw_f h9 (rfl)))))))))))))⟩
  obtain ⟨v, k1, k2⟩ := key
  exact fw_b2 k1 (fw_b2 k2 (if_pos rfl))
