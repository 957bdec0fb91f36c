/-! image, restore -/
theorem mt_pcs {k j : Nat} : (mt_pc k j = 1 → (10 ≤ k ∧ k ≤ 14) ∨ k = 98) ∧ (mt_pc k j = 2 → (15 ≤ k ∧ k ≤ 70) ∨ k = 100 ∨ (k = 96 ∧ j = 9)) ∧ (mt_pc k j = 3 → (72 ≤ k ∧ k ≤ 84) ∨ k = 99 ∨ k = 103) := by
  by_cases h96 : k = 96
  · subst h96
    unfold mt_pc
    rw [if_pos rfl]
    by_cases h9 : j = 9
    · rw [if_pos h9]; omega
    · rw [if_neg h9]
      by_cases h2 : j = 2
      · rw [if_pos h2]; omega
      · rw [if_neg h2]
        by_cases h3 : j = 30
        · rw [if_pos h3]; omega
        · rw [if_neg h3]
          by_cases h4 : j = 33
          · rw [if_pos h4]; omega
          · rw [if_neg h4]; omega
  · by_cases h3 : k = 3
    · subst h3
      unfold mt_pc
      rw [if_neg (by decide), if_pos rfl]
      by_cases h4 : j = 9
      · rw [if_pos h4]; omega
      · rw [if_neg h4]; omega
    · unfold mt_pc
      rw [if_neg h96, if_neg h3]
      by_cases hk : k < 109
      · have q : ∀ k, k < 109 → (mt_pcT.getD k 0 = 1 → (10 ≤ k ∧ k ≤ 14) ∨ k = 98) ∧ (mt_pcT.getD k 0 = 2 → (15 ≤ k ∧ k ≤ 70) ∨ k = 100) ∧ (mt_pcT.getD k 0 = 3 → (72 ≤ k ∧ k ≤ 84) ∨ k = 99 ∨ k = 103) := by decide +kernel
        obtain ⟨q1, q2, q3⟩ := q k hk
        exact ⟨q1, fun h => (q2 h).elim Or.inl (fun h => Or.inr (Or.inl h)), q3⟩
      · have : mt_pcT.getD k 0 = 0 := by
          rw [List.getD_eq_getElem?_getD, List.getElem?_eq_none (by
            have : mt_pcT.length = 109 := by decide +kernel
            omega)]; rfl
        rw [this]; omega
theorem t_32 {T : mt_S} (w : Int32) (hi : mt_Inv T) : ∃ S', l_32 w T = some S' ∧ mt_Inv S' := by
  have hs := hi.1
  by_cases hw : w < 0 ∨ 2 ≤ w
  · refine ⟨mt_pI T 96 0 0, ?_, mt_Inv_c hs (mt_thr (by decide +kernel)) hi⟩
    have a1 : f_X10_image 0 w T = some (0, T) := fw_t (T_K hs (by decide) rfl) (fw_b2 (mt_imN hs hw) rfl)
    have a2 : f_X11_image 96 w T = some (0, mt_pI T 96 0 0) := by
      refine fw_t (T_K hs (by decide) rfl) (fw_b (T_wI hs 0 (by decide) rfl) (fw_b2 (isIn01 w _) ?_))
      rw [if_pos hw]; rfl
    exact fw_b2 a1 (fw_b2 a2 (if_pos rfl))
  · obtain ⟨m, hm, rfl⟩ := mt_w01 hw
    obtain ⟨c, hg, hB, hR⟩ := hi.2.1
    obtain ⟨T1, a1, b1, f1⟩ := mt_cB hs (mt_imR m hm).2 (b := 9) (by decide) (by omega) hg.2.2.1 hB
    have hs1 := f1.st hs
    have hs2 : mt_st (mt_pI T1 84 m 1) := hs1
    have hs3 : mt_st (mt_pI (mt_pI T1 84 m 1) 96 0 0) := hs1
    have g1 : mt_fr (fun k j => ((decide (72 + 6 * m < k) && decide (k ≤ 72 + 6 * m + 5)) || (decide (k = 84) && decide (j = m))) || (decide (k = 96) && decide (j = 0))) T (mt_pI (mt_pI T1 84 m 1) 96 0 0) := ((f1.mono (fun k j q => by simp only [Bool.or_eq_false_iff] at q; exact q.1.1)).I 84 m 1 (by simp)).I 96 0 0 (by simp)
    have hR3 : mt_row (mt_pI (mt_pI T1 84 m 1) 96 0 0) 98 0 c := mt_row_f g1 hg.2.2.1 (fun j _ => by simp; omega) hR
    obtain ⟨T4, a4, b4, f4⟩ := mt_cp35 hs3 (a := 98) (b := 99) (o1 := 0) (o2 := 35 * m) (na := 35) (nb := 70) (by decide) (by decide) (by decide) rfl rfl (by decide) (by omega) (by decide) (by decide) hR3.2.2.2.2
    have hs4 := f4.st hs3
    have q1 : f_X10_image 0 (uI m) T = some (1, mt_pI T1 84 m 1) := fw_t (T_K hs (by decide) rfl) (fw_b2 (mt_imA hs hm) (fw_b (T_rR hs (by decide) rfl rfl) (fw_b a1 (fw_b (T_rR hs1 (by decide) rfl rfl) (fw_b (T_sI hs1 (vp_nar .boolean 1) (by decide) rfl (n := 2) hm (by decide)) (by rw [vp_nb1]))))))
    have q2 : f_X11_image 96 (uI m) (mt_pI T1 84 m 1) = some (1, mt_pI T4 103 m 1) := by
      refine fw_t (T_K hs2 (by decide) rfl) (fw_b (T_wI hs2 0 (by decide) rfl) (fw_b2 (isIn01 _ _) ?_))
      rw [if_neg hw]
      refine fw_f (by decide) (fw_b (T_rR hs3 (by decide) rfl rfl) (fw_b (T_rR hs3 (by decide) rfl rfl) ?_))
      rw [uI_35]
      exact fw_b a4 (fw_b (T_rR hs4 (by decide) rfl rfl) (fw_b (T_sI hs4 (vp_nar .boolean 1) (by decide) rfl (n := 2) hm (by decide)) (by rw [vp_nb1])))
    have g2 : mt_fr (fun k j => (decide (k = 99) && (decide (35 * m ≤ j) && decide (j < 35 * m + 35))) || (decide (k = 103) && decide (j = m))) (mt_pI (mt_pI T1 84 m 1) 96 0 0) (mt_pI T4 103 m 1) := (f4.mono (fun k j q => by simp only [Bool.or_eq_false_iff] at q; exact q.1)).I 103 m 1 (by simp)
    have g3 : mt_fr (fun k j => (((decide (72 + 6 * m < k) && decide (k ≤ 72 + 6 * m + 5)) || (decide (k = 84) && decide (j = m))) || (decide (k = 96) && decide (j = 0))) || ((decide (k = 99) && (decide (35 * m ≤ j) && decide (j < 35 * m + 35))) || (decide (k = 103) && decide (j = m)))) T (mt_pI T4 103 m 1) := (g1.mono (fun k j q => by rw [Bool.or_eq_false_iff] at q; exact q.1)).trans (g2.mono (fun k j q => by rw [Bool.or_eq_false_iff] at q; exact q.2))
    refine ⟨_, fw_b2 q1 (fw_b2 q2 (if_pos rfl)), mt_Inv_A hi (g3.mono (fun k j q => ?_)) ⟨c, mt_iCur_c (g3.sp 1 (fun k j q => ?_)) ⟨hg, hB, hR⟩⟩ ?_ ?_⟩
    · unfold mt_DA mt_DAc at q
      simp only [Bool.or_eq_false_iff, Bool.and_eq_false_iff, decide_eq_false_iff_not] at q ⊢
      omega
    · have := mt_pcs.1 q
      simp only [Bool.or_eq_false_iff, Bool.and_eq_false_iff, decide_eq_false_iff_not]
      omega
    · obtain ⟨nx, h, hh⟩ := hi.2.2.1
      refine ⟨nx, h, mt_iHist_c (g3.sp 2 (fun k j q => ?_)) hh⟩
      have := mt_pcs.2.1 q
      simp only [Bool.or_eq_false_iff, Bool.and_eq_false_iff, decide_eq_false_iff_not]
      omega
    · intro m2 hm2
      by_cases e : m2 = m
      · subst e
        refine ⟨1, ?_, mt_I_eq, Or.inr rfl, fun _ => ⟨c, hg, ?_, ?_⟩⟩
        · rw [(g2.2 84 m2 (by simp)).1]
          exact (mt_I_ne (Or.inl (by decide))).trans mt_I_eq
        · have b2 : mt_blk (mt_pI (mt_pI T1 84 m2 1) 96 0 0) (72 + 6 * m2) c := mt_blk_f (((mt_fr.refl (fun k _ => decide (k = 84) || decide (k = 96)) T1).I 84 m2 1 (by simp)).I 96 0 0 (by simp)) (fun i j _ _ => by simp; omega) b1
          exact mt_blk_f g2 (fun i j _ _ => by simp; omega) b2
        · exact mt_row_t hg.2.2.1 (fun j hj => (mt_I_ne (Or.inl (by decide))).trans (b4 j hj)) hR3
      · obtain ⟨v, v1, v2, v3, v4⟩ := hi.2.2.2.1 m2 hm2
        refine ⟨v, (g3.2 84 m2 (by simp; omega)).1.trans v1, (g3.2 103 m2 (by simp; omega)).1.trans v2, v3, fun ev => ?_⟩
        obtain ⟨c2, x1, x2, x3⟩ := v4 ev
        refine ⟨c2, x1, mt_blk_f g3 (fun i j h1 h5 => ?_) x2, mt_row_f g3 x1.2.2.1 (fun j hj => ?_) x3⟩
        · simp only [Bool.or_eq_false_iff, Bool.and_eq_false_iff, decide_eq_false_iff_not]; omega
        · simp only [Bool.or_eq_false_iff, Bool.and_eq_false_iff, decide_eq_false_iff_not]; omega
theorem t_33 {T : mt_S} (w : Int32) (hi : mt_Inv T) : ∃ S', l_33 w T = some S' ∧ mt_Inv S' := by
  have hs := hi.1
  have hs0 : mt_st (mt_pI T 96 0 0) := hs
  by_cases hw : w < 0 ∨ 2 ≤ w
  · refine ⟨mt_pI T 96 0 0, ?_, mt_Inv_c hs (mt_thr (by decide +kernel)) hi⟩
    have a1 : f_X10_restore 0 w T = some (0, T) := fw_t (T_K hs (by decide) rfl) (fw_b2 (mt_imN hs hw) rfl)
    have a2 : f_X11_restore 96 w T = some (0, mt_pI T 96 0 0) := by
      refine fw_t (T_K hs (by decide) rfl) (fw_b (T_wI hs 0 (by decide) rfl) (fw_b2 (isIn01 w _) ?_))
      rw [if_pos hw]; rfl
    exact fw_b2 a1 (fw_b2 a2 (if_pos rfl))
  · obtain ⟨m, hm, rfl⟩ := mt_w01 hw
    obtain ⟨v, v1, v2, v3, v4⟩ := hi.2.2.2.1 m hm
    by_cases ev : v = 0
    · subst ev
      refine ⟨mt_pI T 96 0 0, ?_, mt_Inv_c hs (mt_thr (by decide +kernel)) hi⟩
      have a1 : f_X10_restore 0 (uI m) T = some (0, T) := fw_t (T_K hs (by decide) rfl) (fw_b2 (mt_imA hs hm) (fw_b (T_rR hs (by decide) rfl rfl) (fw_b (T_aI hs (by decide) rfl (n := 2) hm (by decide) v1) (fw_t rfl rfl))))
      have a2 : f_X11_restore 96 (uI m) T = some (0, mt_pI T 96 0 0) := by
        refine fw_t (T_K hs (by decide) rfl) (fw_b (T_wI hs 0 (by decide) rfl) (fw_b2 (isIn01 _ _) ?_))
        rw [if_neg hw]
        exact fw_f (by decide) (fw_b (T_rR hs0 (by decide) rfl rfl) (fw_b (T_aI hs0 (by decide) rfl (n := 2) hm (by decide) ((mt_I_ne (Or.inl (by decide))).trans v2)) (fw_t rfl rfl)))
      exact fw_b2 a1 (fw_b2 a2 (if_pos rfl))
    · obtain ⟨c, hg, hB, hR⟩ := v4 (v3.resolve_left ev)
      obtain ⟨T1, a1, b1, f1⟩ := mt_cB hs (a := 9) (by decide) (mt_imR m hm).2 (by omega) hg.2.2.1 hB
      have hs1 := f1.st hs
      have hs2 : mt_st (mt_pI T1 15 2 0) := hs1
      have hs3 : mt_st (mt_pI (mt_pI T1 15 2 0) 96 0 0) := hs1
      have g1 : mt_fr (fun k j => ((decide (9 < k) && decide (k ≤ 14)) || (decide (k = 15) && decide (j = 2))) || (decide (k = 96) && decide (j = 0))) T (mt_pI (mt_pI T1 15 2 0) 96 0 0) := ((f1.mono (fun k j q => by simp only [Bool.or_eq_false_iff] at q; exact q.1.1)).I 15 2 0 (by simp)).I 96 0 0 (by simp)
      have hR3 : mt_row (mt_pI (mt_pI T1 15 2 0) 96 0 0) 99 (35 * m) c := mt_row_f g1 hg.2.2.1 (fun j _ => by simp) hR
      have v2' : (mt_pI (mt_pI T1 15 2 0) 96 0 0).2.2.1 103 m = some v := (g1.2 103 m (by simp)).1.trans v2
      obtain ⟨T4, a4, b4, f4⟩ := mt_cp35 hs3 (a := 99) (b := 98) (o1 := 35 * m) (o2 := 0) (na := 70) (nb := 35) (by decide) (by decide) (by decide) rfl rfl (by omega) (by decide) (by decide) (by decide) hR3.2.2.2.2
      have hs4 := f4.st hs3
      have q1 : f_X10_restore 0 (uI m) T = some (1, mt_pI T1 15 2 0) := fw_t (T_K hs (by decide) rfl) (fw_b2 (mt_imA hs hm) (fw_b (T_rR hs (by decide) rfl rfl) (fw_b (T_aI hs (by decide) rfl (n := 2) hm (by decide) v1) (fw_f ev (fw_b (T_rR hs (by decide) rfl rfl) (fw_b a1 (fw_b (T_rR hs1 (by decide) rfl rfl) (fw_b (fw_t (T_K hs1 (by decide) rfl) (fw_b (T_wI hs1 0 (by decide) rfl) rfl)) rfl))))))))
      have q2 : f_X11_restore 96 (uI m) (mt_pI T1 15 2 0) = some (1, mt_pI T4 96 9 0) := by
        refine fw_t (T_K hs2 (by decide) rfl) (fw_b (T_wI hs2 0 (by decide) rfl) (fw_b2 (isIn01 _ _) ?_))
        rw [if_neg hw]
        refine fw_f (by decide) (fw_b (T_rR hs3 (by decide) rfl rfl) (fw_b (T_aI hs3 (by decide) rfl (n := 2) hm (by decide) v2') (fw_f ev (fw_b (T_rR hs3 (by decide) rfl rfl) (fw_b (T_rR hs3 (by decide) rfl rfl) ?_)))))
        rw [uI_35]
        exact fw_b a4 (fw_b (T_wI hs4 0 (by decide) rfl) rfl)
      have g2 : mt_fr (fun k j => decide (k = 98) || (decide (k = 96) && decide (j = 9))) (mt_pI (mt_pI T1 15 2 0) 96 0 0) (mt_pI T4 96 9 0) := (f4.mono (fun k j q => by simp only [Bool.or_eq_false_iff] at q; rw [q.1]; rfl)).I 96 9 0 (by simp)
      have g3 : mt_fr (fun k j => (((decide (9 < k) && decide (k ≤ 14)) || (decide (k = 15) && decide (j = 2))) || (decide (k = 96) && decide (j = 0))) || (decide (k = 98) || (decide (k = 96) && decide (j = 9)))) T (mt_pI T4 96 9 0) := (g1.mono (fun k j q => by rw [Bool.or_eq_false_iff] at q; exact q.1)).trans (g2.mono (fun k j q => by rw [Bool.or_eq_false_iff] at q; exact q.2))
      have b2 : mt_blk (mt_pI T4 96 9 0) 9 c := mt_blk_f g2 (fun i j _ _ => by simp; omega) (mt_blk_f (((mt_fr.refl (fun k _ => decide (k = 15) || decide (k = 96)) T1).I 15 2 0 (by simp)).I 96 0 0 (by simp)) (fun i j _ _ => by simp; omega) b1)
      obtain ⟨nx, h, hh⟩ := hi.2.2.1
      refine ⟨_, fw_b2 q1 (fw_b2 q2 (if_pos rfl)), mt_Inv_A hi (g3.mono (fun k j q => ?_)) ⟨c, hg, b2, mt_row_t hg.2.2.1 (fun j hj => (mt_I_ne (Or.inl (by decide))).trans (b4 j hj)) hR3⟩ ⟨nx, [], hh.1, by decide, (g3.2 15 1 (by simp)).1.trans hh.2.2.1, ?_, mt_I_eq, fun m x q => by cases q⟩ (mt_iIm_c (g3.sp 3 (fun k j q => ?_)) hi.2.2.2.1)⟩
      · unfold mt_DA mt_DAc at q
        simp only [Bool.or_eq_false_iff, Bool.and_eq_false_iff, decide_eq_false_iff_not] at q ⊢
        omega
      · rw [(g2.2 15 2 (by simp)).1]
        exact (mt_I_ne (Or.inl (by decide))).trans mt_I_eq
      · have := mt_pcs.2.2 q
        simp only [Bool.or_eq_false_iff, Bool.and_eq_false_iff, decide_eq_false_iff_not]
        omega
