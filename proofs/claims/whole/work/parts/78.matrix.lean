/-! matrix -/
theorem mt_i01 {w : Int32} (h0 : ¬ w < 0) (h1 : ¬ 1 < w) : w = 0 ∨ w = 1 := by
  rw [Int32.lt_iff_toInt_lt] at h0 h1
  have e0 : (0 : Int32).toInt = 0 := rfl
  have e1 : (1 : Int32).toInt = 1 := rfl
  rw [← Int32.toInt_inj, ← Int32.toInt_inj (y := (1 : Int32))]
  omega
theorem mt_fz0 {T1 : mt_S} (v : Int32) : mt_fr mt_Dz T1 (mt_pI T1 96 0 v) := (mt_fr.refl _ _).I 96 0 v rfl
theorem mt_fz8 {T1 : mt_S} (v : Int64) : mt_fr mt_Dz T1 (mt_pL T1 108 0 v) := (mt_fr.refl _ _).L 108 0 v rfl
theorem mt_le1 {w : Int32} (h : ¬ 1 < w) : w ≤ 1 := by
  rw [Int32.lt_iff_toInt_lt] at h; rw [Int32.le_iff_toInt_le]; omega
theorem t_12 {T : mt_S} (u w : Int32) (hi : mt_Inv T) : ∃ S', l_12 u w T = some S' ∧ mt_Inv S' := by
  have hs := hi.1
  have hs0 : mt_st (mt_pI T 96 0 0) := hs
  obtain ⟨⟨x, l⟩, hg, hB, hR⟩ := hi.2.1
  have hl : l.length ≤ 16 := hg.2.2.1
  by_cases hb : (u < 0 ∨ 1 < u) ∨ (w < 0 ∨ 1 < w)
  · have c0 : f_X10_matrix 0 u w T = none ∧ x_X10_matrix 0 u w T = some T := by
      by_cases a1 : u < 0
      · exact ⟨fw_t (T_K hs (by decide) rfl) (fw_t a1 rfl), fw_t (T_K hs (by decide) rfl) (fw_t a1 rfl)⟩
      · by_cases a2 : 1 < u
        · exact ⟨fw_t (T_K hs (by decide) rfl) (fw_f a1 (fw_t a2 rfl)), fw_t (T_K hs (by decide) rfl) (fw_f a1 (fw_t a2 rfl))⟩
        · by_cases a3 : w < 0
          · exact ⟨fw_t (T_K hs (by decide) rfl) (fw_f a1 (fw_f a2 (fw_t a3 rfl))), fw_t (T_K hs (by decide) rfl) (fw_f a1 (fw_f a2 (fw_t a3 rfl)))⟩
          · have a4 : ¬ w ≤ 1 := mt_nle.mpr ((hb.resolve_left (not_or.mpr ⟨a1, a2⟩)).resolve_left a3)
            exact ⟨fw_t (T_K hs (by decide) rfl) (fw_f a1 (fw_f a2 (fw_f a3 (fw_f a4 rfl)))), fw_t (T_K hs (by decide) rfl) (fw_f a1 (fw_f a2 (fw_f a3 (fw_f a4 rfl))))⟩
    have h1 : h_matrix 0 u w 108 T = some (1, T) := by
      unfold h_matrix
      rw [c0.1]
      exact fw_b c0.2 rfl
    have c2 : f_X11_matrix 96 u w T = some (0, mt_pI (mt_pI T 96 0 0) 96 0 1) := by
      refine fw_t (T_K hs (by decide) rfl) (fw_b (T_wI hs 0 (by decide) rfl) (fw_b2 (isInG u 0 1 _) ?_))
      by_cases a1 : u < 0 ∨ 1 < u
      · rw [if_pos a1]
        exact fw_t rfl (fw_b2 (mt_rf1 hs0) rfl)
      · rw [if_neg a1]
        refine fw_f (by decide) (fw_b2 (isInG w 0 1 _) ?_)
        rw [if_pos (hb.resolve_left a1)]
        exact fw_t rfl (fw_b2 (mt_rf1 hs0) rfl)
    exact ⟨_, fw_b2 h1 (fw_b2 c2 (mt_thT (T3 := mt_pI (mt_pI T 96 0 0) 96 0 1) hs mt_I_eq)), mt_Inv_z hi ((mt_fz0 0).trans (mt_fz0 1))⟩
  · obtain ⟨hu, hw⟩ := not_or.mp hb
    obtain ⟨u0, u1⟩ := not_or.mp hu
    obtain ⟨w0, w1⟩ := not_or.mp hw
    obtain ⟨T1, a1, b1, f1⟩ := (mt_lays2 (mt_PL_PX hg.1)).1 hs
    have hs1 := f1.st hs
    have key : ∃ i, i < 4 ∧ (∀ {T1 : mt_S}, mt_st T1 → (∀ i, i < 4 → T1.2.2.2.1 88 i = some (mt_en x i)) → f_X9_entry 88 u w T1 = some (mt_en x i, T1)) ∧ (2 * u) + w = uI i := by
      rcases mt_i01 u0 u1 with rfl | rfl
      · rcases mt_i01 w0 w1 with rfl | rfl
        · exact ⟨0, by decide, fun hs1 b => fw_t (T_K hs1 (by decide) rfl) (fw_t rfl (fw_t rfl (fw_b (T_rL hs1 (by decide) rfl (b 0 (by decide))) rfl))), rfl⟩
        · exact ⟨1, by decide, fun hs1 b => fw_t (T_K hs1 (by decide) rfl) (fw_t rfl (fw_f (by decide) (fw_b (T_rL hs1 (by decide) rfl (b 1 (by decide))) rfl))), rfl⟩
      · rcases mt_i01 w0 w1 with rfl | rfl
        · exact ⟨2, by decide, fun hs1 b => fw_t (T_K hs1 (by decide) rfl) (fw_f (by decide) (fw_t rfl (fw_b (T_rL hs1 (by decide) rfl (b 2 (by decide))) rfl))), rfl⟩
        · exact ⟨3, by decide, fun hs1 b => fw_t (T_K hs1 (by decide) rfl) (fw_f (by decide) (fw_f (by decide) (fw_b (T_rL hs1 (by decide) rfl (b 3 (by decide))) rfl))), rfl⟩
    obtain ⟨i, hi4, kE, kI⟩ := key
    have c1 : f_X10_matrix 0 u w T = some (mt_en x i, T1) := fw_t (T_K hs (by decide) rfl) (fw_f u0 (fw_f u1 (fw_f w0 (fw_t (mt_le1 w1) (fw_b (T_rR hs (by decide) rfl rfl) (fw_b (T_rR hs (by decide) rfl rfl) (fw_b2 (mt_pl9 hs) (fw_b2 (mt_p9 hs hg.1 hB) (fw_b (T_rR hs (by decide) rfl rfl) (fw_b2 (mt_pl9 hs) (fw_b2 (mt_q9 hs hg.1 hB) (fw_b a1 (fw_b (T_rR hs1 (by decide) rfl rfl) (fw_b2 (kE hs1 b1) rfl))))))))))))))
    have h1 : h_matrix 0 u w 108 T = some (0, mt_pL T1 108 0 (mt_en x i)) := by
      unfold h_matrix
      rw [c1]
      exact fw_b (T_sL hs1 (j := 0) _ (by decide) rfl (n := 1) (by decide) (by decide)) rfl
    have fa : mt_fr mt_Dz T (mt_pI (mt_pL T1 108 0 (mt_en x i)) 96 0 0) := ((mt_z88 f1).trans (mt_fz8 _)).trans (mt_fz0 0)
    have hsb : mt_st (mt_pL T1 108 0 (mt_en x i)) := hs1
    have hsa := fa.st hs
    have e0 := (fa.2 98 0 rfl).1.trans hR.1
    have e1 := (fa.2 98 1 rfl).1.trans hR.2.1
    obtain ⟨T3, a3, b3, f3⟩ := (mt_lays2 (mt_PL_PX hg.1)).2 hsa
    have hs3 := f3.st hsa
    have c2 : f_X11_matrix 96 u w (mt_pL T1 108 0 (mt_en x i)) = some (mt_en x i, T3) := by
      refine fw_t (T_K hsb (by decide) rfl) (fw_b (T_wI hsb 0 (by decide) rfl) (fw_b2 (isInG u 0 1 _) ?_))
      rw [if_neg hu]
      refine fw_f (by decide) (fw_b2 (isInG w 0 1 _) ?_)
      rw [if_neg hw]
      refine fw_f (by decide) (fw_b (T_rR hsa (by decide) rfl rfl) (fw_b (T_aI hsa (j := 0) (by decide) rfl (n := 35) (by decide) (by decide) e0) (fw_b (T_rR hsa (by decide) rfl rfl) (fw_b (T_aI hsa (j := 1) (by decide) rfl (n := 35) (by decide) (by decide) e1) (fw_b a3 (fw_b (T_rR hs3 (by decide) rfl rfl) ?_))))))
      rw [kI]
      exact fw_b (T_aL hs3 (by decide) rfl (n := 4) hi4 (by decide) (b3 i hi4)) rfl
    have eo : T3.2.2.2.1 108 0 = some (mt_en x i) := (f3.2 108 0 rfl).2.trans mt_L_eq
    exact ⟨T3, fw_b2 h1 (fw_b2 c2 (mt_thE (T1 := T1) hs3 ((f3.2 96 0 rfl).1.trans mt_I_eq) eo)), mt_Inv_z hi (fa.trans (mt_zm f3))⟩
