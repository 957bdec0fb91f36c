/-! go: the turn -/
theorem t_8 {T : mt_S} (p q : Int32) (hi : mt_Inv T) : ∃ S', l_8 p q T = some S' ∧ mt_Inv S' := by
  have hs := hi.1
  have hs0 : mt_st (mt_pI T 96 0 0) := hs
  rcases mt_ipl p q with ⟨y, hy, rfl, rfl, hp⟩ | hp
  · obtain ⟨⟨x, l⟩, hg, hB, hR⟩ := hi.2.1
    have hl : l.length ≤ 16 := hg.2.2.1
    obtain ⟨nx, h, hh⟩ := hi.2.2.1
    obtain ⟨hgh, hC, hM⟩ := mt_hist.mp hh
    obtain ⟨T1, nx1, a1, b1, c1, f1⟩ := mt_mvC hs hy hg hB hC
    have hs1 := f1.st hs
    have g0 := (mt_fr.refl (fun k j => decide (k = 96) && decide (j = 0)) T1).I 96 0 0 rfl
    have hs2 := g0.st hs1
    have R1 : mt_row T1 98 0 (x, l) := mt_row_f f1 hl (fun _ _ => rfl) hR
    have R2 : mt_row (mt_pI T1 96 0 0) 98 0 (x, l) := mt_row_f g0 hl (fun _ _ => rfl) R1
    have M2 : mt_hM (mt_pI T1 96 0 0) h := mt_hM_f g0 hgh rfl (fun _ => rfl) (mt_hM_f f1 hgh rfl (fun _ => rfl) hM)
    obtain ⟨T3, a3, b3, c3, f3⟩ := mt_mvM hs2 hC.2.1 hy hg hgh R2 M2
    have q1 : f_X10_go 0 y.1 y.2.1 T = some (mt_mvA x y, T1) := fw_t (T_K hs (by decide) rfl) (fw_b2 (hp T).1 (fw_f (by decide) (fw_b2 a1 rfl)))
    have q2 : f_X11_go 96 y.1 y.2.1 T1 = some (mt_mvA x y, T3) := fw_t (T_K hs1 (by decide) rfl) (fw_b (T_wI hs1 0 (by decide) rfl) (fw_b2 (hp _).2 (fw_f (by decide) (fw_b2 a3 rfl))))
    obtain ⟨gY, gHh⟩ := mt_mvG hy hg hgh
    exact ⟨T3, fw_b2 q1 (fw_b2 q2 (if_pos rfl)), mt_join hi f1 ((g0.mono (fun k j q => by
      unfold mt_DM at q
      simp only [Bool.or_eq_false_iff, Bool.and_eq_false_iff, decide_eq_false_iff_not] at q ⊢; omega)).trans f3) gY gHh b1 c1 b3 c3⟩
  · refine ⟨mt_pI T 96 0 0, ?_, mt_Inv_c hs (mt_thr (by decide +kernel)) hi⟩
    have a1 : f_X10_go 0 p q T = some (-1, T) := fw_t (T_K hs (by decide) rfl) (fw_b2 (hp T).1 (fw_t rfl rfl))
    have a2 : f_X11_go 96 p q T = some (-1, mt_pI T 96 0 0) := fw_t (T_K hs (by decide) rfl) (fw_b (T_wI hs 0 (by decide) rfl) (fw_b2 (hp _).2 (fw_t rfl rfl)))
    exact fw_b2 a1 (fw_b2 a2 (if_pos rfl))
