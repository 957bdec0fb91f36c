/-! marked -/
theorem mt_mkN {T : mt_S} (hs : mt_st T) {c : mt_C} (hg : mt_gC c) (hR : mt_row T 98 0 c) {m : Nat} {y : mt_P} (hm : c.2[m]? = some y) : ∃ T', f_X11_markNumber 96 (uI m) T = some (mt_num y, T') ∧ mt_fr mt_Dn T T' := by
  obtain ⟨k1, k2⟩ := mt_mkP hs hg.2.2.1 hR hm
  obtain ⟨T', a, f⟩ := mt_numM hs (hg.2.1 y (List.mem_of_getElem? hm))
  exact ⟨T', fw_t (T_K hs (by decide) rfl) (fw_b2 k1 (fw_b2 k2 (fw_b2 a rfl))), f⟩
theorem mt_Dn_x {T T' : mt_S} (h : mt_fr mt_Dn T T') : mt_fr mt_Dx T T' := h.mono (fun k j q => by
  unfold mt_Dx mt_Dw at q
  unfold mt_Dn
  simp only [Bool.or_eq_false_iff, Bool.and_eq_false_iff, decide_eq_false_iff_not] at q ⊢; omega)
theorem t_25 {T : mt_S} (w u : Int32) (hi : mt_Inv T) : ∃ S', l_25 w u T = some S' ∧ mt_Inv S' := by
  have hs := hi.1
  have hs0 : mt_st (mt_pI T 96 0 0) := hs
  obtain ⟨⟨x, l⟩, hg, hB, hR⟩ := hi.2.1
  have hl : l.length ≤ 16 := hg.2.2.1
  have g0 : mt_fr mt_Dx T (mt_pI T 96 0 0) := (mt_fr.refl _ T).I 96 0 0 rfl
  have R0 : mt_row (mt_pI T 96 0 0) 98 0 (x, l) := mt_row_f ((mt_fr.refl (fun k j => decide (k = 96) && decide (j = 0)) T).I 96 0 0 rfl) hl (fun _ _ => rfl) hR
  have key : ∃ v T', f_X10_marked 0 w u T = some (v, T) ∧ f_X11_marked 96 w u T = some (v, T') ∧ mt_fr mt_Dx T T' := by
    by_cases hw : w < 0 ∨ uI l.length ≤ w
    · refine ⟨-1, mt_pI T 96 0 0, fw_t (T_K hs (by decide) rfl) (fw_b (T_rR hs (by decide) rfl rfl) (fw_b2 (mt_mk9 hs) ?_)), ?_, g0⟩
      · have hh := mt_has0 hs hB hw
        by_cases u0 : u = 0
        · exact fw_t u0 (fw_b2 (v := -1) (S1 := T) (fw_t (T_K hs (by decide) rfl) (fw_b2 hh (fw_t rfl rfl))) rfl)
        · by_cases u1 : u = 1
          · exact fw_f u0 (fw_t u1 (fw_b2 (v := -1) (S1 := T) (fw_t (T_K hs (by decide) rfl) (fw_b2 hh (fw_t rfl rfl))) rfl))
          · by_cases u2 : u = 2
            · exact fw_f u0 (fw_f u1 (fw_t u2 (fw_b2 (v := -1) (S1 := T) (fw_t (T_K hs (by decide) rfl) (fw_b2 hh (fw_t rfl rfl))) rfl)))
            · exact fw_f u0 (fw_f u1 (fw_f u2 rfl))
      · refine fw_t (T_K hs (by decide) rfl) (fw_b (T_wI hs 0 (by decide) rfl) (fw_b (T_rR hs0 (by decide) rfl rfl) (fw_b (T_aI hs0 (j := 2) (by decide) rfl (n := 35) (by decide) (by decide) R0.2.2.1) (fw_b2 (isInN w (by show l.length < _; omega) _) ?_))))
        rw [if_pos hw]; rfl
    · obtain ⟨m, hm, rfl⟩ := mt_inl2 (by omega) hw
      have hmy : l[m]? = some l[m] := List.getElem?_eq_getElem hm
      obtain ⟨p1, p2, p3⟩ := mt_pAt hs hl hB hmy
      obtain ⟨k1, k2⟩ := mt_mkP hs0 hl R0 hmy
      obtain ⟨T2, k3, f3⟩ := mt_mkN hs0 hg R0 hmy
      have M : ∀ {y : Option (Int64 × mt_S)}, (if u = 0 then mt_b2 (f_X11_markNumber 96 (uI m) (mt_pI T 96 0 0)) fun v7 S6 => some (v7, S6) else if u = 1 then mt_b2 (f_X11_markP 96 (uI m) (mt_pI T 96 0 0)) fun v9 S8 => some (v9.toInt64, S8) else if u = 2 then mt_b2 (f_X11_markQ 96 (uI m) (mt_pI T 96 0 0)) fun v11 S10 => some (v11.toInt64, S10) else some ((-1), mt_pI T 96 0 0)) = y → f_X11_marked 96 (uI m) u T = y := fun h => by
        refine fw_t (T_K hs (by decide) rfl) (fw_b (T_wI hs 0 (by decide) rfl) (fw_b (T_rR hs0 (by decide) rfl rfl) (fw_b (T_aI hs0 (j := 2) (by decide) rfl (n := 35) (by decide) (by decide) R0.2.2.1) (fw_b2 (isInN _ (by show l.length < _; omega) _) ?_))))
        rw [if_neg hw]
        exact fw_f (by decide) h
      by_cases u0 : u = 0
      · exact ⟨_, T2, fw_t (T_K hs (by decide) rfl) (fw_b (T_rR hs (by decide) rfl rfl) (fw_b2 (mt_mk9 hs) (fw_t u0 (fw_b2 p3 rfl)))), M (fw_t u0 (fw_b2 k3 rfl)), g0.trans (mt_Dn_x f3)⟩
      · by_cases u1 : u = 1
        · exact ⟨_, _, fw_t (T_K hs (by decide) rfl) (fw_b (T_rR hs (by decide) rfl rfl) (fw_b2 (mt_mk9 hs) (fw_f u0 (fw_t u1 (fw_b2 p1 rfl))))), M (fw_f u0 (fw_t u1 (fw_b2 k1 rfl))), g0⟩
        · by_cases u2 : u = 2
          · exact ⟨_, _, fw_t (T_K hs (by decide) rfl) (fw_b (T_rR hs (by decide) rfl rfl) (fw_b2 (mt_mk9 hs) (fw_f u0 (fw_f u1 (fw_t u2 (fw_b2 p2 rfl)))))), M (fw_f u0 (fw_f u1 (fw_t u2 (fw_b2 k2 rfl)))), g0⟩
          · exact ⟨-1, _, fw_t (T_K hs (by decide) rfl) (fw_b (T_rR hs (by decide) rfl rfl) (fw_b2 (mt_mk9 hs) (fw_f u0 (fw_f u1 (fw_f u2 rfl))))), M (fw_f u0 (fw_f u1 (fw_f u2 rfl))), g0⟩
  obtain ⟨v, T', k1, k2, k3⟩ := key
  exact ⟨T', fw_b2 k1 (fw_b2 k2 (if_pos rfl)), mt_Inv_x hi k3⟩
