/-! near: the turn -/
theorem mt_nearB {T : mt_S} (hi : mt_Inv T) (n : Int64) (e : Int32) : ∃ v T', f_X10_near 0 n e T = some (v, T) ∧ f_X11_near 96 n e T = some (v, T') ∧ mt_Inv T' := by
  have hs := hi.1
  have hs0 : mt_st (mt_pI T 96 0 0) := hs
  obtain ⟨⟨x, l⟩, hg, hB, hR⟩ := hi.2.1
  have hl : l.length ≤ 16 := hg.2.2.1
  have g0 : mt_fr mt_Dx T (mt_pI T 96 0 0) := (mt_fr.refl _ T).I 96 0 0 rfl
  have R0 : mt_row (mt_pI T 96 0 0) 98 0 (x, l) := mt_row_f ((mt_fr.refl (fun k j => decide (k = 96) && decide (j = 0)) T).I 96 0 0 rfl) hl (fun _ _ => rfl) hR
  have hix : ∀ (m : Nat) (y : mt_P), l[m]? = some y → l[0 + m]? = some y := fun m y h => by rw [Nat.zero_add]; exact h
  obtain ⟨T', a, f⟩ := mt_nrL (x, l) hg n e l (-1) 0 1000 (mt_pI T 96 0 0) hs0 R0 (Nat.zero_add _) hix (by omega)
  have a2 : f_X11_near 96 n e T = _ := fw_t (T_K hs (by decide) rfl) (fw_b (T_wI hs 0 (by decide) rfl) a)
  by_cases e0 : e = 0
  · rw [if_pos e0, mt_mL_e l (-1) hg.2.2.2] at a2
    refine ⟨_, T', ?_, a2, mt_Inv_x hi (g0.trans (mt_Dn_x f))⟩
    exact fw_t (T_K hs (by decide) rfl) (fw_t e0 (fw_b (T_rR hs (by decide) rfl rfl) (fw_b2 (mt_mk9 hs) (fw_b2 (fw_t (T_K hs (by decide) rfl) (mt_lTL hs hl hB n l (-1) 0 1000 (Nat.zero_add _) hix (by omega))) rfl))))
  · rw [if_neg e0, mt_mN_e l hg.2.1] at a2
    refine ⟨_, T', ?_, a2, mt_Inv_x hi (g0.trans (mt_Dn_x f))⟩
    exact fw_t (T_K hs (by decide) rfl) (fw_f e0 (fw_b (T_rR hs (by decide) rfl rfl) (fw_b2 (mt_mk9 hs) (fw_b2 (fw_t (T_K hs (by decide) rfl) (mt_nFL hs hl hB n l 0 1000 (Nat.zero_add _) hix (by omega))) rfl))))
theorem t_26 {T : mt_S} (w1 w2 w3 : Int32) (hi : mt_Inv T) : ∃ S', l_26 w1 w2 w3 T = some S' ∧ mt_Inv S' := by
  by_cases h : w3 = 0
  · obtain ⟨v, T', a, b, c⟩ := mt_nearB hi ((w1.toInt64 <<< ((32 : Int32).toInt64 &&& 63)) ||| (w2.toInt64 &&& 4294967295)) 0
    exact ⟨T', fw_t h (fw_b2 a (fw_t h (fw_b2 b (if_pos rfl)))), c⟩
  · obtain ⟨v, T', a, b, c⟩ := mt_nearB hi ((w1.toInt64 <<< ((32 : Int32).toInt64 &&& 63)) ||| (w2.toInt64 &&& 4294967295)) 1
    exact ⟨T', fw_f h (fw_b2 a (fw_f h (fw_b2 b (if_pos rfl)))), c⟩
