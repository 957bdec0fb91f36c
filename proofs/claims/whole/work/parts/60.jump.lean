/-! marks asked for; jump -/
theorem mt_has0 {T : mt_S} (hs : mt_st T) {c : mt_C} (hB : mt_blk T 9 c) {w : Int32} (hw : w < 0 ∨ uI c.2.length ≤ w) : f_X3_has 11 w T = some (0, T) := by
  refine fw_t (T_K hs (by decide) rfl) ?_
  by_cases h0 : w < 0
  · exact fw_t h0 rfl
  · exact fw_f h0 (fw_b (T_rI hs (by decide) rfl hB.2.1) (fw_t (hw.resolve_left h0) rfl))
theorem mt_has1 {T : mt_S} (hs : mt_st T) {c : mt_C} (hB : mt_blk T 9 c) {w : Int32} (hw : ¬ (w < 0 ∨ uI c.2.length ≤ w)) : f_X3_has 11 w T = some (1, T) :=
  fw_t (T_K hs (by decide) rfl) (fw_f (fun q => hw (Or.inl q)) (fw_b (T_rI hs (by decide) rfl hB.2.1) (fw_f (fun q => hw (Or.inr q)) rfl)))
theorem mt_inl2 {n : Nat} {w : Int32} (hn : n < 2147483648) (hw : ¬ (w < 0 ∨ uI n ≤ w)) : ∃ m, m < n ∧ w = uI m := by
  obtain ⟨h0, h1⟩ := not_or.mp hw
  obtain ⟨j, hj, rfl⟩ := (uI_cs w).resolve_left h0
  refine ⟨j, ?_, rfl⟩
  rw [uI_le hn hj] at h1; omega
theorem mt_pAt {T : mt_S} (hs : mt_st T) {c : mt_C} (hl : c.2.length ≤ 16) (hB : mt_blk T 9 c) {m : Nat} {y : mt_P} (hm : c.2[m]? = some y) : f_X3_pAt 11 (uI m) T = some (y.1, T) ∧ f_X3_qAt 11 (uI m) T = some (y.2.1, T) ∧ f_X3_numberAt 11 (uI m) T = some (mt_num y, T) := by
  have hml := mt_lt_of hm
  have h1 := mt_has1 hs hB (w := uI m) (fun q => by
    rcases q with q | q
    · exact uI_nn (by omega) q
    · rw [uI_le (by omega) (by omega)] at q; omega)
  obtain ⟨z1, z2, z3⟩ := hB.2.2 m y hm
  refine ⟨fw_t (T_K hs (by decide) rfl) (fw_b2 h1 (fw_f (by decide) (fw_b (T_rR hs (by decide) rfl rfl) (fw_b (T_aI hs (by decide) rfl (n := 16) (by omega) (by decide) z2) rfl)))), fw_t (T_K hs (by decide) rfl) (fw_b2 h1 (fw_f (by decide) (fw_b (T_rR hs (by decide) rfl rfl) (fw_b (T_aI hs (by decide) rfl (n := 16) (by omega) (by decide) z3) rfl)))), fw_t (T_K hs (by decide) rfl) (fw_b2 h1 (fw_f (by decide) (fw_b (T_rR hs (by decide) rfl rfl) (fw_b (T_aL hs (by decide) rfl (n := 16) (by omega) (by decide) z1) rfl))))⟩
theorem uI_2 (m : Nat) : (3 : Int32) + 2 * uI m = uI (3 + 2 * m) := by
  unfold uI; rw [Int32.ofNat_add, Int32.ofNat_mul]; rfl
theorem mt_mkP {T : mt_S} (hs : mt_st T) {c : mt_C} (hl : c.2.length ≤ 16) (hR : mt_row T 98 0 c) {m : Nat} {y : mt_P} (hm : c.2[m]? = some y) : f_X11_markP 96 (uI m) T = some (y.1, T) ∧ f_X11_markQ 96 (uI m) T = some (y.2.1, T) := by
  have hml := mt_lt_of hm
  obtain ⟨z1, z2⟩ := hR.2.2.2.1 m y hm
  rw [show 0 + 3 + 2 * m = 3 + 2 * m by omega] at z1
  rw [show 0 + 4 + 2 * m = 3 + 2 * m + 1 by omega] at z2
  constructor
  · refine fw_t (T_K hs (by decide) rfl) (fw_b (T_rR hs (by decide) rfl rfl) ?_)
    rw [uI_2]
    exact fw_b (T_aI hs (by decide) rfl (n := 35) (by omega) (by decide) z1) rfl
  · refine fw_t (T_K hs (by decide) rfl) (fw_b (T_rR hs (by decide) rfl rfl) ?_)
    rw [uI_2, uI_s]
    exact fw_b (T_aI hs (by decide) rfl (n := 35) (by omega) (by decide) z2) rfl
theorem mt_mvG {x y : mt_P} {l : List mt_P} {h : List mt_C} (hy : y ∈ mt_PL) (hg : mt_gC (x, l)) (hh : mt_gH h) : mt_gC (mt_mvY x y, l) ∧ mt_gH (mt_mvH x y l h) := by
  unfold mt_mvY mt_mvH
  by_cases e : x.1 = y.1 ∧ x.2.1 = y.2.1
  · rw [if_pos e, if_pos e]; exact ⟨hg, hh⟩
  · rw [if_neg e, if_neg e]; exact ⟨⟨hy, hg.2⟩, mt_ad_g hg hh⟩
theorem t_27 {T : mt_S} (w : Int32) (hi : mt_Inv T) : ∃ S', l_27 w T = some S' ∧ mt_Inv S' := by
  have hs := hi.1
  have hs0 : mt_st (mt_pI T 96 0 0) := hs
  obtain ⟨⟨x, l⟩, hg, hB, hR⟩ := hi.2.1
  have hl : l.length ≤ 16 := hg.2.2.1
  obtain ⟨nx, h, hh⟩ := hi.2.2.1
  obtain ⟨hgh, hC, hM⟩ := mt_hist.mp hh
  by_cases hw : w < 0 ∨ uI l.length ≤ w
  · refine ⟨mt_pI T 96 0 0, ?_, mt_Inv_c hs (mt_thr (by decide +kernel)) hi⟩
    have a1 : f_X10_jump 0 w T = some (-1, T) := fw_t (T_K hs (by decide) rfl) (fw_b (T_rR hs (by decide) rfl rfl) (fw_b2 (mt_mk9 hs) (fw_b2 (mt_has0 hs hB hw) (fw_t rfl rfl))))
    have a2 : f_X11_jump 96 w T = some (-1, mt_pI T 96 0 0) := by
      refine fw_t (T_K hs (by decide) rfl) (fw_b (T_wI hs 0 (by decide) rfl) (fw_b (T_rR hs0 (by decide) rfl rfl) (fw_b (T_aI hs0 (j := 2) (by decide) rfl (n := 35) (by decide) (by decide) ((mt_I_ne (Or.inl (by decide))).trans hR.2.2.1)) (fw_b2 (isInN w (by show l.length < _; omega) _) ?_))))
      rw [if_pos hw]; rfl
    exact fw_b2 a1 (fw_b2 a2 (if_pos rfl))
  · obtain ⟨m, hm, rfl⟩ := mt_inl2 (by omega) hw
    have hmy : l[m]? = some l[m] := List.getElem?_eq_getElem hm
    have hy : l[m] ∈ mt_PL := hg.2.1 _ (List.getElem_mem hm)
    obtain ⟨p1, p2, -⟩ := mt_pAt hs hl hB hmy
    obtain ⟨T1, nx1, a1, b1, c1, f1⟩ := mt_mvC hs hy hg hB hC
    have hs1 := f1.st hs
    have g0 := (mt_fr.refl (fun k j => decide (k = 96) && decide (j = 0)) T1).I 96 0 0 rfl
    have hs2 := g0.st hs1
    have R1 : mt_row T1 98 0 (x, l) := mt_row_f f1 hl (fun _ _ => rfl) hR
    have R2 : mt_row (mt_pI T1 96 0 0) 98 0 (x, l) := mt_row_f g0 hl (fun _ _ => rfl) R1
    have M2 : mt_hM (mt_pI T1 96 0 0) h := mt_hM_f g0 hgh rfl (fun _ => rfl) (mt_hM_f f1 hgh rfl (fun _ => rfl) hM)
    obtain ⟨k1, k2⟩ := mt_mkP hs2 hl R2 hmy
    obtain ⟨T3, a3, b3, c3, f3⟩ := mt_mvM hs2 hC.2.1 hy hg hgh R2 M2
    have q1 : f_X10_jump 0 (uI m) T = some (mt_mvA x l[m], T1) := fw_t (T_K hs (by decide) rfl) (fw_b (T_rR hs (by decide) rfl rfl) (fw_b2 (mt_mk9 hs) (fw_b2 (mt_has1 hs hB hw) (fw_f (by decide) (fw_b2 p1 (fw_b2 p2 (fw_b2 a1 rfl)))))))
    have q2 : f_X11_jump 96 (uI m) T1 = some (mt_mvA x l[m], T3) := by
      refine fw_t (T_K hs1 (by decide) rfl) (fw_b (T_wI hs1 0 (by decide) rfl) (fw_b (T_rR hs2 (by decide) rfl rfl) (fw_b (T_aI hs2 (j := 2) (by decide) rfl (n := 35) (by decide) (by decide) R2.2.2.1) (fw_b2 (isInN _ (by show l.length < _; omega) _) ?_))))
      rw [if_neg hw]
      exact fw_f (by decide) (fw_b2 k1 (fw_b2 k2 (fw_b2 a3 rfl)))
    obtain ⟨gY, gHh⟩ := mt_mvG hy hg hgh
    exact ⟨T3, fw_b2 q1 (fw_b2 q2 (if_pos rfl)), mt_join hi f1 ((g0.mono (fun k j q => by
      unfold mt_DM at q
      simp only [Bool.or_eq_false_iff, Bool.and_eq_false_iff, decide_eq_false_iff_not] at q ⊢; omega)).trans f3) gY gHh b1 c1 b3 c3⟩
