/-! undo, image, restore: the turns -/
theorem t_31 {T : mt_S} (hi : mt_Inv T) : ∃ S', l_31 T = some S' ∧ mt_Inv S' := by
  have hs := hi.1
  obtain ⟨nx, h, hh⟩ := hi.2.2.1
  obtain ⟨hg, hC, hM⟩ := mt_hist.mp hh
  cases h with
  | nil =>
    refine ⟨mt_pI T 96 0 0, ?_, mt_Inv_c hs (mt_thr (by decide +kernel)) hi⟩
    have a1 : f_X10_undo 0 T = some (-1, T) := fw_t (T_K hs (by decide) rfl) (fw_b (T_rR hs (by decide) rfl rfl) (fw_b (T_rR hs (by decide) rfl rfl) (fw_b2 (v := 0) (S1 := T) (fw_t (T_K hs (by decide) rfl) (fw_b (T_rI hs (by decide) rfl hC.2.2.2.1) (fw_t rfl rfl))) (fw_t rfl rfl))))
    have a2 : f_X11_undo 96 T = some (-1, mt_pI T 96 0 0) := fw_t (T_K hs (by decide) rfl) (fw_b (T_wI hs 0 (by decide) rfl) (fw_b (T_rI (T := mt_pI T 96 0 0) hs (by decide) rfl ((mt_I_ne (Or.inr (by decide))).trans hM.1)) (fw_t rfl rfl)))
    exact fw_b2 a1 (fw_b2 a2 (if_pos rfl))
  | cons c h =>
    have hgc : mt_gC c := hg 0 c rfl
    have hgh : mt_gH h := fun m x hm => hg (m + 1) x hm
    have hl : h.length + 1 ≤ 8 := hC.2.1
    obtain ⟨T1, a1, b1, d1, f1⟩ := mt_undoC hs hgc hC
    have hM1 : mt_hM T1 (c :: h) := ⟨(f1.2 96 9 rfl).1.trans hM.1, fun m x hm => mt_row_f f1 (hg m x hm).2.2.1 (fun _ _ => rfl) (hM.2 m x hm)⟩
    obtain ⟨T2, a2, b2, d2, f2⟩ := mt_undoM (f1.st hs) hl hgc hgh hM1
    have f12 : mt_fr (fun k j => ((decide (k = 15) && (decide (j = 1) || decide (j = 2))) || (decide (9 < k) && decide (k ≤ 14))) || ((decide (k = 96) && (decide (j = 0) || decide (j = 9))) || decide (k = 98))) T T2 := (f1.mono (fun k j q => by simp only [Bool.or_eq_false_iff] at q ⊢; exact q.1)).trans (f2.mono (fun k j q => by simp only [Bool.or_eq_false_iff] at q ⊢; exact q.2))
    have b1' : mt_blk T2 9 c := mt_blk_f f2 (fun i j _ _ => by simp; omega) b1
    have d1' : mt_hC T2 ((nx + 8) % 9) h := by
      obtain ⟨x1, x2, x3, x4, x5⟩ := d1
      refine ⟨x1, x2, (f2.2 15 1 rfl).1.trans x3, (f2.2 15 2 rfl).1.trans x4, fun m x hm => mt_blk_f f2 (fun i j _ _ => ?_) (x5 m x hm)⟩
      have : mt_rg ((nx + 8) % 9) m ≤ 65 := by unfold mt_rg; omega
      simp; omega
    refine ⟨T2, fw_b2 a1 (fw_b2 a2 (if_pos rfl)), mt_Inv_A hi (f12.mono (fun k j q => ?_)) ⟨c, hgc, b1', b2⟩ ⟨_, h, mt_hist.mpr ⟨hgh, d1', d2⟩⟩ (mt_iIm_c (f12.sp 3 (fun k j q => ?_)) hi.2.2.2.1)⟩
    · unfold mt_DA mt_DAc at q
      simp only [Bool.or_eq_false_iff, Bool.and_eq_false_iff, decide_eq_false_iff_not] at q ⊢
      omega
    · by_cases w : (((decide (k = 15) && (decide (j = 1) || decide (j = 2))) || (decide (9 < k) && decide (k ≤ 14))) || ((decide (k = 96) && (decide (j = 0) || decide (j = 9))) || decide (k = 98))) = true
      · exfalso
        have z : ∀ k, k ≤ 15 → 9 < k → mt_pc k j ≠ 3 := by
          intro k h1 h2
          unfold mt_pc
          rw [if_neg (by omega), if_neg (by omega)]
          have : ∀ k, k ≤ 15 → mt_pcT.getD k 0 ≠ 3 := by decide +kernel
          exact this k h1
        simp only [Bool.or_eq_true, Bool.and_eq_true, decide_eq_true_eq] at w
        rcases w with (⟨rfl, _⟩ | ⟨w1, w2⟩) | ⟨rfl, rfl | rfl⟩ | rfl
        · exact z 15 (by decide) (by decide) q
        · exact z k (by omega) w1 q
        · exact absurd q (by decide)
        · exact absurd q (by decide)
        · exact absurd q (show (1 : Nat) ≠ 3 by decide)
      · exact Bool.eq_false_iff.mpr w
theorem isIn01 (w : Int32) (S : mt_S) : f_X11_isIn w.toInt64 0 1 S = some ((if w < 0 ∨ 2 ≤ w then 0 else 1), S) := isInN (n := 2) w (by decide) S
theorem mt_w01 {w : Int32} (h : ¬ (w < 0 ∨ 2 ≤ w)) : ∃ j, j < 2 ∧ w = uI j := by
  obtain ⟨h0, h1⟩ := not_or.mp h
  obtain ⟨j, hj, rfl⟩ := (uI_cs w).resolve_left h0
  refine ⟨j, ?_, rfl⟩
  rw [show (2 : Int32) = uI 2 from rfl, uI_le (by decide) hj] at h1
  omega
theorem mt_imR : ∀ m, m < 2 → mt_RN 71 m = some (72 + 6 * m) ∧ 72 + 6 * m ∈ mt_BL := by decide +kernel
theorem mt_lt2 (w : Int32) : (w < 2 ↔ ¬ 2 ≤ w) := by
  rw [Int32.lt_iff_toInt_lt, Int32.le_iff_toInt_le]; omega
theorem mt_imA {T : mt_S} (hs : mt_st T) {m : Nat} (hm : m < 2) : f_X10_imageAt 0 (uI m) T = some (some (72 + 6 * m), T) :=
  fw_t (T_K hs (by decide) rfl) (fw_f (uI_nn (by omega)) (fw_t (by rw [show (2 : Int32) = uI 2 from rfl, uI_lt (by omega) (by decide)]; exact hm) (fw_b (T_rR hs (by decide) rfl rfl) (fw_b (T_aR hs (by decide) rfl (n := 2) hm (by decide) (mt_imR m hm).1) rfl))))
theorem mt_imN {T : mt_S} (hs : mt_st T) {w : Int32} (hw : w < 0 ∨ 2 ≤ w) : f_X10_imageAt 0 w T = some (none, T) := by
  refine fw_t (T_K hs (by decide) rfl) ?_
  by_cases h0 : w < 0
  · exact fw_t h0 rfl
  · exact fw_f h0 (fw_f (fun q => (mt_lt2 w).mp q (hw.resolve_left h0)) rfl)
theorem vp_nb1 : vp_nar .boolean 1 = 1 := by decide
