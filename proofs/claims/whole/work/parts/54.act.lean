/-! left, right, up -/
/-- what a step answers, and the history behind it -/
def mt_ans (w : Int32) (x : mt_P) : Int32 := if mt_str1 w x = 0 then -1 else (mt_sty w x).1 + (mt_sty w x).2.1
def mt_nh (w : Int32) (x : mt_P) (l : List mt_P) (h : List mt_C) : List mt_C := if mt_str1 w x = 0 then h else mt_ad (x, l) h
theorem mt_hC_f {D : Nat → Nat → Bool} {T T' : mt_S} {nx : Nat} {h : List mt_C} (hf : mt_fr D T T') (h1 : D 15 1 = false) (h2 : D 15 2 = false) (hD : ∀ m i j, 1 ≤ i → i ≤ 5 → D (mt_rg nx m + i) j = false) (hC : mt_hC T nx h) : mt_hC T' nx h := by
  obtain ⟨x1, x2, x3, x4, x5⟩ := hC
  exact ⟨x1, x2, (hf.2 15 1 h1).1.trans x3, (hf.2 15 2 h2).1.trans x4, fun m x q => mt_blk_f hf (hD m) (x5 m x q)⟩
theorem mt_hM_f {D : Nat → Nat → Bool} {T T' : mt_S} {h : List mt_C} (hf : mt_fr D T T') (hg : mt_gH h) (h1 : D 96 9 = false) (hD : ∀ j, D 100 j = false) (hM : mt_hM T h) : mt_hM T' h := ⟨(hf.2 96 9 h1).1.trans hM.1, fun m x q => mt_row_f hf (hg m x q).2.2.1 (fun _ _ => hD _) (hM.2 m x q)⟩
theorem mt_pl9 {T : mt_S} (hs : mt_st T) : f_X5_place 9 T = some (10, T) := fw_t (T_K hs (by decide) rfl) (fw_b (T_rR hs (by decide) rfl rfl) rfl)
theorem mt_mk9 {T : mt_S} (hs : mt_st T) : f_X5_marks 9 T = some (11, T) := fw_t (T_K hs (by decide) rfl) (fw_b (T_rR hs (by decide) rfl rfl) rfl)
theorem mt_pxQ_t : mt_pxQ = true := by decide +kernel
theorem mt_pq {x : mt_P} (hx : x ∈ mt_PL) : x.1 = x.2.2.1 + x.2.2.2.2.1 ∧ x.2.1 = x.2.2.2.1 + x.2.2.2.2.2.1 := by
  obtain ⟨a, b⟩ := (Bool.and_eq_true _ _).mp (List.all_eq_true.mp mt_pxQ_t x hx)
  exact ⟨of_decide_eq_true a, of_decide_eq_true b⟩
theorem mt_p9 {T : mt_S} (hs : mt_st T) {x : mt_P} {l : List mt_P} (hx : x ∈ mt_PL) (hB : mt_blk T 9 (x, l)) : f_X4_p 10 T = some (x.1, T) := by
  rw [(mt_pq hx).1]
  exact fw_t (T_K hs (by decide) rfl) (fw_b (T_rI hs (by decide) rfl (hB.1 0 _ rfl)) (fw_b (T_rI hs (by decide) rfl (hB.1 2 _ rfl)) rfl))
theorem mt_q9 {T : mt_S} (hs : mt_st T) {x : mt_P} {l : List mt_P} (hx : x ∈ mt_PL) (hB : mt_blk T 9 (x, l)) : f_X4_q 10 T = some (x.2.1, T) := by
  rw [(mt_pq hx).2]
  exact fw_t (T_K hs (by decide) rfl) (fw_b (T_rI hs (by decide) rfl (hB.1 1 _ rfl)) (fw_b (T_rI hs (by decide) rfl (hB.1 3 _ rfl)) rfl))
theorem mt_tg9 {T : mt_S} (hs : mt_st T) {x : mt_P} {l : List mt_P} (hx : x ∈ mt_PL) (hB : mt_blk T 9 (x, l)) : f_X4_together 10 T = some (x.1 + x.2.1, T) :=
  fw_t (T_K hs (by decide) rfl) (fw_b2 (mt_p9 hs hx hB) (fw_b2 (mt_q9 hs hx hB) rfl))
theorem mt_stepped {T : mt_S} (hs : mt_st T) {w : Int32} {x : mt_P} {l : List mt_P} {nx : Nat} {h : List mt_C} (hy : mt_sty w x ∈ mt_PL) (hB : mt_blk T 9 (mt_sty w x, l)) (hN : mt_blk T (17 + 6 * nx) (x, l)) (hC : mt_hC T nx h) : ∃ T' nx2, f_X10_stepped 0 (mt_str1 w x) T = some (mt_ans w x, T') ∧ mt_blk T' 9 (mt_sty w x, l) ∧ mt_hC T' nx2 (mt_nh w x l h) ∧ mt_fr (fun k _ => decide (9 < k) && decide (k ≤ 70)) T T' := by
  unfold mt_ans mt_nh
  by_cases h0 : mt_str1 w x = 0
  · rw [if_pos h0, if_pos h0]
    exact ⟨T, nx, fw_t (T_K hs (by decide) rfl) (fw_t h0 rfl), hB, hC, mt_fr.refl _ T⟩
  · rw [if_neg h0, if_neg h0]
    obtain ⟨T3, a3, h3, f3⟩ := mt_kee hs hN hC
    have hs3 := f3.st hs
    have b3 : mt_blk T3 9 (mt_sty w x, l) := mt_blk_f f3 (fun i j _ _ => by simp; omega) hB
    refine ⟨T3, _, ?_, b3, h3, f3.mono (fun k j q => ?_)⟩
    · exact fw_t (T_K hs (by decide) rfl) (fw_f h0 (fw_b (T_rR hs (by decide) rfl rfl) (fw_b a3 (fw_b (T_rR hs3 (by decide) rfl rfl) (fw_b2 (mt_pl9 hs3) (fw_b2 (mt_tg9 hs3 hy b3) rfl))))))
    · simp only [Bool.and_eq_false_iff, decide_eq_false_iff_not] at q ⊢; omega
def mt_DM (k j : Nat) : Bool := (decide (98 ≤ k) && (decide (k ≤ 102) && decide (k ≠ 99))) || decide (k = 104) || decide (k = 105) || (decide (k = 96) && (decide (j ≠ 2) && (decide (j ≠ 30) && decide (j ≠ 33))))
theorem mt_M_once {T : mt_S} {w : Int32} (hs : mt_st T) (hw : w ∈ ([108, 114, 117, 104] : List Int32)) {x : mt_P} {l : List mt_P} {h : List mt_C} (hl : h.length ≤ 8) (hg : mt_gC (x, l)) (hgh : mt_gH h) (hR : mt_row T 98 0 (x, l)) (hM : mt_hM T h) : ∃ T', f_X11_stepsOnce 96 w T = some (mt_ans w x, T') ∧ mt_row T' 98 0 (mt_sty w x, l) ∧ mt_hM T' (mt_nh w x l h) ∧ mt_fr mt_DM T T' := by
  have f0 : mt_fr mt_DM T (mt_pI T 96 0 0) := (mt_fr.refl _ T).I 96 0 0 rfl
  have hs0 : mt_st (mt_pI T 96 0 0) := hs
  have R0 : mt_row (mt_pI T 96 0 0) 98 0 (x, l) := mt_row_f ((mt_fr.refl (fun k j => decide (k = 96) && decide (j = 0)) T).I 96 0 0 rfl) hg.2.2.1 (fun _ _ => rfl) hR
  have M0 : mt_hM (mt_pI T 96 0 0) h := mt_hM_f ((mt_fr.refl (fun k j => decide (k = 96) && decide (j = 0)) T).I 96 0 0 rfl) hgh rfl (fun _ => rfl) hM
  obtain ⟨T1, a1, b1, f1⟩ := mt_cp35 hs0 (a := 98) (b := 101) (o1 := 0) (o2 := 0) (na := 35) (nb := 35) (by decide) (by decide) (by decide) rfl rfl (by decide) (by decide) (by decide) (by decide) R0.2.2.2.2
  have hs1 := f1.st hs0
  have K1 : mt_row T1 101 0 (x, l) := mt_row_t hg.2.2.1 b1 R0
  have R1 : mt_row T1 98 0 (x, l) := mt_row_f f1 hg.2.2.1 (fun _ _ => rfl) R0
  have M1 : mt_hM T1 h := mt_hM_f f1 hgh rfl (fun _ => rfl) M0
  obtain ⟨T2, a2, b2, f2⟩ := mt_stepM hw hs1 hg.2.2.1 hg.1 R1
  have hs2 := f2.st hs1
  have K2 : mt_row T2 101 0 (x, l) := mt_row_f f2 hg.2.2.1 (fun _ _ => rfl) K1
  have M2 : mt_hM T2 h := mt_hM_f f2 hgh rfl (fun _ => rfl) M1
  have f02 : mt_fr mt_DM T T2 := (f0.trans (f1.mono (fun k j q => by
      unfold mt_DM at q
      simp only [Bool.or_eq_false_iff, Bool.and_eq_false_iff, decide_eq_false_iff_not] at q ⊢; omega))).trans (f2.mono (fun k j q => by
      unfold mt_DM at q
      unfold mt_Ds
      simp only [Bool.or_eq_false_iff, Bool.and_eq_false_iff, decide_eq_false_iff_not] at q ⊢; omega))
  unfold mt_ans mt_nh
  by_cases h0 : mt_str1 w x = 0
  · rw [if_pos h0, if_pos h0]
    exact ⟨T2, fw_t (T_K hs (by decide) rfl) (fw_b (T_wI hs 0 (by decide) rfl) (fw_b (T_rR hs0 (by decide) rfl rfl) (fw_b (T_rR hs0 (by decide) rfl rfl) (fw_b a1 (fw_b2 a2 (fw_t h0 rfl)))))), b2, M2, f02⟩
  · rw [if_neg h0, if_neg h0]
    have hy : mt_sty w x ∈ mt_PL := mt_sty_PL hw hg.1
    have hg2 : mt_gC (mt_sty w x, l) := ⟨hy, hg.2⟩
    obtain ⟨T3, a3, b3, m3, f3⟩ := mt_stay hs2 hl hg hg2 hgh K2 b2 M2
    have hs3 := f3.st hs2
    refine ⟨T3, ?_, b3, m3, f02.trans (f3.mono (fun k j q => ?_))⟩
    · exact fw_t (T_K hs (by decide) rfl) (fw_b (T_wI hs 0 (by decide) rfl) (fw_b (T_rR hs0 (by decide) rfl rfl) (fw_b (T_rR hs0 (by decide) rfl rfl) (fw_b a1 (fw_b2 a2 (fw_f h0 (fw_b a3 (fw_b (T_rR hs3 (by decide) rfl rfl) (fw_b (T_aI hs3 (j := 0) (by decide) rfl (n := 35) (by decide) (by decide) b3.1) (fw_b (T_rR hs3 (by decide) rfl rfl) (fw_b (T_aI hs3 (j := 1) (by decide) rfl (n := 35) (by decide) (by decide) b3.2.1) rfl)))))))))))
    · unfold mt_DM at q
      simp only [Bool.or_eq_false_iff, Bool.and_eq_false_iff, decide_eq_false_iff_not] at q ⊢; omega
theorem mt_nh_g {w : Int32} {x : mt_P} {l : List mt_P} {h : List mt_C} (hg : mt_gC (x, l)) (hh : mt_gH h) : mt_gH (mt_nh w x l h) := by
  unfold mt_nh
  by_cases h0 : mt_str1 w x = 0
  · rw [if_pos h0]; exact hh
  · rw [if_neg h0]; exact mt_ad_g hg hh
/-- class and reference together -/
theorem mt_join {T T1 T2 : mt_S} (hi : mt_Inv T) (f1 : mt_fr (fun k _ => decide (9 < k) && decide (k ≤ 70)) T T1) (f2 : mt_fr mt_DM T1 T2) {c : mt_C} {nx : Nat} {h : List mt_C} (hg : mt_gC c) (hh : mt_gH h) (b1 : mt_blk T1 9 c) (c1 : mt_hC T1 nx h) (b2 : mt_row T2 98 0 c) (c2 : mt_hM T2 h) : mt_Inv T2 := by
  have f12 : mt_fr (fun k j => (decide (9 < k) && decide (k ≤ 70)) || mt_DM k j) T T2 := (f1.mono (fun k j q => by rw [Bool.or_eq_false_iff] at q; exact q.1)).trans (f2.mono (fun k j q => by rw [Bool.or_eq_false_iff] at q; exact q.2))
  refine mt_Inv_A hi (f12.mono (fun k j q => ?_)) ⟨c, hg, mt_blk_f f2 (fun i j _ _ => ?_) b1, b2⟩ ⟨nx, h, mt_hist.mpr ⟨hh, mt_hC_f f2 rfl rfl (fun m i j _ _ => ?_) c1, c2⟩⟩ (mt_iIm_c (f12.sp 3 (fun k j q => ?_)) hi.2.2.2.1)
  · unfold mt_DA mt_DAc at q
    unfold mt_DM
    simp only [Bool.or_eq_false_iff, Bool.and_eq_false_iff, decide_eq_false_iff_not] at q ⊢; omega
  · unfold mt_DM
    simp only [Bool.or_eq_false_iff, Bool.and_eq_false_iff, decide_eq_false_iff_not]; omega
  · have : mt_rg nx m ≤ 65 := by unfold mt_rg; omega
    unfold mt_DM
    simp only [Bool.or_eq_false_iff, Bool.and_eq_false_iff, decide_eq_false_iff_not]; omega
  · have := mt_pcs.2.2 q
    unfold mt_DM
    simp only [Bool.or_eq_false_iff, Bool.and_eq_false_iff, decide_eq_false_iff_not]; omega
theorem mt_done {T T1 T2 : mt_S} (hi : mt_Inv T) {w : Int32} {x : mt_P} {l : List mt_P} {nx : Nat} {h : List mt_C} (hg : mt_gC (x, l)) (hh : mt_gH h) (f1 : mt_fr (fun k _ => decide (9 < k) && decide (k ≤ 70)) T T1) (f2 : mt_fr mt_DM T1 T2) (hy : mt_sty w x ∈ mt_PL) (b1 : mt_blk T1 9 (mt_sty w x, l)) (c1 : mt_hC T1 nx (mt_nh w x l h)) (b2 : mt_row T2 98 0 (mt_sty w x, l)) (c2 : mt_hM T2 (mt_nh w x l h)) : mt_Inv T2 := mt_join (c := (mt_sty w x, l)) hi f1 f2 ⟨hy, hg.2⟩ (mt_nh_g hg hh) b1 c1 b2 c2

theorem mt_C_left {T : mt_S} (hs : mt_st T) {x : mt_P} {l : List mt_P} {nx : Nat} {h : List mt_C} (hg : mt_gC (x, l)) (hB : mt_blk T 9 (x, l)) (hC : mt_hC T nx h) : ∃ T' nx2, f_X10_left 0 T = some (mt_ans 108 x, T') ∧ mt_blk T' 9 (mt_sty 108 x, l) ∧ mt_hC T' nx2 (mt_nh 108 x l h) ∧ mt_fr (fun k _ => decide (9 < k) && decide (k ≤ 70)) T T' := by
  obtain ⟨T1, a1, b1, n1, h1, f1⟩ := mt_note hs hg hB hC
  have hs1 := f1.st hs
  obtain ⟨T2, a2, b2, f2⟩ := mt_stepC (f := f_X4_stepLeft 10) (w := 108) (fun _ _ _ _ hp e => (ov_X4_stepLeft hp e).1) mt_chL hs1 hg.1 b1
  have hs2 := f2.st hs1
  have hnx := hC.1
  have n2 : mt_blk T2 (17 + 6 * nx) (x, l) := mt_blk_f f2 (fun i j _ _ => by simp; omega) n1
  have h2 : mt_hC T2 nx h := mt_hC_f f2 rfl rfl (fun m i j _ _ => by
    have : 17 ≤ mt_rg nx m := by unfold mt_rg; omega
    simp; omega) h1
  have f12 : mt_fr (fun k _ => decide (9 < k) && decide (k ≤ 70)) T T2 := (f1.mono (fun k j q => by simp only [Bool.and_eq_false_iff, decide_eq_false_iff_not] at q ⊢; omega)).trans (f2.mono (fun k j q => by simp only [Bool.and_eq_false_iff, decide_eq_false_iff_not] at q ⊢; omega))
  have hy : mt_sty 108 x ∈ mt_PL := mt_sty_PL (by decide) hg.1
  obtain ⟨T3, nx3, a3, b3, h3, f3⟩ := mt_stepped hs2 hy b2 n2 h2
  refine ⟨T3, nx3, ?_, b3, h3, f12.trans f3⟩
  exact fw_t (T_K hs (by decide) rfl) (fw_b (T_rR hs (by decide) rfl rfl) (fw_b (T_rR hs (by decide) rfl rfl) (fw_b a1 (fw_b (T_rR hs1 (by decide) rfl rfl) (fw_b2 (mt_pl9 hs1) (fw_b2 a2 (fw_b2 a3 rfl)))))))
theorem t_5 {T : mt_S} (hi : mt_Inv T) : ∃ S', l_5 T = some S' ∧ mt_Inv S' := by
  have hs := hi.1
  obtain ⟨⟨x, l⟩, hg, hB, hR⟩ := hi.2.1
  obtain ⟨nx, h, hh⟩ := hi.2.2.1
  obtain ⟨hgh, hC, hM⟩ := mt_hist.mp hh
  obtain ⟨T1, nx1, a1, b1, c1, f1⟩ := mt_C_left hs hg hB hC
  have hs1 := f1.st hs
  obtain ⟨T2, a2, b2, c2, f2⟩ := mt_M_once (w := 108) hs1 (by decide) hC.2.1 hg hgh (mt_row_f f1 hg.2.2.1 (fun _ _ => rfl) hR) (mt_hM_f f1 hgh rfl (fun _ => rfl) hM)
  have q2 : f_X11_left 96 T1 = some (mt_ans 108 x, T2) := fw_t (T_K hs1 (by decide) rfl) (fw_b2 a2 rfl)
  exact ⟨T2, fw_b2 a1 (fw_b2 q2 (if_pos rfl)), mt_done hi hg hgh f1 f2 (mt_sty_PL (by decide) hg.1) b1 c1 b2 c2⟩
theorem mt_C_right {T : mt_S} (hs : mt_st T) {x : mt_P} {l : List mt_P} {nx : Nat} {h : List mt_C} (hg : mt_gC (x, l)) (hB : mt_blk T 9 (x, l)) (hC : mt_hC T nx h) : ∃ T' nx2, f_X10_right 0 T = some (mt_ans 114 x, T') ∧ mt_blk T' 9 (mt_sty 114 x, l) ∧ mt_hC T' nx2 (mt_nh 114 x l h) ∧ mt_fr (fun k _ => decide (9 < k) && decide (k ≤ 70)) T T' := by
  obtain ⟨T1, a1, b1, n1, h1, f1⟩ := mt_note hs hg hB hC
  have hs1 := f1.st hs
  obtain ⟨T2, a2, b2, f2⟩ := mt_stepC (f := f_X4_stepRight 10) (w := 114) (fun _ _ _ _ hp e => (ov_X4_stepRight hp e).1) mt_chR hs1 hg.1 b1
  have hs2 := f2.st hs1
  have hnx := hC.1
  have n2 : mt_blk T2 (17 + 6 * nx) (x, l) := mt_blk_f f2 (fun i j _ _ => by simp; omega) n1
  have h2 : mt_hC T2 nx h := mt_hC_f f2 rfl rfl (fun m i j _ _ => by
    have : 17 ≤ mt_rg nx m := by unfold mt_rg; omega
    simp; omega) h1
  have f12 : mt_fr (fun k _ => decide (9 < k) && decide (k ≤ 70)) T T2 := (f1.mono (fun k j q => by simp only [Bool.and_eq_false_iff, decide_eq_false_iff_not] at q ⊢; omega)).trans (f2.mono (fun k j q => by simp only [Bool.and_eq_false_iff, decide_eq_false_iff_not] at q ⊢; omega))
  have hy : mt_sty 114 x ∈ mt_PL := mt_sty_PL (by decide) hg.1
  obtain ⟨T3, nx3, a3, b3, h3, f3⟩ := mt_stepped hs2 hy b2 n2 h2
  refine ⟨T3, nx3, ?_, b3, h3, f12.trans f3⟩
  exact fw_t (T_K hs (by decide) rfl) (fw_b (T_rR hs (by decide) rfl rfl) (fw_b (T_rR hs (by decide) rfl rfl) (fw_b a1 (fw_b (T_rR hs1 (by decide) rfl rfl) (fw_b2 (mt_pl9 hs1) (fw_b2 a2 (fw_b2 a3 rfl)))))))
theorem t_6 {T : mt_S} (hi : mt_Inv T) : ∃ S', l_6 T = some S' ∧ mt_Inv S' := by
  have hs := hi.1
  obtain ⟨⟨x, l⟩, hg, hB, hR⟩ := hi.2.1
  obtain ⟨nx, h, hh⟩ := hi.2.2.1
  obtain ⟨hgh, hC, hM⟩ := mt_hist.mp hh
  obtain ⟨T1, nx1, a1, b1, c1, f1⟩ := mt_C_right hs hg hB hC
  have hs1 := f1.st hs
  obtain ⟨T2, a2, b2, c2, f2⟩ := mt_M_once (w := 114) hs1 (by decide) hC.2.1 hg hgh (mt_row_f f1 hg.2.2.1 (fun _ _ => rfl) hR) (mt_hM_f f1 hgh rfl (fun _ => rfl) hM)
  have q2 : f_X11_right 96 T1 = some (mt_ans 114 x, T2) := fw_t (T_K hs1 (by decide) rfl) (fw_b2 a2 rfl)
  exact ⟨T2, fw_b2 a1 (fw_b2 q2 (if_pos rfl)), mt_done hi hg hgh f1 f2 (mt_sty_PL (by decide) hg.1) b1 c1 b2 c2⟩
theorem mt_C_up {T : mt_S} (hs : mt_st T) {x : mt_P} {l : List mt_P} {nx : Nat} {h : List mt_C} (hg : mt_gC (x, l)) (hB : mt_blk T 9 (x, l)) (hC : mt_hC T nx h) : ∃ T' nx2, f_X10_up 0 T = some (mt_ans 117 x, T') ∧ mt_blk T' 9 (mt_sty 117 x, l) ∧ mt_hC T' nx2 (mt_nh 117 x l h) ∧ mt_fr (fun k _ => decide (9 < k) && decide (k ≤ 70)) T T' := by
  obtain ⟨T1, a1, b1, n1, h1, f1⟩ := mt_note hs hg hB hC
  have hs1 := f1.st hs
  obtain ⟨T2, a2, b2, f2⟩ := mt_stepC (f := f_X4_stepUp 10) (w := 117) (fun _ _ _ _ hp e => (ov_X4_stepUp hp e).1) mt_chU hs1 hg.1 b1
  have hs2 := f2.st hs1
  have hnx := hC.1
  have n2 : mt_blk T2 (17 + 6 * nx) (x, l) := mt_blk_f f2 (fun i j _ _ => by simp; omega) n1
  have h2 : mt_hC T2 nx h := mt_hC_f f2 rfl rfl (fun m i j _ _ => by
    have : 17 ≤ mt_rg nx m := by unfold mt_rg; omega
    simp; omega) h1
  have f12 : mt_fr (fun k _ => decide (9 < k) && decide (k ≤ 70)) T T2 := (f1.mono (fun k j q => by simp only [Bool.and_eq_false_iff, decide_eq_false_iff_not] at q ⊢; omega)).trans (f2.mono (fun k j q => by simp only [Bool.and_eq_false_iff, decide_eq_false_iff_not] at q ⊢; omega))
  have hy : mt_sty 117 x ∈ mt_PL := mt_sty_PL (by decide) hg.1
  obtain ⟨T3, nx3, a3, b3, h3, f3⟩ := mt_stepped hs2 hy b2 n2 h2
  refine ⟨T3, nx3, ?_, b3, h3, f12.trans f3⟩
  exact fw_t (T_K hs (by decide) rfl) (fw_b (T_rR hs (by decide) rfl rfl) (fw_b (T_rR hs (by decide) rfl rfl) (fw_b a1 (fw_b (T_rR hs1 (by decide) rfl rfl) (fw_b2 (mt_pl9 hs1) (fw_b2 a2 (fw_b2 a3 rfl)))))))
theorem t_7 {T : mt_S} (hi : mt_Inv T) : ∃ S', l_7 T = some S' ∧ mt_Inv S' := by
  have hs := hi.1
  obtain ⟨⟨x, l⟩, hg, hB, hR⟩ := hi.2.1
  obtain ⟨nx, h, hh⟩ := hi.2.2.1
  obtain ⟨hgh, hC, hM⟩ := mt_hist.mp hh
  obtain ⟨T1, nx1, a1, b1, c1, f1⟩ := mt_C_up hs hg hB hC
  have hs1 := f1.st hs
  obtain ⟨T2, a2, b2, c2, f2⟩ := mt_M_once (w := 117) hs1 (by decide) hC.2.1 hg hgh (mt_row_f f1 hg.2.2.1 (fun _ _ => rfl) hR) (mt_hM_f f1 hgh rfl (fun _ => rfl) hM)
  have q2 : f_X11_up 96 T1 = some (mt_ans 117 x, T2) := fw_t (T_K hs1 (by decide) rfl) (fw_b2 a2 rfl)
  exact ⟨T2, fw_b2 a1 (fw_b2 q2 (if_pos rfl)), mt_done hi hg hgh f1 f2 (mt_sty_PL (by decide) hg.1) b1 c1 b2 c2⟩
