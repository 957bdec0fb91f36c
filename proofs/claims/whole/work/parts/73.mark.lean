/-! mark -/
def mt_mq (x : mt_P) (l : List mt_P) : Bool := decide (mt_ix x 0 l = -1) && decide (l.length < 16)
def mt_ml (x : mt_P) (l : List mt_P) : List mt_P := if mt_mq x l = true then mt_ins x l.reverse [] else l
theorem mt_ml_g {x : mt_P} {l : List mt_P} (hg : mt_gC (x, l)) : mt_gC (x, mt_ml x l) := by
  unfold mt_ml
  by_cases q : mt_mq x l = true
  · rw [if_pos q]
    have hl := of_decide_eq_true ((Bool.and_eq_true _ _).mp q).2
    refine ⟨hg.1, fun y hy => ?_, ?_, ?_⟩
    · rcases mt_ins_m x _ _ y hy with h | h | h
      · rw [h]; exact hg.1
      · exact hg.2.1 y (List.mem_reverse.mp h)
      · cases h
    · show (mt_ins x l.reverse []).length ≤ 16
      rw [mt_ins_l, List.length_reverse, List.length_nil]; omega
    · exact mt_ins_s x _ _ (by rw [List.reverse_reverse, List.append_nil]; exact hg.2.2.2) (fun z hz => by cases hz)
  · rw [if_neg q]; exact hg
theorem mt_numH {T : mt_S} (hs : mt_st T) {x : mt_P} {l : List mt_P} (hx : x ∈ mt_PL) (hB : mt_blk T 9 (x, l)) : ∃ T', f_X10_numberHere 0 T = some (mt_num x, T') ∧ mt_fr (fun k _ => decide (k = 0) || decide (k = 88)) T T' := by
  obtain ⟨T', a, f⟩ := mt_numC hs hx
  exact ⟨T', fw_t (T_K hs (by decide) rfl) (fw_b (T_rR hs (by decide) rfl rfl) (fw_b2 (mt_pl9 hs) (fw_b2 (mt_p9 hs hx hB) (fw_b (T_rR hs (by decide) rfl rfl) (fw_b2 (mt_pl9 hs) (fw_b2 (mt_q9 hs hx hB) (fw_b2 a rfl))))))), f⟩
def mt_Dh (k j : Nat) : Bool := mt_Dp k j || decide (k = 0) || decide (k = 88)
/-- the program's markHere -/
theorem mt_mhC {T : mt_S} (hs : mt_st T) {x : mt_P} {l : List mt_P} (hg : mt_gC (x, l)) (hB : mt_blk T 9 (x, l)) : ∃ T', f_X10_markHere 0 T = some (if mt_mq x l = true then 1 else 0, T') ∧ mt_blk T' 9 (x, mt_ml x l) ∧ mt_fr mt_Dh T T' := by
  have hl : l.length ≤ 16 := hg.2.2.1
  have hm := mt_isMk hs hg hB
  unfold mt_ml
  by_cases q1 : mt_ix x 0 l = -1
  · have hm : f_X5_isMarked 9 T = some (0, T) := by
      rw [hm]
      show some ((if mt_ix x 0 l = -1 then (0 : Int32) else 1), T) = _
      rw [if_pos q1]
    by_cases q2 : l.length < 16
    · have q : mt_mq x l = true := by unfold mt_mq; rw [decide_eq_true q1, decide_eq_true q2]; rfl
      rw [if_pos q, if_pos q]
      have isF : f_X3_isFull 11 T = some (0, T) := fw_t (T_K hs (by decide) rfl) (fw_b (T_rI hs (by decide) rfl hB.2.1) (fw_t (by rw [show (16 : Int32) = uI 16 from rfl]; exact (uI_lt (by show l.length < _; omega) (by decide)).mpr q2) rfl))
      obtain ⟨T1, a1, f1⟩ := mt_numH hs hg.1 hB
      have hs1 := f1.st hs
      have B1 : mt_blk T1 9 (x, l) := mt_blk_f f1 (fun i j _ _ => by simp; omega) hB
      obtain ⟨T2, a2, b2, f2⟩ := mt_put hs1 (y := x) q2 B1
      refine ⟨T2, ?_, b2, (f1.mono (fun k j z => ?_)).trans (f2.mono (fun k j z => ?_))⟩
      · exact fw_t (T_K hs (by decide) rfl) (fw_b (T_rR hs (by decide) rfl rfl) (fw_b2 hm (fw_t rfl (fw_b (T_rR hs (by decide) rfl rfl) (fw_b2 (mt_mk9 hs) (fw_b2 isF (fw_t rfl (fw_b (T_rR hs (by decide) rfl rfl) (fw_b2 (mt_pl9 hs) (fw_b (T_rR hs (by decide) rfl rfl) (fw_b2 (mt_mk9 hs) (fw_b2 a1 (fw_b2 (mt_p9 hs1 hg.1 B1) (fw_b2 (mt_q9 hs1 hg.1 B1) (fw_b a2 rfl)))))))))))))))
      · unfold mt_Dh at z
        simp only [Bool.or_eq_false_iff] at z ⊢; exact ⟨z.1.2, z.2⟩
      · unfold mt_Dh at z
        simp only [Bool.or_eq_false_iff] at z; exact z.1.1
    · have q : ¬ mt_mq x l = true := by unfold mt_mq; rw [decide_eq_false q2, Bool.and_false]; exact Bool.false_ne_true
      rw [if_neg q, if_neg q]
      have isF : f_X3_isFull 11 T = some (1, T) := fw_t (T_K hs (by decide) rfl) (fw_b (T_rI hs (by decide) rfl hB.2.1) (fw_f (by rw [show (16 : Int32) = uI 16 from rfl]; exact fun z => q2 ((uI_lt (by omega) (by decide)).mp z)) rfl))
      exact ⟨T, fw_t (T_K hs (by decide) rfl) (fw_b (T_rR hs (by decide) rfl rfl) (fw_b2 hm (fw_t rfl (fw_b (T_rR hs (by decide) rfl rfl) (fw_b2 (mt_mk9 hs) (fw_b2 isF (fw_f (by decide) rfl))))))), hB, mt_fr.refl _ T⟩
  · have hm : f_X5_isMarked 9 T = some (1, T) := by
      rw [hm]
      show some ((if mt_ix x 0 l = -1 then (0 : Int32) else 1), T) = _
      rw [if_neg q1]
    have q : ¬ mt_mq x l = true := by unfold mt_mq; rw [decide_eq_false q1, Bool.false_and]; exact Bool.false_ne_true
    rw [if_neg q, if_neg q]
    exact ⟨T, fw_t (T_K hs (by decide) rfl) (fw_b (T_rR hs (by decide) rfl rfl) (fw_b2 hm (fw_f (by decide) rfl))), hB, mt_fr.refl _ T⟩
theorem mt_join2 {T T1 T2 : mt_S} (hi : mt_Inv T) (f1 : mt_fr (fun k _ => decide (k = 0) || decide (k = 88) || (decide (9 < k) && decide (k ≤ 70))) T T1) (f2 : mt_fr mt_DM T1 T2) {c : mt_C} {nx : Nat} {h : List mt_C} (hg : mt_gC c) (hh : mt_gH h) (b1 : mt_blk T1 9 c) (c1 : mt_hC T1 nx h) (b2 : mt_row T2 98 0 c) (c2 : mt_hM T2 h) : mt_Inv T2 := by
  have f12 : mt_fr (fun k j => (decide (k = 0) || decide (k = 88) || (decide (9 < k) && decide (k ≤ 70))) || mt_DM k j) T T2 := (f1.mono (fun k j q => by rw [Bool.or_eq_false_iff] at q; exact q.1)).trans (f2.mono (fun k j q => by rw [Bool.or_eq_false_iff] at q; exact q.2))
  have q12 : mt_spQ (fun k j => (decide (k = 0) || decide (k = 88) || (decide (9 < k) && decide (k ≤ 70))) || mt_DM k j) [3, 4, 5, 6, 7] = true := by decide +kernel
  obtain ⟨hs, -, -, h3, ⟨n4, h4⟩, ⟨n5, h5⟩, h6, h7⟩ := hi
  refine ⟨f12.st hs, ⟨c, hg, mt_blk_f f2 (fun i j _ _ => ?_) b1, b2⟩, ⟨nx, h, mt_hist.mpr ⟨hh, mt_hC_f f2 rfl rfl (fun m i j _ _ => ?_) c1, c2⟩⟩, mt_iIm_c (mt_sp_of f12 q12 rfl) h3, ⟨n4, mt_iTape_c (mt_sp_of f12 q12 rfl) h4⟩, ⟨n5, mt_iText_c (mt_sp_of f12 q12 rfl) h5⟩, mt_iFault_c (mt_sp_of f12 q12 rfl) h6, mt_iTab_c (mt_sp_of f12 q12 rfl) h7⟩
  · unfold mt_DM
    simp only [Bool.or_eq_false_iff, Bool.and_eq_false_iff, decide_eq_false_iff_not]; omega
  · have : mt_rg nx m ≤ 65 := by unfold mt_rg; omega
    unfold mt_DM
    simp only [Bool.or_eq_false_iff, Bool.and_eq_false_iff, decide_eq_false_iff_not]; omega
theorem mt_Dh_h {T T' : mt_S} {nx : Nat} {h : List mt_C} (f : mt_fr mt_Dh T T') (hC : mt_hC T nx h) : mt_hC T' nx h := mt_hC_f f rfl rfl (fun m i j _ _ => by
  have : 17 ≤ mt_rg nx m ∧ mt_rg nx m ≤ 65 := by unfold mt_rg; omega
  unfold mt_Dh mt_Dp
  simp only [Bool.or_eq_false_iff, Bool.and_eq_false_iff, decide_eq_false_iff_not]; omega) hC
theorem mt_Dh_b {T T' : mt_S} {r : Nat} {c : mt_C} (f : mt_fr mt_Dh T T') (hr : r < 9) (hB : mt_blk T (17 + 6 * r) c) : mt_blk T' (17 + 6 * r) c := mt_blk_f f (fun i j _ _ => by
  unfold mt_Dh mt_Dp
  simp only [Bool.or_eq_false_iff, Bool.and_eq_false_iff, decide_eq_false_iff_not]; omega) hB
theorem mt_Dq_M {T T' : mt_S} (f : mt_fr mt_Dq T T') : mt_fr mt_DM T T' := f.mono (fun k j q => by
  unfold mt_DM at q
  unfold mt_Dq mt_Dn
  simp only [Bool.or_eq_false_iff, Bool.and_eq_false_iff, decide_eq_false_iff_not] at q ⊢; omega)
theorem t_23 {T : mt_S} (hi : mt_Inv T) : ∃ S', l_23 T = some S' ∧ mt_Inv S' := by
  have hs := hi.1
  have hs0 : mt_st (mt_pI T 96 0 0) := hs
  obtain ⟨⟨x, l⟩, hg, hB, hR⟩ := hi.2.1
  have hl : l.length ≤ 16 := hg.2.2.1
  obtain ⟨nx, h, hh⟩ := hi.2.2.1
  obtain ⟨hgh, hC, hM⟩ := mt_hist.mp hh
  have hm := mt_isMk hs hg hB
  by_cases q1 : mt_ix x 0 l = -1
  · have hm : f_X5_isMarked 9 T = some (0, T) := by
      rw [hm]
      show some ((if mt_ix x 0 l = -1 then (0 : Int32) else 1), T) = _
      rw [if_pos q1]
    obtain ⟨T1, a1, b1, n1, h1, f1⟩ := mt_note hs hg hB hC
    have hs1 := f1.st hs
    obtain ⟨T2, a2, b2, f2⟩ := mt_mhC hs1 hg b1
    have hs2 := f2.st hs1
    have h2 := mt_Dh_h f2 h1
    have n2 := mt_Dh_b f2 hC.1 n1
    have f12 : mt_fr (fun k _ => decide (k = 0) || decide (k = 88) || (decide (9 < k) && decide (k ≤ 70))) T T2 := (f1.mono (fun k j q => by
      have := hC.1
      simp only [Bool.or_eq_false_iff, Bool.and_eq_false_iff, decide_eq_false_iff_not] at q ⊢; omega)).trans (f2.mono (fun k j q => by
      unfold mt_Dh mt_Dp
      simp only [Bool.or_eq_false_iff, Bool.and_eq_false_iff, decide_eq_false_iff_not] at q ⊢; omega))
    by_cases q2 : l.length < 16
    · have q : mt_mq x l = true := by unfold mt_mq; rw [decide_eq_true q1, decide_eq_true q2]; rfl
      rw [if_pos q] at a2
      obtain ⟨T3, a3, h3, f3⟩ := mt_kee hs2 n2 h2
      have hs3 := f3.st hs2
      have b3 : mt_blk T3 9 (x, mt_ml x l) := mt_blk_f f3 (fun i j _ _ => by simp; omega) b2
      have c1 : f_X10_mark 0 T = some (0, T3) := fw_t (T_K hs (by decide) rfl) (fw_b (T_rR hs (by decide) rfl rfl) (fw_b2 hm (fw_t rfl (fw_b (T_rR hs (by decide) rfl rfl) (fw_b (T_rR hs (by decide) rfl rfl) (fw_b a1 (fw_b2 a2 (fw_f (by decide) (fw_b (T_rR hs2 (by decide) rfl rfl) (fw_b a3 rfl))))))))))
      have f13 : mt_fr (fun k _ => decide (k = 0) || decide (k = 88) || (decide (9 < k) && decide (k ≤ 70))) T T3 := f12.trans (f3.mono (fun k j q => by
        simp only [Bool.or_eq_false_iff, Bool.and_eq_false_iff, decide_eq_false_iff_not] at q ⊢; omega))
      have R3 : mt_row T3 98 0 (x, l) := mt_row_f f13 hl (fun _ _ => rfl) hR
      have M3 : mt_hM T3 h := mt_hM_f f13 hgh rfl (fun _ => rfl) hM
      have g0 := (mt_fr.refl (fun k j => decide (k = 96) && decide (j = 0)) T3).I 96 0 0 rfl
      have hs4 := g0.st hs3
      have R4 : mt_row (mt_pI T3 96 0 0) 98 0 (x, l) := mt_row_f g0 hl (fun _ _ => rfl) R3
      have M4 : mt_hM (mt_pI T3 96 0 0) h := mt_hM_f g0 hgh rfl (fun _ => rfl) M3
      obtain ⟨T5, a5, m5, f5⟩ := mt_snapH hs4 hC.2.1 hg hgh R4 M4
      have hs5 := f5.st hs4
      have R5 : mt_row T5 98 0 (x, l) := mt_row_f f5 hl (fun _ _ => rfl) R4
      obtain ⟨T6, a6, b6, f6⟩ := mt_marksM hs5 hg q2 R5
      have m6 : mt_hM T6 (mt_ad (x, l) h) := mt_hM_f f6 (mt_ad_g hg hgh) rfl (fun _ => rfl) m5
      have c2 : f_X11_mark 96 T3 = some (0, T6) := by
        refine fw_t (T_K hs3 (by decide) rfl) (fw_b (T_wI hs3 0 (by decide) rfl) (fw_b2 (mt_hereM hs4 hl R4) (fw_t q1 (fw_b (T_rR hs4 (by decide) rfl rfl) (fw_b (T_aI hs4 (j := 2) (by decide) rfl (n := 35) (by decide) (by decide) R4.2.2.1) (fw_f ?_ (fw_b a5 (fw_b a6 rfl))))))))
        show ¬ uI l.length = 16
        rw [show (16 : Int32) = uI 16 from rfl, uI_eq (by omega) (by decide)]; omega
      have fM : mt_fr mt_DM T3 T6 := ((g0.mono (fun k j q => by
        unfold mt_DM at q
        simp only [Bool.or_eq_false_iff, Bool.and_eq_false_iff, decide_eq_false_iff_not] at q ⊢; omega)).trans (f5.mono (fun k j q => by
        unfold mt_DM at q
        simp only [Bool.or_eq_false_iff, Bool.and_eq_false_iff, decide_eq_false_iff_not] at q ⊢; omega))).trans (mt_Dq_M f6)
      have e : mt_ml x l = mt_ins x l.reverse [] := by unfold mt_ml; rw [if_pos q]
      have gl := mt_ml_g hg
      rw [e] at gl b3
      exact ⟨T6, fw_b2 c1 (fw_b2 c2 (if_pos rfl)), mt_join2 hi f13 fM gl (mt_ad_g hg hgh) b3 h3 b6 m6⟩
    · have q : ¬ mt_mq x l = true := by unfold mt_mq; rw [decide_eq_false q2, Bool.and_false]; exact Bool.false_ne_true
      rw [if_neg q] at a2
      have e : mt_ml x l = l := by unfold mt_ml; rw [if_neg q]
      rw [e] at b2
      have c1 : f_X10_mark 0 T = some (-1, T2) := fw_t (T_K hs (by decide) rfl) (fw_b (T_rR hs (by decide) rfl rfl) (fw_b2 hm (fw_t rfl (fw_b (T_rR hs (by decide) rfl rfl) (fw_b (T_rR hs (by decide) rfl rfl) (fw_b a1 (fw_b2 a2 (fw_t rfl rfl))))))))
      have R3 : mt_row T2 98 0 (x, l) := mt_row_f f12 hl (fun _ _ => rfl) hR
      have M3 : mt_hM T2 h := mt_hM_f f12 hgh rfl (fun _ => rfl) hM
      have g0 := (mt_fr.refl (fun k j => decide (k = 96) && decide (j = 0)) T2).I 96 0 0 rfl
      have hs4 := g0.st hs2
      have R4 : mt_row (mt_pI T2 96 0 0) 98 0 (x, l) := mt_row_f g0 hl (fun _ _ => rfl) R3
      have M4 : mt_hM (mt_pI T2 96 0 0) h := mt_hM_f g0 hgh rfl (fun _ => rfl) M3
      have c2 : f_X11_mark 96 T2 = some (-1, mt_pI T2 96 0 0) := by
        refine fw_t (T_K hs2 (by decide) rfl) (fw_b (T_wI hs2 0 (by decide) rfl) (fw_b2 (mt_hereM hs4 hl R4) (fw_t q1 (fw_b (T_rR hs4 (by decide) rfl rfl) (fw_b (T_aI hs4 (j := 2) (by decide) rfl (n := 35) (by decide) (by decide) R4.2.2.1) (fw_t ?_ rfl))))))
        show uI l.length = 16
        rw [show (16 : Int32) = uI 16 from rfl, uI_eq (by omega) (by decide)]; omega
      exact ⟨_, fw_b2 c1 (fw_b2 c2 (if_pos rfl)), mt_join2 hi f12 (g0.mono (fun k j q => by
        unfold mt_DM at q
        simp only [Bool.or_eq_false_iff, Bool.and_eq_false_iff, decide_eq_false_iff_not] at q ⊢; omega)) hg hgh b2 h2 R4 M4⟩
  · have hm : f_X5_isMarked 9 T = some (1, T) := by
      rw [hm]
      show some ((if mt_ix x 0 l = -1 then (0 : Int32) else 1), T) = _
      rw [if_neg q1]
    have R0 : mt_row (mt_pI T 96 0 0) 98 0 (x, l) := mt_row_f ((mt_fr.refl (fun k j => decide (k = 96) && decide (j = 0)) T).I 96 0 0 rfl) hl (fun _ _ => rfl) hR
    refine ⟨mt_pI T 96 0 0, ?_, mt_Inv_c hs (mt_thr (by decide +kernel)) hi⟩
    have c1 : f_X10_mark 0 T = some (1, T) := fw_t (T_K hs (by decide) rfl) (fw_b (T_rR hs (by decide) rfl rfl) (fw_b2 hm (fw_f (by decide) rfl)))
    have c2 : f_X11_mark 96 T = some (1, mt_pI T 96 0 0) := fw_t (T_K hs (by decide) rfl) (fw_b (T_wI hs 0 (by decide) rfl) (fw_b2 (mt_hereM hs0 hl R0) (fw_f q1 rfl)))
    exact fw_b2 c1 (fw_b2 c2 (if_pos rfl))
