/-! moveTo and goesThere -/
def mt_at2 (x y : mt_P) : Prop := x.1 = y.1 ∧ x.2.1 = y.2.1
def mt_mvA (x y : mt_P) : Int32 := if x.1 = y.1 ∧ x.2.1 = y.2.1 then -1 else y.2.2.2.2.2.2
def mt_mvY (x y : mt_P) : mt_P := if x.1 = y.1 ∧ x.2.1 = y.2.1 then x else y
def mt_mvH (x y : mt_P) (l : List mt_P) (h : List mt_C) : List mt_C := if x.1 = y.1 ∧ x.2.1 = y.2.1 then h else mt_ad (x, l) h
theorem mt_mvC {T : mt_S} (hs : mt_st T) {x y : mt_P} {l : List mt_P} {nx : Nat} {h : List mt_C} (hy : y ∈ mt_PL) (hg : mt_gC (x, l)) (hB : mt_blk T 9 (x, l)) (hC : mt_hC T nx h) : ∃ T' nx2, f_X10_moveTo 0 y.1 y.2.1 T = some (mt_mvA x y, T') ∧ mt_blk T' 9 (mt_mvY x y, l) ∧ mt_hC T' nx2 (mt_mvH x y l h) ∧ mt_fr (fun k _ => decide (9 < k) && decide (k ≤ 70)) T T' := by
  unfold mt_mvA mt_mvY mt_mvH
  by_cases e : x.1 = y.1 ∧ x.2.1 = y.2.1
  · rw [if_pos e, if_pos e, if_pos e]
    refine ⟨T, nx, ?_, hB, hC, mt_fr.refl _ T⟩
    have a0 : f_X4_isAt 10 y.1 y.2.1 T = some (1, T) := fw_t (T_K hs (by decide) rfl) (fw_b2 (mt_p9 hs hg.1 hB) (fw_t e.1.symm (fw_b2 (mt_q9 hs hg.1 hB) (fw_t e.2.symm rfl))))
    exact fw_t (T_K hs (by decide) rfl) (fw_b (T_rR hs (by decide) rfl rfl) (fw_b2 (mt_pl9 hs) (fw_b2 a0 (fw_f (by decide) rfl))))
  · rw [if_neg e, if_neg e, if_neg e]
    have a0 : f_X4_isAt 10 y.1 y.2.1 T = some (0, T) := by
      refine fw_t (T_K hs (by decide) rfl) (fw_b2 (mt_p9 hs hg.1 hB) ?_)
      by_cases e1 : y.1 = x.1
      · exact fw_t e1 (fw_b2 (mt_q9 hs hg.1 hB) (fw_f (fun q => e ⟨e1.symm, q.symm⟩) rfl))
      · exact fw_f e1 rfl
    obtain ⟨T1, a1, b1, n1, h1, f1⟩ := mt_note hs hg hB hC
    have hs1 := f1.st hs
    obtain ⟨T2, a2, b2, f2⟩ := mt_walk hs1 hy b1
    have hs2 := f2.st hs1
    have hnx := hC.1
    have n2 : mt_blk T2 (17 + 6 * nx) (x, l) := mt_blk_f f2 (fun i j _ _ => by simp; omega) n1
    have h2 : mt_hC T2 nx h := mt_hC_f f2 rfl rfl (fun m i j _ _ => by
      have : 17 ≤ mt_rg nx m := by unfold mt_rg; omega
      simp; omega) h1
    obtain ⟨T3, a3, h3, f3⟩ := mt_kee hs2 n2 h2
    have hs3 := f3.st hs2
    have b3 : mt_blk T3 9 (y, l) := mt_blk_f f3 (fun i j _ _ => by simp; omega) b2
    refine ⟨T3, _, ?_, b3, h3, ((f1.mono (fun k j q => ?_)).trans (f2.mono (fun k j q => ?_))).trans (f3.mono (fun k j q => ?_))⟩
    · exact fw_t (T_K hs (by decide) rfl) (fw_b (T_rR hs (by decide) rfl rfl) (fw_b2 (mt_pl9 hs) (fw_b2 a0 (fw_t rfl (fw_b (T_rR hs (by decide) rfl rfl) (fw_b (T_rR hs (by decide) rfl rfl) (fw_b a1 (fw_b a2 (fw_b (T_rR hs2 (by decide) rfl rfl) (fw_b a3 (fw_b2 (fw_t (T_K hs3 (by decide) rfl) (fw_b (T_rI hs3 (by decide) rfl (b3.1 4 _ rfl)) rfl)) rfl)))))))))))
    · simp only [Bool.and_eq_false_iff, decide_eq_false_iff_not] at q ⊢; omega
    · simp only [Bool.and_eq_false_iff, decide_eq_false_iff_not] at q ⊢; omega
    · simp only [Bool.and_eq_false_iff, decide_eq_false_iff_not] at q ⊢; omega
/-- the reference goes there -/
theorem mt_mvE {T : mt_S} (hs : mt_st T) {x y : mt_P} {l : List mt_P} {h : List mt_C} (hl : h.length ≤ 8) (hy : y ∈ mt_PL) (hg : mt_gC (x, l)) (hgh : mt_gH h) (hR : mt_row T 98 0 (x, l)) (hM : mt_hM T h) : ∃ T', (Option.bind (f_X11_snap 96 T) fun S3 => Option.bind (f_X11_becomes 96 y.1 y.2.1 S3) fun S4 => mt_b2 (f_X11_depth 96 S4) fun v6 S5 => some (v6, S5)) = some (y.2.2.2.2.2.2, T') ∧ mt_row T' 98 0 (y, l) ∧ mt_hM T' (mt_ad (x, l) h) ∧ mt_fr mt_DM T T' := by
  obtain ⟨T1, a1, m1, f1⟩ := mt_snapH hs hl hg hgh hR hM
  have hs1 := f1.st hs
  have R1 : mt_row T1 98 0 (x, l) := mt_row_f f1 hg.2.2.1 (fun _ _ => rfl) hR
  have hs2 : mt_st (mt_pI T1 98 0 y.1) := hs1
  have hs3 : mt_st (mt_pI (mt_pI T1 98 0 y.1) 98 1 y.2.1) := hs1
  have f3 := ((mt_fr.refl (fun k j => decide (k = 98) && decide (j < 2)) T1).I 98 0 y.1 rfl).I 98 1 y.2.1 rfl
  have a3 : f_X11_becomes 96 y.1 y.2.1 T1 = some (mt_pI (mt_pI T1 98 0 y.1) 98 1 y.2.1) := fw_t (T_K hs1 (by decide) rfl) (fw_b (T_rR hs1 (by decide) rfl rfl) (fw_b (T_sI hs1 (j := 0) y.1 (by decide) rfl (n := 35) (by decide) (by decide)) (fw_b (T_rR hs2 (by decide) rfl rfl) (fw_b (T_sI hs2 (j := 1) y.2.1 (by decide) rfl (n := 35) (by decide) (by decide)) rfl))))
  have y0 : (mt_pI (mt_pI T1 98 0 y.1) 98 1 y.2.1).2.2.1 98 0 = some y.1 := (mt_I_ne (Or.inr (by decide))).trans mt_I_eq
  have y1 : (mt_pI (mt_pI T1 98 0 y.1) 98 1 y.2.1).2.2.1 98 1 = some y.2.1 := mt_I_eq
  obtain ⟨T4, a4, b4, f4⟩ := mt_lays hs3 hy y0 y1
  have hs4 := f4.st hs3
  have g := mt_ad_g hg hgh
  have m4 : mt_hM T4 (mt_ad (x, l) h) := mt_hM_f f4 g rfl (fun _ => rfl) (mt_hM_f f3 g rfl (fun _ => rfl) m1)
  have k98 : ∀ j, 2 ≤ j → j < 35 → T4.2.2.1 98 j = T1.2.2.1 98 j := fun j h2 h35 => (f4.2 98 j (by unfold mt_Dw; simp; omega)).1.trans (f3.2 98 j (by simp; omega)).1
  obtain ⟨r0, r1, r2, r3, r4⟩ := R1
  have z0 : T4.2.2.1 98 0 = some y.1 := (f4.2 98 0 rfl).1.trans y0
  have z1 : T4.2.2.1 98 1 = some y.2.1 := (f4.2 98 1 rfl).1.trans y1
  refine ⟨T4, fw_b a1 (fw_b a3 (fw_b2 (fw_t (T_K hs3 (by decide) rfl) (fw_b a4 (fw_b (T_rI hs4 (by decide) rfl (b4 4 _ rfl)) rfl))) rfl)), ⟨z0, z1, (k98 2 (by decide) (by decide)).trans r2, fun m v hm => ?_, fun j hj => ?_⟩, m4, ((f1.mono (fun k j q => ?_)).trans (f3.mono (fun k j q => ?_))).trans (f4.mono (fun k j q => ?_))⟩
  · have hm' : m < l.length := mt_lt_of hm
    have hl16 : l.length ≤ 16 := hg.2.2.1
    obtain ⟨u1, u2⟩ := r3 m v hm
    exact ⟨(k98 _ (by omega) (by omega)).trans u1, (k98 _ (by omega) (by omega)).trans u2⟩
  · match j, hj with
    | 0, _ => exact ⟨_, z0⟩
    | 1, _ => exact ⟨_, z1⟩
    | j + 2, hj =>
      obtain ⟨v, hv⟩ := r4 (j + 2) hj
      rw [Nat.zero_add] at hv ⊢
      exact ⟨v, (k98 (j + 2) (by omega) hj).trans hv⟩
  · unfold mt_DM at q
    simp only [Bool.or_eq_false_iff, Bool.and_eq_false_iff, decide_eq_false_iff_not] at q ⊢; omega
  · unfold mt_DM at q
    simp only [Bool.or_eq_false_iff, Bool.and_eq_false_iff, decide_eq_false_iff_not] at q ⊢; omega
  · unfold mt_DM at q
    unfold mt_Dw
    simp only [Bool.or_eq_false_iff, Bool.and_eq_false_iff, decide_eq_false_iff_not] at q ⊢; omega
theorem mt_mvM {T : mt_S} (hs : mt_st T) {x y : mt_P} {l : List mt_P} {h : List mt_C} (hl : h.length ≤ 8) (hy : y ∈ mt_PL) (hg : mt_gC (x, l)) (hgh : mt_gH h) (hR : mt_row T 98 0 (x, l)) (hM : mt_hM T h) : ∃ T', f_X11_goesThere 96 y.1 y.2.1 T = some (mt_mvA x y, T') ∧ mt_row T' 98 0 (mt_mvY x y, l) ∧ mt_hM T' (mt_mvH x y l h) ∧ mt_fr mt_DM T T' := by
  unfold mt_mvA mt_mvY mt_mvH
  by_cases e : x.1 = y.1 ∧ x.2.1 = y.2.1
  · rw [if_pos e, if_pos e, if_pos e]
    exact ⟨T, fw_t (T_K hs (by decide) rfl) (fw_b (T_rR hs (by decide) rfl rfl) (fw_b (T_aI hs (j := 0) (by decide) rfl (n := 35) (by decide) (by decide) hR.1) (fw_t e.1 (fw_b (T_rR hs (by decide) rfl rfl) (fw_b (T_aI hs (j := 1) (by decide) rfl (n := 35) (by decide) (by decide) hR.2.1) (fw_t e.2 rfl)))))), hR, hM, mt_fr.refl _ T⟩
  · rw [if_neg e, if_neg e, if_neg e]
    obtain ⟨T', a, b, c, d⟩ := mt_mvE hs hl hy hg hgh hR hM
    refine ⟨T', fw_t (T_K hs (by decide) rfl) (fw_b (T_rR hs (by decide) rfl rfl) (fw_b (T_aI hs (j := 0) (by decide) rfl (n := 35) (by decide) (by decide) hR.1) ?_)), b, c, d⟩
    by_cases e1 : x.1 = y.1
    · exact fw_t e1 (fw_b (T_rR hs (by decide) rfl rfl) (fw_b (T_aI hs (j := 1) (by decide) rfl (n := 35) (by decide) (by decide) hR.2.1) (fw_f (fun q => e ⟨e1, q⟩) a)))
    · exact fw_f e1 a
