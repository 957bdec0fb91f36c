/-! an act is noted and kept -/
theorem mt_fr.sp2 {D : Nat → Nat → Bool} {T T' : mt_S} (h1 : mt_fr D T T') (p : Nat) (h : ∀ k j, j < (mt_shN k).2 → mt_pc k j = p → D k j = false) : mt_sp p T T' := ⟨fun k j r q => (h1.2 k j (h k j (mt_perI_ln r) q)).1, fun k j r q => (h1.2 k j (h k j (mt_perL_ln r) q)).2⟩
def mt_ad (c : mt_C) (h : List mt_C) : List mt_C := (c :: h).take 8
theorem mt_ad_l (c : mt_C) (h : List mt_C) : (mt_ad c h).length = min (h.length + 1) 8 := by
  unfold mt_ad; rw [List.length_take, List.length_cons]; omega
theorem mt_ad_s {c : mt_C} {h : List mt_C} {m : Nat} {x : mt_C} (q : (mt_ad c h)[m + 1]? = some x) : h[m]? = some x ∧ m + 1 < 8 := by
  unfold mt_ad at q
  have hl := mt_lt_of q
  rw [List.length_take] at hl
  have h8 : m + 1 < 8 := by omega
  rw [List.getElem?_take_of_lt h8, List.getElem?_cons_succ] at q
  exact ⟨q, h8⟩
theorem mt_ad_0 {c x : mt_C} {h : List mt_C} (q : (mt_ad c h)[0]? = some x) : x = c := by
  unfold mt_ad at q
  rw [List.getElem?_take_of_lt (by decide), List.getElem?_cons_zero] at q
  exact (Option.some.inj q).symm
theorem mt_ad_g {c : mt_C} {h : List mt_C} (hc : mt_gC c) (hh : mt_gH h) : mt_gH (mt_ad c h) := by
  intro m x q
  cases m with
  | zero => rw [mt_ad_0 q]; exact hc
  | succ m => exact hh m x (mt_ad_s q).1
theorem mt_snapH {T : mt_S} (hs : mt_st T) {c : mt_C} {h : List mt_C} (hl : h.length ≤ 8) (hc : mt_gC c) (hh : mt_gH h) (hr : mt_row T 98 0 c) (hM : mt_hM T h) : ∃ T', f_X11_snap 96 T = some T' ∧ mt_hM T' (mt_ad c h) ∧ mt_fr (fun k j => decide (k = 100) || (decide (k = 96) && decide (j = 9))) T T' := by
  have hk : ∀ j, j < 35 * h.length → ∃ v, T.2.2.1 100 j = some v := by
    intro j hj
    have h1 : j / 35 < h.length := by omega
    have hm : h.length - 1 - j / 35 < h.length := by omega
    have q := (hM.2 _ _ (List.getElem?_eq_getElem hm)).2.2.2.2 (j % 35) (Nat.mod_lt _ (by decide))
    rw [show 35 * (h.length - 1 - (h.length - 1 - j / 35)) + j % 35 = j by omega] at q
    exact q
  obtain ⟨T', a, b, d, e, f⟩ := mt_snap hs hl hM.1 hr.2.2.2.2 hk
  refine ⟨T', a, ⟨by rw [mt_ad_l]; exact b, fun m x q => ?_⟩, f⟩
  rw [mt_ad_l]
  cases m with
  | zero =>
    rw [mt_ad_0 q]
    exact mt_row_t hc.2.2.1 (fun j hj => by rw [Nat.sub_zero]; exact d j hj) hr
  | succ m =>
    obtain ⟨q1, q2⟩ := mt_ad_s q
    have hm := mt_lt_of q1
    refine mt_row_t (hh m x q1).2.2.1 (fun j hj => ?_) (hM.2 m x q1)
    rw [e _ (by omega)]
    exact congrArg (fun z => T.2.2.1 100 z) (by omega)
/-- stay: the row before is kept -/
theorem mt_stay {T : mt_S} (hs : mt_st T) {c c2 : mt_C} {h : List mt_C} (hl : h.length ≤ 8) (hc : mt_gC c) (hc2 : mt_gC c2) (hh : mt_gH h) (hr : mt_row T 101 0 c) (hr2 : mt_row T 98 0 c2) (hM : mt_hM T h) : ∃ T', f_X11_stay 96 T = some T' ∧ mt_row T' 98 0 c2 ∧ mt_hM T' (mt_ad c h) ∧ mt_fr (fun k j => decide (k = 98) || decide (k = 100) || decide (k = 102) || (decide (k = 96) && decide (j = 9))) T T' := by
  obtain ⟨T1, a1, b1, f1⟩ := mt_cp35 hs (a := 98) (b := 102) (o1 := 0) (o2 := 0) (na := 35) (nb := 35) (by decide) (by decide) (by decide) rfl rfl (by decide) (by decide) (by decide) (by decide) hr2.2.2.2.2
  have hs1 := f1.st hs
  have r1 : mt_row T1 101 0 c := mt_row_f f1 hc.2.2.1 (fun _ _ => rfl) hr
  have l1 : mt_row T1 102 0 c2 := mt_row_t hc2.2.2.1 b1 hr2
  obtain ⟨T2, a2, b2, f2⟩ := mt_cp35 hs1 (a := 101) (b := 98) (o1 := 0) (o2 := 0) (na := 35) (nb := 35) (by decide) (by decide) (by decide) rfl rfl (by decide) (by decide) (by decide) (by decide) r1.2.2.2.2
  have hs2 := f2.st hs1
  have l2 : mt_row T2 102 0 c2 := mt_row_f f2 hc2.2.2.1 (fun _ _ => rfl) l1
  have n2 : mt_row T2 98 0 c := mt_row_t hc.2.2.1 b2 r1
  have m2 : mt_hM T2 h := ⟨(f2.2 96 9 rfl).1.trans ((f1.2 96 9 rfl).1.trans hM.1), fun m x q => mt_row_f f2 (hh m x q).2.2.1 (fun _ _ => rfl) (mt_row_f f1 (hh m x q).2.2.1 (fun _ _ => rfl) (hM.2 m x q))⟩
  obtain ⟨T3, a3, m3, f3⟩ := mt_snapH hs2 hl hc hh n2 m2
  have hs3 := f3.st hs2
  have l3 : mt_row T3 102 0 c2 := mt_row_f f3 hc2.2.2.1 (fun _ _ => rfl) l2
  obtain ⟨T4, a4, b4, f4⟩ := mt_cp35 hs3 (a := 102) (b := 98) (o1 := 0) (o2 := 0) (na := 35) (nb := 35) (by decide) (by decide) (by decide) rfl rfl (by decide) (by decide) (by decide) (by decide) l3.2.2.2.2
  have g := mt_ad_g hc hh
  refine ⟨T4, ?_, mt_row_t hc2.2.2.1 b4 l3, ⟨(f4.2 96 9 rfl).1.trans m3.1, fun m x q => mt_row_f f4 (g m x q).2.2.1 (fun _ _ => rfl) (m3.2 m x q)⟩, (((f1.mono (fun k j q => ?_)).trans (f2.mono (fun k j q => ?_))).trans (f3.mono (fun k j q => ?_))).trans (f4.mono (fun k j q => ?_))⟩
  · exact fw_t (T_K hs (by decide) rfl) (fw_b (T_rR hs (by decide) rfl rfl) (fw_b (T_rR hs (by decide) rfl rfl) (fw_b a1 (fw_b (T_rR hs1 (by decide) rfl rfl) (fw_b (T_rR hs1 (by decide) rfl rfl) (fw_b a2 (fw_b a3 (fw_b (T_rR hs3 (by decide) rfl rfl) (fw_b (T_rR hs3 (by decide) rfl rfl) (fw_b a4 rfl))))))))))
  · simp only [Bool.or_eq_false_iff] at q; rw [q.1.2]; rfl
  · simp only [Bool.or_eq_false_iff] at q; rw [q.1.1.1]; rfl
  · simp only [Bool.or_eq_false_iff] at q ⊢; exact ⟨q.1.1.2, q.2⟩
  · simp only [Bool.or_eq_false_iff] at q; rw [q.1.1.1]; rfl
/-- note -/
theorem mt_note {T : mt_S} (hs : mt_st T) {nx : Nat} {c : mt_C} {h : List mt_C} (hc : mt_gC c) (hB : mt_blk T 9 c) (hC : mt_hC T nx h) : ∃ T', f_X2_note 15 9 T = some T' ∧ mt_blk T' 9 c ∧ mt_blk T' (17 + 6 * nx) c ∧ mt_hC T' nx h ∧ mt_fr (fun k _ => decide (17 + 6 * nx < k) && decide (k ≤ 17 + 6 * nx + 5)) T T' := by
  obtain ⟨x1, x2, x3, x4, x5⟩ := hC
  obtain ⟨T', a, b, f⟩ := mt_cB hs (mt_rgB nx x1) (b := 9) (by decide) (by omega) hc.2.2.1 hB
  refine ⟨T', ?_, mt_blk_f f (fun i j _ _ => by simp; omega) hB, b, ⟨x1, x2, (f.2 15 1 (by simp; omega)).1.trans x3, (f.2 15 2 (by simp; omega)).1.trans x4, fun m x q => mt_blk_f f (fun i j _ _ => ?_) (x5 m x q)⟩, f⟩
  · exact fw_t (T_K hs (by decide) rfl) (fw_b (T_rR hs (by decide) rfl rfl) (fw_b (T_rI hs (by decide) rfl x3) (fw_b (T_aR hs (by decide) rfl (n := 9) x1 (by decide) (mt_RN16 nx x1)) (fw_b a rfl))))
  · have hm := mt_lt_of q
    unfold mt_rg
    simp only [Bool.and_eq_false_iff, decide_eq_false_iff_not]
    omega
theorem mt_min8 : ∀ n, n ≤ 8 → ∀ S : mt_S, f_J9_min_7cf53 (uI n + 1) 8 S = some (uI (min (n + 1) 8), S) := by
  intro n hn S
  rw [uI_s]
  unfold f_J9_min_7cf53
  have h8 : (8 : Int32) = uI 8 := rfl
  by_cases h : n + 1 ≤ 8
  · rw [Nat.min_eq_left h]
    first
      | (rw [if_pos (by rw [h8, uI_le (by omega) (by decide)]; omega)])
      | (rw [if_neg (by rw [h8, uI_lt (by decide) (by omega)]; omega)])
  · have : n = 8 := by omega
    subst this
    rfl
/-- keep: what was noted counts -/
theorem mt_kee {T : mt_S} (hs : mt_st T) {nx : Nat} {c : mt_C} {h : List mt_C} (hB : mt_blk T (17 + 6 * nx) c) (hC : mt_hC T nx h) : ∃ T', f_X2_keep 15 T = some T' ∧ mt_hC T' ((nx + 1) % 9) (mt_ad c h) ∧ mt_fr (fun k j => decide (k = 15) && (decide (j = 1) || decide (j = 2))) T T' := by
  obtain ⟨x1, x2, x3, x4, x5⟩ := hC
  have f := ((mt_fr.refl (fun k j => decide (k = 15) && (decide (j = 1) || decide (j = 2))) T).I 15 1 (uI ((nx + 1) % 9)) rfl).I 15 2 (uI (min (h.length + 1) 8)) rfl
  refine ⟨_, ?_, ⟨Nat.mod_lt _ (by decide), by rw [mt_ad_l]; omega, (mt_I_ne (Or.inr (by decide))).trans mt_I_eq, by rw [mt_ad_l]; exact mt_I_eq, fun m x q => ?_⟩, f⟩
  · refine fw_t (T_K hs (by decide) rfl) (fw_b (T_rI hs (by decide) rfl x3) ?_)
    rw [mt_nxf nx x1]
    exact fw_b (T_wI hs _ (by decide) rfl) (fw_b (T_rI (T := mt_pI T 15 1 _) hs (by decide) rfl ((mt_I_ne (Or.inr (by decide))).trans x4)) (fw_b2 (mt_min8 _ x2 _) (fw_b (T_wI (T := mt_pI T 15 1 _) hs _ (by decide) rfl) rfl)))
  · cases m with
    | zero =>
      rw [mt_ad_0 q]
      have e : mt_rg ((nx + 1) % 9) 0 = 17 + 6 * nx := by unfold mt_rg; omega
      rw [e]
      exact mt_blk_f f (fun i j _ _ => by simp; omega) hB
    | succ m =>
      obtain ⟨q1, q2⟩ := mt_ad_s q
      have hm := mt_lt_of q1
      have e : mt_rg ((nx + 1) % 9) (m + 1) = mt_rg nx m := by unfold mt_rg; omega
      rw [e]
      have : 17 ≤ mt_rg nx m := by unfold mt_rg; omega
      exact mt_blk_f f (fun i j _ _ => by simp; omega) (x5 m x q1)
