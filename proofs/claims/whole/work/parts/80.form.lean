/-! the form: program and reference; form, value -/
def mt_fA (y : mt_P) : Int64 := mt_en y 1
def mt_fB (y : mt_P) : Int64 := (3 * mt_en y 1) - (2 * mt_en y 3)
def mt_fC (y : mt_P) : Int64 := (((mt_en y 3 * mt_en y 3) + 1) / mt_en y 1) - (3 * mt_en y 3)
def mt_fD (y : mt_P) : Int64 := ((9 * mt_en y 1) * mt_en y 1) - 4
def mt_fE (y : mt_P) : Int64 := (3 * mt_en y 1) - 1
def mt_fL (y : mt_P) : List Int64 := [mt_fA y, mt_fB y, mt_fC y, mt_fD y, mt_fE y]
def mt_fq1 (y : mt_P) : Int32 := if mt_en y 1 ≤ 1000000000 then 1 else 0
def mt_Df (k _j : Nat) : Bool := decide (k = 88) || decide (k = 89)
theorem mt_sfC {T : mt_S} (hs : mt_st T) {x : mt_P} {l : List mt_P} (hx : x ∈ mt_PL) (hB : mt_blk T 9 (x, l)) : ∃ T', f_X10_setForm 0 T = some (mt_fq1 x, T') ∧ (mt_fq1 x = 1 → ∀ i v, (mt_fL x)[i]? = some v → T'.2.2.2.1 89 i = some v) ∧ mt_fr mt_Df T T' := by
  obtain ⟨T1, a1, b1, f1⟩ := mt_nhC hs hx hB
  have hs1 := f1.st hs
  have f1' : mt_fr mt_Df T T1 := f1.mono (fun k j q => by unfold mt_Df at q; exact (Bool.or_eq_false_iff.mp q).1)
  unfold mt_fq1
  by_cases q : mt_en x 1 ≤ 1000000000
  · rw [if_pos q]
    have h1 : 1 ≤ mt_en x 1 := of_decide_eq_true (List.all_eq_true.mp mt_en_p x hx)
    have h0 : ¬ mt_en x 1 = 0 := fun z => by rw [z] at h1; exact absurd h1 (by decide)
    have e4 : f_X9_entry 88 1 1 T1 = some (mt_en x 3, T1) := fw_t (T_K hs1 (by decide) rfl) (fw_f (by decide) (fw_f (by decide) (fw_b (T_rL hs1 (by decide) rfl (b1 3 (by decide))) rfl)))
    refine ⟨mt_pL (mt_pL (mt_pL (mt_pL (mt_pL T1 89 0 (mt_fA x)) 89 1 (mt_fB x)) 89 2 (mt_fC x)) 89 3 (mt_fD x)) 89 4 (mt_fE x), ?_, fun _ i v hv => ?_, ((((((f1'.L 89 0 _ rfl).L 89 1 _ rfl).L 89 2 _ rfl).L 89 3 _ rfl).L 89 4 _ rfl))⟩
    · refine fw_t (T_K hs (by decide) rfl) (fw_b2 a1 (fw_t q (fw_b (T_rR hs1 (by decide) rfl rfl) (fw_b (T_rR hs1 (by decide) rfl rfl) (fw_b2 e4 (fw_b (v := mt_pL (mt_pL (mt_pL (mt_pL (mt_pL T1 89 0 (mt_fA x)) 89 1 (mt_fB x)) 89 2 (mt_fC x)) 89 3 (mt_fD x)) 89 4 (mt_fE x)) ?_ rfl))))))
      exact fw_t (T_K hs1 (by decide) rfl) (fw_t h1 (fw_f h0 (fw_b (T_wL hs1 _ (by decide) rfl) (fw_b (T_wL (T := mt_pL T1 89 0 (mt_fA x)) hs1 _ (by decide) rfl) (fw_b (T_wL (T := mt_pL (mt_pL T1 89 0 (mt_fA x)) 89 1 (mt_fB x)) hs1 _ (by decide) rfl) (fw_b (T_wL (T := mt_pL (mt_pL (mt_pL T1 89 0 (mt_fA x)) 89 1 (mt_fB x)) 89 2 (mt_fC x)) hs1 _ (by decide) rfl) (fw_b (T_wL (T := mt_pL (mt_pL (mt_pL (mt_pL T1 89 0 (mt_fA x)) 89 1 (mt_fB x)) 89 2 (mt_fC x)) 89 3 (mt_fD x)) hs1 _ (by decide) rfl) rfl)))))))
    · match i, hv with
      | 0, hv => cases hv; exact (mt_L_ne (Or.inr (by decide))).trans ((mt_L_ne (Or.inr (by decide))).trans ((mt_L_ne (Or.inr (by decide))).trans ((mt_L_ne (Or.inr (by decide))).trans mt_L_eq)))
      | 1, hv => cases hv; exact (mt_L_ne (Or.inr (by decide))).trans ((mt_L_ne (Or.inr (by decide))).trans ((mt_L_ne (Or.inr (by decide))).trans mt_L_eq))
      | 2, hv => cases hv; exact (mt_L_ne (Or.inr (by decide))).trans ((mt_L_ne (Or.inr (by decide))).trans mt_L_eq)
      | 3, hv => cases hv; exact (mt_L_ne (Or.inr (by decide))).trans mt_L_eq
      | 4, hv => cases hv; exact mt_L_eq
  · rw [if_neg q]
    exact ⟨T1, fw_t (T_K hs (by decide) rfl) (fw_b2 a1 (fw_f q rfl)), fun z => absurd z (by decide), f1'⟩
def mt_Dg (k j : Nat) : Bool := mt_Dy k j || (decide (k = 96) && (decide (17 ≤ j) && decide (j ≤ 22)))
/-- the root -/
theorem mt_root {T : mt_S} (hs : mt_st T) {x : mt_P} (hx : x ∈ mt_PL) (q : mt_en x 1 ≤ 1000000000) (e20 : T.2.2.2.1 96 20 = some (mt_fD x)) (e21 : T.2.2.2.1 96 21 = some 0) : ∃ T', f_X11_laysForm_L84 1000 96 2147483648 T = some (1, T') ∧ T'.2.2.2.1 96 21 = some (mt_fE x) ∧ mt_fr (fun k j => decide ((mt_shN k).2 ≤ j) || (decide (k = 96) && decide (j = 21))) T T' := by
  have z := List.all_eq_true.mp mt_chG_t x hx
  unfold mt_chG at z
  rw [decide_eq_false (by rw [Int64.lt_iff_toInt_lt]; rw [Int64.le_iff_toInt_le] at q; omega), Bool.false_or] at z
  have hL : ∀ k j v, mt_l20 (((9 * mt_en x 1) * mt_en x 1) - 4) k j = some v → T.2.2.2.1 k j = some v := fun k j v h => by
    unfold mt_l20 at h
    by_cases h96 : k = 96
    · rw [if_pos h96] at h
      subst h96
      by_cases j20 : j = 20
      · rw [if_pos j20] at h; subst j20; exact e20.trans h
      · rw [if_neg j20] at h
        by_cases j21 : j = 21
        · rw [if_pos j21] at h; subst j21; exact e21.trans h
        · rw [if_neg j21] at h; cases h
    · rw [if_neg h96] at h; cases h
  cases e : f_X11_laysForm_L84 1000 96 2147483648 (mt_m [96] mt_n2 (mt_l20 (((9 * mt_en x 1) * mt_en x 1) - 4))) with
  | none => rw [e] at z; cases z
  | some w =>
    obtain ⟨r, S'⟩ := w
    rw [e] at z
    obtain ⟨z, z3⟩ := (Bool.and_eq_true _ _).mp z
    obtain ⟨z1, z2⟩ := (Bool.and_eq_true _ _).mp z
    have z1 := of_decide_eq_true z1
    subst z1
    obtain ⟨a, b, c⟩ := mt_clR (f := f_X11_laysForm_L84 1000 96 2147483648) (fun _ _ _ _ hp h => (ov_X11_laysForm_L84 _ _ _ _ hp h).1) (K := [96]) (i := mt_n2) (l := mt_l20 (((9 * mt_en x 1) * mt_en x 1) - 4)) hs mt_n2_h hL e
    refine ⟨_, a, mt_ovL (mt_vdm b c (by decide) (by decide) (by decide)) (of_decide_eq_true z2), (mt_fr_q c mt_n2_h hL z3).mono (fun k j h => ?_)⟩
    rw [Bool.or_eq_false_iff] at h ⊢
    refine ⟨h.1, ?_⟩
    by_cases h96 : k = 96
    · subst h96
      have := h.2
      rw [decide_eq_true rfl, Bool.true_and] at this
      rw [this, Bool.and_false]
    · have : ([96] : List Nat).contains k = false := by simp [h96]
      rw [this]; rfl
theorem mt_lfM {T : mt_S} (hs : mt_st T) {x : mt_P} (hx : x ∈ mt_PL) (e0 : T.2.2.1 98 0 = some x.1) (e1 : T.2.2.1 98 1 = some x.2.1) : ∃ T', f_X11_laysForm 96 T = some (mt_fq1 x, T') ∧ (mt_fq1 x = 1 → ∀ i v, (mt_fL x)[i]? = some v → T'.2.2.2.1 96 (17 + i) = some v) ∧ mt_fr mt_Dg T T' := by
  obtain ⟨T1, a1, b1, f1⟩ := mt_nhM hs hx e0 e1
  have hs1 := f1.st hs
  have f1' : mt_fr mt_Dg T T1 := f1.mono (fun k j q => by unfold mt_Dg at q; exact (Bool.or_eq_false_iff.mp q).1)
  unfold mt_fq1
  by_cases q : mt_en x 1 ≤ 1000000000
  · rw [if_pos q]
    have h1 : 1 ≤ mt_en x 1 := of_decide_eq_true (List.all_eq_true.mp mt_en_p x hx)
    have h0 : ¬ mt_en x 1 = 0 := fun z => by rw [z] at h1; exact absurd h1 (by decide)
    have f2 : mt_fr mt_Dg T (mt_pL (mt_pL (mt_pL (mt_pL (mt_pL T1 96 17 (mt_fA x)) 96 18 (mt_fB x)) 96 19 (mt_fC x)) 96 20 (mt_fD x)) 96 21 0) := ((((f1'.L 96 17 _ rfl).L 96 18 _ rfl).L 96 19 _ rfl).L 96 20 _ rfl).L 96 21 _ rfl
    have hs2 := f2.st hs
    obtain ⟨T3, a3, b3, f3⟩ := mt_root hs2 hx q ((mt_L_ne (Or.inr (by decide))).trans mt_L_eq) mt_L_eq
    have k3 : ∀ j, j < 21 → T3.2.2.2.1 96 j = (mt_pL (mt_pL (mt_pL (mt_pL (mt_pL T1 96 17 (mt_fA x)) 96 18 (mt_fB x)) 96 19 (mt_fC x)) 96 20 (mt_fD x)) 96 21 0).2.2.2.1 96 j := fun j hj => (f3.2 96 j (by
      have : (mt_shN 96).2 = 39 := rfl
      simp only [Bool.or_eq_false_iff, Bool.and_eq_false_iff, decide_eq_false_iff_not]; omega)).2
    refine ⟨T3, ?_, fun _ i v hv => ?_, f2.trans (f3.mono (fun k j q => ?_))⟩
    · exact fw_t (T_K hs (by decide) rfl) (fw_b2 a1 (fw_t q (fw_b (T_rR hs1 (by decide) rfl rfl) (fw_b (T_aL hs1 (j := 3) (by decide) rfl (n := 4) (by decide) (by decide) (b1 3 (by decide))) (fw_b (T_wL hs1 _ (by decide) rfl) (fw_b (T_wL (T := mt_pL T1 96 17 (mt_fA x)) hs1 _ (by decide) rfl) (fw_f h0 (fw_b (T_wL (T := mt_pL (mt_pL T1 96 17 (mt_fA x)) 96 18 (mt_fB x)) hs1 _ (by decide) rfl) (fw_b (T_wL (T := mt_pL (mt_pL (mt_pL T1 96 17 (mt_fA x)) 96 18 (mt_fB x)) 96 19 (mt_fC x)) hs1 _ (by decide) rfl) (fw_b (T_wL (T := mt_pL (mt_pL (mt_pL (mt_pL T1 96 17 (mt_fA x)) 96 18 (mt_fB x)) 96 19 (mt_fC x)) 96 20 (mt_fD x)) hs1 _ (by decide) rfl) a3))))))))))
    · match i, hv with
      | 0, hv => cases hv; exact (k3 17 (by decide)).trans ((mt_L_ne (Or.inr (by decide))).trans ((mt_L_ne (Or.inr (by decide))).trans ((mt_L_ne (Or.inr (by decide))).trans ((mt_L_ne (Or.inr (by decide))).trans mt_L_eq))))
      | 1, hv => cases hv; exact (k3 18 (by decide)).trans ((mt_L_ne (Or.inr (by decide))).trans ((mt_L_ne (Or.inr (by decide))).trans ((mt_L_ne (Or.inr (by decide))).trans mt_L_eq)))
      | 2, hv => cases hv; exact (k3 19 (by decide)).trans ((mt_L_ne (Or.inr (by decide))).trans ((mt_L_ne (Or.inr (by decide))).trans mt_L_eq))
      | 3, hv => cases hv; exact (k3 20 (by decide)).trans ((mt_L_ne (Or.inr (by decide))).trans mt_L_eq)
      | 4, hv => cases hv; exact b3
    · unfold mt_Dg mt_Dy at q
      simp only [Bool.or_eq_false_iff, Bool.and_eq_false_iff, decide_eq_false_iff_not] at q ⊢; omega
  · rw [if_neg q]
    exact ⟨T1, fw_t (T_K hs (by decide) rfl) (fw_b2 a1 (fw_f q rfl)), fun z => absurd z (by decide), f1'⟩
theorem mt_fq01 (x : mt_P) : mt_fq1 x = 0 ∨ mt_fq1 x = 1 := by
  unfold mt_fq1
  by_cases q : mt_en x 1 ≤ 1000000000
  · rw [if_pos q]; exact Or.inr rfl
  · rw [if_neg q]; exact Or.inl rfl
theorem mt_zf {T T' : mt_S} (f : mt_fr mt_Df T T') : mt_fr mt_Dz T T' := f.mono (fun k j q => by
  unfold mt_Dz at q
  unfold mt_Df
  simp only [Bool.or_eq_false_iff, Bool.and_eq_false_iff, decide_eq_false_iff_not] at q ⊢; omega)
theorem mt_zg {T T' : mt_S} (f : mt_fr mt_Dg T T') : mt_fr mt_Dz T T' := f.mono (fun k j q => by
  unfold mt_Dz at q
  unfold mt_Dg mt_Dy
  simp only [Bool.or_eq_false_iff, Bool.and_eq_false_iff, decide_eq_false_iff_not] at q ⊢; omega)
theorem t_13 {T : mt_S} (w : Int32) (hi : mt_Inv T) : ∃ S', l_13 w T = some S' ∧ mt_Inv S' := by
  have hs := hi.1
  have hs0 : mt_st (mt_pI T 96 0 0) := hs
  obtain ⟨⟨x, l⟩, hg, hB, hR⟩ := hi.2.1
  by_cases hw : w < 0 ∨ 2 < w
  · have c0 : f_X10_form 0 w T = none ∧ x_X10_form 0 w T = some T := by
      by_cases a1 : w < 0
      · exact ⟨fw_t (T_K hs (by decide) rfl) (fw_t a1 rfl), fw_t (T_K hs (by decide) rfl) (fw_t a1 rfl)⟩
      · have a2 := hw.resolve_left a1
        exact ⟨fw_t (T_K hs (by decide) rfl) (fw_f a1 (fw_t a2 rfl)), fw_t (T_K hs (by decide) rfl) (fw_f a1 (fw_t a2 rfl))⟩
    have h1 : h_form 0 w 108 T = some (1, T) := by
      unfold h_form
      rw [c0.1]
      exact fw_b c0.2 rfl
    have c2 : f_X11_form 96 w T = some (0, mt_pI (mt_pI T 96 0 0) 96 0 1) := by
      refine fw_t (T_K hs (by decide) rfl) (fw_b (T_wI hs 0 (by decide) rfl) (fw_b2 (isInG w 0 2 _) ?_))
      rw [if_pos hw]
      exact fw_t rfl (fw_b2 (mt_rf1 hs0) rfl)
    exact ⟨_, fw_b2 h1 (fw_b2 c2 (mt_thT (T3 := mt_pI (mt_pI T 96 0 0) 96 0 1) hs mt_I_eq)), mt_Inv_z hi ((mt_fz0 0).trans (mt_fz0 1))⟩
  · obtain ⟨w0, w2⟩ := not_or.mp hw
    obtain ⟨T1, a1, b1, f1⟩ := mt_sfC hs hg.1 hB
    have hs1 := f1.st hs
    rcases mt_fq01 x with q | q
    · rw [q] at a1
      have c0 : f_X10_form 0 w T = none ∧ x_X10_form 0 w T = some T1 := ⟨fw_t (T_K hs (by decide) rfl) (fw_f w0 (fw_f w2 (fw_b2 a1 (fw_t rfl rfl)))), fw_t (T_K hs (by decide) rfl) (fw_f w0 (fw_f w2 (fw_b2 a1 (fw_t rfl rfl))))⟩
      have h1 : h_form 0 w 108 T = some (1, T1) := by
        unfold h_form
        rw [c0.1]
        exact fw_b c0.2 rfl
      have fa : mt_fr mt_Dz T (mt_pI T1 96 0 0) := (mt_zf f1).trans (mt_fz0 0)
      have hsa := fa.st hs
      obtain ⟨T3, a3, b3, f3⟩ := mt_lfM hsa hg.1 ((fa.2 98 0 rfl).1.trans hR.1) ((fa.2 98 1 rfl).1.trans hR.2.1)
      rw [q] at a3
      have hs3 := f3.st hsa
      have c2 : f_X11_form 96 w T1 = some (0, mt_pI T3 96 0 1) := by
        refine fw_t (T_K hs1 (by decide) rfl) (fw_b (T_wI hs1 0 (by decide) rfl) (fw_b2 (isInG w 0 2 _) ?_))
        rw [if_neg hw]
        exact fw_f (by decide) (fw_b2 a3 (fw_t rfl (fw_b2 (mt_rf1 hs3) rfl)))
      exact ⟨_, fw_b2 h1 (fw_b2 c2 (mt_thT (T3 := mt_pI T3 96 0 1) hs3 mt_I_eq)), mt_Inv_z hi ((fa.trans (mt_zg f3)).trans (mt_fz0 1))⟩
    · rw [q] at a1
      have b1 := b1 q
      have key : ∃ v, f_X1_coefficient 89 w T1 = some (v, T1) ∧ ∀ {T3 : mt_S}, mt_st T3 → (∀ i v, (mt_fL x)[i]? = some v → T3.2.2.2.1 96 (17 + i) = some v) → (if w = 0 then Option.bind (mt_rL T3 96 11 17) fun v10 => some (v10, T3) else if w = 1 then Option.bind (mt_rL T3 96 11 18) fun v9 => some (v9, T3) else Option.bind (mt_rL T3 96 11 19) fun v8 => some (v8, T3)) = some (v, T3) := by
        by_cases x0 : w = 0
        · exact ⟨_, fw_t (T_K hs1 (by decide) rfl) (fw_t x0 (fw_b (T_rL hs1 (by decide) rfl (b1 0 _ rfl)) rfl)), fun hs3 b3 => fw_t x0 (fw_b (T_rL hs3 (by decide) rfl (b3 0 _ rfl)) rfl)⟩
        · by_cases x1 : w = 1
          · exact ⟨_, fw_t (T_K hs1 (by decide) rfl) (fw_f x0 (fw_t x1 (fw_b (T_rL hs1 (by decide) rfl (b1 1 _ rfl)) rfl))), fun hs3 b3 => fw_f x0 (fw_t x1 (fw_b (T_rL hs3 (by decide) rfl (b3 1 _ rfl)) rfl))⟩
          · exact ⟨_, fw_t (T_K hs1 (by decide) rfl) (fw_f x0 (fw_f x1 (fw_b (T_rL hs1 (by decide) rfl (b1 2 _ rfl)) rfl))), fun hs3 b3 => fw_f x0 (fw_f x1 (fw_b (T_rL hs3 (by decide) rfl (b3 2 _ rfl)) rfl))⟩
      obtain ⟨v, k1, k2⟩ := key
      have c1 : f_X10_form 0 w T = some (v, T1) := fw_t (T_K hs (by decide) rfl) (fw_f w0 (fw_f w2 (fw_b2 a1 (fw_f (by decide) (fw_b (T_rR hs1 (by decide) rfl rfl) (fw_b2 k1 rfl))))))
      have h1 : h_form 0 w 108 T = some (0, mt_pL T1 108 0 v) := by
        unfold h_form
        rw [c1]
        exact fw_b (T_sL hs1 (j := 0) _ (by decide) rfl (n := 1) (by decide) (by decide)) rfl
      have hsb : mt_st (mt_pL T1 108 0 v) := hs1
      have fa : mt_fr mt_Dz T (mt_pI (mt_pL T1 108 0 v) 96 0 0) := ((mt_zf f1).trans (mt_fz8 v)).trans (mt_fz0 0)
      have hsa := fa.st hs
      obtain ⟨T3, a3, b3, f3⟩ := mt_lfM hsa hg.1 ((fa.2 98 0 rfl).1.trans hR.1) ((fa.2 98 1 rfl).1.trans hR.2.1)
      rw [q] at a3
      have hs3 := f3.st hsa
      have c2 : f_X11_form 96 w (mt_pL T1 108 0 v) = some (v, T3) := by
        refine fw_t (T_K hsb (by decide) rfl) (fw_b (T_wI hsb 0 (by decide) rfl) (fw_b2 (isInG w 0 2 _) ?_))
        rw [if_neg hw]
        exact fw_f (by decide) (fw_b2 a3 (fw_f (by decide) (k2 hs3 (b3 q))))
      have eo : T3.2.2.2.1 108 0 = some v := (f3.2 108 0 rfl).2.trans mt_L_eq
      exact ⟨T3, fw_b2 h1 (fw_b2 c2 (mt_thE (T1 := T1) hs3 ((f3.2 96 0 rfl).1.trans mt_I_eq) eo)), mt_Inv_z hi (fa.trans (mt_zg f3))⟩
theorem mt_fit (w : Int32) (S : mt_S) : f_X10_fitsValue w S = some ((if w < -999 ∨ 999 < w then 0 else 1), S) := by
  unfold f_X10_fitsValue
  by_cases a : w < -999
  · rw [if_pos a, if_pos (Or.inl a)]
  · rw [if_neg a]
    by_cases b : 999 < w
    · rw [if_pos b, if_pos (Or.inr b)]
    · rw [if_neg b, if_neg (not_or.mpr ⟨a, b⟩)]
theorem t_14 {T : mt_S} (u w : Int32) (hi : mt_Inv T) : ∃ S', l_14 u w T = some S' ∧ mt_Inv S' := by
  have hs := hi.1
  have hs0 : mt_st (mt_pI T 96 0 0) := hs
  obtain ⟨⟨x, l⟩, hg, hB, hR⟩ := hi.2.1
  by_cases hu : u < -999 ∨ 999 < u
  · have c1 : f_X10_value 0 u w T = some (-1000000000000000000, T) := fw_t (T_K hs (by decide) rfl) (fw_b2 (mt_fit u T) (by rw [if_pos hu]; rfl))
    have c2 : f_X11_value 96 u w T = some (-1000000000000000000, mt_pI T 96 0 0) := fw_t (T_K hs (by decide) rfl) (fw_b (T_wI hs 0 (by decide) rfl) (fw_b2 (isInG u (-999) 999 _) (by rw [if_pos hu]; rfl)))
    exact ⟨_, fw_b2 c1 (fw_b2 c2 (if_pos rfl)), mt_Inv_z hi (mt_fz0 0)⟩
  · by_cases hw : w < -999 ∨ 999 < w
    · have c1 : f_X10_value 0 u w T = some (-1000000000000000000, T) := fw_t (T_K hs (by decide) rfl) (fw_b2 (mt_fit u T) (by rw [if_neg hu]; exact fw_f (by decide) (fw_b2 (mt_fit w T) (by rw [if_pos hw]; rfl))))
      have c2 : f_X11_value 96 u w T = some (-1000000000000000000, mt_pI T 96 0 0) := fw_t (T_K hs (by decide) rfl) (fw_b (T_wI hs 0 (by decide) rfl) (fw_b2 (isInG u (-999) 999 _) (by rw [if_neg hu]; exact fw_f (by decide) (fw_b2 (isInG w (-999) 999 _) (by rw [if_pos hw]; rfl)))))
      exact ⟨_, fw_b2 c1 (fw_b2 c2 (if_pos rfl)), mt_Inv_z hi (mt_fz0 0)⟩
    · obtain ⟨T1, a1, b1, f1⟩ := mt_sfC hs hg.1 hB
      have hs1 := f1.st hs
      have fa : mt_fr mt_Dz T (mt_pI T1 96 0 0) := (mt_zf f1).trans (mt_fz0 0)
      have hsa := fa.st hs
      obtain ⟨T3, a3, b3, f3⟩ := mt_lfM hsa hg.1 ((fa.2 98 0 rfl).1.trans hR.1) ((fa.2 98 1 rfl).1.trans hR.2.1)
      have hs3 := f3.st hsa
      have fb := fa.trans (mt_zg f3)
      have pC : ∀ {y : Option (Int64 × mt_S)}, (if mt_fq1 x = 0 then some ((-1000000000000000000), T1) else Option.bind (mt_rR T1 0 10 8) fun v7 => mt_b2 (f_X1_valueAt v7 u.toInt64 w.toInt64 T1) fun v9 S8 => some (v9, S8)) = y → f_X10_value 0 u w T = y := fun q => fw_t (T_K hs (by decide) rfl) (fw_b2 (mt_fit u T) (by rw [if_neg hu]; exact fw_f (by decide) (fw_b2 (mt_fit w T) (by rw [if_neg hw]; exact fw_f (by decide) (fw_b2 a1 q)))))
      have pM : ∀ {y : Option (Int64 × mt_S)}, (if mt_fq1 x = 0 then some ((-1000000000000000000), T3) else Option.bind (mt_rL T3 96 11 17) fun v8 => Option.bind (mt_rL T3 96 11 18) fun v9 => Option.bind (mt_rL T3 96 11 19) fun v10 => some ((((v8 * u.toInt64) * u.toInt64) + ((v9 * u.toInt64) * w.toInt64)) + ((v10 * w.toInt64) * w.toInt64), T3)) = y → f_X11_value 96 u w T1 = y := fun q => fw_t (T_K hs1 (by decide) rfl) (fw_b (T_wI hs1 0 (by decide) rfl) (fw_b2 (isInG u (-999) 999 _) (by rw [if_neg hu]; exact fw_f (by decide) (fw_b2 (isInG w (-999) 999 _) (by rw [if_neg hw]; exact fw_f (by decide) (fw_b2 a3 q))))))
      rcases mt_fq01 x with q | q
      · exact ⟨T3, fw_b2 (pC (fw_t q rfl)) (fw_b2 (pM (fw_t q rfl)) (if_pos rfl)), mt_Inv_z hi fb⟩
      · have b1 := b1 q
        have b3 := b3 q
        have n0 : ¬ mt_fq1 x = 0 := by rw [q]; decide
        exact ⟨T3, fw_b2 (pC (fw_f n0 (fw_b (T_rR hs1 (by decide) rfl rfl) (fw_b2 (fw_t (T_K hs1 (by decide) rfl) (fw_b (T_rL hs1 (by decide) rfl (b1 0 _ rfl)) (fw_b (T_rL hs1 (by decide) rfl (b1 1 _ rfl)) (fw_b (T_rL hs1 (by decide) rfl (b1 2 _ rfl)) rfl)))) rfl)))) (fw_b2 (pM (fw_f n0 (fw_b (T_rL hs3 (by decide) rfl (b3 0 _ rfl)) (fw_b (T_rL hs3 (by decide) rfl (b3 1 _ rfl)) (fw_b (T_rL hs3 (by decide) rfl (b3 2 _ rfl)) rfl))))) (if_pos rfl)), mt_Inv_z hi fb⟩
