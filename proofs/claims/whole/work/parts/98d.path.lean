/-! path -/
def mt_PF (k j : Nat) : Bool := (decide (k = 1) && decide (j = 1)) || (decide (3 ≤ k) && decide (k ≤ 8)) || (decide (k = 96) && (decide (j ≠ 9) && decide (j ≠ 30)))
theorem mt_PFQ : mt_spQ mt_PF [1, 2, 3, 5, 7] = true := by decide +kernel
theorem mt_Inv_pf {T T' : mt_S} (hi : mt_Inv T) (f : mt_fr mt_PF T T') (e1 : T'.2.2.1 1 1 = some 0) (e2 : T'.2.2.1 96 2 = some 0) (hf : mt_iFault T') : mt_Inv T' := by
  obtain ⟨hs, ⟨c, h1⟩, ⟨nx, hh, h2⟩, h3, -, ⟨n5, h5⟩, -, h7⟩ := hi
  exact ⟨f.st hs, ⟨c, mt_iCur_c (mt_sp_of f mt_PFQ rfl) h1⟩, ⟨nx, hh, mt_iHist_c (mt_sp_of f mt_PFQ rfl) h2⟩, mt_iIm_c (mt_sp_of f mt_PFQ rfl) h3, ⟨0, by decide, e1, e2, fun m hm => absurd hm (Nat.not_lt_zero m)⟩, ⟨n5, mt_iText_c (mt_sp_of f mt_PFQ rfl) h5⟩, hf, mt_iTab_c (mt_sp_of f mt_PFQ rfl) h7⟩
/-- the reader at its start -/
def mt_R0 (T : mt_S) : mt_S := mt_pI (mt_pI (mt_pI (mt_pI (mt_pI (mt_pI T 3 5 0) 3 6 0) 3 7 0) 3 8 (-1)) 3 9 0) 3 10 0
theorem mt_R0f (T : mt_S) : mt_fr mt_DF T (mt_R0 T) := ((((((mt_fr.refl mt_DF T).I 3 5 0 rfl).I 3 6 0 rfl).I 3 7 0 rfl).I 3 8 (-1) rfl).I 3 9 0 rfl).I 3 10 0 rfl
theorem mt_R0p (T : mt_S) : mt_pC (mt_R0 T) 0 0 0 (-1) := ⟨(mt_I_ne (Or.inr (by decide))).trans ((mt_I_ne (Or.inr (by decide))).trans ((mt_I_ne (Or.inr (by decide))).trans ((mt_I_ne (Or.inr (by decide))).trans ((mt_I_ne (Or.inr (by decide))).trans mt_I_eq)))), (mt_I_ne (Or.inr (by decide))).trans ((mt_I_ne (Or.inr (by decide))).trans ((mt_I_ne (Or.inr (by decide))).trans ((mt_I_ne (Or.inr (by decide))).trans mt_I_eq))), (mt_I_ne (Or.inr (by decide))).trans ((mt_I_ne (Or.inr (by decide))).trans ((mt_I_ne (Or.inr (by decide))).trans mt_I_eq)), (mt_I_ne (Or.inr (by decide))).trans ((mt_I_ne (Or.inr (by decide))).trans mt_I_eq), (mt_I_ne (Or.inr (by decide))).trans mt_I_eq⟩
theorem mt_rdS {T : mt_S} (hs : mt_st T) {n : Nat} (e1 : T.2.2.1 1 1 = some (uI n)) {y : Option mt_S} (h : (if uI n ≤ 200 then f_X0_read_L56 1000 3 1 (uI n) 0 0 (mt_R0 T) else Option.bind (f_X0_fail 3 1 200 (mt_R0 T)) fun S29 => some S29) = y) : f_X0_read 3 1 T = y := by
  have hs6 : mt_st (mt_R0 T) := hs
  exact fw_t (T_K hs (by decide) rfl) (fw_b (T_wI hs _ (by decide) rfl) (fw_b (T_wI (T := mt_pI T 3 5 0) hs _ (by decide) rfl) (fw_b (T_wI (T := mt_pI (mt_pI T 3 5 0) 3 6 0) hs _ (by decide) rfl) (fw_b (T_wI (T := mt_pI (mt_pI (mt_pI T 3 5 0) 3 6 0) 3 7 0) hs _ (by decide) rfl) (fw_b (T_wI (T := mt_pI (mt_pI (mt_pI (mt_pI T 3 5 0) 3 6 0) 3 7 0) 3 8 (-1)) hs _ (by decide) rfl) (fw_b (T_wI (T := mt_pI (mt_pI (mt_pI (mt_pI (mt_pI T 3 5 0) 3 6 0) 3 7 0) 3 8 (-1)) 3 9 0) hs _ (by decide) rfl) (fw_b2 (fw_t (T_K hs6 (by decide) rfl) (fw_b (T_rI hs6 (by decide) rfl (((mt_R0f T).2 1 1 rfl).1.trans e1)) rfl)) h)))))))
theorem mt_cut0 {T : mt_S} (hs : mt_st T) {n : Nat} (hn : n ≤ 240) (e1 : T.2.2.1 1 1 = some (uI n)) : f_X7_cutTo 1 0 T = some (1, mt_pI T 1 1 0) := fw_t (T_K hs (by decide) rfl) (fw_f (by decide) (fw_b (T_rI hs (by decide) rfl e1) (fw_t (by rw [show (0 : Int32) = uI 0 from rfl, uI_le (by decide) (by omega)]; omega) (fw_b (T_wI hs _ (by decide) rfl) rfl))))
/-- the program's path, a fault -/
theorem mt_phF {T T1 : mt_S} (hs : mt_st T) {n : Nat} (hn : n ≤ 240) (e1 : T.2.2.1 1 1 = some (uI n)) (hr : f_X0_read 3 1 T = some T1) (f1 : mt_fr mt_DF T T1) {k p : Int32} (hk : ¬ k = 0) (e9 : T1.2.2.1 3 9 = some k) (e10 : T1.2.2.1 3 10 = some p) : f_X10_path 0 T = some ((-1000) - p, mt_pI T1 1 1 0) := by
  have hs1 := f1.st hs
  have hs2 : mt_st (mt_pI T1 1 1 0) := hs1
  exact fw_t (T_K hs (by decide) rfl) (fw_b (T_rR hs (by decide) rfl rfl) (fw_b (T_rR hs (by decide) rfl rfl) (fw_b hr (fw_b (T_rR hs1 (by decide) rfl rfl) (fw_b2 (mt_cut0 hs1 hn ((f1.2 1 1 rfl).1.trans e1)) (fw_b (T_rR hs2 (by decide) rfl rfl) (fw_b2 (fw_t (T_K hs2 (by decide) rfl) (fw_b (T_rI hs2 (by decide) rfl ((mt_I_ne (Or.inl (by decide))).trans e9)) rfl)) (fw_f hk (fw_b (T_rR hs2 (by decide) rfl rfl) (fw_b2 (fw_t (T_K hs2 (by decide) rfl) (fw_b (T_rI hs2 (by decide) rfl ((mt_I_ne (Or.inl (by decide))).trans e10)) rfl)) rfl))))))))))
/-- the reference at its start -/
def mt_M0 (T : mt_S) (n : Nat) : mt_S := mt_pI (mt_pI (mt_pI (mt_pI (mt_pI (mt_pI T 96 0 0) 96 31 (uI n)) 96 2 0) 96 33 0) 96 32 0) 96 35 0
theorem mt_M0f (T : mt_S) (n : Nat) : mt_fr (fun k j => decide (k = 96) && (decide (j ≠ 9) && (decide (j ≠ 30) && (decide (j ≠ 36) && decide (j ≠ 37))))) T (mt_M0 T n) := ((((((mt_fr.refl _ T).I 96 0 0 rfl).I 96 31 (uI n) rfl).I 96 2 0 rfl).I 96 33 0 rfl).I 96 32 0 rfl).I 96 35 0 rfl
theorem mt_phM {T : mt_S} (hs : mt_st T) {n : Nat} (e2 : T.2.2.1 96 2 = some (uI n)) {y : Option (Int32 × mt_S)} (h : (if uI n ≤ 200 then Option.bind (f_X11_reads 6 96 0 (mt_M0 T n)) fun S9 => Option.bind (mt_rI S9 96 11 33) fun v10 => if v10 = 0 then Option.bind (mt_rR S9 96 11 3) fun v11 => Option.bind (mt_rR S9 96 11 6) fun v12 => Option.bind (f_X11_copy v11 0 v12 0 S9) fun S13 => Option.bind (mt_wI S13 96 11 32 0) fun S14 => Option.bind (mt_wI S14 96 11 36 0) fun S15 => Option.bind (mt_wI S15 96 11 37 0) fun S16 => Option.bind (f_X11_goes 6 96 0 S16) fun S17 => Option.bind (mt_rI S17 96 11 36) fun v18 => if v18 ≤ 0 then Option.bind (mt_rI S17 96 11 36) fun v19 => some (v19, S17) else Option.bind (f_X11_stay 96 S17) fun S20 => Option.bind (mt_rI S20 96 11 36) fun v21 => some (v21, S20) else Option.bind (mt_rI S9 96 11 34) fun v22 => some ((-1000) - v22, S9) else Option.bind (f_X11_bad 96 1 200 (mt_M0 T n)) fun S23 => Option.bind (f_X11_reads 6 96 0 S23) fun S24 => Option.bind (mt_rI S24 96 11 33) fun v25 => if v25 = 0 then Option.bind (mt_rR S24 96 11 3) fun v26 => Option.bind (mt_rR S24 96 11 6) fun v27 => Option.bind (f_X11_copy v26 0 v27 0 S24) fun S28 => Option.bind (mt_wI S28 96 11 32 0) fun S29 => Option.bind (mt_wI S29 96 11 36 0) fun S30 => Option.bind (mt_wI S30 96 11 37 0) fun S31 => Option.bind (f_X11_goes 6 96 0 S31) fun S32 => Option.bind (mt_rI S32 96 11 36) fun v33 => if v33 ≤ 0 then Option.bind (mt_rI S32 96 11 36) fun v34 => some (v34, S32) else Option.bind (f_X11_stay 96 S32) fun S35 => Option.bind (mt_rI S35 96 11 36) fun v36 => some (v36, S35) else Option.bind (mt_rI S24 96 11 34) fun v37 => some ((-1000) - v37, S24)) = y) : f_X11_path 96 T = y := by
  have hs7 : mt_st (mt_M0 T n) := hs
  exact fw_t (T_K hs (by decide) rfl) (fw_b (T_wI hs _ (by decide) rfl) (fw_b (T_rI (T := mt_pI T 96 0 0) hs (by decide) rfl ((mt_I_ne (Or.inr (by decide))).trans e2)) (fw_b (T_wI (T := mt_pI T 96 0 0) hs _ (by decide) rfl) (fw_b (T_wI (T := mt_pI (mt_pI T 96 0 0) 96 31 (uI n)) hs _ (by decide) rfl) (fw_b (T_wI (T := mt_pI (mt_pI (mt_pI T 96 0 0) 96 31 (uI n)) 96 2 0) hs _ (by decide) rfl) (fw_b (T_wI (T := mt_pI (mt_pI (mt_pI (mt_pI T 96 0 0) 96 31 (uI n)) 96 2 0) 96 33 0) hs _ (by decide) rfl) (fw_b (T_wI (T := mt_pI (mt_pI (mt_pI (mt_pI (mt_pI T 96 0 0) 96 31 (uI n)) 96 2 0) 96 33 0) 96 32 0) hs _ (by decide) rfl) (fw_b (T_rI hs7 (by decide) rfl ((mt_I_ne (Or.inr (by decide))).trans ((mt_I_ne (Or.inr (by decide))).trans ((mt_I_ne (Or.inr (by decide))).trans ((mt_I_ne (Or.inr (by decide))).trans mt_I_eq))))) h))))))))
theorem mt_M0v (T : mt_S) (n : Nat) : (mt_M0 T n).2.2.1 96 31 = some (uI n) ∧ (mt_M0 T n).2.2.1 96 2 = some 0 ∧ (mt_M0 T n).2.2.1 96 33 = some 0 ∧ (mt_M0 T n).2.2.1 96 32 = some 0 ∧ (mt_M0 T n).2.2.1 96 35 = some 0 := ⟨(mt_I_ne (Or.inr (by decide))).trans ((mt_I_ne (Or.inr (by decide))).trans ((mt_I_ne (Or.inr (by decide))).trans ((mt_I_ne (Or.inr (by decide))).trans mt_I_eq))), (mt_I_ne (Or.inr (by decide))).trans ((mt_I_ne (Or.inr (by decide))).trans ((mt_I_ne (Or.inr (by decide))).trans mt_I_eq)), (mt_I_ne (Or.inr (by decide))).trans ((mt_I_ne (Or.inr (by decide))).trans mt_I_eq), (mt_I_ne (Or.inr (by decide))).trans mt_I_eq, mt_I_eq⟩
/-- both end with a fault -/
theorem mt_phB {T T1 T2 : mt_S} (hi : mt_Inv T) {n : Nat} (hn : n ≤ 240) (e1 : T.2.2.1 1 1 = some (uI n)) (hr : f_X0_read 3 1 T = some T1) (f1 : mt_fr mt_DF T T1) {k p : Int32} (hk : ¬ k = 0) (e9 : T1.2.2.1 3 9 = some k) (e10 : T1.2.2.1 3 10 = some p) (hM : f_X11_path 96 (mt_pI T1 1 1 0) = some ((-1000) - p, T2)) (f2 : mt_fr (fun a b => decide (a = 96) && (decide (b ≠ 9) && decide (b ≠ 30))) (mt_pI T1 1 1 0) T2) (e2 : T2.2.2.1 96 2 = some 0) (e33 : T2.2.2.1 96 33 = some k) : ∃ S', l_2 T = some S' ∧ mt_Inv S' := by
  have c1 := mt_phF hi.1 hn e1 hr f1 hk e9 e10
  have f1' : mt_fr mt_PF T (mt_pI T1 1 1 0) := (f1.mono (fun a b q => by
    unfold mt_PF at q
    unfold mt_DF
    simp only [Bool.or_eq_false_iff, Bool.and_eq_false_iff, decide_eq_false_iff_not] at q ⊢; omega)).I 1 1 0 rfl
  refine ⟨T2, fw_b2 c1 (fw_b2 hM (if_pos rfl)), mt_Inv_pf hi (f1'.trans (f2.mono (fun a b q => ?_))) ((f2.2 1 1 rfl).1.trans mt_I_eq) e2 ⟨k, (f2.2 3 9 rfl).1.trans ((mt_I_ne (Or.inl (by decide))).trans e9), e33⟩⟩
  unfold mt_PF at q
  simp only [Bool.or_eq_false_iff] at q
  exact q.2
theorem mt_ruE {T : mt_S} (hs : mt_st T) {N dn t : Nat} (hN : N ≤ 200) (ht : t ≤ 2500) (e5 : T.2.2.1 3 5 = some (uI N)) : mt_ru N dn t T = some (uI dn, T) := by
  unfold mt_ru
  rw [show 5000 - t = (5000 - (t + 1)) + 1 by omega]
  exact fw_f (by rw [show (1000000 : Int32) = uI 1000000 from rfl, uI_le (by decide) (by omega)]; omega) (fw_f (uI_nn (by omega)) (fw_b (T_rI hs (by decide) rfl e5) (fw_t (by rw [uI_le (by omega) (by omega)]; omega) rfl)))
def mt_ph (dn : Nat) (c : mt_C) (h : List mt_C) : List mt_C := if dn = 0 then h else mt_ad c h
def mt_DXc (k j : Nat) : Bool := (decide (k = 1) && decide (j = 1)) || (decide (3 ≤ k) && decide (k ≤ 8)) || (decide (9 < k) && decide (k ≤ 70))
def mt_DXm (k j : Nat) : Bool := (decide (98 ≤ k) && (decide (k ≤ 102) && decide (k ≠ 99))) || decide (k = 104) || decide (k = 105) || (decide (k = 96) && decide (j ≠ 30))
theorem mt_DXQ : mt_spQ (fun k j => mt_DXc k j || mt_DXm k j) [3, 5, 7] = true := by decide +kernel
/-- the program's path, gone -/
theorem mt_phC {T T1 : mt_S} (hi : mt_Inv T) {n : Nat} (hn : n ≤ 200) (e1 : T.2.2.1 1 1 = some (uI n)) (hr : f_X0_read 3 1 T = some T1) (f1 : mt_fr mt_DF T T1) (e9 : T1.2.2.1 3 9 = some 0) {ac : List mt_Ac} {den : mt_Dn9} (hl : ac.length ≤ 200) (e5 : T1.2.2.1 3 5 = some (uI ac.length)) (hA : mt_aC T1 0 ac) (hden : mt_dk den) (hrc : mt_rC9 4 0 ac den) {x : mt_P} {l : List mt_P} {nx : Nat} {h : List mt_C} (hg : mt_gC (x, l)) (hB : mt_blk T 9 (x, l)) (hC : mt_hC T nx h) : ∃ T2 nx2, f_X10_path 0 T = some (uI (den (x, 0)).1.2, T2) ∧ mt_blk T2 9 ((den (x, 0)).1.1, l) ∧ mt_hC T2 nx2 (mt_ph (den (x, 0)).1.2 (x, l) h) ∧ T2.2.2.1 1 1 = some 0 ∧ T2.2.2.1 3 9 = some 0 ∧ mt_fr mt_DXc T T2 := by
  have hs := hi.1
  have hs1 := f1.st hs
  have hs2 : mt_st (mt_pI T1 1 1 0) := hs1
  have fa : mt_fr mt_DXc T (mt_pI T1 1 1 0) := (f1.mono (fun a b q => by
    unfold mt_DXc at q
    unfold mt_DF
    simp only [Bool.or_eq_false_iff, Bool.and_eq_false_iff, decide_eq_false_iff_not] at q ⊢; omega)).I 1 1 0 rfl
  have fl : mt_fr (fun k _ => decide (k < 9)) T (mt_pI T1 1 1 0) := (f1.mono (fun a b q => by
    unfold mt_DF
    simp only [Bool.and_eq_false_iff, decide_eq_false_iff_not] at q ⊢; omega)).I 1 1 0 rfl
  have B2 : mt_blk (mt_pI T1 1 1 0) 9 (x, l) := mt_blk_f fl (fun i j _ _ => by simp <;> omega) hB
  have C2 : mt_hC (mt_pI T1 1 1 0) nx h := mt_hC_f fl rfl rfl (fun m i j _ _ => by
    have : 17 ≤ mt_rg nx m := by unfold mt_rg; omega
    simp <;> omega) hC
  obtain ⟨T3, b1, b2, b3, b4, b5⟩ := mt_note hs2 hg B2 C2
  have hs3 := b5.st hs2
  have hnx := hC.1
  have n5 : T3.2.2.1 3 5 = some (uI ac.length) := (b5.2 3 5 (by simp <;> omega)).1.trans ((mt_I_ne (Or.inl (by decide))).trans e5)
  have A3 : mt_aC T3 0 ac := mt_aC_f b5 (fun k m k1 k2 _ => by simp <;> omega) (mt_aC_f ((mt_fr.refl (fun k _ => decide (k = 1)) T1).I 1 1 0 rfl) (fun k m k1 k2 _ => by simp <;> omega) hA)
  obtain ⟨p1, p2⟩ := hrc T3 ac.length 0 0 x l hs3 b2 hg.1 (by decide) n5 (by omega) hl A3 (by decide)
  have run : ∃ T4, mt_ru 0 0 0 T3 = some (uI (den (x, 0)).1.2, T4) ∧ mt_blk T4 9 ((den (x, 0)).1.1, l) ∧ mt_fr mt_D17 T3 T4 := by
    cases q : (den (x, 0)).2 with
    | true => exact p2 q
    | false =>
      obtain ⟨T4, t4, c1, c2, c3, c4, c5⟩ := p1 q
      rw [Nat.zero_add] at c1
      exact ⟨T4, c1.trans (mt_ruE (c5.st hs3) hl (by omega) ((c5.2 3 5 rfl).1.trans n5)), c4, mt_1017 c5⟩
  obtain ⟨T4, c1, c2, c3⟩ := run
  have hs4 := c3.st hs3
  have N4 : mt_blk T4 (17 + 6 * nx) (x, l) := mt_blk_f c3 (fun i j _ _ => by unfold mt_D17; simp <;> omega) b3
  have H4 : mt_hC T4 nx h := mt_hC_f c3 rfl rfl (fun m i j _ _ => by
    have : 17 ≤ mt_rg nx m := by unfold mt_rg; omega
    unfold mt_D17; simp <;> omega) b4
  obtain ⟨z1, z2, z3⟩ := hden (x, 0) hg.1 (Nat.zero_le _)
  have fb : mt_fr mt_DXc T T4 := (fa.trans (b5.mono (fun k j q => by
    unfold mt_DXc at q
    simp only [Bool.or_eq_false_iff, Bool.and_eq_false_iff, decide_eq_false_iff_not] at q ⊢; omega))).trans (c3.mono (fun k j q => by
    unfold mt_DXc at q
    unfold mt_D17
    simp only [Bool.or_eq_false_iff, Bool.and_eq_false_iff, decide_eq_false_iff_not] at q ⊢; omega))
  have q11 : T4.2.2.1 1 1 = some 0 := (c3.2 1 1 rfl).1.trans ((b5.2 1 1 (by simp <;> omega)).1.trans mt_I_eq)
  have q39 : T4.2.2.1 3 9 = some 0 := (c3.2 3 9 rfl).1.trans ((b5.2 3 9 (by simp <;> omega)).1.trans ((mt_I_ne (Or.inl (by decide))).trans e9))
  have pre : ∀ {y : Option (Int32 × mt_S)}, (if uI (den (x, 0)).1.2 ≤ 0 then some (uI (den (x, 0)).1.2, T4) else Option.bind (mt_rR T4 0 10 3) fun v19 => Option.bind (f_X2_keep v19 T4) fun S20 => some (uI (den (x, 0)).1.2, S20)) = y → f_X10_path 0 T = y := fun w =>
    fw_t (T_K hs (by decide) rfl) (fw_b (T_rR hs (by decide) rfl rfl) (fw_b (T_rR hs (by decide) rfl rfl) (fw_b hr (fw_b (T_rR hs1 (by decide) rfl rfl) (fw_b2 (mt_cut0 hs1 (n := n) (by omega) ((f1.2 1 1 rfl).1.trans e1)) (fw_b (T_rR hs2 (by decide) rfl rfl) (fw_b2 (fw_t (T_K hs2 (by decide) rfl) (fw_b (T_rI hs2 (by decide) rfl ((mt_I_ne (Or.inl (by decide))).trans e9)) rfl)) (fw_t rfl (fw_b (T_rR hs2 (by decide) rfl rfl) (fw_b (T_rR hs2 (by decide) rfl rfl) (fw_b b1 (fw_b (T_rR hs3 (by decide) rfl rfl) (fw_b (T_rR hs3 (by decide) rfl rfl) (fw_b2 (mt_pl9 hs3) (fw_b2 (fw_t (T_K hs3 (by decide) rfl) c1) w)))))))))))))))
  unfold mt_ph
  by_cases q : (den (x, 0)).1.2 = 0
  · rw [if_pos q]
    exact ⟨T4, nx, pre (fw_t (by rw [q]; decide) rfl), c2, H4, q11, q39, fb⟩
  · rw [if_neg q]
    obtain ⟨T5, d1, d2, d3⟩ := mt_kee hs4 N4 H4
    refine ⟨T5, _, pre (fw_f ?_ (fw_b (T_rR hs4 (by decide) rfl rfl) (fw_b d1 rfl))), mt_blk_f d3 (fun i j _ _ => by simp <;> omega) c2, d2, (d3.2 1 1 rfl).1.trans q11, (d3.2 3 9 rfl).1.trans q39, fb.trans (d3.mono (fun k j w => ?_))⟩
    · rw [show (0 : Int32) = uI 0 from rfl, uI_le (by omega) (by decide)]; omega
    · unfold mt_DXc at w
      simp only [Bool.or_eq_false_iff, Bool.and_eq_false_iff, decide_eq_false_iff_not] at w ⊢; omega
/-- the reference's path, gone -/
theorem mt_phG {T : mt_S} (hs : mt_st T) {c : Nat → Int32} {n : Nat} (hn : n ≤ 200) (e2 : T.2.2.1 96 2 = some (uI n)) (hp : ∀ m, m < n → T.2.2.1 97 m = some (c m)) {b : Nat} {den : mt_Dn9} (hrM : mt_rM c n 0 0 (mt_okM b)) (hgM : mt_gM c n 0 0 den) (hden : mt_dk den) {x : mt_P} {l : List mt_P} {h : List mt_C} (h8 : h.length ≤ 8) (hg : mt_gC (x, l)) (hh : mt_gH h) (hR : mt_row T 98 0 (x, l)) (hM : mt_hM T h) : ∃ T2, f_X11_path 96 T = some (uI (den (x, 0)).1.2, T2) ∧ mt_row T2 98 0 ((den (x, 0)).1.1, l) ∧ mt_hM T2 (mt_ph (den (x, 0)).1.2 (x, l) h) ∧ T2.2.2.1 96 2 = some 0 ∧ T2.2.2.1 96 33 = some 0 ∧ mt_fr mt_DXm T T2 := by
  have hl : l.length ≤ 16 := hg.2.2.1
  obtain ⟨m31, m2, m33, m32, m35⟩ := mt_M0v T n
  have f0 := mt_M0f T n
  have hs0 := f0.st hs
  have tp0 : mt_tpM c n (mt_M0 T n) := ⟨m31, fun m hm => (f0.2 97 m rfl).1.trans (hp m hm)⟩
  obtain ⟨T1, a1, ⟨a2, a3⟩, a4, a5⟩ := hrM (mt_M0 T n) 1000 hs0 tp0 m32 m33 m35 (by omega)
  have hs1 := a5.st hs0
  have f1 : mt_fr (fun k j => decide (k = 96) && (decide (j ≠ 9) && (decide (j ≠ 30) && (decide (j ≠ 36) && decide (j ≠ 37))))) T T1 := f0.trans (a5.mono (fun k j q => by
    unfold mt_DR9
    simp only [Bool.and_eq_false_iff, decide_eq_false_iff_not] at q ⊢; omega))
  have R1 : mt_row T1 98 0 (x, l) := mt_row_f f1 hl (fun _ _ => rfl) hR
  have M1 : mt_hM T1 h := mt_hM_f f1 hh rfl (fun _ => rfl) hM
  have rd : f_X11_reads 6 96 0 (mt_M0 T n) = some T1 := fw_t (T_K hs0 (by decide) rfl) a1
  obtain ⟨T2, b1, b2, b3⟩ := mt_cp35 hs1 (a := 98) (b := 101) (o1 := 0) (o2 := 0) (na := 35) (nb := 35) (by decide) (by decide) (by decide) rfl rfl (by decide) (by decide) (by decide) (by decide) R1.2.2.2.2
  have hs2 := b3.st hs1
  have K2 : mt_row T2 101 0 (x, l) := mt_row_t hl b2 R1
  have R2 : mt_row T2 98 0 (x, l) := mt_row_f b3 hl (fun _ _ => rfl) R1
  have M2 : mt_hM T2 h := mt_hM_f b3 hh rfl (fun _ => rfl) M1
  have g3 := (((mt_fr.refl (fun k j => decide (k = 96) && (decide (j = 32) || decide (j = 36) || decide (j = 37))) T2).I 96 32 0 rfl).I 96 36 0 rfl).I 96 37 0 rfl
  have hs3 := g3.st hs2
  have f3 : mt_fr (fun k j => decide (k = 101) || (decide (k = 96) && (decide (j ≠ 9) && decide (j ≠ 30)))) T (mt_pI (mt_pI (mt_pI T2 96 32 0) 96 36 0) 96 37 0) := ((f1.mono (fun k j q => by
    simp only [Bool.or_eq_false_iff, Bool.and_eq_false_iff, decide_eq_false_iff_not] at q ⊢; omega)).trans (b3.mono (fun k j q => by
    simp only [Bool.or_eq_false_iff, Bool.and_eq_false_iff, decide_eq_false_iff_not] at q ⊢; omega))).trans (g3.mono (fun k j q => by
    simp only [Bool.or_eq_false_iff, Bool.and_eq_false_iff, decide_eq_false_iff_not] at q ⊢; omega))
  have tp3 : mt_tpM c n (mt_pI (mt_pI (mt_pI T2 96 32 0) 96 36 0) 96 37 0) := mt_tpM_f g3 rfl (fun _ => rfl) (mt_tpM_f b3 rfl (fun _ => rfl) (mt_tpM_9 a5 tp0))
  obtain ⟨T4, c1, c2, c3, c4, c5⟩ := hgM (mt_pI (mt_pI (mt_pI T2 96 32 0) 96 36 0) 96 37 0) 1000 0 x l hs3 tp3 (mt_row_f g3 hl (fun _ _ => rfl) R2) hl hg.1 (by decide) ((mt_I_ne (Or.inr (by decide))).trans ((mt_I_ne (Or.inr (by decide))).trans mt_I_eq)) ((mt_I_ne (Or.inr (by decide))).trans mt_I_eq) mt_I_eq (by omega)
  have hs4 := c5.st hs3
  have go : f_X11_goes 6 96 0 (mt_pI (mt_pI (mt_pI T2 96 32 0) 96 36 0) 96 37 0) = some T4 := fw_t (T_K hs3 (by decide) rfl) c1
  have K4 : mt_row T4 101 0 (x, l) := mt_row_f c5 hl (fun _ _ => rfl) (mt_row_f g3 hl (fun _ _ => rfl) K2)
  have M4 : mt_hM T4 h := mt_hM_f c5 hh rfl (fun _ => rfl) (mt_hM_f g3 hh rfl (fun _ => rfl) M2)
  obtain ⟨z1, z2, z3⟩ := hden (x, 0) hg.1 (Nat.zero_le _)
  have hg4 : mt_gC ((den (x, 0)).1.1, l) := ⟨z1, hg.2⟩
  have f4 : mt_fr mt_DXm T T4 := (f3.mono (fun k j q => by
    unfold mt_DXm at q
    simp only [Bool.or_eq_false_iff, Bool.and_eq_false_iff, decide_eq_false_iff_not] at q ⊢; omega)).trans (c5.mono (fun k j q => by
    unfold mt_DXm at q
    unfold mt_DG mt_Ds
    simp only [Bool.or_eq_false_iff, Bool.and_eq_false_iff, decide_eq_false_iff_not] at q ⊢; omega))
  have q2 : T4.2.2.1 96 2 = some 0 := (c5.2 96 2 rfl).1.trans ((g3.2 96 2 rfl).1.trans ((b3.2 96 2 rfl).1.trans ((a5.2 96 2 rfl).1.trans m2)))
  have q33 : T4.2.2.1 96 33 = some 0 := (c5.2 96 33 rfl).1.trans ((g3.2 96 33 rfl).1.trans ((b3.2 96 33 rfl).1.trans a3))
  have le : uI n ≤ 200 := by rw [show (200 : Int32) = uI 200 from rfl, uI_le (by omega) (by decide)]; exact hn
  have pre : ∀ {y : Option (Int32 × mt_S)}, (if uI (den (x, 0)).1.2 ≤ 0 then Option.bind (mt_rI T4 96 11 36) fun v19 => some (v19, T4) else Option.bind (f_X11_stay 96 T4) fun S20 => Option.bind (mt_rI S20 96 11 36) fun v21 => some (v21, S20)) = y → f_X11_path 96 T = y := fun w =>
    mt_phM hs e2 (fw_t le (fw_b rd (fw_b (T_rI hs1 (by decide) rfl a3) (fw_t rfl (fw_b (T_rR hs1 (by decide) rfl rfl) (fw_b (T_rR hs1 (by decide) rfl rfl) (fw_b b1 (fw_b (T_wI hs2 _ (by decide) rfl) (fw_b (T_wI (T := mt_pI T2 96 32 0) hs2 _ (by decide) rfl) (fw_b (T_wI (T := mt_pI (mt_pI T2 96 32 0) 96 36 0) hs2 _ (by decide) rfl) (fw_b go (fw_b (T_rI hs4 (by decide) rfl c3) w))))))))))))
  unfold mt_ph
  by_cases q : (den (x, 0)).1.2 = 0
  · rw [if_pos q]
    exact ⟨T4, pre (fw_t (by rw [q]; decide) (fw_b (T_rI hs4 (by decide) rfl c3) rfl)), c2, M4, q2, q33, f4⟩
  · rw [if_neg q]
    obtain ⟨T5, d1, d2, d3, d4⟩ := mt_stay hs4 h8 hg hg4 hh K4 c2 M4
    have hs5 := d4.st hs4
    refine ⟨T5, pre (fw_f ?_ (fw_b d1 (fw_b (T_rI hs5 (by decide) rfl ((d4.2 96 36 rfl).1.trans c3)) rfl))), d2, d3, (d4.2 96 2 rfl).1.trans q2, (d4.2 96 33 rfl).1.trans q33, f4.trans (d4.mono (fun k j w => ?_))⟩
    · rw [show (0 : Int32) = uI 0 from rfl, uI_le (by omega) (by decide)]; omega
    · unfold mt_DXm at w
      simp only [Bool.or_eq_false_iff, Bool.and_eq_false_iff, decide_eq_false_iff_not] at w ⊢; omega
theorem mt_ph_g {dn : Nat} {c : mt_C} {h : List mt_C} (hc : mt_gC c) (hh : mt_gH h) : mt_gH (mt_ph dn c h) := by
  unfold mt_ph
  by_cases q : dn = 0
  · rw [if_pos q]; exact hh
  · rw [if_neg q]; exact mt_ad_g hc hh
theorem t_2 {T : mt_S} (hi : mt_Inv T) : ∃ S', l_2 T = some S' ∧ mt_Inv S' := by
  have hs := hi.1
  obtain ⟨n, hn, e1, e2, eb⟩ := hi.2.2.2.2.1
  by_cases h200 : n ≤ 200
  · have tC : mt_tpC (fun m => ((T.2.2.1 2 m).getD 0) &&& 255) n T := ⟨e1, fun m hm => by
      obtain ⟨b, b1, b2⟩ := eb m hm
      refine ⟨b, b1, ?_⟩
      show b &&& 255 = ((T.2.2.1 2 m).getD 0) &&& 255
      rw [b1]; rfl⟩
    have tM : ∀ m, m < n → T.2.2.1 97 m = some ((fun m => ((T.2.2.1 2 m).getD 0) &&& 255) m) := fun m hm => by
      obtain ⟨b, b1, b2⟩ := eb m hm
      show T.2.2.1 97 m = some (((T.2.2.1 2 m).getD 0) &&& 255)
      rw [b1, b2]; rfl
    generalize (fun m => ((T.2.2.1 2 m).getD 0) &&& 255) = c at tC tM
    have le : uI n ≤ 200 := by rw [show (200 : Int32) = uI 200 from rfl, uI_le (by omega) (by decide)]; exact h200
    have fR := mt_R0f T
    have hsR := fR.st hs
    have pre : mt_pre c n 0 0 (mt_R0 T) 0 0 0 (-1) := ⟨hsR, mt_tpC_f fR rfl (fun _ => rfl) tC, mt_R0p T, Or.inl rfl, Nat.le_refl _, Nat.le_refl _⟩
    rcases mt_main (c := c) h200 n 0 0 (by omega) (Nat.zero_le _) (by decide) with ⟨k, p, k0, f1, f2⟩ | ⟨b, ac, den, -, b2, b3, -, b5, b6, b7, b8, b9, b10, -⟩
    · obtain ⟨T1, a1, a2, a3, a4⟩ := f1 (mt_R0 T) 0 0 0 (-1) pre
      have fT : mt_fr mt_DF T T1 := fR.trans a4
      have hr : f_X0_read 3 1 T = some T1 := mt_rdS hs e1 (fw_t le a1)
      have g0 : mt_fr (fun k j => decide (k < 9)) T (mt_pI T1 1 1 0) := (fT.mono (fun a b q => by
        unfold mt_DF
        simp only [Bool.and_eq_false_iff, decide_eq_false_iff_not] at q ⊢; omega)).I 1 1 0 rfl
      have hs2 := g0.st hs
      obtain ⟨m31, m2, m33, m32, m35⟩ := mt_M0v (mt_pI T1 1 1 0) n
      have f0 := mt_M0f (mt_pI T1 1 1 0) n
      have hs0 := f0.st hs2
      obtain ⟨T2, c1, ⟨c2, c3⟩, c4, c5⟩ := f2 (mt_M0 (mt_pI T1 1 1 0) n) 1000 hs0 ⟨m31, fun m hm => (f0.2 97 m rfl).1.trans ((g0.2 97 m rfl).1.trans (tM m hm))⟩ m32 m33 m35 (by omega)
      have hs3 := c5.st hs0
      refine mt_phB hi hn e1 hr fT k0 a2 a3 (T2 := T2) ?_ ((f0.mono (fun a b q => ?_)).trans (c5.mono (fun a b q => ?_))) ((c5.2 96 2 rfl).1.trans m2) c2
      · exact mt_phM hs2 ((g0.2 96 2 rfl).1.trans e2) (fw_t le (fw_b (fw_t (T_K hs0 (by decide) rfl) c1) (fw_b (T_rI hs3 (by decide) rfl c2) (fw_f k0 (fw_b (T_rI hs3 (by decide) rfl c3) rfl)))))
      · simp only [Bool.and_eq_false_iff, decide_eq_false_iff_not] at q ⊢; omega
      · unfold mt_DR9
        simp only [Bool.and_eq_false_iff, decide_eq_false_iff_not] at q ⊢; omega
    · have hbn := b3 rfl
      subst hbn
      obtain ⟨T1, t1, mc1, nf1, a1, a2, a3, a4, a5, a6⟩ := b5 (mt_R0 T) 0 0 0 (-1) pre
      have hs1 := a6.st hsR
      have en := mt_rlE h200 a2 hs1 a3.2.2.2.2 a3.2.1 (by decide)
      rw [if_pos rfl] at en
      have fT : mt_fr mt_DF T T1 := fR.trans (mt_DP_F a6)
      have hr : f_X0_read 3 1 T = some T1 := mt_rdS hs e1 (fw_t le (a1.trans en))
      have e5 : T1.2.2.1 3 5 = some (uI (ac 0).length) := by have := a3.1; rwa [Nat.zero_add] at this
      obtain ⟨⟨x, l⟩, hg, hB, hR⟩ := hi.2.1
      have hl : l.length ≤ 16 := hg.2.2.1
      obtain ⟨nx, h, hh⟩ := hi.2.2.1
      obtain ⟨hgh, hC, hM⟩ := mt_hist.mp hh
      obtain ⟨T2, nx2, c1, c2, c3, c4, c5, c6⟩ := mt_phC hi h200 e1 hr fT a3.2.2.2.2 (by omega) e5 a4 b9 (b10 0) hg hB hC
      have hs2 := c6.st hs
      obtain ⟨T3, d1, d2, d3, d4, d5, d6⟩ := mt_phG hs2 h200 ((c6.2 96 2 rfl).1.trans e2) (fun m hm => (c6.2 97 m rfl).1.trans (tM m hm)) b6 b8 b9 hC.2.1 hg hgh (mt_row_f c6 hl (fun _ _ => rfl) hR) (mt_hM_f c6 hgh rfl (fun _ => rfl) hM)
      obtain ⟨z1, z2, z3⟩ := b9 (x, 0) hg.1 (Nat.zero_le _)
      have f := (c6.mono (fun k j q => (Bool.or_eq_false_iff.mp q).1) : mt_fr (fun k j => mt_DXc k j || mt_DXm k j) T T2).trans (d6.mono (fun k j q => (Bool.or_eq_false_iff.mp q).2))
      obtain ⟨-, -, -, h3, -, ⟨n5, h5⟩, -, h7⟩ := hi
      refine ⟨T3, fw_b2 c1 (fw_b2 d1 (if_pos rfl)), f.st hs, ⟨((den (x, 0)).1.1, l), ⟨z1, hg.2⟩, mt_blk_f d6 (fun i j _ _ => ?_) c2, d2⟩, ⟨nx2, _, mt_hist.mpr ⟨mt_ph_g hg hgh, mt_hC_f d6 rfl rfl (fun m i j _ _ => ?_) c3, d3⟩⟩, mt_iIm_c (mt_sp_of f mt_DXQ rfl) h3, ⟨0, by decide, (d6.2 1 1 rfl).1.trans c4, d4, fun m hm => absurd hm (Nat.not_lt_zero m)⟩, ⟨n5, mt_iText_c (mt_sp_of f mt_DXQ rfl) h5⟩, ⟨0, (d6.2 3 9 rfl).1.trans c5, d5⟩, mt_iTab_c (mt_sp_of f mt_DXQ rfl) h7⟩
      · unfold mt_DXm
        simp only [Bool.or_eq_false_iff, Bool.and_eq_false_iff, decide_eq_false_iff_not]; omega
      · have : mt_rg nx2 m ≤ 65 := by unfold mt_rg; omega
        unfold mt_DXm
        simp only [Bool.or_eq_false_iff, Bool.and_eq_false_iff, decide_eq_false_iff_not]; omega
  · have gt : ¬ uI n ≤ 200 := by rw [show (200 : Int32) = uI 200 from rfl, uI_le (by omega) (by decide)]; exact h200
    have fR := mt_R0f T
    have hsR := fR.st hs
    have hr : f_X0_read 3 1 T = some (mt_pI (mt_pI (mt_R0 T) 3 9 1) 3 10 200) := mt_rdS hs e1 (fw_f gt (fw_b (mt_failC hsR _ _) rfl))
    have fT : mt_fr mt_DF T (mt_pI (mt_pI (mt_R0 T) 3 9 1) 3 10 200) := (fR.I 3 9 _ rfl).I 3 10 _ rfl
    have g0 : mt_fr (fun k j => decide (k < 9)) T (mt_pI (mt_pI (mt_pI (mt_R0 T) 3 9 1) 3 10 200) 1 1 0) := (fT.mono (fun a b q => by
      unfold mt_DF
      simp only [Bool.and_eq_false_iff, decide_eq_false_iff_not] at q ⊢; omega)).I 1 1 0 rfl
    have hs2 := g0.st hs
    have f0 := mt_M0f (mt_pI (mt_pI (mt_pI (mt_R0 T) 3 9 1) 3 10 200) 1 1 0) n
    obtain ⟨m31, m2, m33, m32, m35⟩ := mt_M0v (mt_pI (mt_pI (mt_pI (mt_R0 T) 3 9 1) 3 10 200) 1 1 0) n
    have hM := @mt_phM _ hs2 n ((g0.2 96 2 rfl).1.trans e2)
    have k9 : (mt_pI (mt_pI (mt_R0 T) 3 9 1) 3 10 200).2.2.1 3 9 = some 1 := (mt_I_ne (Or.inr (by decide))).trans mt_I_eq
    have k10 : (mt_pI (mt_pI (mt_R0 T) 3 9 1) 3 10 200).2.2.1 3 10 = some 200 := mt_I_eq
    generalize mt_pI (mt_pI (mt_R0 T) 3 9 1) 3 10 200 = U at hr fT g0 hs2 f0 m31 m2 m33 m32 m35 hM k9 k10
    have hs0 := f0.st hs2
    generalize mt_M0 (mt_pI U 1 1 0) n = V at f0 m31 m2 m33 m32 m35 hM hs0
    have hsV : mt_st (mt_pI (mt_pI V 96 33 1) 96 34 200) := hs0
    have v33 : (mt_pI (mt_pI V 96 33 1) 96 34 200).2.2.1 96 33 = some 1 := (mt_I_ne (Or.inr (by decide))).trans mt_I_eq
    have v34 : (mt_pI (mt_pI V 96 33 1) 96 34 200).2.2.1 96 34 = some 200 := mt_I_eq
    have rd : f_X11_reads 6 96 0 (mt_pI (mt_pI V 96 33 1) 96 34 200) = some (mt_pI (mt_pI V 96 33 1) 96 34 200) := fw_t (T_K hsV (by decide) rfl) (mt_rsF (rr := f_X11_reads 5) (by decide) hsV (by decide) v33)
    refine mt_phB hi hn e1 hr fT (k := 1) (p := 200) (by decide) k9 k10 (T2 := mt_pI (mt_pI V 96 33 1) 96 34 200) (hM (fw_f gt (fw_b (mt_bad hs0 m33 1 200) (fw_b rd (fw_b (T_rI hsV (by decide) rfl v33) (fw_f (by decide) (fw_b (T_rI hsV (by decide) rfl v34) rfl))))))) (((f0.mono (fun a b q => ?_)).I 96 33 _ rfl).I 96 34 _ rfl) ?_ v33
    · simp only [Bool.and_eq_false_iff, decide_eq_false_iff_not] at q ⊢; omega
    · exact (mt_I_ne (Or.inr (by decide))).trans ((mt_I_ne (Or.inr (by decide))).trans m2)
