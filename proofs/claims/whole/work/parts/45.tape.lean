/-! frames; fault, byteAt, end, feed -/
/-- T' is T but for the slots of D -/
def mt_fr (D : Nat → Nat → Bool) (T T' : mt_S) : Prop := (T'.1 = T.1 ∧ T'.2.1 = T.2.1 ∧ T'.2.2.2.2 = T.2.2.2.2) ∧ ∀ k j, D k j = false → T'.2.2.1 k j = T.2.2.1 k j ∧ T'.2.2.2.1 k j = T.2.2.2.1 k j
theorem mt_fr.refl (D : Nat → Nat → Bool) (T : mt_S) : mt_fr D T T := ⟨⟨rfl, rfl, rfl⟩, fun _ _ _ => ⟨rfl, rfl⟩⟩
theorem mt_fr.trans {D : Nat → Nat → Bool} {T T' T'' : mt_S} (h1 : mt_fr D T T') (h2 : mt_fr D T' T'') : mt_fr D T T'' :=
  ⟨⟨h2.1.1.trans h1.1.1, h2.1.2.1.trans h1.1.2.1, h2.1.2.2.trans h1.1.2.2⟩, fun k j h => ⟨(h2.2 k j h).1.trans (h1.2 k j h).1, (h2.2 k j h).2.trans (h1.2 k j h).2⟩⟩
theorem mt_fr.mono {D D' : Nat → Nat → Bool} {T T' : mt_S} (h1 : mt_fr D T T') (h : ∀ k j, D' k j = false → D k j = false) : mt_fr D' T T' := ⟨h1.1, fun k j hk => h1.2 k j (h k j hk)⟩
theorem mt_fr.I {D : Nat → Nat → Bool} {T T' : mt_S} (h1 : mt_fr D T T') (k j : Nat) (v : Int32) (h : D k j = true) : mt_fr D T (mt_pI T' k j v) := by
  refine h1.trans ⟨⟨rfl, rfl, rfl⟩, fun a b hab => ⟨?_, rfl⟩⟩
  show mt_u2 _ k j (some v) a b = _
  unfold mt_u2
  by_cases h2 : a = k
  · rw [if_pos h2]
    by_cases h3 : b = j
    · rw [h2, h3, h] at hab; cases hab
    · rw [if_neg h3]
  · rw [if_neg h2]
theorem mt_fr.L {D : Nat → Nat → Bool} {T T' : mt_S} (h1 : mt_fr D T T') (k j : Nat) (v : Int64) (h : D k j = true) : mt_fr D T (mt_pL T' k j v) := by
  refine h1.trans ⟨⟨rfl, rfl, rfl⟩, fun a b hab => ⟨rfl, ?_⟩⟩
  show mt_u2 _ k j (some v) a b = _
  unfold mt_u2
  by_cases h2 : a = k
  · rw [if_pos h2]
    by_cases h3 : b = j
    · rw [h2, h3, h] at hab; cases hab
    · rw [if_neg h3]
  · rw [if_neg h2]
theorem mt_fr.st {D : Nat → Nat → Bool} {T T' : mt_S} (h1 : mt_fr D T T') (hs : mt_st T) : mt_st T' := mt_st_of h1.1 hs
theorem mt_fr.sp {D : Nat → Nat → Bool} {T T' : mt_S} (h1 : mt_fr D T T') (p : Nat) (h : ∀ k j, mt_pc k j = p → D k j = false) : mt_sp p T T' := ⟨fun k j _ q => (h1.2 k j (h k j q)).1, fun k j _ q => (h1.2 k j (h k j q)).2⟩
theorem mt_fr.same {D : Nat → Nat → Bool} {T T' : mt_S} (h1 : mt_fr D T T') (h : ∀ k j, mt_pc k j ≠ 0 → D k j = false) (hz : ∀ k j, mt_perI k j = true ∨ mt_perL k j = true → mt_pc k j ≠ 0) : mt_same T T' := ⟨fun k j q => (h1.2 k j (h k j (hz k j (Or.inl q)))).1, fun k j q => (h1.2 k j (h k j (hz k j (Or.inr q)))).2⟩
theorem mt_I_eq {T : mt_S} {k j : Nat} {v : Int32} : (mt_pI T k j v).2.2.1 k j = some v := by
  show mt_u2 _ k j (some v) k j = _
  unfold mt_u2; rw [if_pos rfl, if_pos rfl]
theorem mt_I_ne {T : mt_S} {k j a b : Nat} {v : Int32} (h : a ≠ k ∨ b ≠ j) : (mt_pI T k j v).2.2.1 a b = T.2.2.1 a b := by
  show mt_u2 _ k j (some v) a b = _
  unfold mt_u2
  rcases h with h | h
  · rw [if_neg h]
  · by_cases h2 : a = k
    · rw [if_pos h2, if_neg h]
    · rw [if_neg h2]
theorem mt_L_eq {T : mt_S} {k j : Nat} {v : Int64} : (mt_pL T k j v).2.2.2.1 k j = some v := by
  show mt_u2 _ k j (some v) k j = _
  unfold mt_u2; rw [if_pos rfl, if_pos rfl]
theorem mt_L_ne {T : mt_S} {k j a b : Nat} {v : Int64} (h : a ≠ k ∨ b ≠ j) : (mt_pL T k j v).2.2.2.1 a b = T.2.2.2.1 a b := by
  show mt_u2 _ k j (some v) a b = _
  unfold mt_u2
  rcases h with h | h
  · rw [if_neg h]
  · by_cases h2 : a = k
    · rw [if_pos h2, if_neg h]
    · rw [if_neg h2]
/-- a write to a slot that isn't kept -/
theorem mt_thr {T : mt_S} {k j : Nat} {v : Int32} (h : mt_perI k j = false) : mt_same T (mt_pI T k j v) := by
  refine ⟨fun a b q => mt_I_ne ?_, fun a b q => rfl⟩
  by_cases h1 : a = k
  · right; intro h2; rw [h1, h2, h] at q; cases q
  · exact Or.inl h1
theorem mt_same.trans {T T' T'' : mt_S} (h1 : mt_same T T') (h2 : mt_same T' T'') : mt_same T T'' := ⟨fun k j q => (h2.1 k j q).trans (h1.1 k j q), fun k j q => (h2.2 k j q).trans (h1.2 k j q)⟩
theorem uI_p1 {n : Nat} (h : n < 2147483648) : (uI n - 1).toInt = (n : Int) - 1 := by
  rw [Int32.toInt_sub, uI_toInt h]
  show ((n : Int) - 1).bmod (2 ^ 32) = _
  rw [Int.bmod_def]
  omega
theorem isInN {n : Nat} (w : Int32) (hn : n < 2147483648) (S : mt_S) : f_X11_isIn w.toInt64 0 ((uI n - 1).toInt64) S = some ((if w < 0 ∨ uI n ≤ w then 0 else 1), S) := by
  unfold f_X11_isIn
  have h1 : (w.toInt64 < 0 ↔ w < 0) := by rw [Int64.lt_iff_toInt_lt, Int32.toInt_toInt64, Int32.lt_iff_toInt_lt]; exact Iff.rfl
  have h2 : ((uI n - 1).toInt64 < w.toInt64 ↔ uI n ≤ w) := by
    rw [Int64.lt_iff_toInt_lt, Int32.toInt_toInt64, Int32.toInt_toInt64, Int32.le_iff_toInt_le, uI_toInt hn, uI_p1 hn]; omega
  by_cases a : w < 0
  · rw [if_pos (h1.mpr a), if_pos (Or.inl a)]
  · rw [if_neg (fun q => a (h1.mp q))]
    by_cases b : uI n ≤ w
    · rw [if_pos (h2.mpr b), if_pos (Or.inr b)]
    · rw [if_neg (fun q => b (h2.mp q)), if_neg (fun q => q.elim a b)]
theorem t_3 {T : mt_S} (hi : mt_Inv T) : ∃ S', l_3 T = some S' ∧ mt_Inv S' := by
  have hs := hi.1
  obtain ⟨v, e1, e2⟩ := hi.2.2.2.2.2.2.1
  refine ⟨mt_pI T 96 0 0, ?_, mt_Inv_c hs (mt_thr (by decide +kernel)) hi⟩
  have a1 : f_X10_fault 0 T = some (v, T) := fw_t (T_K hs (by decide) rfl) (fw_b (T_rR hs (by decide) rfl rfl) (fw_b2 (fw_t (T_K hs (by decide) rfl) (fw_b (T_rI hs (by decide) rfl e1) rfl)) rfl))
  have a2 : f_X11_fault 96 T = some (v, mt_pI T 96 0 0) := fw_t (T_K hs (by decide) rfl) (fw_b (T_wI hs 0 (by decide) rfl) (fw_b (T_rI (T := mt_pI T 96 0 0) hs (by decide) rfl ((mt_I_ne (Or.inr (by decide))).trans e2)) rfl))
  exact fw_b2 a1 (fw_b2 a2 (if_pos rfl))
theorem t_29 {T : mt_S} (w : Int32) (hi : mt_Inv T) : ∃ S', l_29 w T = some S' ∧ mt_Inv S' := by
  have hs := hi.1
  obtain ⟨n, hn, e1, e2, e3⟩ := hi.2.2.2.2.2.1
  have hn' : n < 2147483648 := by omega
  refine ⟨mt_pI T 96 0 0, ?_, mt_Inv_c hs (mt_thr (by decide +kernel)) hi⟩
  have e2' : (mt_pI T 96 0 0).2.2.1 96 30 = some (uI n) := (mt_I_ne (Or.inr (by decide))).trans e2
  by_cases hw : w < 0 ∨ uI n ≤ w
  · have a1 : f_X10_byteAt 0 w T = some (-1, T) := by
      refine fw_t (T_K hs (by decide) rfl) (fw_b (T_rR hs (by decide) rfl rfl) (fw_b2 (v := -1) (S1 := T) (fw_t (T_K hs (by decide) rfl) ?_) rfl))
      by_cases h0 : w < 0
      · exact fw_t h0 rfl
      · exact fw_f h0 (fw_b (T_rI hs (by decide) rfl e1) (fw_t (hw.resolve_left h0) rfl))
    have a2 : f_X11_byteAt 96 w T = some (-1, mt_pI T 96 0 0) := by
      refine fw_t (T_K hs (by decide) rfl) (fw_b (T_wI hs 0 (by decide) rfl) (fw_b (T_rI (T := mt_pI T 96 0 0) hs (by decide) rfl e2') (fw_b2 (isInN w hn' _) ?_)))
      rw [if_pos hw]; rfl
    exact fw_b2 a1 (fw_b2 a2 (if_pos rfl))
  · obtain ⟨h0, h1⟩ := not_or.mp hw
    obtain ⟨j, hj, rfl⟩ := (uI_cs w).resolve_left h0
    have hjn : j < n := by
      rw [uI_le hn' hj] at h1; omega
    obtain ⟨b, b1, b2⟩ := e3 j hjn
    have a1 : f_X10_byteAt 0 (uI j) T = some (b, T) := fw_t (T_K hs (by decide) rfl) (fw_b (T_rR hs (by decide) rfl rfl) (fw_b2 (fw_t (T_K hs (by decide) rfl) (fw_f h0 (fw_b (T_rI hs (by decide) rfl e1) (fw_f h1 (fw_b (T_rR hs (by decide) rfl rfl) (fw_b (T_aI hs (by decide) rfl (n := 44) (by omega) (by decide) b1) rfl)))))) rfl))
    have a2 : f_X11_byteAt 96 (uI j) T = some (b, mt_pI T 96 0 0) := by
      refine fw_t (T_K hs (by decide) rfl) (fw_b (T_wI hs 0 (by decide) rfl) (fw_b (T_rI (T := mt_pI T 96 0 0) hs (by decide) rfl e2') (fw_b2 (isInN _ hn' _) ?_)))
      rw [if_neg hw]
      exact fw_f (by decide) (fw_b (T_rR (T := mt_pI T 96 0 0) hs (by decide) rfl rfl) (fw_b (T_aI (T := mt_pI T 96 0 0) hs (by decide) rfl (n := 48) (by omega) (by decide) ((mt_I_ne (Or.inl (by decide))).trans b2)) rfl))
    exact fw_b2 a1 (fw_b2 a2 (if_pos rfl))
/-- all but the tape's part -/
theorem mt_Inv_tape {T T' : mt_S} (hi : mt_Inv T) (hf : mt_fr (fun k j => decide (k = 1) || decide (k = 2) || decide (k = 97) || (decide (k = 96) && (decide (j = 0) || decide (j = 2)))) T T') (ht : ∃ n, mt_iTape T' n) : mt_Inv T' := by
  obtain ⟨hs, ⟨c, h1⟩, ⟨nx, hh, h2⟩, h3, ⟨n4, h4⟩, ⟨n5, h5⟩, h6, h7⟩ := hi
  have sp : ∀ p, p ≠ 0 → p ≠ 4 → mt_sp p T T' := by
    intro p h0 hp
    refine hf.sp p (fun k j hk => ?_)
    by_cases q : (decide (k = 1) || decide (k = 2) || decide (k = 97) || (decide (k = 96) && (decide (j = 0) || decide (j = 2)))) = true
    · simp only [Bool.or_eq_true, Bool.and_eq_true, decide_eq_true_eq] at q
      rcases q with ((rfl | rfl) | rfl) | ⟨rfl, rfl | rfl⟩
      · exact absurd hk.symm hp
      · exact absurd hk.symm hp
      · exact absurd hk.symm hp
      · exact absurd hk.symm h0
      · exact absurd hk.symm hp
    · exact Bool.eq_false_iff.mpr q
  exact ⟨hf.st hs, ⟨c, mt_iCur_c (sp 1 (by decide) (by decide)) h1⟩, ⟨nx, hh, mt_iHist_c (sp 2 (by decide) (by decide)) h2⟩, mt_iIm_c (sp 3 (by decide) (by decide)) h3, ht, ⟨n5, mt_iText_c (sp 5 (by decide) (by decide)) h5⟩, mt_iFault_c (sp 6 (by decide) (by decide)) h6, mt_iTab_c (sp 7 (by decide) (by decide)) h7⟩
theorem t_1 {T : mt_S} (w : Int32) (hi : mt_Inv T) : ∃ S', l_1 w T = some S' ∧ mt_Inv S' := by
  have hs := hi.1
  obtain ⟨n, hn, e1, e2, e3⟩ := hi.2.2.2.2.1
  have hn' : n < 2147483648 := by omega
  have e2' : (mt_pI T 96 0 0).2.2.1 96 2 = some (uI n) := (mt_I_ne (Or.inr (by decide))).trans e2
  by_cases h0 : w < 0
  · refine ⟨mt_pI T 96 0 0, ?_, mt_Inv_c hs (mt_thr (by decide +kernel)) hi⟩
    have a1 : f_X10_end 0 w T = some (0, T) := fw_t (T_K hs (by decide) rfl) (fw_b (T_rR hs (by decide) rfl rfl) (fw_b2 (fw_t (T_K hs (by decide) rfl) (fw_t h0 rfl)) (fw_t (Or.inl rfl) rfl)))
    have a2 : f_X11_end 96 w T = some (0, mt_pI T 96 0 0) := fw_t (T_K hs (by decide) rfl) (fw_b (T_wI hs 0 (by decide) rfl) (fw_t h0 rfl))
    exact fw_b2 a1 (fw_b2 a2 (if_pos rfl))
  · by_cases h1 : w ≤ uI n
    · obtain ⟨j, hj, rfl⟩ := (uI_cs w).resolve_left h0
      have hjn : j ≤ n := (uI_le hj hn').mp h1
      have a1 : f_X10_end 0 (uI j) T = some (1, mt_pI T 1 1 (uI j)) := fw_t (T_K hs (by decide) rfl) (fw_b (T_rR hs (by decide) rfl rfl) (fw_b2 (fw_t (T_K hs (by decide) rfl) (fw_f h0 (fw_b (T_rI hs (by decide) rfl e1) (fw_t h1 (fw_b (T_wI hs _ (by decide) rfl) rfl))))) (fw_t (Or.inr rfl) rfl)))
      have a2 : f_X11_end 96 (uI j) (mt_pI T 1 1 (uI j)) = some (1, mt_pI (mt_pI (mt_pI T 1 1 (uI j)) 96 0 0) 96 2 (uI j)) := fw_t (T_K (T := mt_pI T 1 1 (uI j)) hs (by decide) rfl) (fw_b (T_wI (T := mt_pI T 1 1 (uI j)) hs 0 (by decide) rfl) (fw_f h0 (fw_b (T_rI (T := mt_pI (mt_pI T 1 1 (uI j)) 96 0 0) hs (by decide) rfl ((mt_I_ne (Or.inr (by decide))).trans ((mt_I_ne (Or.inl (by decide))).trans e2))) (fw_t h1 (fw_b (T_wI (T := mt_pI (mt_pI T 1 1 (uI j)) 96 0 0) hs _ (by decide) rfl) rfl)))))
      refine ⟨_, fw_b2 a1 (fw_b2 a2 (if_pos rfl)), mt_Inv_tape hi ((((mt_fr.refl _ T).I 1 1 _ rfl).I 96 0 _ rfl).I 96 2 _ rfl) ⟨j, by omega, ?_, mt_I_eq, fun m hm => ?_⟩⟩
      · exact (mt_I_ne (Or.inl (by decide))).trans ((mt_I_ne (Or.inl (by decide))).trans mt_I_eq)
      · obtain ⟨b, b1, b2⟩ := e3 m (by omega)
        exact ⟨b, (mt_I_ne (Or.inl (by decide))).trans ((mt_I_ne (Or.inl (by decide))).trans ((mt_I_ne (Or.inl (by decide))).trans b1)), (mt_I_ne (Or.inl (by decide))).trans ((mt_I_ne (Or.inl (by decide))).trans ((mt_I_ne (Or.inl (by decide))).trans b2))⟩
    · refine ⟨mt_pI T 96 0 0, ?_, mt_Inv_c hs (mt_thr (by decide +kernel)) hi⟩
      have a1 : f_X10_end 0 w T = some (0, T) := fw_t (T_K hs (by decide) rfl) (fw_b (T_rR hs (by decide) rfl rfl) (fw_b2 (fw_t (T_K hs (by decide) rfl) (fw_f h0 (fw_b (T_rI hs (by decide) rfl e1) (fw_f h1 rfl)))) (fw_t (Or.inl rfl) rfl)))
      have a2 : f_X11_end 96 w T = some (0, mt_pI T 96 0 0) := fw_t (T_K hs (by decide) rfl) (fw_b (T_wI hs 0 (by decide) rfl) (fw_f h0 (fw_b (T_rI (T := mt_pI T 96 0 0) hs (by decide) rfl e2') (fw_f h1 rfl))))
      exact fw_b2 a1 (fw_b2 a2 (if_pos rfl))
