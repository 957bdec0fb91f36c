/-! blocks -/
def mt_BL : List Nat := [9, 17, 23, 29, 35, 41, 47, 53, 59, 65, 72, 78]
def mt_isB (a : Nat) : Prop := a < 100 ∧ mt_shN a = (5, 2) ∧ mt_shN (a + 1) = (4, 5) ∧ mt_shN (a + 2) = (3, 4) ∧ mt_shN (a + 3) = (14, 16) ∧ mt_shN (a + 4) = (13, 16) ∧ mt_shN (a + 5) = (13, 16) ∧ mt_RN a 0 = some (a + 1) ∧ mt_RN a 1 = some (a + 2) ∧ mt_RN (a + 2) 0 = some (a + 3) ∧ mt_RN (a + 2) 1 = some (a + 4) ∧ mt_RN (a + 2) 2 = some (a + 5)
theorem mt_B_of {a : Nat} (h : a ∈ mt_BL) : mt_isB a := by
  have : ∀ a ∈ mt_BL, mt_isB a := by
    unfold mt_isB
    decide +kernel
  exact this a h
theorem mt_B_ne {a b : Nat} (ha : a ∈ mt_BL) (hb : b ∈ mt_BL) (h : a ≠ b) : a + 5 < b ∨ b + 5 < a := by
  have : ∀ a ∈ mt_BL, ∀ b ∈ mt_BL, a ≠ b → a + 5 < b ∨ b + 5 < a := by decide +kernel
  exact this a ha b hb h
theorem mt_rg_B (nx m : Nat) : mt_rg nx m ∈ mt_BL := by
  have : ∀ r, r < 9 → 17 + 6 * r ∈ mt_BL := by decide +kernel
  exact this _ (Nat.mod_lt _ (by decide))
/-- marks at a block -/
def mt_mk (T : mt_S) (k : Nat) (m : Nat) (y : mt_P) : Prop := T.2.2.2.1 (k + 3) m = some (mt_num y) ∧ T.2.2.1 (k + 4) m = some y.1 ∧ T.2.2.1 (k + 5) m = some y.2.1
def mt_DR (a k : Nat) : Bool := decide (k = a + 3) || decide (k = a + 4) || decide (k = a + 5)
/-- one row of marks is copied -/
theorem mt_cR {T : mt_S} (hs : mt_st T) {a b m1 m2 : Nat} (ha : mt_isB a) (hb : mt_isB b) {y : mt_P} (h1 : m1 < 16) (h2 : m2 < 16) (hy : mt_mk T b m1 y) (hd : a = b → m1 ≠ m2) : ∃ T', f_X3_copyRow (a + 2) (b + 2) (uI m1) (uI m2) T = some T' ∧ mt_mk T' a m2 y ∧ mt_fr (fun k j => mt_DR a k && decide (j = m2)) T T' := by
  obtain ⟨l0, s0, s1, s2, s3, s4, s5, r0, r1, r2, r3, r4⟩ := ha
  obtain ⟨l0', s0', s1', s2', s3', s4', s5', r0', r1', r2', r3', r4'⟩ := hb
  obtain ⟨y1, y2, y3⟩ := hy
  have hs1 : mt_st (mt_pL T (a + 3) m2 (mt_num y)) := hs
  have hs2 : mt_st (mt_pI (mt_pL T (a + 3) m2 (mt_num y)) (a + 4) m2 y.1) := hs
  have e2 : (mt_pL T (a + 3) m2 (mt_num y)).2.2.1 (b + 4) m1 = some y.1 := y2
  have e3 : (mt_pI (mt_pL T (a + 3) m2 (mt_num y)) (a + 4) m2 y.1).2.2.1 (b + 5) m1 = some y.2.1 := by
    have n1 : mt_shN (b + 5) = (13, 16) := s5'
    by_cases q : b + 5 = a + 4
    · by_cases q2 : m1 = m2
      · exfalso
        have x1 : mt_shN (b + 3) = (14, 16) := s3'
        have x2 : mt_shN (a + 2) = (3, 4) := s2
        have : b + 3 = a + 2 := by omega
        rw [this, x2] at x1
        exact absurd x1 (by decide)
      · rw [mt_I_ne (Or.inr q2)]; exact y3
    · rw [mt_I_ne (Or.inl q)]; exact y3
  refine ⟨mt_pI (mt_pI (mt_pL T (a + 3) m2 (mt_num y)) (a + 4) m2 y.1) (a + 5) m2 y.2.1, ?_, ⟨mt_L_eq, ?_, mt_I_eq⟩, (((mt_fr.refl _ T).L (a + 3) m2 _ ?_).I (a + 4) m2 _ ?_).I (a + 5) m2 _ ?_⟩
  · refine fw_t (T_K hs (by omega) (by rw [s2])) (fw_b (T_rR hs (by omega) (by rw [s2]) r2) (fw_b (T_rR hs (by omega) (by rw [s2']) r2') (fw_b (T_aL hs (by omega) s3' h1 (by decide) y1) (fw_b (T_sL hs _ (by omega) s3 h2 (by decide)) ?_))))
    refine fw_b (T_rR hs1 (by omega) (by rw [s2]) r3) (fw_b (T_rR hs1 (by omega) (by rw [s2']) r3') (fw_b (T_aI hs1 (by omega) s4' h1 (by decide) e2) (fw_b (T_sI hs1 _ (by omega) s4 h2 (by decide)) ?_)))
    exact fw_b (T_rR hs2 (by omega) (by rw [s2]) r4) (fw_b (T_rR hs2 (by omega) (by rw [s2']) r4') (fw_b (T_aI hs2 (by omega) s5' h1 (by decide) e3) (fw_b (T_sI hs2 _ (by omega) s5 h2 (by decide)) rfl)))
  · exact (mt_I_ne (Or.inl (by omega))).trans mt_I_eq
  · simp [mt_DR]
  · simp [mt_DR]
  · simp [mt_DR]
theorem mt_mk_f {D : Nat → Nat → Bool} {T T' : mt_S} {k m : Nat} {y : mt_P} (hf : mt_fr D T T') (h3 : D (k + 3) m = false) (h4 : D (k + 4) m = false) (h5 : D (k + 5) m = false) (h : mt_mk T k m y) : mt_mk T' k m y := by
  obtain ⟨a, b, c⟩ := h
  exact ⟨(hf.2 _ _ h3).2.trans a, (hf.2 _ _ h4).1.trans b, (hf.2 _ _ h5).1.trans c⟩
theorem mt_cML {a b : Nat} (ha : mt_isB a) (hb : mt_isB b) (hab : a + 5 < b ∨ b + 5 < a) {l : List mt_P} (hl : l.length ≤ 16) : ∀ (r i f : Nat) (T : mt_S), i + r = l.length → r < f → mt_st T → T.2.2.1 (a + 2) 3 = some (uI l.length) → (∀ m y, l[m]? = some y → mt_mk T b m y) → (∀ m y, m < i → l[m]? = some y → mt_mk T a m y) → ∃ T', f_X3_copyFrom_L10 f (a + 2) (b + 2) (uI i) T = some T' ∧ (∀ m y, l[m]? = some y → mt_mk T' a m y) ∧ mt_fr (fun k _ => mt_DR a k) T T' := by
  intro r
  induction r with
  | zero =>
    intro i f T hi hf hs e hB hA
    obtain ⟨f, rfl⟩ : ∃ g, f = g + 1 := ⟨f - 1, by omega⟩
    refine ⟨T, ?_, fun m y hm => hA m y (by have := mt_lt_of hm; omega) hm, mt_fr.refl _ T⟩
    show f_X3_copyFrom_L10s (f_X3_copyFrom_L10 f) (a + 2) (b + 2) (uI i) T = _
    exact fw_b (T_rI hs (by have := ha.1; omega) (by rw [ha.2.2.2.1]) e) (fw_t (by rw [uI_le (by omega) (by omega)]; omega) rfl)
  | succ r ih =>
    intro i f T hi hf hs e hB hA
    obtain ⟨f, rfl⟩ : ∃ g, f = g + 1 := ⟨f - 1, by omega⟩
    have hil : i < l.length := by omega
    obtain ⟨T1, c1, c2, c3⟩ := mt_cR hs ha hb (y := l[i]) (m1 := i) (m2 := i) (by omega) (by omega) (hB i _ (List.getElem?_eq_getElem hil)) (fun q => by omega)
    have c4 : mt_fr (fun k _ => mt_DR a k) T T1 := c3.mono (fun k j h => by rw [h]; rfl)
    obtain ⟨T2, d1, d2, d3⟩ := ih (i + 1) f T1 (by omega) (by omega) (c3.st hs) (by
        rw [(c4.2 (a + 2) 3 (by simp [mt_DR])).1]; exact e) (fun m y hm => mt_mk_f c4 (by simp [mt_DR]; omega) (by simp [mt_DR]; omega) (by simp [mt_DR]; omega) (hB m y hm)) (fun m y hm hy => by
        by_cases q : m = i
        · subst q
          rw [List.getElem?_eq_getElem hil] at hy
          cases hy
          exact c2
        · exact mt_mk_f c3 (by simp [q]) (by simp [q]) (by simp [q]) (hA m y (by omega) hy))
    refine ⟨T2, ?_, d2, c4.trans d3⟩
    show f_X3_copyFrom_L10s (f_X3_copyFrom_L10 f) (a + 2) (b + 2) (uI i) T = _
    refine fw_b (T_rI hs (by have := ha.1; omega) (by rw [ha.2.2.2.1]) e) (fw_f (by rw [uI_le (by omega) (by omega)]; omega) (fw_b c1 ?_))
    rw [uI_s]; exact d1
theorem mt_cB {T : mt_S} (hs : mt_st T) {a b : Nat} (ha : a ∈ mt_BL) (hb : b ∈ mt_BL) (hab : a ≠ b) {c : mt_C} (hl : c.2.length ≤ 16) (h : mt_blk T b c) : ∃ T', f_X5_copyFrom a b T = some T' ∧ mt_blk T' a c ∧ mt_fr (fun k _ => decide (a < k) && decide (k ≤ a + 5)) T T' := by
  have hd := mt_B_ne ha hb hab
  have hA := mt_B_of ha
  have hB := mt_B_of hb
  obtain ⟨l0, s0, s1, s2, s3, s4, s5, r0, r1, r2, r3, r4⟩ := id hA
  obtain ⟨l0', s0', s1', s2', s3', s4', s5', r0', r1', r2', r3', r4'⟩ := id hB
  obtain ⟨p, n, q⟩ := h
  obtain ⟨⟨x, y, v0, v1, v2, v3, v4⟩, l⟩ := c
  have p0 := p 0 v0 rfl
  have p1 := p 1 v1 rfl
  have p2 := p 2 v2 rfl
  have p3 := p 3 v3 rfl
  have p4 := p 4 v4 rfl
  have ne : b + 1 ≠ a + 1 := by omega
  have c1 : f_X4_copyFrom (a + 1) (b + 1) T = some (mt_pI (mt_pI (mt_pI (mt_pI (mt_pI T (a + 1) 0 v0) (a + 1) 1 v1) (a + 1) 2 v2) (a + 1) 3 v3) (a + 1) 4 v4) := by
    have hk : ∀ U : mt_S, mt_st U → ∀ j v, mt_wI U (a + 1) 4 j v = some (mt_pI U (a + 1) j v) := fun U hU j v => T_wI hU v (by omega) (by rw [s1])
    have hr : ∀ U : mt_S, mt_st U → ∀ j v, U.2.2.1 (b + 1) j = some v → mt_rI U (b + 1) 4 j = some v := fun U hU j v e => T_rI hU (by omega) (by rw [s1']) e
    refine fw_t (T_K hs (by omega) (by rw [s1])) (fw_b (hr T hs 0 v0 p0) (fw_b (hk T hs 0 v0) ?_))
    refine fw_b (hr (mt_pI T (a + 1) 0 v0) hs 1 v1 ((mt_I_ne (Or.inl ne)).trans p1)) (fw_b (hk (mt_pI T (a + 1) 0 v0) hs 1 v1) ?_)
    refine fw_b (hr (mt_pI (mt_pI T (a + 1) 0 v0) (a + 1) 1 v1) hs 2 v2 ((mt_I_ne (Or.inl ne)).trans ((mt_I_ne (Or.inl ne)).trans p2))) (fw_b (hk (mt_pI (mt_pI T (a + 1) 0 v0) (a + 1) 1 v1) hs 2 v2) ?_)
    refine fw_b (hr (mt_pI (mt_pI (mt_pI T (a + 1) 0 v0) (a + 1) 1 v1) (a + 1) 2 v2) hs 3 v3 ((mt_I_ne (Or.inl ne)).trans ((mt_I_ne (Or.inl ne)).trans ((mt_I_ne (Or.inl ne)).trans p3)))) (fw_b (hk (mt_pI (mt_pI (mt_pI T (a + 1) 0 v0) (a + 1) 1 v1) (a + 1) 2 v2) hs 3 v3) ?_)
    exact fw_b (hr (mt_pI (mt_pI (mt_pI (mt_pI T (a + 1) 0 v0) (a + 1) 1 v1) (a + 1) 2 v2) (a + 1) 3 v3) hs 4 v4 ((mt_I_ne (Or.inl ne)).trans ((mt_I_ne (Or.inl ne)).trans ((mt_I_ne (Or.inl ne)).trans ((mt_I_ne (Or.inl ne)).trans p4))))) (fw_b (hk (mt_pI (mt_pI (mt_pI (mt_pI T (a + 1) 0 v0) (a + 1) 1 v1) (a + 1) 2 v2) (a + 1) 3 v3) hs 4 v4) rfl)
  have g1 : mt_fr (fun k _ => decide (k = a + 1)) T (mt_pI (mt_pI (mt_pI (mt_pI (mt_pI T (a + 1) 0 v0) (a + 1) 1 v1) (a + 1) 2 v2) (a + 1) 3 v3) (a + 1) 4 v4) := (((((mt_fr.refl _ T).I (a + 1) 0 v0 (by simp)).I (a + 1) 1 v1 (by simp)).I (a + 1) 2 v2 (by simp)).I (a + 1) 3 v3 (by simp)).I (a + 1) 4 v4 (by simp)
  have w : ∀ j v, [v0, v1, v2, v3, v4][j]? = some v → (mt_pI (mt_pI (mt_pI (mt_pI (mt_pI T (a + 1) 0 v0) (a + 1) 1 v1) (a + 1) 2 v2) (a + 1) 3 v3) (a + 1) 4 v4).2.2.1 (a + 1) j = some v := by
    intro j v hj
    match j, hj with
    | 0, hj => cases hj; exact (mt_I_ne (Or.inr (by decide))).trans ((mt_I_ne (Or.inr (by decide))).trans ((mt_I_ne (Or.inr (by decide))).trans ((mt_I_ne (Or.inr (by decide))).trans mt_I_eq)))
    | 1, hj => cases hj; exact (mt_I_ne (Or.inr (by decide))).trans ((mt_I_ne (Or.inr (by decide))).trans ((mt_I_ne (Or.inr (by decide))).trans mt_I_eq))
    | 2, hj => cases hj; exact (mt_I_ne (Or.inr (by decide))).trans ((mt_I_ne (Or.inr (by decide))).trans mt_I_eq)
    | 3, hj => cases hj; exact (mt_I_ne (Or.inr (by decide))).trans mt_I_eq
    | 4, hj => cases hj; exact mt_I_eq
  generalize mt_pI (mt_pI (mt_pI (mt_pI (mt_pI T (a + 1) 0 v0) (a + 1) 1 v1) (a + 1) 2 v2) (a + 1) 3 v3) (a + 1) 4 v4 = U at c1 g1 w
  have hU := g1.st hs
  have g2 := (mt_fr.refl (fun k j => decide (k = a + 2) && decide (j = 3)) U).I (a + 2) 3 (uI l.length) (by simp)
  have n1 : U.2.2.1 (b + 2) 3 = some (uI l.length) := (g1.2 (b + 2) 3 (by simp; omega)).1.trans n
  have hU2 := g2.st hU
  obtain ⟨V, d1, d2, d3⟩ := mt_cML hA hB hd hl l.length 0 1000 (mt_pI U (a + 2) 3 (uI l.length)) (Nat.zero_add _) (Nat.lt_of_le_of_lt hl (by decide)) hU2 mt_I_eq (fun m y hm => mt_mk_f g2 (by simp; omega) (by simp; omega) (by simp; omega) (mt_mk_f g1 (by simp; omega) (by simp; omega) (by simp; omega) (q m y hm))) (fun m y hm => absurd hm (Nat.not_lt_zero m))
  refine ⟨V, ?_, ⟨fun j v hj => ?_, ?_, d2⟩, ((g1.mono (fun k j h => ?_)).trans (g2.mono (fun k j h => ?_))).trans (d3.mono (fun k j h => ?_))⟩
  · refine fw_t (T_K hs (by omega) (by rw [s0])) (fw_b (T_rR hs (by omega) (by rw [s0]) r0) (fw_b (T_rR hs (by omega) (by rw [s0']) r0') (fw_b c1 (fw_b (T_rR hU (by omega) (by rw [s0]) r1) (fw_b (T_rR hU (by omega) (by rw [s0']) r1') (fw_b ?_ rfl))))))
    exact fw_t (T_K hU (by omega) (by rw [s2])) (fw_b (T_rI hU (by omega) (by rw [s2']) n1) (fw_b (T_wI hU _ (by omega) (by rw [s2])) d1))
  · rw [(d3.2 (a + 1) j (by simp [mt_DR])).1, (g2.2 (a + 1) j (by simp)).1]; exact w j v hj
  · rw [(d3.2 (a + 2) 3 (by simp [mt_DR])).1]; exact mt_I_eq
  · simp only [Bool.and_eq_false_iff, decide_eq_false_iff_not] at h ⊢; omega
  · simp only [Bool.and_eq_false_iff, decide_eq_false_iff_not] at h ⊢; omega
  · simp only [Bool.and_eq_false_iff, mt_DR, Bool.or_eq_false_iff, decide_eq_false_iff_not] at h ⊢; omega
