/-! the table is filled -/
def mt_tr (T : mt_S) (m : Nat) (r : mt_R4) : Prop := T.2.2.2.1 91 m = some r.1 ∧ T.2.2.2.1 92 m = some r.2.1 ∧ T.2.2.2.1 93 m = some r.2.2.1 ∧ T.2.2.1 94 m = some r.2.2.2
def mt_Dt (k j : Nat) : Bool := (decide (k = 90) && decide (j = 5)) || (decide (91 ≤ k) && decide (k ≤ 94))
theorem mt_tr_f {D : Nat → Nat → Bool} {T T' : mt_S} {m : Nat} {r : mt_R4} (f : mt_fr D T T') (h1 : D 91 m = false) (h2 : D 92 m = false) (h3 : D 93 m = false) (h4 : D 94 m = false) (h : mt_tr T m r) : mt_tr T' m r := by
  obtain ⟨a, b, c, d⟩ := h
  exact ⟨(f.2 _ _ h1).2.trans a, (f.2 _ _ h2).2.trans b, (f.2 _ _ h3).2.trans c, (f.2 _ _ h4).1.trans d⟩
/-- one row written -/
def mt_w4 (T : mt_S) (m : Nat) (r : mt_R4) : mt_S := mt_pI (mt_pL (mt_pL (mt_pL T 91 m r.1) 92 m r.2.1) 93 m r.2.2.1) 94 m r.2.2.2
theorem mt_w4f (T : mt_S) (m : Nat) (r : mt_R4) : mt_fr (fun k j => decide (91 ≤ k) && (decide (k ≤ 94) && decide (j = m))) T (mt_w4 T m r) := ((((mt_fr.refl _ T).L 91 m _ (by simp)).L 92 m _ (by simp)).L 93 m _ (by simp)).I 94 m _ (by simp)
theorem mt_w4r (T : mt_S) (m : Nat) (r : mt_R4) : mt_tr (mt_w4 T m r) m r := ⟨(mt_L_ne (Or.inl (by decide))).trans ((mt_L_ne (Or.inl (by decide))).trans mt_L_eq), (mt_L_ne (Or.inl (by decide))).trans mt_L_eq, mt_L_eq, mt_I_eq⟩
theorem mt_prE {T : mt_S} (hs : mt_st T) {e : mt_R4} {a n : Nat} (ha : a < 160) (e5 : T.2.2.1 90 5 = some (uI n)) {A B : List mt_R4} (hA : A.length = a) (hfA : ∀ m z, A[m]? = some z → mt_tr T m z) (hfB : ∀ m z, B[m]? = some z → mt_tr T (a + 1 + m) z) : ∃ T', (Option.bind (mt_rR T 90 6 0) fun v3 => Option.bind (mt_sL T v3 (uI a) e.1) fun S4 => Option.bind (mt_rR S4 90 6 1) fun v5 => Option.bind (mt_sL S4 v5 (uI a) e.2.1) fun S6 => Option.bind (mt_rR S6 90 6 2) fun v7 => Option.bind (mt_sL S6 v7 (uI a) e.2.2.1) fun S8 => Option.bind (mt_rR S8 90 6 3) fun v9 => Option.bind (mt_sI S8 v9 13 (uI a) e.2.2.2) fun S10 => Option.bind (mt_rI S10 90 6 5) fun v11 => Option.bind (mt_wI S10 90 6 5 (v11 + 1)) fun S12 => some S12) = some T' ∧ (∀ m z, (A ++ e :: B)[m]? = some z → mt_tr T' m z) ∧ T'.2.2.1 90 5 = some (uI (n + 1)) ∧ mt_fr mt_Dt T T' := by
  have f3 := mt_w4f T a e
  have f4 := (mt_fr.refl (fun k j => decide (k = 90) && decide (j = 5)) (mt_w4 T a e)).I 90 5 (uI (n + 1)) rfl
  have e3 : (mt_w4 T a e).2.2.1 90 5 = some (uI n) := (f3.2 90 5 (by simp)).1.trans e5
  refine ⟨mt_pI (mt_w4 T a e) 90 5 (uI (n + 1)), ?_, fun m z hz => ?_, mt_I_eq, (f3.mono (fun k j q => ?_)).trans (f4.mono (fun k j q => ?_))⟩
  · refine fw_b (T_rR hs (by decide) rfl rfl) (fw_b (T_sL hs _ (by decide) rfl (n := 160) ha (by decide)) (fw_b (T_rR (T := mt_pL T 91 a e.1) hs (by decide) rfl rfl) (fw_b (T_sL (T := mt_pL T 91 a e.1) hs _ (by decide) rfl (n := 160) ha (by decide)) (fw_b (T_rR (T := mt_pL (mt_pL T 91 a e.1) 92 a e.2.1) hs (by decide) rfl rfl) (fw_b (T_sL (T := mt_pL (mt_pL T 91 a e.1) 92 a e.2.1) hs _ (by decide) rfl (n := 160) ha (by decide)) (fw_b (T_rR (T := mt_pL (mt_pL (mt_pL T 91 a e.1) 92 a e.2.1) 93 a e.2.2.1) hs (by decide) rfl rfl) (fw_b (T_sI (T := mt_pL (mt_pL (mt_pL T 91 a e.1) 92 a e.2.1) 93 a e.2.2.1) hs _ (by decide) rfl (n := 160) ha (by decide)) (fw_b (T_rI (T := mt_w4 T a e) hs (by decide) rfl e3) ?_))))))))
    rw [uI_s]
    exact fw_b (T_wI (T := mt_w4 T a e) hs _ (by decide) rfl) rfl
  · refine mt_tr_f f4 (by simp) (by simp) (by simp) (by simp) ?_
    by_cases h1 : m < a
    · rw [List.getElem?_append_left (by omega)] at hz
      exact mt_tr_f f3 (by simp <;> omega) (by simp <;> omega) (by simp <;> omega) (by simp <;> omega) (hfA m z hz)
    · rw [List.getElem?_append_right (by omega), hA] at hz
      by_cases h2 : m = a
      · subst h2
        rw [Nat.sub_self, List.getElem?_cons_zero] at hz
        cases hz
        exact mt_w4r T m e
      · obtain ⟨d, rfl⟩ : ∃ d, m = a + 1 + d := ⟨m - a - 1, by omega⟩
        rw [show a + 1 + d - a = d + 1 by omega, List.getElem?_cons_succ] at hz
        exact mt_tr_f f3 (by simp <;> omega) (by simp <;> omega) (by simp <;> omega) (by simp <;> omega) (hfB d z hz)
  · unfold mt_Dt at q
    simp only [Bool.or_eq_false_iff, Bool.and_eq_false_iff, decide_eq_false_iff_not] at q ⊢; omega
  · unfold mt_Dt at q
    simp only [Bool.or_eq_false_iff, Bool.and_eq_false_iff, decide_eq_false_iff_not] at q ⊢; omega
/-- a row moves one up -/
theorem mt_prM {T : mt_S} (hs : mt_st T) {h : mt_R4} {a : Nat} (ha : a + 1 < 160) (hh : mt_tr T a h) {z : Option mt_S} {g : mt_S → Option mt_S} (q : g (mt_w4 T (a + 1) h) = z) : (Option.bind (mt_rR T 90 6 0) fun v15 => Option.bind (mt_rR T 90 6 0) fun v16 => Option.bind (mt_aL T v16 (uI a)) fun v17 => Option.bind (mt_sL T v15 (uI (a + 1)) v17) fun S18 => Option.bind (mt_rR S18 90 6 1) fun v19 => Option.bind (mt_rR S18 90 6 1) fun v20 => Option.bind (mt_aL S18 v20 (uI a)) fun v21 => Option.bind (mt_sL S18 v19 (uI (a + 1)) v21) fun S22 => Option.bind (mt_rR S22 90 6 2) fun v23 => Option.bind (mt_rR S22 90 6 2) fun v24 => Option.bind (mt_aL S22 v24 (uI a)) fun v25 => Option.bind (mt_sL S22 v23 (uI (a + 1)) v25) fun S26 => Option.bind (mt_rR S26 90 6 3) fun v27 => Option.bind (mt_rR S26 90 6 3) fun v28 => Option.bind (mt_aI S26 v28 13 (uI a)) fun v29 => Option.bind (mt_sI S26 v27 13 (uI (a + 1)) v29) fun S30 => g S30) = z := by
  obtain ⟨h1, h2, h3, h4⟩ := hh
  refine fw_b (T_rR hs (by decide) rfl rfl) (fw_b (T_rR hs (by decide) rfl rfl) (fw_b (T_aL hs (by decide) rfl (n := 160) (by omega) (by decide) h1) (fw_b (T_sL hs _ (by decide) rfl (n := 160) ha (by decide)) ?_)))
  refine fw_b (T_rR (T := mt_pL T 91 (a + 1) h.1) hs (by decide) rfl rfl) (fw_b (T_rR (T := mt_pL T 91 (a + 1) h.1) hs (by decide) rfl rfl) (fw_b (T_aL (T := mt_pL T 91 (a + 1) h.1) hs (by decide) rfl (n := 160) (by omega) (by decide) ((mt_L_ne (Or.inl (by decide))).trans h2)) (fw_b (T_sL (T := mt_pL T 91 (a + 1) h.1) hs _ (by decide) rfl (n := 160) ha (by decide)) ?_)))
  refine fw_b (T_rR (T := mt_pL (mt_pL T 91 (a + 1) h.1) 92 (a + 1) h.2.1) hs (by decide) rfl rfl) (fw_b (T_rR (T := mt_pL (mt_pL T 91 (a + 1) h.1) 92 (a + 1) h.2.1) hs (by decide) rfl rfl) (fw_b (T_aL (T := mt_pL (mt_pL T 91 (a + 1) h.1) 92 (a + 1) h.2.1) hs (by decide) rfl (n := 160) (by omega) (by decide) ((mt_L_ne (Or.inl (by decide))).trans ((mt_L_ne (Or.inl (by decide))).trans h3))) (fw_b (T_sL (T := mt_pL (mt_pL T 91 (a + 1) h.1) 92 (a + 1) h.2.1) hs _ (by decide) rfl (n := 160) ha (by decide)) ?_)))
  exact fw_b (T_rR (T := mt_pL (mt_pL (mt_pL T 91 (a + 1) h.1) 92 (a + 1) h.2.1) 93 (a + 1) h.2.2.1) hs (by decide) rfl rfl) (fw_b (T_rR (T := mt_pL (mt_pL (mt_pL T 91 (a + 1) h.1) 92 (a + 1) h.2.1) 93 (a + 1) h.2.2.1) hs (by decide) rfl rfl) (fw_b (T_aI (T := mt_pL (mt_pL (mt_pL T 91 (a + 1) h.1) 92 (a + 1) h.2.1) 93 (a + 1) h.2.2.1) hs (by decide) rfl (n := 160) (by omega) (by decide) h4) (fw_b (T_sI (T := mt_pL (mt_pL (mt_pL T 91 (a + 1) h.1) 92 (a + 1) h.2.1) 93 (a + 1) h.2.2.1) hs _ (by decide) rfl (n := 160) ha (by decide)) q)))
theorem mt_prL (e : mt_R4) : ∀ (A B : List mt_R4) (f : Nat) (T : mt_S), mt_st T → A.length < f → A.length + B.length < 160 → T.2.2.1 90 5 = some (uI (A.length + B.length)) → (∀ m z, A.reverse[m]? = some z → mt_tr T m z) → (∀ m z, B[m]? = some z → mt_tr T (A.length + 1 + m) z) → ∃ T', f_X6_putRow_L17 f 90 e.1 e.2.1 e.2.2.1 e.2.2.2 (uI A.length) T = some T' ∧ (∀ m z, (mt_i4i e A B)[m]? = some z → mt_tr T' m z) ∧ T'.2.2.1 90 5 = some (uI (A.length + B.length + 1)) ∧ mt_fr mt_Dt T T' := by
  intro A
  induction A with
  | nil =>
    intro B f T hs hf h16 e5 hA hB
    obtain ⟨f, rfl⟩ : ∃ g, f = g + 1 := ⟨f - 1, by omega⟩
    obtain ⟨T', a1, a2, a3, a4⟩ := mt_prE hs (e := e) (a := 0) (by decide) e5 (A := []) rfl (fun m z h => by cases h) hB
    refine ⟨T', ?_, a2, a3, a4⟩
    show f_X6_putRow_L17s (f_X6_putRow_L17 f) 90 e.1 e.2.1 e.2.2.1 e.2.2.2 (uI 0) T = some T'
    exact fw_t (by decide) a1
  | cons h A ih =>
    intro B f T hs hf h16 e5 hA hB
    obtain ⟨f, rfl⟩ : ∃ g, f = g + 1 := ⟨f - 1, by omega⟩
    rw [List.length_cons] at hf h16 e5
    have hh : mt_tr T A.length h := hA _ _ (mt_rvL h A)
    have np : ¬ uI (A.length + 1) ≤ 0 := by rw [show (0 : Int32) = uI 0 from rfl, uI_le (by omega) (by decide)]; omega
    have c3 := mt_w4f T (A.length + 1) h
    have hs1 := c3.st hs
    have stop : mt_sh4 e h = false → ∃ T', (Option.bind (mt_rR T 90 6 0) fun v3 => Option.bind (mt_sL T v3 (uI (A.length + 1)) e.1) fun S4 => Option.bind (mt_rR S4 90 6 1) fun v5 => Option.bind (mt_sL S4 v5 (uI (A.length + 1)) e.2.1) fun S6 => Option.bind (mt_rR S6 90 6 2) fun v7 => Option.bind (mt_sL S6 v7 (uI (A.length + 1)) e.2.2.1) fun S8 => Option.bind (mt_rR S8 90 6 3) fun v9 => Option.bind (mt_sI S8 v9 13 (uI (A.length + 1)) e.2.2.2) fun S10 => Option.bind (mt_rI S10 90 6 5) fun v11 => Option.bind (mt_wI S10 90 6 5 (v11 + 1)) fun S12 => some S12) = some T' ∧ (∀ m z, (mt_i4i e (h :: A) B)[m]? = some z → mt_tr T' m z) ∧ T'.2.2.1 90 5 = some (uI ((h :: A).length + B.length + 1)) ∧ mt_fr mt_Dt T T' := fun q => by
      obtain ⟨T', a1, a2, a3, a4⟩ := mt_prE hs (e := e) (a := A.length + 1) (by omega) e5 (A := (h :: A).reverse) (by rw [List.length_reverse, List.length_cons]) hA hB
      refine ⟨T', a1, ?_, a3, a4⟩
      show ∀ m z, (if mt_sh4 e h = true then mt_i4i e A (h :: B) else (h :: A).reverse ++ e :: B)[m]? = some z → mt_tr T' m z
      rw [q]; exact a2
    have go : mt_sh4 e h = true → ∃ T', f_X6_putRow_L17 f 90 e.1 e.2.1 e.2.2.1 e.2.2.2 (uI A.length) (mt_w4 T (A.length + 1) h) = some T' ∧ (∀ m z, (mt_i4i e (h :: A) B)[m]? = some z → mt_tr T' m z) ∧ T'.2.2.1 90 5 = some (uI ((h :: A).length + B.length + 1)) ∧ mt_fr mt_Dt T T' := fun q => by
      obtain ⟨T2, d1, d2, d3, d4⟩ := ih (h :: B) f (mt_w4 T (A.length + 1) h) hs1 (by omega) (by rw [List.length_cons]; omega) (by
          rw [(c3.2 90 5 (by simp)).1, List.length_cons, e5]; exact congrArg (fun z => some (uI z)) (by omega)) (fun m z hz => by
          have hm : m < A.length := by have := mt_lt_of hz; rwa [List.length_reverse] at this
          exact mt_tr_f c3 (by simp <;> omega) (by simp <;> omega) (by simp <;> omega) (by simp <;> omega) (hA m z (mt_rvS hz))) (fun m z hz => by
          cases m with
          | zero =>
            rw [List.getElem?_cons_zero] at hz
            cases hz
            exact mt_w4r T _ h
          | succ m =>
            rw [List.getElem?_cons_succ] at hz
            have := hB m z hz
            rw [List.length_cons] at this
            rw [show A.length + 1 + (m + 1) = A.length + 1 + 1 + m by omega]
            exact mt_tr_f c3 (by simp <;> omega) (by simp <;> omega) (by simp <;> omega) (by simp <;> omega) this)
      refine ⟨T2, d1, ?_, ?_, (c3.mono (fun k j q => ?_)).trans d4⟩
      · show ∀ m z, (if mt_sh4 e h = true then mt_i4i e A (h :: B) else (h :: A).reverse ++ e :: B)[m]? = some z → mt_tr T2 m z
        rw [q]; exact d2
      · rw [d3, List.length_cons, List.length_cons]; exact congrArg (fun z => some (uI z)) (by omega)
      · unfold mt_Dt at q
        simp only [Bool.or_eq_false_iff, Bool.and_eq_false_iff, decide_eq_false_iff_not] at q ⊢; omega
    by_cases c1 : e.2.2.1 < h.2.2.1
    · obtain ⟨T', a1, a2⟩ := go (by unfold mt_sh4; rw [decide_eq_true c1]; rfl)
      refine ⟨T', ?_, a2⟩
      show f_X6_putRow_L17s (f_X6_putRow_L17 f) 90 e.1 e.2.1 e.2.2.1 e.2.2.2 (uI (A.length + 1)) T = some T'
      refine fw_f np (fw_b (T_rR hs (by decide) rfl rfl) (fw_b (v := h.2.2.1) (by rw [uI_p]; exact T_aL hs (by decide) rfl (n := 160) (by omega) (by decide) hh.2.2.1) (fw_t c1 ?_)))
      rw [uI_p, uI_m]
      exact mt_prM hs (by omega) hh a1
    · by_cases c2 : h.2.2.1 = e.2.2.1
      · by_cases c4 : h.1 ≤ e.1
        · obtain ⟨T', a1, a2⟩ := stop (by unfold mt_sh4; rw [decide_eq_false c1, decide_eq_true c4, Bool.false_or]; exact Bool.and_false _)
          refine ⟨T', ?_, a2⟩
          show f_X6_putRow_L17s (f_X6_putRow_L17 f) 90 e.1 e.2.1 e.2.2.1 e.2.2.2 (uI (A.length + 1)) T = some T'
          exact fw_f np (fw_b (T_rR hs (by decide) rfl rfl) (fw_b (v := h.2.2.1) (by rw [uI_p]; exact T_aL hs (by decide) rfl (n := 160) (by omega) (by decide) hh.2.2.1) (fw_f c1 (fw_b (T_rR hs (by decide) rfl rfl) (fw_b (v := h.2.2.1) (by rw [uI_p]; exact T_aL hs (by decide) rfl (n := 160) (by omega) (by decide) hh.2.2.1) (fw_t c2 (fw_b (T_rR hs (by decide) rfl rfl) (fw_b (v := h.1) (by rw [uI_p]; exact T_aL hs (by decide) rfl (n := 160) (by omega) (by decide) hh.1) (fw_t c4 a1)))))))))
        · obtain ⟨T', a1, a2⟩ := go (by unfold mt_sh4; rw [decide_eq_true c2, decide_eq_false c4]; exact Bool.or_true _)
          refine ⟨T', ?_, a2⟩
          show f_X6_putRow_L17s (f_X6_putRow_L17 f) 90 e.1 e.2.1 e.2.2.1 e.2.2.2 (uI (A.length + 1)) T = some T'
          refine fw_f np (fw_b (T_rR hs (by decide) rfl rfl) (fw_b (v := h.2.2.1) (by rw [uI_p]; exact T_aL hs (by decide) rfl (n := 160) (by omega) (by decide) hh.2.2.1) (fw_f c1 (fw_b (T_rR hs (by decide) rfl rfl) (fw_b (v := h.2.2.1) (by rw [uI_p]; exact T_aL hs (by decide) rfl (n := 160) (by omega) (by decide) hh.2.2.1) (fw_t c2 (fw_b (T_rR hs (by decide) rfl rfl) (fw_b (v := h.1) (by rw [uI_p]; exact T_aL hs (by decide) rfl (n := 160) (by omega) (by decide) hh.1) (fw_f c4 ?_)))))))))
          rw [uI_p, uI_m]
          exact mt_prM hs (by omega) hh a1
      · obtain ⟨T', a1, a2⟩ := stop (by unfold mt_sh4; rw [decide_eq_false c1, decide_eq_false c2]; rfl)
        refine ⟨T', ?_, a2⟩
        show f_X6_putRow_L17s (f_X6_putRow_L17 f) 90 e.1 e.2.1 e.2.2.1 e.2.2.2 (uI (A.length + 1)) T = some T'
        exact fw_f np (fw_b (T_rR hs (by decide) rfl rfl) (fw_b (v := h.2.2.1) (by rw [uI_p]; exact T_aL hs (by decide) rfl (n := 160) (by omega) (by decide) hh.2.2.1) (fw_f c1 (fw_b (T_rR hs (by decide) rfl rfl) (fw_b (v := h.2.2.1) (by rw [uI_p]; exact T_aL hs (by decide) rfl (n := 160) (by omega) (by decide) hh.2.2.1) (fw_f c2 a1))))))
theorem mt_i4i_l (e : mt_R4) : ∀ (A B : List mt_R4), (mt_i4i e A B).length = A.length + B.length + 1 := by
  intro A
  induction A with
  | nil => intro B; show B.length + 1 = 0 + B.length + 1; omega
  | cons h A ih =>
    intro B
    show (if mt_sh4 e h = true then mt_i4i e A (h :: B) else (h :: A).reverse ++ e :: B).length = _
    by_cases q : mt_sh4 e h = true
    · rw [if_pos q, ih, List.length_cons, List.length_cons]; omega
    · rw [if_neg q, List.length_append, List.length_reverse, List.length_cons, List.length_cons]; omega
/-- the rows stand as l -/
def mt_tl (T : mt_S) (l : List mt_R4) : Prop := T.2.2.1 90 5 = some (uI l.length) ∧ ∀ m r, l[m]? = some r → mt_tr T m r
theorem mt_pr {T : mt_S} (hs : mt_st T) {l : List mt_R4} (hl : l.length < 160) (h : mt_tl T l) (e : mt_R4) : ∃ T', f_X6_putRow 90 e.1 e.2.1 e.2.2.1 e.2.2.2 T = some T' ∧ mt_tl T' (mt_i4i e l.reverse []) ∧ mt_fr mt_Dt T T' := by
  have hr : l.reverse.length = l.length := List.length_reverse
  obtain ⟨T', a1, a2, a3, a4⟩ := mt_prL e l.reverse [] 1000 T hs (by omega) (by rw [hr]; exact hl) (by rw [hr]; exact h.1) (fun m z hz => by rw [List.reverse_reverse] at hz; exact h.2 m z hz) (fun m z hz => by cases hz)
  rw [hr] at a1
  refine ⟨T', ?_, ⟨?_, a2⟩, a4⟩
  · exact fw_t (T_K hs (by decide) rfl) (fw_b (T_rI hs (by decide) rfl h.1) (fw_t (by rw [show (160 : Int32) = uI 160 from rfl, uI_lt (by omega) (by decide)]; exact hl) (fw_b (T_rI hs (by decide) rfl h.1) a1)))
  · rw [mt_i4i_l]; exact a3
theorem mt_pnT {T : mt_S} (hs : mt_st T) {l l' : List mt_R4} (h : mt_tl T l) {x y a : Int64} {s : Int32} (q : mt_pnx x y a s l = some l') : ∃ T', f_X6_putNext 90 x y a s T = some T' ∧ mt_tl T' l' ∧ mt_fr mt_Dt T T' := by
  unfold mt_pnx at q
  by_cases c1 : y < 1
  · rw [if_pos c1] at q
    cases q
    exact ⟨T, fw_t (T_K hs (by decide) rfl) (fw_t c1 rfl), h, mt_fr.refl _ T⟩
  · rw [if_neg c1] at q
    by_cases c2 : (3 * y) = 0
    · rw [if_pos c2] at q; cases q
    · rw [if_neg c2] at q
      by_cases c3 : x ≤ ((1000000000000 + a) / (3 * y))
      · rw [if_pos c3] at q
        by_cases c4 : l.length < 160
        · rw [if_pos c4] at q
          have q := Option.some.inj q
          subst q
          obtain ⟨T', a1, a2, a3⟩ := mt_pr hs c4 h (x, y, ((3 * x) * y) - a, s)
          exact ⟨T', fw_t (T_K hs (by decide) rfl) (fw_f c1 (fw_f c2 (fw_t c3 (fw_b a1 rfl)))), a2, a3⟩
        · rw [if_neg c4] at q; cases q
      · rw [if_neg c3] at q
        cases q
        exact ⟨T, fw_t (T_K hs (by decide) rfl) (fw_f c1 (fw_f c2 (fw_f c3 rfl))), h, mt_fr.refl _ T⟩
