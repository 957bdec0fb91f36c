/-! fill: the numbers -/
def mt_Dk (k j : Nat) : Bool := (decide (k = 90) && decide (j = 6)) || decide (k = 95)
theorem mt_fnL : ∀ (l : List mt_R4) (i f : Nat) (N : List Int64) (T : mt_S), mt_st T → l.length < f → T.2.2.1 90 5 = some (uI (i + l.length)) → i + l.length < 1000 → (∀ m r, l[m]? = some r → T.2.2.2.1 93 (i + m) = some r.2.2.1) → i + l.length ≤ 160 → 0 < N.length → N.length + l.length ≤ 160 → T.2.2.1 90 6 = some (uI N.length) → (∀ m v, N.reverse[m]? = some v → T.2.2.2.1 95 m = some v) → ∃ T', f_X6_fillNumbers_L23 f 90 (uI i) T = some T' ∧ T'.2.2.1 90 6 = some (uI (mt_fn l N).length) ∧ (∀ m v, (mt_fn l N).reverse[m]? = some v → T'.2.2.2.1 95 m = some v) ∧ mt_fr mt_Dk T T' := by
  intro l
  induction l with
  | nil =>
    intro i f N T hs hf e5 hi hr h160 hN hNl e6 hn
    obtain ⟨f, rfl⟩ : ∃ g, f = g + 1 := ⟨f - 1, by omega⟩
    have e5 : T.2.2.1 90 5 = some (uI i) := e5
    rw [List.length_nil] at hi
    exact ⟨T, fw_b (T_rI hs (by decide) rfl e5) (fw_t (by rw [uI_le (by omega) (by omega)]; omega) rfl), e6, hn, mt_fr.refl _ T⟩
  | cons r l ih =>
    intro i f N T hs hf e5 hi hr h160 hN hNl e6 hn
    obtain ⟨f, rfl⟩ : ∃ g, f = g + 1 := ⟨f - 1, by omega⟩
    rw [List.length_cons] at hf hi hNl h160 e5
    cases N with
    | nil => exact absurd hN (by decide)
    | cons h N =>
      rw [List.length_cons] at hNl e6
      have z : T.2.2.2.1 93 i = some r.2.2.1 := hr 0 r rfl
      have zh : T.2.2.2.1 95 N.length = some h := hn _ _ (mt_rvL h N)
      have e5' : T.2.2.1 90 5 = some (uI (i + 1 + l.length)) := e5.trans (congrArg (fun z => some (uI z)) (by omega))
      have hr' : ∀ m q, l[m]? = some q → T.2.2.2.1 93 (i + 1 + m) = some q.2.2.1 := fun m q hq => by
        rw [show i + 1 + m = i + (m + 1) by omega]; exact hr (m + 1) q hq
      have pre : ∀ {y : Option mt_S}, (if r.2.2.1 = h then f_X6_fillNumbers_L23 f 90 (uI i + 1) T else Option.bind (mt_rR T 90 6 4) fun v13 => Option.bind (mt_rI T 90 6 6) fun v14 => Option.bind (mt_rR T 90 6 2) fun v15 => Option.bind (mt_aL T v15 (uI i)) fun v16 => Option.bind (mt_sL T v13 v14 v16) fun S17 => Option.bind (mt_rI S17 90 6 6) fun v18 => Option.bind (mt_wI S17 90 6 6 (v18 + 1)) fun S19 => f_X6_fillNumbers_L23 f 90 (uI i + 1) S19) = y → f_X6_fillNumbers_L23 (f + 1) 90 (uI i) T = y := fun q =>
        fw_b (T_rI hs (by decide) rfl e5) (fw_f (by rw [uI_le (by omega) (by omega)]; omega) (fw_b (T_rI hs (by decide) rfl e6) (fw_f (by rw [show (160 : Int32) = uI 160 from rfl, uI_le (by decide) (by omega)]; omega) (fw_b (T_rR hs (by decide) rfl rfl) (fw_b (T_aL hs (by decide) rfl (n := 160) (by omega) (by decide) z) (fw_b (T_rR hs (by decide) rfl rfl) (fw_b (T_rI hs (by decide) rfl e6) (fw_b (v := h) (by rw [uI_p]; exact T_aL hs (by decide) rfl (n := 160) (by omega) (by decide) zh) q))))))))
      have eN : mt_fn (r :: l) (h :: N) = if r.2.2.1 = h then mt_fn l (h :: N) else mt_fn l (r.2.2.1 :: h :: N) := rfl
      rw [eN]
      by_cases c : r.2.2.1 = h
      · rw [if_pos c]
        obtain ⟨T', a1, a2⟩ := ih (i + 1) f (h :: N) T hs (by omega) e5' (by omega) hr' (by omega) (by rw [List.length_cons]; omega) (by rw [List.length_cons]; omega) e6 hn
        exact ⟨T', pre (fw_t c (by rw [uI_s]; exact a1)), a2⟩
      · rw [if_neg c]
        have f1 := ((mt_fr.refl mt_Dk T).L 95 (N.length + 1) r.2.2.1 rfl).I 90 6 (uI (N.length + 1 + 1)) rfl
        have hs1 := f1.st hs
        obtain ⟨T', a1, a2, a3, a4⟩ := ih (i + 1) f (r.2.2.1 :: h :: N) (mt_pI (mt_pL T 95 (N.length + 1) r.2.2.1) 90 6 (uI (N.length + 1 + 1))) hs1 (by omega) ((f1.2 90 5 rfl).1.trans e5') (by omega) (fun m q hq => (f1.2 93 _ rfl).2.trans (hr' m q hq)) (by omega) (by rw [List.length_cons]; omega) (by rw [List.length_cons, List.length_cons]; omega) mt_I_eq (fun m v hv => by
          rw [List.reverse_cons] at hv
          by_cases hm : m < (h :: N).reverse.length
          · rw [List.getElem?_append_left hm] at hv
            rw [List.length_reverse, List.length_cons] at hm
            exact (mt_L_ne (Or.inr (by omega))).trans (hn m v hv)
          · rw [List.getElem?_append_right (by omega)] at hv
            rw [List.length_reverse, List.length_cons] at hm hv
            have hv' := mt_lt_of hv
            have hm2 : m = N.length + 1 := by
              have : ([r.2.2.1] : List Int64).length = 1 := rfl
              omega
            subst hm2
            rw [Nat.sub_self] at hv
            cases hv
            exact mt_L_eq)
        refine ⟨T', pre (fw_f c (fw_b (T_rR hs (by decide) rfl rfl) (fw_b (T_rI hs (by decide) rfl e6) (fw_b (T_rR hs (by decide) rfl rfl) (fw_b (T_aL hs (by decide) rfl (n := 160) (by omega) (by decide) z) (fw_b (T_sL hs _ (by decide) rfl (n := 160) (by omega) (by decide)) (fw_b (T_rI (T := mt_pL T 95 (N.length + 1) r.2.2.1) hs (by decide) rfl e6) ?_))))))), a2, a3, f1.trans a4⟩
        rw [uI_s, uI_s]
        exact fw_b (T_wI (T := mt_pL T 95 (N.length + 1) r.2.2.1) hs _ (by decide) rfl) a1
