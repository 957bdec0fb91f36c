/-! the reference's numbers -/
def mt_Dcm (k j : Nat) : Bool := (decide (k = 96) && decide (j = 24)) || decide (k = 106)
/-- the numbers stand as N -/
def mt_ns (T : mt_S) (N : List Int64) : Prop := T.2.2.1 96 24 = some (uI N.length) ∧ ∀ m v, N[m]? = some v → T.2.2.2.1 106 m = some v
/-- moving up behind P -/
theorem mt_cmE (n : Int64) (P : List Int64) : ∀ (A B : List Int64) (f : Nat) (T : mt_S), mt_st T → A.length < f → P.length + A.length + B.length < 399 → T.2.2.1 96 24 = some (uI (P.length + A.length + B.length)) → (∀ m v, (P ++ A.reverse)[m]? = some v → T.2.2.2.1 106 m = some v) → (∀ m v, B[m]? = some v → T.2.2.2.1 106 (P.length + A.length + 1 + m) = some v) → ∃ T', f_X11_comes_L53 f 96 n (uI P.length) (uI (P.length + A.length)) T = some T' ∧ mt_ns T' (P ++ n :: (A.reverse ++ B)) ∧ mt_fr mt_Dcm T T' := by
  intro A
  induction A with
  | nil =>
    intro B f T hs hf hl e hA hB
    obtain ⟨f, rfl⟩ : ∃ g, f = g + 1 := ⟨f - 1, by omega⟩
    rw [List.length_nil] at hl e
    have f1 := ((mt_fr.refl mt_Dcm T).L 106 P.length n rfl).I 96 24 (uI (P.length + 0 + B.length + 1)) rfl
    refine ⟨mt_pI (mt_pL T 106 P.length n) 96 24 (uI (P.length + 0 + B.length + 1)), ?_, ⟨?_, fun m v hv => ?_⟩, f1⟩
    · show f_X11_comes_L53s (f_X11_comes_L53 f) 96 n (uI P.length) (uI (P.length + 0)) T = _
      refine fw_t (by rw [uI_le (by omega) (by omega)]; omega) (fw_b (T_rR hs (by decide) rfl rfl) (fw_b (T_sL hs _ (by decide) rfl (n := 400) (by omega) (by decide)) (fw_b (T_rI (T := mt_pL T 106 P.length n) hs (by decide) rfl e) ?_)))
      rw [uI_s]
      exact fw_b (T_wI (T := mt_pL T 106 P.length n) hs _ (by decide) rfl) rfl
    · rw [mt_I_eq]
      refine congrArg (fun z => some (uI z)) ?_
      rw [List.length_append, List.length_cons, List.length_append, List.length_reverse, List.length_nil]; omega
    · show (mt_pL T 106 P.length n).2.2.2.1 106 m = some v
      have hv : (P ++ n :: B)[m]? = some v := hv
      by_cases h1 : m < P.length
      · rw [List.getElem?_append_left h1] at hv
        refine (mt_L_ne (Or.inr (by omega))).trans (hA m v ?_)
        rw [List.getElem?_append_left h1]; exact hv
      · rw [List.getElem?_append_right (by omega)] at hv
        by_cases h2 : m = P.length
        · subst h2
          rw [Nat.sub_self, List.getElem?_cons_zero] at hv
          cases hv
          exact mt_L_eq
        · obtain ⟨d, rfl⟩ : ∃ d, m = P.length + 1 + d := ⟨m - P.length - 1, by omega⟩
          rw [show P.length + 1 + d - P.length = d + 1 by omega, List.getElem?_cons_succ] at hv
          exact (mt_L_ne (Or.inr (by omega))).trans (hB d v hv)
  | cons h A ih =>
    intro B f T hs hf hl e hA hB
    obtain ⟨f, rfl⟩ : ∃ g, f = g + 1 := ⟨f - 1, by omega⟩
    rw [List.length_cons] at hf hl e
    have hh : T.2.2.2.1 106 (P.length + A.length) = some h := hA _ _ (by
      rw [List.getElem?_append_right (by omega), show P.length + A.length - P.length = A.length by omega]
      exact mt_rvL h A)
    have f1 := (mt_fr.refl mt_Dcm T).L 106 (P.length + A.length + 1) h rfl
    have hs1 := f1.st hs
    obtain ⟨T', a1, a2, a3⟩ := ih (h :: B) f (mt_pL T 106 (P.length + A.length + 1) h) hs1 (by omega) (by rw [List.length_cons]; omega) (by
        rw [List.length_cons]
        exact e.trans (congrArg (fun z => some (uI z)) (by omega))) (fun m v hv => by
        have hm := mt_lt_of hv
        rw [List.length_append, List.length_reverse] at hm
        refine (mt_L_ne (Or.inr (by omega))).trans (hA m v ?_)
        rw [List.reverse_cons, ← List.append_assoc, List.getElem?_append_left (by rw [List.length_append, List.length_reverse]; exact hm)]
        exact hv) (fun m v hv => by
        cases m with
        | zero =>
          rw [List.getElem?_cons_zero] at hv
          cases hv
          exact mt_L_eq
        | succ m =>
          rw [List.getElem?_cons_succ] at hv
          have := hB m v hv
          rw [List.length_cons] at this
          rw [show P.length + A.length + 1 + (m + 1) = P.length + (A.length + 1) + 1 + m by omega]
          exact (mt_L_ne (Or.inr (by omega))).trans this)
    refine ⟨T', ?_, ?_, f1.trans a3⟩
    · show f_X11_comes_L53s (f_X11_comes_L53 f) 96 n (uI P.length) (uI (P.length + A.length + 1)) T = some T'
      refine fw_f (by rw [uI_le (by omega) (by omega)]; omega) (fw_b (T_rR hs (by decide) rfl rfl) (fw_b (T_rR hs (by decide) rfl rfl) ?_))
      rw [uI_p, uI_m]
      exact fw_b (T_aL hs (by decide) rfl (n := 400) (by omega) (by decide) hh) (fw_b (T_sL hs _ (by decide) rfl (n := 400) (by omega) (by decide)) a1)
    · rw [List.reverse_cons, List.append_assoc]
      exact a2
def mt_cms (n : Int64) : List Int64 → List Int64
  | [] => [n]
  | v :: l => if n ≤ v then (if v = n then v :: l else n :: v :: l) else v :: mt_cms n l
theorem mt_cmsA (n : Int64) {T : mt_S} (hs : mt_st T) {P Q : List Int64} (h : mt_ns T (P ++ Q)) (hl : (P ++ Q).length < 399) : ∃ T', f_X11_comes_L53 1000 96 n (uI P.length) (uI (P ++ Q).length) T = some T' ∧ mt_ns T' (P ++ n :: Q) ∧ mt_fr mt_Dcm T T' := by
  rw [List.length_append] at hl
  obtain ⟨T', a1, a2, a3⟩ := mt_cmE n P Q.reverse [] 1000 T hs (by rw [List.length_reverse]; omega) (by rw [List.length_reverse, List.length_nil]; omega) (by
    rw [h.1]
    refine congrArg (fun z => some (uI z)) ?_
    rw [List.length_append, List.length_reverse, List.length_nil]; rfl) (fun m v hv => by rw [List.reverse_reverse] at hv; exact h.2 m v hv) (fun m v hv => by cases hv)
  rw [List.reverse_reverse, List.append_nil] at a2
  rw [List.length_reverse] at a1
  exact ⟨T', by rw [List.length_append]; exact a1, a2, a3⟩
theorem mt_cmsL (n : Int64) : ∀ (Q P : List Int64) (f : Nat) (T : mt_S), mt_st T → Q.length < f → (P ++ Q).length < 399 → mt_ns T (P ++ Q) → ∃ T', f_X11_comes_L2 f 96 n (uI P.length) T = some T' ∧ mt_ns T' (P ++ mt_cms n Q) ∧ mt_fr mt_Dcm T T' := by
  intro Q
  induction Q with
  | nil =>
    intro P f T hs hf hl h
    obtain ⟨f, rfl⟩ : ∃ g, f = g + 1 := ⟨f - 1, by omega⟩
    obtain ⟨T', a1, a2, a3⟩ := mt_cmsA n hs h hl
    rw [List.append_nil] at hl
    have e : T.2.2.1 96 24 = some (uI P.length) := by have := h.1; rwa [List.append_nil] at this
    rw [List.append_nil] at a1
    have c : uI P.length ≤ uI P.length := by rw [uI_le (by omega) (by omega)]; omega
    exact ⟨T', fw_b (T_rI hs (by decide) rfl e) (fw_t c (fw_b (T_rI hs (by decide) rfl e) (fw_t c (fw_b (T_rI hs (by decide) rfl e) a1)))), a2, a3⟩
  | cons v Q ih =>
    intro P f T hs hf hl h
    obtain ⟨f, rfl⟩ : ∃ g, f = g + 1 := ⟨f - 1, by omega⟩
    have hl' := hl
    rw [List.length_append, List.length_cons] at hl'
    rw [List.length_cons] at hf
    have e := h.1
    have z : T.2.2.2.1 106 P.length = some v := h.2 _ _ (by rw [List.getElem?_append_right (Nat.le_refl _), Nat.sub_self]; rfl)
    have c : ¬ uI (P ++ v :: Q).length ≤ uI P.length := by rw [uI_le (by omega) (by omega), List.length_append, List.length_cons]; omega
    have pre : ∀ {y : Option mt_S}, (if n ≤ v then Option.bind (mt_rI T 96 11 24) fun v17 => if v17 ≤ uI P.length then Option.bind (mt_rI T 96 11 24) fun v18 => f_X11_comes_L53 1000 96 n (uI P.length) v18 T else Option.bind (mt_rR T 96 11 23) fun v19 => Option.bind (mt_aL T v19 (uI P.length)) fun v20 => if v20 = n then some T else Option.bind (mt_rI T 96 11 24) fun v21 => f_X11_comes_L53 1000 96 n (uI P.length) v21 T else f_X11_comes_L2 f 96 n (uI P.length + 1) T) = y → f_X11_comes_L2 (f + 1) 96 n (uI P.length) T = y := fun q => fw_b (T_rI hs (by decide) rfl e) (fw_f c (fw_b (T_rR hs (by decide) rfl rfl) (fw_b (T_aL hs (by decide) rfl (n := 400) (by omega) (by decide) z) q)))
    have em : mt_cms n (v :: Q) = if n ≤ v then (if v = n then v :: Q else n :: v :: Q) else v :: mt_cms n Q := rfl
    rw [em]
    by_cases c1 : n ≤ v
    · rw [if_pos c1]
      by_cases c2 : v = n
      · rw [if_pos c2]
        exact ⟨T, pre (fw_t c1 (fw_b (T_rI hs (by decide) rfl e) (fw_f c (fw_b (T_rR hs (by decide) rfl rfl) (fw_b (T_aL hs (by decide) rfl (n := 400) (by omega) (by decide) z) (fw_t c2 rfl)))))), h, mt_fr.refl _ T⟩
      · rw [if_neg c2]
        obtain ⟨T', a1, a2, a3⟩ := mt_cmsA n hs h hl
        exact ⟨T', pre (fw_t c1 (fw_b (T_rI hs (by decide) rfl e) (fw_f c (fw_b (T_rR hs (by decide) rfl rfl) (fw_b (T_aL hs (by decide) rfl (n := 400) (by omega) (by decide) z) (fw_f c2 (fw_b (T_rI hs (by decide) rfl e) a1))))))), a2, a3⟩
    · rw [if_neg c1]
      obtain ⟨T', a1, a2, a3⟩ := ih (P ++ [v]) f T hs (by omega) (by rw [List.append_assoc]; exact hl) (by rw [List.append_assoc]; exact h)
      rw [List.append_assoc] at a2
      refine ⟨T', pre (fw_f c1 ?_), a2, a3⟩
      rw [uI_s]
      rw [List.length_append] at a1
      exact a1
theorem mt_cmsT (n : Int64) {T : mt_S} (hs : mt_st T) {N : List Int64} (h : mt_ns T N) (hl : N.length < 399) : ∃ T', f_X11_comes 96 n T = some T' ∧ mt_ns T' (mt_cms n N) ∧ mt_fr mt_Dcm T T' := by
  obtain ⟨T', a1, a2, a3⟩ := mt_cmsL n N [] 1000 T hs (by omega) hl h
  exact ⟨T', fw_t (T_K hs (by decide) rfl) a1, a2, a3⟩
theorem mt_cms_l (n : Int64) : ∀ N : List Int64, (mt_cms n N).length ≤ N.length + 1 := by
  intro N
  induction N with
  | nil => exact Nat.le_refl _
  | cons v N ih =>
    show (if n ≤ v then (if v = n then v :: N else n :: v :: N) else v :: mt_cms n N).length ≤ N.length + 1 + 1
    by_cases c1 : n ≤ v
    · rw [if_pos c1]
      by_cases c2 : v = n
      · rw [if_pos c2, List.length_cons]; omega
      · rw [if_neg c2, List.length_cons, List.length_cons]; omega
    · rw [if_neg c1, List.length_cons]; omega
