/-! where a mark stands -/
def mt_ix (x : mt_P) : Nat → List mt_P → Int32
  | _, [] => -1
  | i, y :: l => if y.1 = x.1 ∧ y.2.1 = x.2.1 then uI i else mt_ix x (i + 1) l
theorem mt_ix_c {x : mt_P} : ∀ (l : List mt_P) (i : Nat), mt_ix x i l = -1 ∨ ∃ m, m < l.length ∧ mt_ix x i l = uI (i + m) := by
  intro l
  induction l with
  | nil => intro i; exact Or.inl rfl
  | cons y l ih =>
    intro i
    show (if y.1 = x.1 ∧ y.2.1 = x.2.1 then uI i else mt_ix x (i + 1) l) = -1 ∨ ∃ m, m < l.length + 1 ∧ (if y.1 = x.1 ∧ y.2.1 = x.2.1 then uI i else mt_ix x (i + 1) l) = uI (i + m)
    by_cases h : y.1 = x.1 ∧ y.2.1 = x.2.1
    · rw [if_pos h]; exact Or.inr ⟨0, by omega, rfl⟩
    · rw [if_neg h]
      rcases ih (i + 1) with q | ⟨m, hm, q⟩
      · exact Or.inl q
      · exact Or.inr ⟨m + 1, by omega, by rw [q]; exact congrArg uI (by omega)⟩
theorem uI_n1 {j : Nat} (h : j < 2147483648) : ¬ uI j = -1 := by
  intro q
  have := uI_nn h
  rw [q] at this
  exact this (by decide)
/-- the program finds it -/
theorem mt_ixC {T : mt_S} (hs : mt_st T) {c : mt_C} (hl : c.2.length ≤ 16) (hB : mt_blk T 9 c) (x : mt_P) : ∀ (r : List mt_P) (i f : Nat), i + r.length = c.2.length → (∀ (m : Nat) (y : mt_P), r[m]? = some y → c.2[i + m]? = some y) → r.length < f → f_X3_indexOf_L2 f 11 x.1 x.2.1 (uI i) T = some (mt_ix x i r, T) := by
  intro r
  induction r with
  | nil =>
    intro i f hi _ hf
    obtain ⟨f, rfl⟩ : ∃ g, f = g + 1 := ⟨f - 1, by omega⟩
    have hi : i = c.2.length := hi
    exact fw_b (T_rI hs (by decide) rfl hB.2.1) (fw_t (by rw [uI_le (by omega) (by omega)]; omega) rfl)
  | cons y r ih =>
    intro i f hi hr hf
    obtain ⟨f, rfl⟩ : ∃ g, f = g + 1 := ⟨f - 1, by omega⟩
    rw [List.length_cons] at hi hf
    obtain ⟨-, z1, z2⟩ := hB.2.2 i y (hr 0 y rfl)
    have nx : f_X3_indexOf_L2 f 11 x.1 x.2.1 (uI i + 1) T = some (mt_ix x (i + 1) r, T) := by
      rw [uI_s]
      exact ih (i + 1) f (by omega) (fun m v hm => by rw [show i + 1 + m = i + (m + 1) by omega]; exact hr (m + 1) v hm) (by omega)
    refine fw_b (T_rI hs (by decide) rfl hB.2.1) (fw_f (by rw [uI_le (by omega) (by omega)]; omega) (fw_b (T_rR hs (by decide) rfl rfl) (fw_b (T_aI hs (by decide) rfl (n := 16) (by omega) (by decide) z1) ?_)))
    show _ = some (if y.1 = x.1 ∧ y.2.1 = x.2.1 then uI i else mt_ix x (i + 1) r, T)
    by_cases q1 : y.1 = x.1
    · refine fw_t q1 (fw_b (T_rR hs (by decide) rfl rfl) (fw_b (T_aI hs (by decide) rfl (n := 16) (by omega) (by decide) z2) ?_))
      by_cases q2 : y.2.1 = x.2.1
      · exact fw_t q2 (by rw [if_pos ⟨q1, q2⟩])
      · exact fw_f q2 (by rw [if_neg (fun z => q2 z.2)]; exact nx)
    · exact fw_f q1 (by rw [if_neg (fun z => q1 z.1)]; exact nx)
theorem mt_idx {T : mt_S} (hs : mt_st T) {c : mt_C} (hl : c.2.length ≤ 16) (hB : mt_blk T 9 c) (x : mt_P) : f_X3_indexOf 11 x.1 x.2.1 T = some (mt_ix x 0 c.2, T) :=
  fw_t (T_K hs (by decide) rfl) (mt_ixC hs hl hB x c.2 0 1000 (Nat.zero_add _) (fun m y h => by rw [Nat.zero_add]; exact h) (by omega))
/-- the reference finds it -/
theorem mt_ixM {T : mt_S} (hs : mt_st T) {c : mt_C} (hl : c.2.length ≤ 16) (hR : mt_row T 98 0 c) : ∀ (r : List mt_P) (i f : Nat), i + r.length = c.2.length → (∀ (m : Nat) (y : mt_P), r[m]? = some y → c.2[i + m]? = some y) → r.length < f → f_X11_markHere_L2 f 96 (uI i) T = some (mt_ix c.1 i r, T) := by
  intro r
  induction r with
  | nil =>
    intro i f hi _ hf
    obtain ⟨f, rfl⟩ : ∃ g, f = g + 1 := ⟨f - 1, by omega⟩
    have hi : i = c.2.length := hi
    exact fw_b (T_rR hs (by decide) rfl rfl) (fw_b (T_aI hs (j := 2) (by decide) rfl (n := 35) (by decide) (by decide) hR.2.2.1) (fw_t (by rw [uI_le (by omega) (by omega)]; omega) rfl))
  | cons y r ih =>
    intro i f hi hr hf
    obtain ⟨f, rfl⟩ : ∃ g, f = g + 1 := ⟨f - 1, by omega⟩
    rw [List.length_cons] at hi hf
    obtain ⟨k1, k2⟩ := mt_mkP hs hl hR (hr 0 y rfl)
    have nx : f_X11_markHere_L2 f 96 (uI i + 1) T = some (mt_ix c.1 (i + 1) r, T) := by
      rw [uI_s]
      exact ih (i + 1) f (by omega) (fun m v hm => by rw [show i + 1 + m = i + (m + 1) by omega]; exact hr (m + 1) v hm) (by omega)
    refine fw_b (T_rR hs (by decide) rfl rfl) (fw_b (T_aI hs (j := 2) (by decide) rfl (n := 35) (by decide) (by decide) hR.2.2.1) (fw_f (by rw [uI_le (by omega) (by omega)]; omega) (fw_b2 k1 (fw_b (T_rR hs (by decide) rfl rfl) (fw_b (T_aI hs (j := 0) (by decide) rfl (n := 35) (by decide) (by decide) hR.1) ?_)))))
    show _ = some (if y.1 = c.1.1 ∧ y.2.1 = c.1.2.1 then uI i else mt_ix c.1 (i + 1) r, T)
    by_cases q1 : y.1 = c.1.1
    · refine fw_t q1 (fw_b2 k2 (fw_b (T_rR hs (by decide) rfl rfl) (fw_b (T_aI hs (j := 1) (by decide) rfl (n := 35) (by decide) (by decide) hR.2.1) ?_)))
      by_cases q2 : y.2.1 = c.1.2.1
      · exact fw_t q2 (by rw [if_pos ⟨q1, q2⟩])
      · exact fw_f q2 (by rw [if_neg (fun z => q2 z.2)]; exact nx)
    · exact fw_f q1 (by rw [if_neg (fun z => q1 z.1)]; exact nx)
theorem mt_hereM {T : mt_S} (hs : mt_st T) {c : mt_C} (hl : c.2.length ≤ 16) (hR : mt_row T 98 0 c) : f_X11_markHere 96 T = some (mt_ix c.1 0 c.2, T) :=
  fw_t (T_K hs (by decide) rfl) (mt_ixM hs hl hR c.2 0 1000 (Nat.zero_add _) (fun m y h => by rw [Nat.zero_add]; exact h) (by omega))
theorem mt_isMk {T : mt_S} (hs : mt_st T) {c : mt_C} (hg : mt_gC c) (hB : mt_blk T 9 c) : f_X5_isMarked 9 T = some (if mt_ix c.1 0 c.2 = -1 then 0 else 1, T) := by
  refine fw_t (T_K hs (by decide) rfl) (fw_b (T_rR hs (by decide) rfl rfl) (fw_b (T_rR hs (by decide) rfl rfl) (fw_b2 (mt_p9 hs hg.1 hB) (fw_b (T_rR hs (by decide) rfl rfl) (fw_b2 (mt_q9 hs hg.1 hB) (fw_b2 (mt_idx hs hg.2.2.1 hB c.1) ?_))))))
  by_cases q : mt_ix c.1 0 c.2 = -1
  · rw [if_pos q, if_pos q]
  · rw [if_neg q, if_neg q]
