/-! the table is asked -/
/-- how many are n or less -/
def mt_cu (n : Int64) : List Int64 → Nat
  | [] => 0
  | v :: l => if n < v then 0 else mt_cu n l + 1
theorem mt_cu_l (n : Int64) : ∀ l, mt_cu n l ≤ l.length := by
  intro l
  induction l with
  | nil => exact Nat.le_refl _
  | cons v l ih =>
    show (if n < v then 0 else mt_cu n l + 1) ≤ l.length + 1
    by_cases c : n < v
    · rw [if_pos c]; omega
    · rw [if_neg c]; omega
theorem mt_cuC {T : mt_S} (hs : mt_st T) (h : mt_tF T) (n : Int64) : ∀ (r : List Int64) (i f : Nat), i + r.length = mt_TN.length → (∀ m v, r[m]? = some v → mt_TN[i + m]? = some v) → r.length < f → f_X6_countUpTo_L6 f 90 n (uI i) T = some (uI (i + mt_cu n r), T) := by
  obtain ⟨l1, l2⟩ := mt_TNl
  intro r
  induction r with
  | nil =>
    intro i f hi _ hf
    obtain ⟨f, rfl⟩ : ∃ g, f = g + 1 := ⟨f - 1, by omega⟩
    have hi : i = mt_TN.length := hi
    exact fw_b (T_rI hs (by decide) rfl h.2.1) (fw_t (by rw [uI_le (by omega) (by omega)]; omega) rfl)
  | cons y r ih =>
    intro i f hi hr hf
    obtain ⟨f, rfl⟩ : ∃ g, f = g + 1 := ⟨f - 1, by omega⟩
    rw [List.length_cons] at hi hf
    have z := h.2.2.2 i y (hr 0 y rfl)
    refine fw_b (T_rI hs (by decide) rfl h.2.1) (fw_f (by rw [uI_le (by omega) (by omega)]; omega) (fw_b (T_rR hs (by decide) rfl rfl) (fw_b (T_aL hs (by decide) rfl (n := 160) (by omega) (by decide) z) ?_)))
    show _ = some (uI (i + (if n < y then 0 else mt_cu n r + 1)), T)
    by_cases c : n < y
    · exact fw_t c (by rw [if_pos c]; rfl)
    · refine fw_f c ?_
      rw [if_neg c, uI_s, show i + (mt_cu n r + 1) = i + 1 + mt_cu n r by omega]
      exact ih (i + 1) f (by omega) (fun m v hm => by rw [show i + 1 + m = i + (m + 1) by omega]; exact hr (m + 1) v hm) (by omega)
theorem mt_cuF {T : mt_S} (hs : mt_st T) (h : mt_tF T) (n : Int64) : f_X6_countUpTo 90 n T = some (uI (mt_cu n mt_TN), T) := by
  obtain ⟨l1, l2⟩ := mt_TNl
  have := mt_cuC hs h n mt_TN 0 1000 (Nat.zero_add _) (fun m v q => by rw [Nat.zero_add]; exact q) (by omega)
  rw [Nat.zero_add] at this
  exact fw_t (T_K hs (by decide) rfl) (fw_b (mt_tF_fill hs h) this)
/-- the number of a rank -/
def mt_na (w : Int32) : Int64 := if w < 0 ∨ uI mt_TN.length ≤ w then -1 else mt_TN.getD w.toNatClampNeg 0
theorem mt_naF {T : mt_S} (hs : mt_st T) (h : mt_tF T) (w : Int32) : f_X6_numberAt 90 w T = some (mt_na w, T) := by
  obtain ⟨l1, l2⟩ := mt_TNl
  unfold mt_na
  refine fw_t (T_K hs (by decide) rfl) (fw_b (mt_tF_fill hs h) ?_)
  by_cases c : w < 0 ∨ uI mt_TN.length ≤ w
  · rw [if_pos c]
    by_cases c0 : w < 0
    · exact fw_t c0 rfl
    · exact fw_f c0 (fw_b (T_rI hs (by decide) rfl h.2.1) (fw_t (c.resolve_left c0) rfl))
  · rw [if_neg c]
    obtain ⟨c0, c1⟩ := not_or.mp c
    obtain ⟨m, hm, rfl⟩ := mt_inl2 (by omega) c
    have e : mt_TN[m]? = some mt_TN[m] := List.getElem?_eq_getElem hm
    have z := h.2.2.2 m _ e
    refine fw_f c0 (fw_b (T_rI hs (by decide) rfl h.2.1) (fw_f c1 (fw_b (T_rR hs (by decide) rfl rfl) (fw_b (T_aL hs (by decide) rfl (n := 160) (by omega) (by decide) z) ?_))))
    rw [uI_cl (by omega), List.getD_eq_getElem?_getD, e]; rfl
def mt_rw4 (n : Int64) : Nat → List mt_R4 → Int32
  | _, [] => -1
  | i, r :: l => if r.2.2.1 = n then uI i else mt_rw4 n (i + 1) l
def mt_cg (n : Int64) : Int32 → List mt_R4 → Int32
  | k, [] => k
  | k, r :: l => if r.2.2.1 = n then mt_cg n (k + 1) l else mt_cg n k l
theorem mt_rwC {T : mt_S} (hs : mt_st T) (h : mt_tF T) (n : Int64) : ∀ (r : List mt_R4) (i f : Nat), i + r.length = mt_TT.length → (∀ m v, r[m]? = some v → mt_TT[i + m]? = some v) → r.length < f → f_X6_rowOf_L6 f 90 n (uI i) T = some (mt_rw4 n i r, T) := by
  obtain ⟨l1, l2⟩ := mt_TTl
  intro r
  induction r with
  | nil =>
    intro i f hi _ hf
    obtain ⟨f, rfl⟩ : ∃ g, f = g + 1 := ⟨f - 1, by omega⟩
    have hi : i = mt_TT.length := hi
    exact fw_b (T_rI hs (by decide) rfl h.1) (fw_t (by rw [uI_le (by omega) (by omega)]; omega) rfl)
  | cons y r ih =>
    intro i f hi hr hf
    obtain ⟨f, rfl⟩ : ∃ g, f = g + 1 := ⟨f - 1, by omega⟩
    rw [List.length_cons] at hi hf
    have z := (h.2.2.1 i y (hr 0 y rfl)).2.2.1
    refine fw_b (T_rI hs (by decide) rfl h.1) (fw_f (by rw [uI_le (by omega) (by omega)]; omega) (fw_b (T_rR hs (by decide) rfl rfl) (fw_b (T_aL hs (by decide) rfl (n := 160) (by omega) (by decide) z) ?_)))
    show _ = some (if y.2.2.1 = n then uI i else mt_rw4 n (i + 1) r, T)
    by_cases c : y.2.2.1 = n
    · exact fw_t c (by rw [if_pos c])
    · refine fw_f c ?_
      rw [if_neg c, uI_s]
      exact ih (i + 1) f (by omega) (fun m v hm => by rw [show i + 1 + m = i + (m + 1) by omega]; exact hr (m + 1) v hm) (by omega)
theorem mt_rwF {T : mt_S} (hs : mt_st T) (h : mt_tF T) (n : Int64) : f_X6_rowOf 90 n T = some (mt_rw4 n 0 mt_TT, T) := by
  obtain ⟨l1, l2⟩ := mt_TTl
  exact fw_t (T_K hs (by decide) rfl) (fw_b (mt_tF_fill hs h) (mt_rwC hs h n mt_TT 0 1000 (Nat.zero_add _) (fun m v q => by rw [Nat.zero_add]; exact q) (by omega)))
theorem mt_cgC {T : mt_S} (hs : mt_st T) (h : mt_tF T) (n : Int64) : ∀ (r : List mt_R4) (k : Int32) (i f : Nat), i + r.length = mt_TT.length → (∀ m v, r[m]? = some v → mt_TT[i + m]? = some v) → r.length < f → f_X6_countGreatest_L9 f 90 n k (uI i) T = some (mt_cg n k r, T) := by
  obtain ⟨l1, l2⟩ := mt_TTl
  intro r
  induction r with
  | nil =>
    intro k i f hi _ hf
    obtain ⟨f, rfl⟩ : ∃ g, f = g + 1 := ⟨f - 1, by omega⟩
    have hi : i = mt_TT.length := hi
    exact fw_b (T_rI hs (by decide) rfl h.1) (fw_t (by rw [uI_le (by omega) (by omega)]; omega) rfl)
  | cons y r ih =>
    intro k i f hi hr hf
    obtain ⟨f, rfl⟩ : ∃ g, f = g + 1 := ⟨f - 1, by omega⟩
    rw [List.length_cons] at hi hf
    have z := (h.2.2.1 i y (hr 0 y rfl)).2.2.1
    have go : ∀ k2, f_X6_countGreatest_L9 f 90 n k2 (uI i + 1) T = some (mt_cg n k2 r, T) := fun k2 => by
      rw [uI_s]
      exact ih k2 (i + 1) f (by omega) (fun m v hm => by rw [show i + 1 + m = i + (m + 1) by omega]; exact hr (m + 1) v hm) (by omega)
    refine fw_b (T_rI hs (by decide) rfl h.1) (fw_f (by rw [uI_le (by omega) (by omega)]; omega) (fw_b (T_rR hs (by decide) rfl rfl) (fw_b (T_aL hs (by decide) rfl (n := 160) (by omega) (by decide) z) ?_)))
    show _ = some (if y.2.2.1 = n then mt_cg n (k + 1) r else mt_cg n k r, T)
    by_cases c : y.2.2.1 = n
    · exact fw_t c (by rw [if_pos c]; exact go _)
    · exact fw_f c (by rw [if_neg c]; exact go _)
theorem mt_cgF {T : mt_S} (hs : mt_st T) (h : mt_tF T) (n : Int64) : f_X6_countGreatest 90 n T = some (mt_cg n 0 mt_TT, T) := by
  obtain ⟨l1, l2⟩ := mt_TTl
  exact fw_t (T_K hs (by decide) rfl) (fw_b (mt_tF_fill hs h) (mt_cgC hs h n mt_TT 0 0 1000 (Nat.zero_add _) (fun m v q => by rw [Nat.zero_add]; exact q) (by omega)))
