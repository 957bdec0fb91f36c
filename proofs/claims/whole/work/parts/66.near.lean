/-! near -/
def mt_nF (n : Int64) : List mt_P → Int64
  | [] => -1
  | y :: l => if mt_num y < n then mt_nF n l else mt_num y
def mt_lT (n : Int64) : Int64 → List mt_P → Int64
  | b, [] => b
  | b, y :: l => if n < mt_num y then b else mt_lT n (mt_num y) l
def mt_mN (n : Int64) : Int64 → List mt_P → Int64
  | b, [] => b
  | b, y :: l => if mt_num y < n then mt_mN n b l else if b = -1 then mt_mN n (mt_num y) l else mt_mN n b l
def mt_mL (n : Int64) : Int64 → List mt_P → Int64
  | b, [] => b
  | b, y :: l => if n < mt_num y then mt_mL n b l else mt_mL n (mt_num y) l
theorem mt_num1 : mt_PL.all (fun y => decide (mt_num y ≠ -1)) = true := by decide +kernel
theorem mt_mN_b {n b : Int64} (hb : b ≠ -1) : ∀ l, mt_mN n b l = b := by
  intro l
  induction l with
  | nil => rfl
  | cons y l ih =>
    show (if mt_num y < n then mt_mN n b l else if b = -1 then mt_mN n (mt_num y) l else mt_mN n b l) = b
    rw [if_neg hb, ih, ite_self]
theorem mt_mN_e {n : Int64} : ∀ l : List mt_P, (∀ y ∈ l, y ∈ mt_PL) → mt_mN n (-1) l = mt_nF n l := by
  intro l
  induction l with
  | nil => intro _; rfl
  | cons y l ih =>
    intro h
    show (if mt_num y < n then mt_mN n (-1) l else if (-1 : Int64) = -1 then mt_mN n (mt_num y) l else mt_mN n (-1) l) = (if mt_num y < n then mt_nF n l else mt_num y)
    by_cases q : mt_num y < n
    · rw [if_pos q, if_pos q, ih (fun z hz => h z (List.mem_cons_of_mem _ hz))]
    · rw [if_neg q, if_neg q, if_pos rfl, mt_mN_b (of_decide_eq_true (List.all_eq_true.mp mt_num1 y (h y (List.mem_cons_self))))]
theorem mt_mL_b {n b : Int64} : ∀ l : List mt_P, (∀ y ∈ l, n < mt_num y) → mt_mL n b l = b := by
  intro l
  induction l with
  | nil => intro _; rfl
  | cons y l ih =>
    intro h
    show (if n < mt_num y then mt_mL n b l else mt_mL n (mt_num y) l) = b
    rw [if_pos (h y (List.mem_cons_self)), ih (fun z hz => h z (List.mem_cons_of_mem _ hz))]
theorem mt_mL_e {n : Int64} : ∀ (l : List mt_P) (b : Int64), mt_sor l → mt_mL n b l = mt_lT n b l := by
  intro l
  induction l with
  | nil => intro b _; rfl
  | cons y l ih =>
    intro b h
    show (if n < mt_num y then mt_mL n b l else mt_mL n (mt_num y) l) = (if n < mt_num y then b else mt_lT n (mt_num y) l)
    by_cases q : n < mt_num y
    · rw [if_pos q, if_pos q]
      refine mt_mL_b l (fun z hz => ?_)
      have := h.1 z hz
      rw [Int64.lt_iff_toInt_lt] at q ⊢
      rw [Int64.le_iff_toInt_le] at this
      omega
    · rw [if_neg q, if_neg q]; exact ih _ h.2
theorem mt_nFL {T : mt_S} (hs : mt_st T) {c : mt_C} (hl : c.2.length ≤ 16) (hB : mt_blk T 9 c) (n : Int64) : ∀ (r : List mt_P) (i f : Nat), i + r.length = c.2.length → (∀ (m : Nat) (y : mt_P), r[m]? = some y → c.2[i + m]? = some y) → r.length < f → f_X3_nextFrom_L2 f 11 n (uI i) T = some (mt_nF n r, T) := by
  intro r
  induction r with
  | nil =>
    intro i f hi _ hf
    obtain ⟨f, rfl⟩ : ∃ g, f = g + 1 := ⟨f - 1, by omega⟩
    have hi : i = c.2.length := hi
    exact fw_b (T_rI hs (by decide) rfl hB.2.1) (fw_t (by rw [uI_le (by omega) (by omega)]; omega) rfl)
  | cons y r ih =>
    intro i f hi hr hf
    obtain ⟨f, rfl⟩ : ∃ g, f = g + 1 := ⟨f - 1, by omega⟩
    rw [List.length_cons] at hi hf
    have z := (hB.2.2 i y (hr 0 y rfl)).1
    refine fw_b (T_rI hs (by decide) rfl hB.2.1) (fw_f (by rw [uI_le (by omega) (by omega)]; omega) (fw_b (T_rR hs (by decide) rfl rfl) (fw_b (T_aL hs (by decide) rfl (n := 16) (by omega) (by decide) z) ?_)))
    show _ = some (if mt_num y < n then mt_nF n r else mt_num y, T)
    by_cases q : mt_num y < n
    · rw [if_pos q, if_pos q, uI_s]
      exact ih (i + 1) f (by omega) (fun m v hm => by rw [show i + 1 + m = i + (m + 1) by omega]; exact hr (m + 1) v hm) (by omega)
    · rw [if_neg q, if_neg q]
      exact fw_b (T_rR hs (by decide) rfl rfl) (fw_b (T_aL hs (by decide) rfl (n := 16) (by omega) (by decide) z) rfl)
theorem mt_lTL {T : mt_S} (hs : mt_st T) {c : mt_C} (hl : c.2.length ≤ 16) (hB : mt_blk T 9 c) (n : Int64) : ∀ (r : List mt_P) (b : Int64) (i f : Nat), i + r.length = c.2.length → (∀ (m : Nat) (y : mt_P), r[m]? = some y → c.2[i + m]? = some y) → r.length < f → f_X3_lastTo_L7 f 11 n b (uI i) T = some (mt_lT n b r, T) := by
  intro r
  induction r with
  | nil =>
    intro b i f hi _ hf
    obtain ⟨f, rfl⟩ : ∃ g, f = g + 1 := ⟨f - 1, by omega⟩
    have hi : i = c.2.length := hi
    exact fw_b (T_rI hs (by decide) rfl hB.2.1) (fw_t (by rw [uI_le (by omega) (by omega)]; omega) rfl)
  | cons y r ih =>
    intro b i f hi hr hf
    obtain ⟨f, rfl⟩ : ∃ g, f = g + 1 := ⟨f - 1, by omega⟩
    rw [List.length_cons] at hi hf
    have z := (hB.2.2 i y (hr 0 y rfl)).1
    refine fw_b (T_rI hs (by decide) rfl hB.2.1) (fw_f (by rw [uI_le (by omega) (by omega)]; omega) (fw_b (T_rR hs (by decide) rfl rfl) (fw_b (T_aL hs (by decide) rfl (n := 16) (by omega) (by decide) z) ?_)))
    show _ = some (if n < mt_num y then b else mt_lT n (mt_num y) r, T)
    by_cases q : n < mt_num y
    · rw [if_pos q, if_pos q]
    · rw [if_neg q, if_neg q]
      refine fw_b (T_rR hs (by decide) rfl rfl) (fw_b (T_aL hs (by decide) rfl (n := 16) (by omega) (by decide) z) ?_)
      rw [uI_s]
      exact ih _ (i + 1) f (by omega) (fun m v hm => by rw [show i + 1 + m = i + (m + 1) by omega]; exact hr (m + 1) v hm) (by omega)
