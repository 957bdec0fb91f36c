/-! a mark is put -/
/-- y among the front (the last one first) and the back -/
def mt_ins (y : mt_P) : List mt_P → List mt_P → List mt_P
  | [], B => y :: B
  | h :: A, B => if mt_num h ≤ mt_num y then (h :: A).reverse ++ y :: B else mt_ins y A (h :: B)
theorem mt_rvL {α : Type} (h : α) (A : List α) : (h :: A).reverse[A.length]? = some h := by
  rw [List.reverse_cons, List.getElem?_append_right (by rw [List.length_reverse]; exact Nat.le_refl _), List.length_reverse, Nat.sub_self]; rfl
theorem mt_rvS {α : Type} {h z : α} {A : List α} {m : Nat} (q : A.reverse[m]? = some z) : (h :: A).reverse[m]? = some z := by
  rw [List.reverse_cons, List.getElem?_append_left (mt_lt_of q)]; exact q
theorem mt_sor_app : ∀ (P Q : List mt_P), mt_sor (P ++ Q) ↔ mt_sor P ∧ mt_sor Q ∧ ∀ p ∈ P, ∀ q ∈ Q, mt_num p ≤ mt_num q := by
  intro P
  induction P with
  | nil =>
    intro Q
    exact ⟨fun h => ⟨trivial, h, fun p hp => by cases hp⟩, fun h => h.2.1⟩
  | cons x P ih =>
    intro Q
    constructor
    · intro h
      obtain ⟨h1, h2⟩ := h
      obtain ⟨a, b, c⟩ := (ih Q).mp h2
      refine ⟨⟨fun y hy => h1 y (List.mem_append_left _ hy), a⟩, b, fun p hp q hq => ?_⟩
      rcases List.mem_cons.mp hp with rfl | hp
      · exact h1 q (List.mem_append_right _ hq)
      · exact c p hp q hq
    · intro h
      obtain ⟨⟨h1, h2⟩, h3, h4⟩ := h
      refine ⟨fun y hy => ?_, (ih Q).mpr ⟨h2, h3, fun p hp => h4 p (List.mem_cons_of_mem _ hp)⟩⟩
      rcases List.mem_append.mp hy with hy | hy
      · exact h1 y hy
      · exact h4 x List.mem_cons_self y hy
theorem mt_le_t {a b c : Int64} (h1 : a ≤ b) (h2 : b ≤ c) : a ≤ c := by
  rw [Int64.le_iff_toInt_le] at *; omega
theorem mt_le_n {a b : Int64} (h1 : ¬ a ≤ b) : b ≤ a := by
  rw [Int64.le_iff_toInt_le] at *; omega
theorem mt_ins_l (y : mt_P) : ∀ (A B : List mt_P), (mt_ins y A B).length = A.length + B.length + 1 := by
  intro A
  induction A with
  | nil => intro B; show B.length + 1 = 0 + B.length + 1; omega
  | cons h A ih =>
    intro B
    show (if mt_num h ≤ mt_num y then (h :: A).reverse ++ y :: B else mt_ins y A (h :: B)).length = _
    by_cases q : mt_num h ≤ mt_num y
    · rw [if_pos q, List.length_append, List.length_reverse, List.length_cons, List.length_cons]; omega
    · rw [if_neg q, ih, List.length_cons, List.length_cons]; omega
theorem mt_ins_m (y : mt_P) : ∀ (A B : List mt_P) (z : mt_P), z ∈ mt_ins y A B → z = y ∨ z ∈ A ∨ z ∈ B := by
  intro A
  induction A with
  | nil =>
    intro B z h
    rcases List.mem_cons.mp h with h | h
    · exact Or.inl h
    · exact Or.inr (Or.inr h)
  | cons a A ih =>
    intro B z h
    have h : z ∈ (if mt_num a ≤ mt_num y then (a :: A).reverse ++ y :: B else mt_ins y A (a :: B)) := h
    by_cases q : mt_num a ≤ mt_num y
    · rw [if_pos q] at h
      rcases List.mem_append.mp h with h | h
      · exact Or.inr (Or.inl (List.mem_reverse.mp h))
      · rcases List.mem_cons.mp h with h | h
        · exact Or.inl h
        · exact Or.inr (Or.inr h)
    · rw [if_neg q] at h
      rcases ih _ z h with h | h | h
      · exact Or.inl h
      · exact Or.inr (Or.inl (List.mem_cons_of_mem _ h))
      · rcases List.mem_cons.mp h with h | h
        · exact Or.inr (Or.inl (by rw [h]; exact List.mem_cons_self))
        · exact Or.inr (Or.inr h)
theorem mt_ins_s (y : mt_P) : ∀ (A B : List mt_P), mt_sor (A.reverse ++ B) → (∀ z ∈ B, mt_num y ≤ mt_num z) → mt_sor (mt_ins y A B) := by
  intro A
  induction A with
  | nil => intro B h1 h2; exact ⟨h2, h1⟩
  | cons a A ih =>
    intro B h1 h2
    show mt_sor (if mt_num a ≤ mt_num y then (a :: A).reverse ++ y :: B else mt_ins y A (a :: B))
    by_cases q : mt_num a ≤ mt_num y
    · rw [if_pos q]
      obtain ⟨s1, s2, s3⟩ := (mt_sor_app _ _).mp h1
      refine (mt_sor_app _ _).mpr ⟨s1, ⟨h2, s2⟩, fun p hp z hz => ?_⟩
      have hpy : mt_num p ≤ mt_num y := by
        rw [List.reverse_cons] at s1
        rcases List.mem_cons.mp (List.mem_reverse.mp hp) with rfl | hp2
        · exact q
        · exact mt_le_t (((mt_sor_app _ _).mp s1).2.2 p (List.mem_reverse.mpr hp2) a List.mem_cons_self) q
      rcases List.mem_cons.mp hz with rfl | hz
      · exact hpy
      · exact mt_le_t hpy (h2 z hz)
    · rw [if_neg q]
      refine ih _ ?_ (fun z hz => ?_)
      · rw [List.reverse_cons, List.append_assoc] at h1; exact h1
      · rcases List.mem_cons.mp hz with rfl | hz
        · exact mt_le_n q
        · exact h2 z hz
def mt_Dp (k j : Nat) : Bool := (decide (k = 11) && decide (j = 3)) || decide (k = 12) || decide (k = 13) || decide (k = 14)
/-- the end of put -/
theorem mt_putE {T : mt_S} (hs : mt_st T) {y : mt_P} {a n : Nat} (ha : a < 16) (e : T.2.2.1 11 3 = some (uI n)) {A B : List mt_P} (hA : A.length = a) (hfA : ∀ m z, A[m]? = some z → mt_mk T 9 m z) (hfB : ∀ m z, B[m]? = some z → mt_mk T 9 (a + 1 + m) z) : ∃ T', (Option.bind (mt_rR T 11 3 0) fun v4 => Option.bind (mt_sL T v4 (uI a) (mt_num y)) fun S5 => Option.bind (mt_rR S5 11 3 1) fun v6 => Option.bind (mt_sI S5 v6 13 (uI a) y.1) fun S7 => Option.bind (mt_rR S7 11 3 2) fun v8 => Option.bind (mt_sI S7 v8 13 (uI a) y.2.1) fun S9 => Option.bind (mt_rI S9 11 3 3) fun v10 => Option.bind (mt_wI S9 11 3 3 (v10 + 1)) fun S11 => some S11) = some T' ∧ (∀ m z, (A ++ y :: B)[m]? = some z → mt_mk T' 9 m z) ∧ T'.2.2.1 11 3 = some (uI (n + 1)) ∧ mt_fr mt_Dp T T' := by
  have f3 := (((mt_fr.refl (fun k j => mt_DR 9 k && decide (j = a)) T).L 12 a (mt_num y) (by simp [mt_DR])).I 13 a y.1 (by simp [mt_DR])).I 14 a y.2.1 (by simp [mt_DR])
  have f4 := (mt_fr.refl (fun k j => decide (k = 11) && decide (j = 3)) (mt_pI (mt_pI (mt_pL T 12 a (mt_num y)) 13 a y.1) 14 a y.2.1)).I 11 3 (uI (n + 1)) rfl
  have e3 : (mt_pI (mt_pI (mt_pL T 12 a (mt_num y)) 13 a y.1) 14 a y.2.1).2.2.1 11 3 = some (uI n) := (f3.2 11 3 (by simp [mt_DR])).1.trans e
  refine ⟨_, ?_, fun m z hz => ?_, mt_I_eq, (f3.mono (fun k j q => ?_)).trans (f4.mono (fun k j q => ?_))⟩
  · refine fw_b (T_rR hs (by decide) rfl rfl) (fw_b (T_sL hs _ (by decide) rfl (n := 16) ha (by decide)) (fw_b (T_rR (T := mt_pL T 12 a (mt_num y)) hs (by decide) rfl rfl) (fw_b (T_sI (T := mt_pL T 12 a (mt_num y)) hs _ (by decide) rfl (n := 16) ha (by decide)) (fw_b (T_rR (T := mt_pI (mt_pL T 12 a (mt_num y)) 13 a y.1) hs (by decide) rfl rfl) (fw_b (T_sI (T := mt_pI (mt_pL T 12 a (mt_num y)) 13 a y.1) hs _ (by decide) rfl (n := 16) ha (by decide)) (fw_b (T_rI (T := mt_pI (mt_pI (mt_pL T 12 a (mt_num y)) 13 a y.1) 14 a y.2.1) hs (by decide) rfl e3) ?_))))))
    rw [uI_s]
    exact fw_b (T_wI (T := mt_pI (mt_pI (mt_pL T 12 a (mt_num y)) 13 a y.1) 14 a y.2.1) hs _ (by decide) rfl) rfl
  · refine mt_mk_f f4 (by simp) (by simp) (by simp) ?_
    by_cases h1 : m < a
    · rw [List.getElem?_append_left (by omega)] at hz
      exact mt_mk_f f3 (by simp; omega) (by simp; omega) (by simp; omega) (hfA m z hz)
    · rw [List.getElem?_append_right (by omega), hA] at hz
      by_cases h2 : m = a
      · subst h2
        rw [Nat.sub_self, List.getElem?_cons_zero] at hz
        cases hz
        exact ⟨mt_L_eq, (mt_I_ne (Or.inl (by decide))).trans mt_I_eq, mt_I_eq⟩
      · obtain ⟨d, rfl⟩ : ∃ d, m = a + 1 + d := ⟨m - a - 1, by omega⟩
        rw [show a + 1 + d - a = d + 1 by omega, List.getElem?_cons_succ] at hz
        exact mt_mk_f f3 (by simp; omega) (by simp; omega) (by simp; omega) (hfB d z hz)
  · unfold mt_Dp at q
    simp only [Bool.or_eq_false_iff, Bool.and_eq_false_iff, decide_eq_false_iff_not, mt_DR] at q ⊢; omega
  · unfold mt_Dp at q
    simp only [Bool.or_eq_false_iff, Bool.and_eq_false_iff, decide_eq_false_iff_not] at q ⊢; omega
theorem mt_putL (y : mt_P) : ∀ (A B : List mt_P) (f : Nat) (T : mt_S), mt_st T → A.length < f → A.length + B.length < 16 → T.2.2.1 11 3 = some (uI (A.length + B.length)) → (∀ m z, A.reverse[m]? = some z → mt_mk T 9 m z) → (∀ m z, B[m]? = some z → mt_mk T 9 (A.length + 1 + m) z) → ∃ T', f_X3_put_L14 f 11 (mt_num y) y.1 y.2.1 (uI A.length) T = some T' ∧ (∀ m z, (mt_ins y A B)[m]? = some z → mt_mk T' 9 m z) ∧ T'.2.2.1 11 3 = some (uI (A.length + B.length + 1)) ∧ mt_fr mt_Dp T T' := by
  intro A
  induction A with
  | nil =>
    intro B f T hs hf h16 e hA hB
    obtain ⟨f, rfl⟩ : ∃ g, f = g + 1 := ⟨f - 1, by omega⟩
    obtain ⟨T', a1, a2, a3, a4⟩ := mt_putE hs (y := y) (a := 0) (by decide) e (A := []) rfl (fun m z h => by cases h) hB
    refine ⟨T', ?_, a2, a3, a4⟩
    show f_X3_put_L14s (f_X3_put_L14 f) 11 (mt_num y) y.1 y.2.1 (uI 0) T = some T'
    exact fw_t (by decide) a1
  | cons h A ih =>
    intro B f T hs hf h16 e hA hB
    obtain ⟨f, rfl⟩ : ∃ g, f = g + 1 := ⟨f - 1, by omega⟩
    rw [List.length_cons] at hf h16 e
    have hh : mt_mk T 9 A.length h := hA _ _ (mt_rvL h A)
    have pre : ∀ {z : Option mt_S}, (if mt_num h ≤ mt_num y then (Option.bind (mt_rR T 11 3 0) fun v14 => Option.bind (mt_sL T v14 (uI (A.length + 1)) (mt_num y)) fun S15 => Option.bind (mt_rR S15 11 3 1) fun v16 => Option.bind (mt_sI S15 v16 13 (uI (A.length + 1)) y.1) fun S17 => Option.bind (mt_rR S17 11 3 2) fun v18 => Option.bind (mt_sI S17 v18 13 (uI (A.length + 1)) y.2.1) fun S19 => Option.bind (mt_rI S19 11 3 3) fun v20 => Option.bind (mt_wI S19 11 3 3 (v20 + 1)) fun S21 => some S21) else Option.bind (f_X3_copyRow 11 11 (uI (A.length + 1) - 1) (uI (A.length + 1)) T) fun S22 => f_X3_put_L14 f 11 (mt_num y) y.1 y.2.1 (uI (A.length + 1) + (-1)) S22) = z → f_X3_put_L14 (f + 1) 11 (mt_num y) y.1 y.2.1 (uI (h :: A).length) T = z := fun q => by
      refine fw_f (by rw [show (0 : Int32) = uI 0 from rfl, List.length_cons, uI_le (by omega) (by decide)]; omega) (fw_b (T_rR hs (by decide) rfl rfl) ?_)
      rw [List.length_cons]
      exact fw_b (v := mt_num h) (by rw [uI_p]; exact T_aL hs (by decide) rfl (n := 16) (by omega) (by decide) hh.1) q
    by_cases q : mt_num h ≤ mt_num y
    · obtain ⟨T', a1, a2, a3, a4⟩ := mt_putE hs (y := y) (a := A.length + 1) (by omega) e (A := (h :: A).reverse) (by rw [List.length_reverse, List.length_cons]) hA hB
      refine ⟨T', pre (fw_t q a1), ?_, a3, a4⟩
      show ∀ m z, (if mt_num h ≤ mt_num y then (h :: A).reverse ++ y :: B else mt_ins y A (h :: B))[m]? = some z → mt_mk T' 9 m z
      rw [if_pos q]; exact a2
    · obtain ⟨T1, c1, c2, c3⟩ := mt_cR hs (a := 9) (b := 9) (mt_B_of (by decide)) (mt_B_of (by decide)) (m1 := A.length) (m2 := A.length + 1) (by omega) (by omega) hh (fun _ => by omega)
      have hs1 := c3.st hs
      obtain ⟨T2, d1, d2, d3, d4⟩ := ih (h :: B) f T1 hs1 (by omega) (by rw [List.length_cons]; omega) (by
          rw [(c3.2 11 3 (by simp [mt_DR])).1, List.length_cons, e]; exact congrArg (fun z => some (uI z)) (by omega)) (fun m z hz => by
          have hm : m < A.length := by have := mt_lt_of hz; rwa [List.length_reverse] at this
          exact mt_mk_f c3 (by simp; omega) (by simp; omega) (by simp; omega) (hA m z (mt_rvS hz))) (fun m z hz => by
          cases m with
          | zero =>
            rw [List.getElem?_cons_zero] at hz
            cases hz
            exact c2
          | succ m =>
            rw [List.getElem?_cons_succ] at hz
            have := hB m z hz
            rw [List.length_cons] at this
            rw [show A.length + 1 + (m + 1) = A.length + 1 + 1 + m by omega]
            exact mt_mk_f c3 (by simp; omega) (by simp; omega) (by simp; omega) this)
      refine ⟨T2, pre (fw_f q (fw_b (v := T1) ?_ ?_)), ?_, ?_, (c3.mono (fun k j q => ?_)).trans d4⟩
      · rw [uI_p]; exact c1
      · rw [uI_m]; exact d1
      · show ∀ m z, (if mt_num h ≤ mt_num y then (h :: A).reverse ++ y :: B else mt_ins y A (h :: B))[m]? = some z → mt_mk T2 9 m z
        rw [if_neg q]; exact d2
      · rw [d3, List.length_cons, List.length_cons]; exact congrArg (fun z => some (uI z)) (by omega)
      · unfold mt_Dp at q
        simp only [Bool.or_eq_false_iff, Bool.and_eq_false_iff, decide_eq_false_iff_not, mt_DR] at q ⊢; omega
/-- put -/
theorem mt_put {T : mt_S} (hs : mt_st T) {x y : mt_P} {l : List mt_P} (h16 : l.length < 16) (hB : mt_blk T 9 (x, l)) : ∃ T', f_X3_put 11 (mt_num y) y.1 y.2.1 T = some T' ∧ mt_blk T' 9 (x, mt_ins y l.reverse []) ∧ mt_fr mt_Dp T T' := by
  have e : T.2.2.1 11 3 = some (uI l.length) := hB.2.1
  have hl : l.reverse.length = l.length := List.length_reverse
  obtain ⟨T', a1, a2, a3, a4⟩ := mt_putL y l.reverse [] 1000 T hs (by omega) (by rw [hl]; exact h16) (by rw [hl]; exact e) (fun m z hz => by rw [List.reverse_reverse] at hz; exact hB.2.2 m z hz) (fun m z hz => by cases hz)
  rw [hl] at a1 a3
  refine ⟨T', ?_, ⟨fun j v hj => (a4.2 10 j rfl).1.trans (hB.1 j v hj), ?_, a2⟩, a4⟩
  · refine fw_t (T_K hs (by decide) rfl) (fw_b2 (v := 0) (S1 := T) (fw_t (T_K hs (by decide) rfl) (fw_b (T_rI hs (by decide) rfl e) (fw_t (by rw [show (16 : Int32) = uI 16 from rfl, uI_lt (by omega) (by decide)]; exact h16) rfl))) (fw_t rfl (fw_b (T_rI hs (by decide) rfl e) a1)))
  · show T'.2.2.1 11 3 = some (uI (mt_ins y l.reverse []).length)
    rw [mt_ins_l, a3, hl]
