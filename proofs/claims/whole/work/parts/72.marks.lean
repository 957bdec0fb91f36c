/-! the reference puts a mark -/
def mt_m8 (T : mt_S) (m : Nat) (z : mt_P) : Prop := T.2.2.1 98 (3 + 2 * m) = some z.1 ∧ T.2.2.1 98 (4 + 2 * m) = some z.2.1
theorem mt_m8_f {D : Nat → Nat → Bool} {T T' : mt_S} {m : Nat} {z : mt_P} (hf : mt_fr D T T') (h3 : D 98 (3 + 2 * m) = false) (h4 : D 98 (4 + 2 * m) = false) (h : mt_m8 T m z) : mt_m8 T' m z := ⟨(hf.2 _ _ h3).1.trans h.1, (hf.2 _ _ h4).1.trans h.2⟩
theorem mt_m8P {T : mt_S} (hs : mt_st T) {m : Nat} {y : mt_P} (hm : m < 16) (h : mt_m8 T m y) : f_X11_markP 96 (uI m) T = some (y.1, T) ∧ f_X11_markQ 96 (uI m) T = some (y.2.1, T) := by
  obtain ⟨z1, z2⟩ := h
  rw [show 4 + 2 * m = 3 + 2 * m + 1 by omega] at z2
  constructor
  · refine fw_t (T_K hs (by decide) rfl) (fw_b (T_rR hs (by decide) rfl rfl) ?_)
    rw [uI_2]
    exact fw_b (T_aI hs (by decide) rfl (n := 35) (by omega) (by decide) z1) rfl
  · refine fw_t (T_K hs (by decide) rfl) (fw_b (T_rR hs (by decide) rfl rfl) ?_)
    rw [uI_2, uI_s]
    exact fw_b (T_aI hs (by decide) rfl (n := 35) (by omega) (by decide) z2) rfl
theorem mt_m8N {T : mt_S} (hs : mt_st T) {m : Nat} {y : mt_P} (hm : m < 16) (hy : y ∈ mt_PL) (h : mt_m8 T m y) : ∃ T', f_X11_markNumber 96 (uI m) T = some (mt_num y, T') ∧ mt_fr mt_Dn T T' := by
  obtain ⟨k1, k2⟩ := mt_m8P hs hm h
  obtain ⟨T', a, f⟩ := mt_numM hs hy
  exact ⟨T', fw_t (T_K hs (by decide) rfl) (fw_b2 k1 (fw_b2 k2 (fw_b2 a rfl))), f⟩
def mt_Dq (k j : Nat) : Bool := mt_Dn k j || (decide (k = 98) && decide (2 ≤ j))
/-- what the row knows -/
def mt_kn (T : mt_S) : Prop := ∀ j, j < 35 → ∃ v, T.2.2.1 98 j = some v
theorem mt_kn_w {T : mt_S} {j : Nat} {v : Int32} (h : mt_kn T) : mt_kn (mt_pI T 98 j v) := by
  intro i hi
  by_cases e : i = j
  · subst e; exact ⟨v, mt_I_eq⟩
  · obtain ⟨u, hu⟩ := h i hi
    exact ⟨u, (mt_I_ne (Or.inr e)).trans hu⟩
theorem mt_kn_n {T T' : mt_S} (hf : mt_fr mt_Dn T T') (h : mt_kn T) : mt_kn T' := by
  intro i hi
  obtain ⟨u, hu⟩ := h i hi
  exact ⟨u, (hf.2 98 i (by unfold mt_Dn; simp)).1.trans hu⟩
theorem mt_mksE {T : mt_S} (hs : mt_st T) {y : mt_P} {a n : Nat} (ha : a < 16) (e0 : T.2.2.1 98 0 = some y.1) (e1 : T.2.2.1 98 1 = some y.2.1) (e : T.2.2.1 98 2 = some (uI n)) (hk : mt_kn T) {A B : List mt_P} (hA : A.length = a) (hfA : ∀ m z, A[m]? = some z → mt_m8 T m z) (hfB : ∀ m z, B[m]? = some z → mt_m8 T (a + 1 + m) z) : ∃ T', (Option.bind (mt_rR T 96 11 3) fun v5 => Option.bind (mt_rR T 96 11 3) fun v6 => Option.bind (mt_aI T v6 13 0) fun v7 => Option.bind (mt_sI T v5 13 (3 + (2 * uI a)) v7) fun S8 => Option.bind (mt_rR S8 96 11 3) fun v9 => Option.bind (mt_rR S8 96 11 3) fun v10 => Option.bind (mt_aI S8 v10 13 1) fun v11 => Option.bind (mt_sI S8 v9 13 ((3 + (2 * uI a)) + 1) v11) fun S12 => Option.bind (mt_rR S12 96 11 3) fun v13 => Option.bind (mt_aI S12 v13 13 2) fun v14 => Option.bind (mt_sI S12 v13 13 2 (v14 + 1)) fun S15 => some S15) = some T' ∧ (∀ m z, (A ++ y :: B)[m]? = some z → mt_m8 T' m z) ∧ T'.2.2.1 98 2 = some (uI (n + 1)) ∧ mt_kn T' ∧ mt_fr mt_Dq T T' := by
  have f3 := ((mt_fr.refl (fun k j => decide (k = 98) && (decide (j = 3 + 2 * a) || decide (j = 4 + 2 * a))) T).I 98 (3 + 2 * a) y.1 (by simp <;> omega)).I 98 (4 + 2 * a) y.2.1 (by simp <;> omega)
  have f4 := (mt_fr.refl (fun k j => decide (k = 98) && decide (j = 2)) (mt_pI (mt_pI T 98 (3 + 2 * a) y.1) 98 (4 + 2 * a) y.2.1)).I 98 2 (uI (n + 1)) rfl
  have g1 : (mt_pI T 98 (3 + 2 * a) y.1).2.2.1 98 1 = some y.2.1 := (mt_I_ne (Or.inr (by omega))).trans e1
  have g2 : (mt_pI (mt_pI T 98 (3 + 2 * a) y.1) 98 (4 + 2 * a) y.2.1).2.2.1 98 2 = some (uI n) := (f3.2 98 2 (by simp <;> omega)).1.trans e
  refine ⟨_, ?_, fun m z hz => ?_, mt_I_eq, mt_kn_w (mt_kn_w (mt_kn_w hk)), (f3.mono (fun k j q => ?_)).trans (f4.mono (fun k j q => ?_))⟩
  · rw [uI_2, uI_s]
    refine fw_b (T_rR hs (by decide) rfl rfl) (fw_b (T_rR hs (by decide) rfl rfl) (fw_b (T_aI hs (j := 0) (by decide) rfl (n := 35) (by decide) (by decide) e0) (fw_b (T_sI hs _ (by decide) rfl (n := 35) (by omega) (by decide)) (fw_b (T_rR (T := mt_pI T 98 (3 + 2 * a) y.1) hs (by decide) rfl rfl) (fw_b (T_rR (T := mt_pI T 98 (3 + 2 * a) y.1) hs (by decide) rfl rfl) (fw_b (T_aI (T := mt_pI T 98 (3 + 2 * a) y.1) hs (j := 1) (by decide) rfl (n := 35) (by decide) (by decide) g1) ?_))))))
    rw [show 3 + 2 * a + 1 = 4 + 2 * a by omega]
    refine fw_b (T_sI (T := mt_pI T 98 (3 + 2 * a) y.1) hs _ (by decide) rfl (n := 35) (by omega) (by decide)) (fw_b (T_rR (T := mt_pI (mt_pI T 98 (3 + 2 * a) y.1) 98 (4 + 2 * a) y.2.1) hs (by decide) rfl rfl) (fw_b (T_aI (T := mt_pI (mt_pI T 98 (3 + 2 * a) y.1) 98 (4 + 2 * a) y.2.1) hs (j := 2) (by decide) rfl (n := 35) (by decide) (by decide) g2) ?_))
    rw [uI_s]
    exact fw_b (T_sI (T := mt_pI (mt_pI T 98 (3 + 2 * a) y.1) 98 (4 + 2 * a) y.2.1) hs (j := 2) _ (by decide) rfl (n := 35) (by decide) (by decide)) rfl
  · refine mt_m8_f f4 (by simp <;> omega) (by simp <;> omega) ?_
    by_cases h1 : m < a
    · rw [List.getElem?_append_left (by omega)] at hz
      exact mt_m8_f f3 (by simp <;> omega) (by simp <;> omega) (hfA m z hz)
    · rw [List.getElem?_append_right (by omega), hA] at hz
      by_cases h2 : m = a
      · subst h2
        rw [Nat.sub_self, List.getElem?_cons_zero] at hz
        cases hz
        exact ⟨(mt_I_ne (Or.inr (by omega))).trans mt_I_eq, mt_I_eq⟩
      · obtain ⟨d, rfl⟩ : ∃ d, m = a + 1 + d := ⟨m - a - 1, by omega⟩
        rw [show a + 1 + d - a = d + 1 by omega, List.getElem?_cons_succ] at hz
        exact mt_m8_f f3 (by simp <;> omega) (by simp <;> omega) (hfB d z hz)
  · unfold mt_Dq mt_Dn at q
    simp only [Bool.or_eq_false_iff, Bool.and_eq_false_iff, decide_eq_false_iff_not] at q ⊢; omega
  · unfold mt_Dq mt_Dn at q
    simp only [Bool.or_eq_false_iff, Bool.and_eq_false_iff, decide_eq_false_iff_not] at q ⊢; omega
theorem mt_mksL (y : mt_P) : ∀ (A B : List mt_P) (f : Nat) (T : mt_S), mt_st T → (∀ z ∈ A, z ∈ mt_PL) → A.length < f → A.length + B.length < 16 → T.2.2.1 98 0 = some y.1 → T.2.2.1 98 1 = some y.2.1 → T.2.2.1 98 2 = some (uI (A.length + B.length)) → mt_kn T → (∀ m z, A.reverse[m]? = some z → mt_m8 T m z) → (∀ m z, B[m]? = some z → mt_m8 T (A.length + 1 + m) z) → ∃ T', f_X11_marks_L12 f 96 (uI A.length) (mt_num y) T = some T' ∧ (∀ m z, (mt_ins y A B)[m]? = some z → mt_m8 T' m z) ∧ T'.2.2.1 98 2 = some (uI (A.length + B.length + 1)) ∧ mt_kn T' ∧ mt_fr mt_Dq T T' := by
  intro A
  induction A with
  | nil =>
    intro B f T hs hP hf h16 e0 e1 e hk hA hB
    obtain ⟨f, rfl⟩ : ∃ g, f = g + 1 := ⟨f - 1, by omega⟩
    obtain ⟨T', a1, a2⟩ := mt_mksE hs (y := y) (a := 0) (by decide) e0 e1 e hk (A := []) rfl (fun m z h => by cases h) hB
    refine ⟨T', ?_, a2⟩
    show f_X11_marks_L12s (f_X11_marks_L12 f) 96 (uI 0) (mt_num y) T = some T'
    exact fw_t (by decide) a1
  | cons h A ih =>
    intro B f T hs hP hf h16 e0 e1 e hk hA hB
    obtain ⟨f, rfl⟩ : ∃ g, f = g + 1 := ⟨f - 1, by omega⟩
    rw [List.length_cons] at hf h16 e
    have hh : mt_m8 T A.length h := hA _ _ (mt_rvL h A)
    obtain ⟨T1, b1, b2⟩ := mt_m8N hs (by omega) (hP h List.mem_cons_self) hh
    have hs1 := b2.st hs
    have fn : ∀ {m z}, mt_m8 T m z → mt_m8 T1 m z := fun q => mt_m8_f b2 (by unfold mt_Dn; simp) (by unfold mt_Dn; simp) q
    have g0 : T1.2.2.1 98 0 = some y.1 := (b2.2 98 0 rfl).1.trans e0
    have g1 : T1.2.2.1 98 1 = some y.2.1 := (b2.2 98 1 rfl).1.trans e1
    have g2 : T1.2.2.1 98 2 = some (uI (A.length + 1 + B.length)) := (b2.2 98 2 rfl).1.trans e
    have k1 := mt_kn_n b2 hk
    have b2' : mt_fr mt_Dq T T1 := b2.mono (fun k j q => by unfold mt_Dq at q; exact (Bool.or_eq_false_iff.mp q).1)
    have pre : ∀ {z : Option mt_S}, (if mt_num h ≤ mt_num y then (Option.bind (mt_rR T1 96 11 3) fun v5 => Option.bind (mt_rR T1 96 11 3) fun v6 => Option.bind (mt_aI T1 v6 13 0) fun v7 => Option.bind (mt_sI T1 v5 13 (3 + (2 * uI (A.length + 1))) v7) fun S8 => Option.bind (mt_rR S8 96 11 3) fun v9 => Option.bind (mt_rR S8 96 11 3) fun v10 => Option.bind (mt_aI S8 v10 13 1) fun v11 => Option.bind (mt_sI S8 v9 13 ((3 + (2 * uI (A.length + 1))) + 1) v11) fun S12 => Option.bind (mt_rR S12 96 11 3) fun v13 => Option.bind (mt_aI S12 v13 13 2) fun v14 => Option.bind (mt_sI S12 v13 13 2 (v14 + 1)) fun S15 => some S15) else Option.bind (mt_rR T1 96 11 3) fun v29 => mt_b2 (f_X11_markP 96 (uI (A.length + 1) - 1) T1) fun v31 S30 => Option.bind (mt_sI S30 v29 13 (3 + (2 * uI (A.length + 1))) v31) fun S32 => Option.bind (mt_rR S32 96 11 3) fun v33 => mt_b2 (f_X11_markQ 96 (uI (A.length + 1) - 1) S32) fun v35 S34 => Option.bind (mt_sI S34 v33 13 ((3 + (2 * uI (A.length + 1))) + 1) v35) fun S36 => f_X11_marks_L12 f 96 (uI (A.length + 1) + (-1)) (mt_num y) S36) = z → f_X11_marks_L12 (f + 1) 96 (uI (h :: A).length) (mt_num y) T = z := fun q => by
      refine fw_f (by rw [show (0 : Int32) = uI 0 from rfl, List.length_cons, uI_le (by omega) (by decide)]; omega) ?_
      rw [List.length_cons]
      refine fw_b2 (v := mt_num h) (S1 := T1) ?_ q
      rw [uI_p]; exact b1
    by_cases q : mt_num h ≤ mt_num y
    · obtain ⟨T', a1, a2, a3, a4, a5⟩ := mt_mksE hs1 (y := y) (a := A.length + 1) (by omega) g0 g1 g2 k1 (A := (h :: A).reverse) (by rw [List.length_reverse, List.length_cons]) (fun m z hz => fn (hA m z hz)) (fun m z hz => fn (hB m z hz))
      refine ⟨T', pre (fw_t q a1), ?_, a3, a4, b2'.trans a5⟩
      show ∀ m z, (if mt_num h ≤ mt_num y then (h :: A).reverse ++ y :: B else mt_ins y A (h :: B))[m]? = some z → mt_m8 T' m z
      rw [if_pos q]; exact a2
    · have hs2 : mt_st (mt_pI T1 98 (3 + 2 * (A.length + 1)) h.1) := hs1
      have c3 := ((mt_fr.refl (fun k j => decide (k = 98) && (decide (j = 3 + 2 * (A.length + 1)) || decide (j = 4 + 2 * (A.length + 1)))) T1).I 98 (3 + 2 * (A.length + 1)) h.1 (by simp <;> omega)).I 98 (4 + 2 * (A.length + 1)) h.2.1 (by simp <;> omega)
      have c2 := (mt_fr.refl (fun k j => decide (k = 98) && decide (j = 3 + 2 * (A.length + 1))) T1).I 98 (3 + 2 * (A.length + 1)) h.1 (by simp <;> omega)
      obtain ⟨u1, -⟩ := mt_m8P hs1 (m := A.length) (by omega) (fn hh)
      obtain ⟨-, u2⟩ := mt_m8P hs2 (m := A.length) (by omega) (mt_m8_f c2 (by simp <;> omega) (by simp <;> omega) (fn hh))
      have hs3 := c3.st hs1
      obtain ⟨T2, d1, d2, d3, d4, d5⟩ := ih (h :: B) f _ hs3 (fun z hz => hP z (List.mem_cons_of_mem _ hz)) (by omega) (by rw [List.length_cons]; omega) ((c3.2 98 0 (by simp <;> omega)).1.trans g0) ((c3.2 98 1 (by simp <;> omega)).1.trans g1) (by
          rw [(c3.2 98 2 (by simp <;> omega)).1, List.length_cons, g2]; exact congrArg (fun z => some (uI z)) (by omega)) (mt_kn_w (mt_kn_w k1)) (fun m z hz => by
          have hm : m < A.length := by have := mt_lt_of hz; rwa [List.length_reverse] at this
          exact mt_m8_f c3 (by simp <;> omega) (by simp <;> omega) (fn (hA m z (mt_rvS hz)))) (fun m z hz => by
          cases m with
          | zero =>
            rw [List.getElem?_cons_zero] at hz
            cases hz
            exact ⟨(mt_I_ne (Or.inr (by omega))).trans mt_I_eq, mt_I_eq⟩
          | succ m =>
            rw [List.getElem?_cons_succ] at hz
            have := hB m z hz
            rw [List.length_cons] at this
            rw [show A.length + 1 + (m + 1) = A.length + 1 + 1 + m by omega]
            exact mt_m8_f c3 (by simp <;> omega) (by simp <;> omega) (fn this))
      refine ⟨T2, pre (fw_f q (fw_b (T_rR hs1 (by decide) rfl rfl) ?_)), ?_, ?_, d4, b2'.trans ((c3.mono (fun k j q => ?_)).trans d5)⟩
      · rw [uI_2, uI_s, uI_p, uI_m]
        refine fw_b2 u1 (fw_b (T_sI hs1 _ (by decide) rfl (n := 35) (by omega) (by decide)) (fw_b (T_rR hs2 (by decide) rfl rfl) (fw_b2 u2 ?_)))
        rw [show 3 + 2 * (A.length + 1) + 1 = 4 + 2 * (A.length + 1) by omega]
        exact fw_b (T_sI hs2 _ (by decide) rfl (n := 35) (by omega) (by decide)) d1
      · show ∀ m z, (if mt_num h ≤ mt_num y then (h :: A).reverse ++ y :: B else mt_ins y A (h :: B))[m]? = some z → mt_m8 T2 m z
        rw [if_neg q]; exact d2
      · rw [d3, List.length_cons, List.length_cons]; exact congrArg (fun z => some (uI z)) (by omega)
      · unfold mt_Dq mt_Dn at q
        simp only [Bool.or_eq_false_iff, Bool.and_eq_false_iff, decide_eq_false_iff_not] at q ⊢; omega
theorem mt_numR {T : mt_S} (hs : mt_st T) {x : mt_P} (hx : x ∈ mt_PL) (e0 : T.2.2.1 98 0 = some x.1) (e1 : T.2.2.1 98 1 = some x.2.1) : ∃ T', f_X11_number 96 T = some (mt_num x, T') ∧ mt_fr mt_Dn T T' := by
  obtain ⟨T', a, f⟩ := mt_numM hs hx
  exact ⟨T', fw_t (T_K hs (by decide) rfl) (fw_b (T_rR hs (by decide) rfl rfl) (fw_b (T_aI hs (j := 0) (by decide) rfl (n := 35) (by decide) (by decide) e0) (fw_b (T_rR hs (by decide) rfl rfl) (fw_b (T_aI hs (j := 1) (by decide) rfl (n := 35) (by decide) (by decide) e1) (fw_b2 a rfl))))), f⟩
theorem mt_marksM {T : mt_S} (hs : mt_st T) {x : mt_P} {l : List mt_P} (hg : mt_gC (x, l)) (h16 : l.length < 16) (hR : mt_row T 98 0 (x, l)) : ∃ T', f_X11_marks 96 T = some T' ∧ mt_row T' 98 0 (x, mt_ins x l.reverse []) ∧ mt_fr mt_Dq T T' := by
  obtain ⟨r0, r1, r2, r3, r4⟩ := hR
  have hk : mt_kn T := fun j hj => by have := r4 j hj; rwa [Nat.zero_add] at this
  obtain ⟨T1, b1, b2⟩ := mt_numR hs hg.1 r0 r1
  have hs1 := b2.st hs
  have hl : l.reverse.length = l.length := List.length_reverse
  have b2' : mt_fr mt_Dq T T1 := b2.mono (fun k j q => by unfold mt_Dq at q; exact (Bool.or_eq_false_iff.mp q).1)
  obtain ⟨T', a1, a2, a3, a4, a5⟩ := mt_mksL x l.reverse [] 1000 T1 hs1 (fun z hz => hg.2.1 z (List.mem_reverse.mp hz)) (by omega) (by rw [hl]; exact h16) ((b2.2 98 0 rfl).1.trans r0) ((b2.2 98 1 rfl).1.trans r1) (by rw [hl]; exact (b2.2 98 2 rfl).1.trans r2) (mt_kn_n b2 hk) (fun m z hz => by
      rw [List.reverse_reverse] at hz
      obtain ⟨u, v⟩ := r3 m z hz
      rw [Nat.zero_add] at u v
      exact mt_m8_f b2 (by unfold mt_Dn; simp) (by unfold mt_Dn; simp) ⟨u, v⟩) (fun m z hz => by cases hz)
  rw [hl] at a1 a3
  have f := b2'.trans a5
  refine ⟨T', ?_, ⟨(f.2 98 0 rfl).1.trans r0, (f.2 98 1 rfl).1.trans r1, ?_, fun m y hy => ?_, fun j hj => ?_⟩, f⟩
  · exact fw_t (T_K hs (by decide) rfl) (fw_b (T_rR hs (by decide) rfl rfl) (fw_b (T_aI hs (j := 2) (by decide) rfl (n := 35) (by decide) (by decide) r2) (fw_b2 b1 a1)))
  · show T'.2.2.1 98 2 = some (uI (mt_ins x l.reverse []).length)
    rw [mt_ins_l, a3, hl]
  · rw [Nat.zero_add]
    exact a2 m y hy
  · rw [Nat.zero_add]; exact a4 j hj
