/-! the start: the invariant -/
theorem mt_inv0 {S : mt_S} (q : mt_stQ S = true) : mt_Inv S := by
  obtain ⟨q, q3⟩ := (Bool.and_eq_true _ _).mp q
  obtain ⟨q1, q2⟩ := (Bool.and_eq_true _ _).mp q
  have hk := fun k (hk : k < 109) => List.all_eq_true.mp q2 k (List.mem_range.mpr hk)
  have hI : ∀ k, k < 109 → ∀ x ∈ mt_iS k, S.2.2.1 k x.1 = some x.2 := fun k h x hx => of_decide_eq_true (List.all_eq_true.mp ((Bool.and_eq_true _ _).mp (hk k h)).2 x hx)
  have hs : mt_st S := by
    refine ⟨of_decide_eq_true q1, fun k h => ?_, fun k h j v hv => ?_⟩
    · exact of_decide_eq_true ((Bool.and_eq_true _ _).mp ((Bool.and_eq_true _ _).mp ((Bool.and_eq_true _ _).mp (hk k h)).1).1).1
    · have z := hk k h
      obtain ⟨z, -⟩ := (Bool.and_eq_true _ _).mp z
      obtain ⟨z, zr⟩ := (Bool.and_eq_true _ _).mp z
      obtain ⟨-, zl⟩ := (Bool.and_eq_true _ _).mp z
      have zl := of_decide_eq_true zl
      by_cases hj : j < 39
      · have w := List.all_eq_true.mp zr j (List.mem_range.mpr hj)
        rw [hv] at w
        exact of_decide_eq_true w
      · exfalso
        unfold mt_RN at hv
        rw [List.getD_eq_getElem?_getD (l := mt_RT.getD k []), List.getElem?_eq_none (by omega)] at hv
        cases hv
  have h98 : ∀ j, j < 35 → ∃ v, S.2.2.1 98 (0 + j) = some v := fun j hj => by
    have w := List.all_eq_true.mp q3 j (List.mem_range.mpr hj)
    rw [Nat.zero_add]
    cases e : S.2.2.1 98 j with
    | none => rw [e] at w; cases w
    | some v => exact ⟨v, rfl⟩
  refine ⟨hs, ⟨((1, 1, 0, 1, 1, 0, 0), []), ⟨by decide +kernel, fun y hy => (by cases hy), by decide, trivial⟩, ⟨fun j v hj => ?_, hI 11 (by decide) (3, 0) (by decide), fun m y hm => (by cases hm)⟩, hI 98 (by decide) (0, 1) (by decide), hI 98 (by decide) (1, 1) (by decide), hI 98 (by decide) (2, 0) (by decide), fun m y hm => (by cases hm), h98⟩, ⟨0, [], by decide, by decide, hI 15 (by decide) (1, 0) (by decide), hI 15 (by decide) (2, 0) (by decide), hI 96 (by decide) (9, 0) (by decide), fun m c hm => (by cases hm)⟩, fun m hm => ?_, ⟨0, by decide, hI 1 (by decide) (1, 0) (by decide), hI 96 (by decide) (2, 0) (by decide), fun m hm => absurd hm (Nat.not_lt_zero m)⟩, ⟨0, by decide, hI 85 (by decide) (2, 0) (by decide), hI 96 (by decide) (30, 0) (by decide), fun m hm => absurd hm (Nat.not_lt_zero m)⟩, ⟨0, hI 3 (by decide) (9, 0) (by decide), hI 96 (by decide) (33, 0) (by decide)⟩, Or.inl (hI 90 (by decide) (5, 0) (by decide))⟩
  · match j, hj with
    | 0, hj => cases hj; exact hI 10 (by decide) (0, 0) (by decide)
    | 1, hj => cases hj; exact hI 10 (by decide) (1, 1) (by decide)
    | 2, hj => cases hj; exact hI 10 (by decide) (2, 1) (by decide)
    | 3, hj => cases hj; exact hI 10 (by decide) (3, 0) (by decide)
    | 4, hj => cases hj; exact hI 10 (by decide) (4, 0) (by decide)
  · match m, hm with
    | 0, _ => exact ⟨0, hI 84 (by decide) (0, 0) (by decide), hI 103 (by decide) (0, 0) (by decide), Or.inl rfl, fun z => absurd z (by decide)⟩
    | 1, _ => exact ⟨0, hI 84 (by decide) (1, 0) (by decide), hI 103 (by decide) (1, 0) (by decide), Or.inl rfl, fun z => absurd z (by decide)⟩
theorem mt_ini : ∃ Sa Sb, f_X10_init 0 (mt_al mt_S0 10 10) = some Sa ∧ f_X11_init Sa.1 (mt_al Sa 11 39) = some Sb ∧ Sa.1 = 96 ∧ Sb.1 = 108 ∧ mt_Inv (mt_al Sb 14 1) := by
  have q := mt_iniQ_t
  unfold mt_iniQ at q
  cases e : f_X10_init 0 (mt_al mt_S0 10 10) with
  | none => rw [e] at q; cases q
  | some Sa =>
    rw [e] at q
    have q : (match f_X11_init Sa.1 (mt_al Sa 11 39) with
      | some Sb => decide (Sa.1 = 96) && decide (Sb.1 = 108) && mt_stQ (mt_al Sb 14 1)
      | none => false) = true := q
    cases e2 : f_X11_init Sa.1 (mt_al Sa 11 39) with
    | none => rw [e2] at q; cases q
    | some Sb =>
      rw [e2] at q
      obtain ⟨q, q3⟩ := (Bool.and_eq_true _ _).mp q
      obtain ⟨q1, q2⟩ := (Bool.and_eq_true _ _).mp q
      exact ⟨Sa, Sb, rfl, e2, of_decide_eq_true q1, of_decide_eq_true q2, mt_inv0 q3⟩
