/-! go -/
theorem mt_s22 : ∀ a, a < 22 → (22 : Int32) - uI a = uI (22 - a) := by decide +kernel
theorem mt_ipl (p q : Int32) : (∃ y ∈ mt_PL, y.1 = p ∧ y.2.1 = q ∧ ∀ T, f_X10_isPlace p q T = some (1, T) ∧ f_X11_isPlace p q T = some (1, T)) ∨ (∀ T, f_X10_isPlace p q T = some (0, T) ∧ f_X11_isPlace p q T = some (0, T)) := by
  have MO : ∀ T : mt_S, (p < 1 ∨ 22 < p) → f_X11_isPlace p q T = some (0, T) := fun T h => fw_b2 (isInG p 1 22 T) (by rw [if_pos h]; rfl)
  have MQ : ∀ T : mt_S, (q < 1 ∨ 22 < q) → f_X11_isPlace p q T = some (0, T) := fun T h => by
    by_cases h0 : p < 1 ∨ 22 < p
    · exact MO T h0
    · refine fw_b2 (isInG p 1 22 T) ?_
      rw [if_neg h0]
      refine fw_f (by decide) (fw_b2 (isInG q 1 22 T) ?_)
      rw [if_pos h]; rfl
  by_cases p1 : p < 1
  · exact Or.inr fun T => ⟨fw_t p1 (fw_t rfl rfl), MO T (Or.inl p1)⟩
  · by_cases q1 : q < 1
    · exact Or.inr fun T => ⟨fw_f p1 (fw_t q1 (fw_t rfl rfl)), MQ T (Or.inl q1)⟩
    · have nn : ∀ z : Int32, ¬ z < 1 → ¬ z < 0 := fun z h => by
        rw [Int32.lt_iff_toInt_lt] at h ⊢
        have e1 : (1 : Int32).toInt = 1 := rfl
        have e0 : (0 : Int32).toInt = 0 := rfl
        omega
      obtain ⟨a, ha, rfl⟩ := (uI_cs p).resolve_left (nn p p1)
      obtain ⟨b, hb, rfl⟩ := (uI_cs q).resolve_left (nn q q1)
      have a1 : 1 ≤ a := by
        rw [show (1 : Int32) = uI 1 from rfl, uI_lt ha (by decide)] at p1; omega
      have b1 : 1 ≤ b := by
        rw [show (1 : Int32) = uI 1 from rfl, uI_lt hb (by decide)] at q1; omega
      have big : ∀ T : mt_S, 22 ≤ a ∨ 22 ≤ b → f_X11_isPlace (uI a) (uI b) T = some (0, T) := fun T h => by
        by_cases h1 : 22 < a
        · exact MO T (Or.inr (by rw [show (22 : Int32) = uI 22 from rfl, uI_lt (by decide) ha]; exact h1))
        · by_cases h2 : 22 < b
          · exact MQ T (Or.inr (by rw [show (22 : Int32) = uI 22 from rfl, uI_lt (by decide) hb]; exact h2))
          · have n1 : ¬ (uI a < 1 ∨ 22 < uI a) := fun z => z.elim p1 (fun z => by rw [show (22 : Int32) = uI 22 from rfl, uI_lt (by decide) ha] at z; exact h1 z)
            have n2 : ¬ (uI b < 1 ∨ 22 < uI b) := fun z => z.elim q1 (fun z => by rw [show (22 : Int32) = uI 22 from rfl, uI_lt (by decide) hb] at z; exact h2 z)
            refine fw_b2 (isInG _ 1 22 T) ?_
            rw [if_neg n1]
            refine fw_f (by decide) (fw_b2 (isInG _ 1 22 T) ?_)
            rw [if_neg n2]
            exact fw_f (by decide) (fw_t (by rw [uI_a, show (22 : Int32) = uI 22 from rfl, uI_lt (by decide) (by omega)]; omega) rfl)
      by_cases a22 : 22 ≤ a
      · exact Or.inr fun T => ⟨fw_f p1 (fw_f q1 (fw_t (by rw [show (22 : Int32) = uI 22 from rfl, uI_le (by decide) ha]; exact a22) (fw_t rfl rfl))), big T (Or.inl a22)⟩
      · by_cases b22 : 22 ≤ b
        · exact Or.inr fun T => ⟨fw_f p1 (fw_f q1 (fw_f (by rw [show (22 : Int32) = uI 22 from rfl, uI_le (by decide) ha]; exact a22) (fw_t (by rw [mt_s22 a (by omega), uI_lt (by omega) hb]; omega) (fw_t rfl rfl)))), big T (Or.inr b22)⟩
        · have z := List.all_eq_true.mp (List.all_eq_true.mp mt_ipQ_t (a - 1) (List.mem_range.mpr (by omega))) (b - 1) (List.mem_range.mpr (by omega))
          rw [show a - 1 + 1 = a by omega, show b - 1 + 1 = b by omega] at z
          cases e1 : mt_isp (f_X10_isPlace (uI a) (uI b)) with
          | none => rw [e1] at z; cases z
          | some r =>
            cases e2 : mt_isp (f_X11_isPlace (uI a) (uI b)) with
            | none => rw [e1, e2] at z; cases z
            | some s =>
              rw [e1, e2] at z
              simp only [Bool.or_eq_true, Bool.and_eq_true, decide_eq_true_eq, List.any_eq_true] at z
              rcases z with ⟨rfl, rfl⟩ | ⟨⟨rfl, rfl⟩, y, hy, y1, y2⟩
              · exact Or.inr fun T => ⟨mt_isp_C e1 T, mt_isp_M e2 T⟩
              · exact Or.inl ⟨y, hy, y1, y2, fun T => ⟨mt_isp_C e1 T, mt_isp_M e2 T⟩⟩
