/-! the reference's triples -/
def mt_gr : Nat → Int64 → Int64 → Int64 → Option (List mt_T3)
  | 0, _, _, _ => none
  | f + 1, x, y, z => if (3 * x) = 0 then none else if (3 * y) = 0 then none else
    match (if ((1000000000000 + y) / (3 * x)) < z then some [] else mt_gr f x z (((3 * x) * z) - y)), (if ((1000000000000 + x) / (3 * y)) < z then some [] else mt_gr f y z (((3 * y) * z) - x)) with
    | some a, some b => some ((x, y, z) :: (a ++ b))
    | _, _ => none
abbrev mt_A3 : Type := Int32 × Int64 × Int64
/-- one triple asked -/
def mt_sA (n : Int64) (a : mt_A3) (t : mt_T3) : mt_A3 := if t.2.2 = n then (if a.1 = 0 then (a.1 + 1, t.1, t.2.1) else if a.2.1 ≤ t.1 then (a.1 + 1, a.2.1, a.2.2) else (a.1 + 1, t.1, t.2.1)) else a
def mt_sN (N : List Int64) (t : mt_T3) : List Int64 := mt_cms t.2.2 N
def mt_as (T : mt_S) (a : mt_A3) : Prop := T.2.2.1 96 25 = some a.1 ∧ (¬ a.1 = 0 → T.2.2.2.1 96 27 = some a.2.1 ∧ T.2.2.2.1 96 28 = some a.2.2)
def mt_Do (k j : Nat) : Bool := mt_Dcm k j || (decide (k = 96) && (decide (j = 25) || decide (j = 27) || decide (j = 28)))
/-- what stands while the triples come -/
def mt_gs (T : mt_S) (n : Int64) (N : List Int64) (a : mt_A3) : Prop := mt_st T ∧ mt_ns T N ∧ mt_as T a ∧ T.2.2.2.1 96 26 = some n
theorem mt_growT {n : Int64} {f : Nat} (ih : ∀ (x y z : Int64) (L : List mt_T3) (N : List Int64) (a : mt_A3) (T : mt_S), mt_gr f x y z = some L → mt_gs T n N a → N.length + L.length < 399 → ∃ T', f_X11_grows f 96 x y z T = some T' ∧ mt_gs T' n (L.foldl mt_sN N) (L.foldl (mt_sA n) a) ∧ mt_fr mt_Do T T') {x y z : Int64} {A B : List mt_T3} {N : List Int64} {a : mt_A3} {T : mt_S} (h3x : ¬ (3 * x) = 0) (h3y : ¬ (3 * y) = 0) (hA : (if ((1000000000000 + y) / (3 * x)) < z then some [] else mt_gr f x z (((3 * x) * z) - y)) = some A) (hB : (if ((1000000000000 + x) / (3 * y)) < z then some [] else mt_gr f y z (((3 * y) * z) - x)) = some B) (hg : mt_gs T n N a) (hl : N.length + (A.length + B.length) < 399) :
    ∃ T', (if (3 * x) = 0 then none else if ((1000000000000 + y) / (3 * x)) < z then (if (3 * y) = 0 then none else if ((1000000000000 + x) / (3 * y)) < z then some T else Option.bind (f_X11_grows f 96 y z (((3 * y) * z) - x) T) fun S14 => some S14) else Option.bind (f_X11_grows f 96 x z (((3 * x) * z) - y) T) fun S16 => if (3 * y) = 0 then none else if ((1000000000000 + x) / (3 * y)) < z then some S16 else Option.bind (f_X11_grows f 96 y z (((3 * y) * z) - x) S16) fun S17 => some S17) = some T' ∧ mt_gs T' n ((A ++ B).foldl mt_sN N) ((A ++ B).foldl (mt_sA n) a) ∧ mt_fr mt_Do T T' := by
  have gN : ∀ (L : List mt_T3) (N : List Int64), (L.foldl mt_sN N).length ≤ N.length + L.length := by
    intro L
    induction L with
    | nil => intro N; exact Nat.le_refl _
    | cons t L ihL =>
      intro N
      have h1 := ihL (mt_sN N t)
      have h2 : (mt_sN N t).length ≤ N.length + 1 := mt_cms_l _ _
      show (L.foldl mt_sN (mt_sN N t)).length ≤ N.length + (L.length + 1)
      omega
  rw [List.foldl_append, List.foldl_append]
  have second : ∀ {U : mt_S} {M : List Int64} {b : mt_A3}, mt_gs U n M b → M.length + B.length < 399 → ∃ T', (if (3 * y) = 0 then none else if ((1000000000000 + x) / (3 * y)) < z then some U else Option.bind (f_X11_grows f 96 y z (((3 * y) * z) - x) U) fun S17 => some S17) = some T' ∧ mt_gs T' n (B.foldl mt_sN M) (B.foldl (mt_sA n) b) ∧ mt_fr mt_Do U T' := fun {U M b} hU hM => by
    by_cases c : ((1000000000000 + x) / (3 * y)) < z
    · rw [if_pos c] at hB
      have hB := Option.some.inj hB
      subst hB
      exact ⟨U, fw_f h3y (fw_t c rfl), hU, mt_fr.refl _ U⟩
    · rw [if_neg c] at hB
      obtain ⟨T', a1, a2, a3⟩ := ih _ _ _ B M b U hB hU hM
      exact ⟨T', fw_f h3y (fw_f c (fw_b a1 rfl)), a2, a3⟩
  by_cases c : ((1000000000000 + y) / (3 * x)) < z
  · rw [if_pos c] at hA
    have hA := Option.some.inj hA
    subst hA
    obtain ⟨T', a1, a2, a3⟩ := second hg (by rw [List.length_nil] at hl; omega)
    exact ⟨T', fw_f h3x (fw_t c a1), a2, a3⟩
  · rw [if_neg c] at hA
    obtain ⟨U, b1, b2, b3⟩ := ih _ _ _ A N a T hA hg (by omega)
    obtain ⟨T', a1, a2, a3⟩ := second b2 (by have := gN A N; omega)
    exact ⟨T', fw_f h3x (fw_f c (fw_b b1 a1)), a2, b3.trans a3⟩
theorem mt_growL (n : Int64) : ∀ (f : Nat) (x y z : Int64) (L : List mt_T3) (N : List Int64) (a : mt_A3) (T : mt_S), mt_gr f x y z = some L → mt_gs T n N a → N.length + L.length < 399 → ∃ T', f_X11_grows f 96 x y z T = some T' ∧ mt_gs T' n (L.foldl mt_sN N) (L.foldl (mt_sA n) a) ∧ mt_fr mt_Do T T' := by
  intro f
  induction f with
  | zero => intro x y z L N a T q; cases q
  | succ f ih =>
    intro x y z L N a T q hg hl
    have q : (if (3 * x) = 0 then none else if (3 * y) = 0 then none else
      match (if ((1000000000000 + y) / (3 * x)) < z then some [] else mt_gr f x z (((3 * x) * z) - y)), (if ((1000000000000 + x) / (3 * y)) < z then some [] else mt_gr f y z (((3 * y) * z) - x)) with
      | some a, some b => some ((x, y, z) :: (a ++ b))
      | _, _ => none) = some L := q
    by_cases h3x : (3 * x) = 0
    · rw [if_pos h3x] at q; cases q
    · rw [if_neg h3x] at q
      by_cases h3y : (3 * y) = 0
      · rw [if_pos h3y] at q; cases q
      · rw [if_neg h3y] at q
        cases hA : (if ((1000000000000 + y) / (3 * x)) < z then some [] else mt_gr f x z (((3 * x) * z) - y)) with
        | none => rw [hA] at q; cases q
        | some A =>
          cases hB : (if ((1000000000000 + x) / (3 * y)) < z then some [] else mt_gr f y z (((3 * y) * z) - x)) with
          | none => rw [hA, hB] at q; cases q
          | some B =>
            rw [hA, hB] at q
            have q : (x, y, z) :: (A ++ B) = L := Option.some.inj q
            subst q
            rw [List.length_cons, List.length_append] at hl
            obtain ⟨hs, hN, ha, hn⟩ := hg
            obtain ⟨T1, c1, c2, c3⟩ := mt_cmsT z hs hN (by omega)
            have hs1 := c3.st hs
            have a1 : mt_as T1 a := ⟨(c3.2 96 25 rfl).1.trans ha.1, fun w => ⟨(c3.2 96 27 rfl).2.trans (ha.2 w).1, (c3.2 96 28 rfl).2.trans (ha.2 w).2⟩⟩
            have n1 : T1.2.2.2.1 96 26 = some n := (c3.2 96 26 rfl).2.trans hn
            have c3' : mt_fr mt_Do T T1 := c3.mono (fun k j w => by unfold mt_Do at w; exact (Bool.or_eq_false_iff.mp w).1)
            have hcl := mt_cms_l z N
            show ∃ T', f_X11_growss (f_X11_grows f) 96 x y z T = some T' ∧ mt_gs T' n ((A ++ B).foldl mt_sN (mt_cms z N)) ((A ++ B).foldl (mt_sA n) (mt_sA n a (x, y, z))) ∧ mt_fr mt_Do T T'
            /- from a state U with the triple asked -/
            have go : ∀ {U : mt_S}, mt_st U → mt_fr (fun k j => decide (k = 96) && (decide (j = 25) || decide (j = 27) || decide (j = 28))) T1 U → mt_as U (mt_sA n a (x, y, z)) → ∃ T', (if (3 * x) = 0 then none else if ((1000000000000 + y) / (3 * x)) < z then (if (3 * y) = 0 then none else if ((1000000000000 + x) / (3 * y)) < z then some U else Option.bind (f_X11_grows f 96 y z (((3 * y) * z) - x) U) fun S14 => some S14) else Option.bind (f_X11_grows f 96 x z (((3 * x) * z) - y) U) fun S16 => if (3 * y) = 0 then none else if ((1000000000000 + x) / (3 * y)) < z then some S16 else Option.bind (f_X11_grows f 96 y z (((3 * y) * z) - x) S16) fun S17 => some S17) = some T' ∧ mt_gs T' n ((A ++ B).foldl mt_sN (mt_cms z N)) ((A ++ B).foldl (mt_sA n) (mt_sA n a (x, y, z))) ∧ mt_fr mt_Do T T' := fun {U} hU fU aU => by
              obtain ⟨T', b1, b2, b3⟩ := mt_growT ih h3x h3y hA hB (N := mt_cms z N) (a := mt_sA n a (x, y, z)) (T := U) ⟨hU, ⟨(fU.2 96 24 rfl).1.trans c2.1, fun m v hv => (fU.2 106 m rfl).2.trans (c2.2 m v hv)⟩, aU, (fU.2 96 26 rfl).2.trans n1⟩ (by omega)
              exact ⟨T', b1, b2, (c3'.trans (fU.mono (fun k j w => by unfold mt_Do at w; exact (Bool.or_eq_false_iff.mp w).2))).trans b3⟩
            by_cases e : z = n
            · by_cases e0 : a.1 = 0
              · have eA : mt_sA n a (x, y, z) = (a.1 + 1, x, y) := by unfold mt_sA; rw [if_pos e, if_pos e0]
                obtain ⟨T', b1, b2⟩ := go (U := mt_pI (mt_pL (mt_pL T1 96 27 x) 96 28 y) 96 25 (a.1 + 1)) hs1 ((((mt_fr.refl _ T1).L 96 27 _ rfl).L 96 28 _ rfl).I 96 25 _ rfl) (by
                  rw [eA]
                  exact ⟨mt_I_eq, fun _ => ⟨(mt_L_ne (Or.inr (by decide))).trans mt_L_eq, mt_L_eq⟩⟩)
                exact ⟨T', fw_t (T_K hs (by decide) rfl) (fw_b c1 (fw_b (T_rL hs1 (by decide) rfl n1) (fw_t e (fw_b (T_rI hs1 (by decide) rfl a1.1) (fw_t e0 (fw_b (T_wL hs1 _ (by decide) rfl) (fw_b (T_wL (T := mt_pL T1 96 27 x) hs1 _ (by decide) rfl) (fw_b (T_rI (T := mt_pL (mt_pL T1 96 27 x) 96 28 y) hs1 (by decide) rfl a1.1) (fw_b (T_wI (T := mt_pL (mt_pL T1 96 27 x) 96 28 y) hs1 _ (by decide) rfl) b1))))))))), b2⟩
              · obtain ⟨a27, a28⟩ := a1.2 e0
                by_cases e1 : a.2.1 ≤ x
                · have eA : mt_sA n a (x, y, z) = (a.1 + 1, a.2.1, a.2.2) := by unfold mt_sA; rw [if_pos e, if_neg e0, if_pos e1]
                  obtain ⟨T', b1, b2⟩ := go (U := mt_pI T1 96 25 (a.1 + 1)) hs1 ((mt_fr.refl _ T1).I 96 25 _ rfl) (by
                    rw [eA]
                    exact ⟨mt_I_eq, fun _ => ⟨a27, a28⟩⟩)
                  exact ⟨T', fw_t (T_K hs (by decide) rfl) (fw_b c1 (fw_b (T_rL hs1 (by decide) rfl n1) (fw_t e (fw_b (T_rI hs1 (by decide) rfl a1.1) (fw_f e0 (fw_b (T_rL hs1 (by decide) rfl a27) (fw_t e1 (fw_b (T_rI hs1 (by decide) rfl a1.1) (fw_b (T_wI hs1 _ (by decide) rfl) b1))))))))), b2⟩
                · have eA : mt_sA n a (x, y, z) = (a.1 + 1, x, y) := by unfold mt_sA; rw [if_pos e, if_neg e0, if_neg e1]
                  obtain ⟨T', b1, b2⟩ := go (U := mt_pI (mt_pL (mt_pL T1 96 27 x) 96 28 y) 96 25 (a.1 + 1)) hs1 ((((mt_fr.refl _ T1).L 96 27 _ rfl).L 96 28 _ rfl).I 96 25 _ rfl) (by
                    rw [eA]
                    exact ⟨mt_I_eq, fun _ => ⟨(mt_L_ne (Or.inr (by decide))).trans mt_L_eq, mt_L_eq⟩⟩)
                  exact ⟨T', fw_t (T_K hs (by decide) rfl) (fw_b c1 (fw_b (T_rL hs1 (by decide) rfl n1) (fw_t e (fw_b (T_rI hs1 (by decide) rfl a1.1) (fw_f e0 (fw_b (T_rL hs1 (by decide) rfl a27) (fw_f e1 (fw_b (T_wL hs1 _ (by decide) rfl) (fw_b (T_wL (T := mt_pL T1 96 27 x) hs1 _ (by decide) rfl) (fw_b (T_rI (T := mt_pL (mt_pL T1 96 27 x) 96 28 y) hs1 (by decide) rfl a1.1) (fw_b (T_wI (T := mt_pL (mt_pL T1 96 27 x) 96 28 y) hs1 _ (by decide) rfl) b1))))))))))), b2⟩
            · have eA : mt_sA n a (x, y, z) = a := by unfold mt_sA; rw [if_neg e]
              obtain ⟨T', b1, b2⟩ := go (U := T1) hs1 (mt_fr.refl _ T1) (by rw [eA]; exact a1)
              exact ⟨T', fw_t (T_K hs (by decide) rfl) (fw_b c1 (fw_b (T_rL hs1 (by decide) rfl n1) (fw_f e b1))), b2⟩
