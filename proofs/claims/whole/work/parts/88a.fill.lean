/-! fill -/
theorem mt_flL {l' : List mt_R4} : ∀ (n i : Nat) (l : List mt_R4) (T : mt_S), mt_st T → mt_tl T l → l.length ≤ 160 → mt_fl n i l = some l' → i ≤ l.length → ∃ T1, f_X6_fill_L22 n 90 (uI i) T = (Option.bind (f_X6_fillNumbers 90 T1) fun S4 => some S4) ∧ mt_tl T1 l' ∧ mt_fr mt_Dt T T1 := by
  intro n
  induction n with
  | zero => intro i l T hs h hl q hi; cases q
  | succ n ih =>
    intro i l T hs h hl q hi
    have q : (match l[i]? with
      | none => some l
      | some r => match mt_pnx r.1 r.2.2.1 r.2.1 (r.2.2.2 + 1) l with
        | none => none
        | some l1 => match mt_pnx r.2.1 r.2.2.1 r.1 (r.2.2.2 + 1) l1 with
          | none => none
          | some l2 => mt_fl n (i + 1) l2) = some l' := q
    cases e : l[i]? with
    | none =>
      rw [e] at q
      have hge : l.length ≤ i := List.getElem?_eq_none_iff.mp e
      have q : l = l' := Option.some.inj q
      rw [← q]
      exact ⟨T, fw_b (T_rI hs (by decide) rfl h.1) (fw_t (by rw [uI_le (by omega) (by omega)]; omega) rfl), h, mt_fr.refl _ T⟩
    | some r =>
      rw [e] at q
      have hlt := mt_lt_of e
      have q : (match mt_pnx r.1 r.2.2.1 r.2.1 (r.2.2.2 + 1) l with
        | none => none
        | some l1 => match mt_pnx r.2.1 r.2.2.1 r.1 (r.2.2.2 + 1) l1 with
          | none => none
          | some l2 => mt_fl n (i + 1) l2) = some l' := q
      cases e1 : mt_pnx r.1 r.2.2.1 r.2.1 (r.2.2.2 + 1) l with
      | none => rw [e1] at q; cases q
      | some l1 =>
        rw [e1] at q
        have q : (match mt_pnx r.2.1 r.2.2.1 r.1 (r.2.2.2 + 1) l1 with
          | none => none
          | some l2 => mt_fl n (i + 1) l2) = some l' := q
        cases e2 : mt_pnx r.2.1 r.2.2.1 r.1 (r.2.2.2 + 1) l1 with
        | none => rw [e2] at q; cases q
        | some l2 =>
          rw [e2] at q
          have q : mt_fl n (i + 1) l2 = some l' := q
          have gl : ∀ {x y a : Int64} {s : Int32} {a1 a2 : List mt_R4}, a1.length ≤ 160 → mt_pnx x y a s a1 = some a2 → a2.length ≤ 160 ∧ a1.length ≤ a2.length := fun {x y a s a1 a2} h1 h2 => by
            unfold mt_pnx at h2
            by_cases c1 : y < 1
            · rw [if_pos c1] at h2; cases h2; omega
            · rw [if_neg c1] at h2
              by_cases c2 : (3 * y) = 0
              · rw [if_pos c2] at h2; cases h2
              · rw [if_neg c2] at h2
                by_cases c3 : x ≤ ((1000000000000 + a) / (3 * y))
                · rw [if_pos c3] at h2
                  by_cases c4 : a1.length < 160
                  · rw [if_pos c4] at h2
                    have h2 := Option.some.inj h2
                    subst h2
                    rw [mt_i4i_l, List.length_reverse, List.length_nil]; omega
                  · rw [if_neg c4] at h2; cases h2
                · rw [if_neg c3] at h2; cases h2; omega
          obtain ⟨g1, g2⟩ := gl hl e1
          obtain ⟨g3, g4⟩ := gl g1 e2
          obtain ⟨T1, a1, b1, f1⟩ := mt_pnT hs h e1
          have hs1 := f1.st hs
          obtain ⟨T2, a2, b2, f2⟩ := mt_pnT hs1 b1 e2
          have hs2 := f2.st hs1
          obtain ⟨T3, a3, b3, f3⟩ := ih (i + 1) l2 T2 hs2 b2 g3 q (by omega)
          obtain ⟨r1, r2, r3, r4⟩ := h.2 i r e
          refine ⟨T3, ?_, b3, (f1.trans f2).trans f3⟩
          refine fw_b (T_rI hs (by decide) rfl h.1) (fw_f (by rw [uI_le (by omega) (by omega)]; omega) (fw_f (by rw [show (160 : Int32) = uI 160 from rfl, uI_le (by decide) (by omega)]; omega) (fw_b (T_rR hs (by decide) rfl rfl) (fw_b (T_aL hs (by decide) rfl (n := 160) (by omega) (by decide) r1) (fw_b (T_rR hs (by decide) rfl rfl) (fw_b (T_aL hs (by decide) rfl (n := 160) (by omega) (by decide) r2) (fw_b (T_rR hs (by decide) rfl rfl) (fw_b (T_aL hs (by decide) rfl (n := 160) (by omega) (by decide) r3) (fw_b (T_rR hs (by decide) rfl rfl) (fw_b (T_aI hs (by decide) rfl (n := 160) (by omega) (by decide) r4) (fw_b a1 (fw_b a2 ?_))))))))))))
          rw [uI_s]; exact a3
