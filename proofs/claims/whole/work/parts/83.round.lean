/-! rounds: the reference's first loop; round, least -/
theorem mt_rFL {d r : Int64} {p : mt_T3} : ∀ (n : Nat) (t s : mt_T3) (T : mt_S), mt_st T → mt_f5 T 96 17 t d r → mt_rF d r n t s = some p → ∃ T1, f_X11_laysRound_L16 n 96 s.1 s.2.1 s.2.2 T = f_X11_laysRound_L132 1000 96 p.1 p.2.1 p.2.2 0 T1 ∧ mt_f5 T1 96 17 p d r ∧ T1.2.2.2.1 96 22 = some 0 ∧ mt_fr mt_Dr T T1 := by
  intro n
  induction n with
  | zero => intro t s T hs h5 q; cases q
  | succ n ih =>
    intro t s T hs h5 q
    have q : (match mt_nM d r s with
      | none => none
      | some s' => match mt_nM d r t with
        | none => none
        | some t1 => match mt_nM d r t1 with
          | none => none
          | some t2 => if t2.1 = s'.1 ∧ t2.2.1 = s'.2.1 ∧ t2.2.2 = s'.2.2 then some s' else mt_rF d r n t2 s') = some p := q
    cases e1 : mt_nM d r s with
    | none => rw [e1] at q; cases q
    | some s' =>
      rw [e1] at q
      cases e2 : mt_nM d r t with
      | none => rw [e2] at q; cases q
      | some t1 =>
        rw [e2] at q
        have q : (match mt_nM d r t1 with
          | none => none
          | some t2 => if t2.1 = s'.1 ∧ t2.2.1 = s'.2.1 ∧ t2.2.2 = s'.2.2 then some s' else mt_rF d r n t2 s') = some p := q
        cases e3 : mt_nM d r t1 with
        | none => rw [e3] at q; cases q
        | some t2 =>
          rw [e3] at q
          have q : (if t2.1 = s'.1 ∧ t2.2.1 = s'.2.1 ∧ t2.2.2 = s'.2.2 then some s' else mt_rF d r n t2 s') = some p := q
          have hA5 : mt_f5 (mt_w3 T 96 17 s) 96 17 s d r := mt_w35 h5
          have hA : mt_st (mt_w3 T 96 17 s) := hs
          have hB5 : mt_f5 (mt_w3 (mt_w3 T 96 17 s) 96 17 s') 96 17 s' d r := mt_w35 hA5
          have hBs : mt_st (mt_w3 (mt_w3 T 96 17 s) 96 17 s') := hs
          have hC5 : mt_f5 (mt_w3 (mt_w3 (mt_w3 T 96 17 s) 96 17 s') 96 17 t) 96 17 t d r := mt_w35 hB5
          have hCs : mt_st (mt_w3 (mt_w3 (mt_w3 T 96 17 s) 96 17 s') 96 17 t) := hs
          have fC : mt_fr mt_Dr T (mt_w3 (mt_w3 (mt_w3 T 96 17 s) 96 17 s') 96 17 t) := ((mt_w3r T s).trans (mt_w3r _ s')).trans (mt_w3r _ t)
          have aA := mt_fon hA hA5 e1
          generalize hU : mt_w3 (mt_w3 (mt_w3 T 96 17 s) 96 17 s') 96 17 t = U at hC5 hCs fC
          have aC := mt_fon hCs hC5 e2
          have hD5 : mt_f5 (mt_w3 U 96 17 t1) 96 17 t1 d r := mt_w35 hC5
          have hDs : mt_st (mt_w3 U 96 17 t1) := hCs
          have aD := mt_fon hDs hD5 e3
          have hE5 : mt_f5 (mt_w3 (mt_w3 U 96 17 t1) 96 17 t2) 96 17 t2 d r := mt_w35 hD5
          have hEs : mt_st (mt_w3 (mt_w3 U 96 17 t1) 96 17 t2) := hCs
          have fE : mt_fr mt_Dr T (mt_w3 (mt_w3 U 96 17 t1) 96 17 t2) := (fC.trans (mt_w3r _ t1)).trans (mt_w3r _ t2)
          generalize mt_w3 (mt_w3 U 96 17 t1) 96 17 t2 = V at aD hE5 hEs fE
          have pre : ∀ {z : Option (Int32 × mt_S)}, (if t2.1 = s'.1 then Option.bind (mt_rL V 96 11 18) fun v20 => if v20 = s'.2.1 then Option.bind (mt_rL V 96 11 19) fun v21 => if v21 = s'.2.2 then Option.bind (mt_wL V 96 11 22 0) fun S22 => f_X11_laysRound_L132 1000 96 s'.1 s'.2.1 s'.2.2 0 S22 else f_X11_laysRound_L16 n 96 s'.1 s'.2.1 s'.2.2 V else f_X11_laysRound_L16 n 96 s'.1 s'.2.1 s'.2.2 V else f_X11_laysRound_L16 n 96 s'.1 s'.2.1 s'.2.2 V) = z → f_X11_laysRound_L16 (n + 1) 96 s.1 s.2.1 s.2.2 T = z := fun w => by
            refine fw_b (T_rL hs (by decide) rfl h5.1) (fw_b (T_rL hs (by decide) rfl h5.2.1) (fw_b (T_rL hs (by decide) rfl h5.2.2.1) (fw_b (T_wL hs _ (by decide) rfl) (fw_b (T_wL (T := mt_pL T 96 17 s.1) hs _ (by decide) rfl) (fw_b (T_wL (T := mt_pL (mt_pL T 96 17 s.1) 96 18 s.2.1) hs _ (by decide) rfl) ?_)))))
            refine fw_b aA (fw_b (T_rL hBs (by decide) rfl hB5.1) (fw_b (T_rL hBs (by decide) rfl hB5.2.1) (fw_b (T_rL hBs (by decide) rfl hB5.2.2.1) (fw_b (T_wL hBs _ (by decide) rfl) (fw_b (T_wL (T := mt_pL (mt_w3 (mt_w3 T 96 17 s) 96 17 s') 96 17 t.1) hs _ (by decide) rfl) (fw_b (v := U) ?_ ?_))))))
            · rw [← hU]
              exact T_wL (T := mt_pL (mt_pL (mt_w3 (mt_w3 T 96 17 s) 96 17 s') 96 17 t.1) 96 18 t.2.1) hs _ (by decide) rfl
            · exact fw_b aC (fw_b aD (fw_b (T_rL hEs (by decide) rfl hE5.1) w))
          by_cases q1 : t2.1 = s'.1
          · by_cases q2 : t2.2.1 = s'.2.1
            · by_cases q3 : t2.2.2 = s'.2.2
              · rw [if_pos ⟨q1, q2, q3⟩] at q
                have q := Option.some.inj q
                subst q
                have hE5' : mt_f5 V 96 17 s' d r := by
                  obtain ⟨x0, x1, x2, x3, x4⟩ := hE5
                  exact ⟨by rw [← q1]; exact x0, by rw [← q2]; exact x1, by rw [← q3]; exact x2, x3, x4⟩
                refine ⟨mt_pL V 96 22 0, pre (fw_t q1 (fw_b (T_rL hEs (by decide) rfl hE5.2.1) (fw_t q2 (fw_b (T_rL hEs (by decide) rfl hE5.2.2.1) (fw_t q3 (fw_b (T_wL hEs _ (by decide) rfl) rfl)))))), mt_f5f ((mt_fr.refl (fun a b => decide (a = 96) && decide (b = 22)) V).L 96 22 _ rfl) (fun i hi => by simp; omega) hE5', mt_L_eq, fE.L 96 22 _ rfl⟩
              · rw [if_neg (fun z => q3 z.2.2)] at q
                obtain ⟨T1, b1, b2, b3, b4⟩ := ih t2 s' V hEs hE5 q
                exact ⟨T1, pre (fw_t q1 (fw_b (T_rL hEs (by decide) rfl hE5.2.1) (fw_t q2 (fw_b (T_rL hEs (by decide) rfl hE5.2.2.1) (fw_f q3 b1))))), b2, b3, fE.trans b4⟩
            · rw [if_neg (fun z => q2 z.2.1)] at q
              obtain ⟨T1, b1, b2, b3, b4⟩ := ih t2 s' V hEs hE5 q
              exact ⟨T1, pre (fw_t q1 (fw_b (T_rL hEs (by decide) rfl hE5.2.1) (fw_f q2 b1))), b2, b3, fE.trans b4⟩
          · rw [if_neg (fun z => q1 z.1)] at q
            obtain ⟨T1, b1, b2, b3, b4⟩ := ih t2 s' V hEs hE5 q
            exact ⟨T1, pre (fw_f q1 b1), b2, b3, fE.trans b4⟩
theorem mt_rdQ {x : mt_P} (hx : x ∈ mt_PL) (q : mt_fq1 x = 1) : ∃ s m, mt_rdC x = some (s, m) ∧ mt_rdM x = some (s, m) := by
  have z := List.all_eq_true.mp mt_chRd_t x hx
  unfold mt_chRd at z
  have n : ¬ 1000000000 < mt_en x 1 := fun w => by
    unfold mt_fq1 at q
    rw [if_neg (by rw [Int64.le_iff_toInt_le]; rw [Int64.lt_iff_toInt_lt] at w; omega)] at q
    exact absurd q (by decide)
  rw [decide_eq_false n, Bool.false_or] at z
  obtain ⟨z1, z2⟩ := (Bool.and_eq_true _ _).mp z
  have z2 := of_decide_eq_true z2
  cases e : mt_rdC x with
  | none => rw [e] at z1; cases z1
  | some w => exact ⟨w.1, w.2, rfl, by rw [← z2, e]⟩
/-- both go round -/
theorem mt_rdB {T : mt_S} (hs : mt_st T) {x : mt_P} (hx : x ∈ mt_PL) (q : mt_fq1 x = 1) : ∃ s m, (∀ {T1 : mt_S}, mt_st T1 → (∀ i v, (mt_fL x)[i]? = some v → T1.2.2.2.1 89 i = some v) → ∃ T2, f_X1_goRound 89 T1 = some T2 ∧ T2.2.2.1 89 5 = some s ∧ T2.2.2.2.1 89 6 = some m ∧ mt_fr mt_Df T1 T2) ∧ (∀ {T1 : mt_S}, mt_st T1 → (∀ i v, (mt_fL x)[i]? = some v → T1.2.2.2.1 96 (17 + i) = some v) → ∃ T2, f_X11_laysRound 96 T1 = some (s, T2) ∧ T2.2.2.2.1 96 22 = some m ∧ mt_fr mt_Dg T1 T2) := by
  obtain ⟨s, m, qC, qM⟩ := mt_rdQ hx q
  refine ⟨s, m, fun {T1} hs1 b1 => ?_, fun {T1} hs1 b1 => ?_⟩
  · have h5 : mt_f5 T1 89 0 (mt_t3 x) (mt_fD x) (mt_fE x) := ⟨b1 0 _ rfl, b1 1 _ rfl, b1 2 _ rfl, b1 3 _ rfl, b1 4 _ rfl⟩
    have f2 : mt_fr mt_Df T1 (mt_pL (mt_pI T1 89 5 0) 89 6 (mt_abs (mt_fA x))) := ((mt_fr.refl _ T1).I 89 5 0 rfl).L 89 6 _ rfl
    have h52 : mt_f5 (mt_pL (mt_pI T1 89 5 0) 89 6 (mt_abs (mt_fA x))) 89 0 (mt_t3 x) (mt_fD x) (mt_fE x) := mt_f5f ((mt_fr.refl (fun a b => decide (a = 89) && decide (b = 6)) (mt_pI T1 89 5 0)).L 89 6 _ rfl) (fun i hi => by simp; omega) h5
    obtain ⟨T', c1, c2, c3, c4⟩ := mt_rCL (d := mt_fD x) (r := mt_fE x) (fa := mt_fA x) (fb := mt_fB x) 1000 0 (mt_t3 x) 0 (mt_abs (mt_fA x)) (mt_pL (mt_pI T1 89 5 0) 89 6 (mt_abs (mt_fA x))) hs1 (by decide) h52 (show (mt_pI T1 89 5 0).2.2.1 89 5 = some 0 from mt_I_eq) mt_L_eq qC
    exact ⟨T', fw_t (T_K hs1 (by decide) rfl) (fw_b (T_rL hs1 (by decide) rfl h5.1) (fw_b (T_rL hs1 (by decide) rfl h5.2.1) (fw_b (T_wI hs1 0 (by decide) rfl) (fw_b (T_rL (T := mt_pI T1 89 5 0) hs1 (by decide) rfl h5.1) (fw_b2 (mt_Jabs _ _) (fw_b (T_wL (T := mt_pI T1 89 5 0) hs1 _ (by decide) rfl) c1)))))), c2, c3, f2.trans c4⟩
  · have h5 : mt_f5 T1 96 17 (mt_t3 x) (mt_fD x) (mt_fE x) := ⟨b1 0 _ rfl, b1 1 _ rfl, b1 2 _ rfl, b1 3 _ rfl, b1 4 _ rfl⟩
    unfold mt_rdM at qM
    cases e : mt_rdF x with
    | none => rw [e] at qM; cases qM
    | some p =>
      rw [e] at qM
      have qM : mt_rG (mt_fD x) (mt_fE x) p 1000 p 0 0 = some (s, m) := qM
      obtain ⟨U, c1, c2, c3, c4⟩ := mt_rFL 1000 (mt_t3 x) (mt_t3 x) T1 hs1 h5 e
      obtain ⟨V, d1, d2, d3⟩ := mt_rGL 1000 p 0 0 U (c4.st hs1) c2 c3 qM
      refine ⟨V, fw_t (T_K hs1 (by decide) rfl) (fw_b (T_rL hs1 (by decide) rfl h5.1) (fw_b (T_rL hs1 (by decide) rfl h5.2.1) (fw_b (T_rL hs1 (by decide) rfl h5.2.2.1) (c1.trans d1)))), d2, (c4.trans d3).mono (fun k j z => ?_)⟩
      unfold mt_Dg at z
      exact (Bool.or_eq_false_iff.mp z).2
theorem t_15 {T : mt_S} (hi : mt_Inv T) : ∃ S', l_15 T = some S' ∧ mt_Inv S' := by
  have hs := hi.1
  obtain ⟨⟨x, l⟩, hg, hB, hR⟩ := hi.2.1
  obtain ⟨T1, a1, b1, f1⟩ := mt_sfC hs hg.1 hB
  have hs1 := f1.st hs
  rcases mt_fq01 x with q | q
  · rw [q] at a1
    have fa : mt_fr mt_Dz T (mt_pI T1 96 0 0) := (mt_zf f1).trans (mt_fz0 0)
    have hsa := fa.st hs
    obtain ⟨T3, a3, b3, f3⟩ := mt_lfM hsa hg.1 ((fa.2 98 0 rfl).1.trans hR.1) ((fa.2 98 1 rfl).1.trans hR.2.1)
    rw [q] at a3
    have c1 : f_X10_round 0 T = some (-1, T1) := fw_t (T_K hs (by decide) rfl) (fw_b2 a1 (fw_t rfl rfl))
    have c2 : f_X11_round 96 T1 = some (-1, T3) := fw_t (T_K hs1 (by decide) rfl) (fw_b (T_wI hs1 0 (by decide) rfl) (fw_b2 a3 (fw_t rfl rfl)))
    exact ⟨T3, fw_b2 c1 (fw_b2 c2 (if_pos rfl)), mt_Inv_z hi (fa.trans (mt_zg f3))⟩
  · obtain ⟨s, m, rC, rM⟩ := mt_rdB hs hg.1 q
    rw [q] at a1
    obtain ⟨T2, a2, e5, e6, f2⟩ := rC hs1 (b1 q)
    have hs2 := f2.st hs1
    have fa : mt_fr mt_Dz T (mt_pI T2 96 0 0) := ((mt_zf f1).trans (mt_zf f2)).trans (mt_fz0 0)
    have hsa := fa.st hs
    obtain ⟨T3, a3, b3, f3⟩ := mt_lfM hsa hg.1 ((fa.2 98 0 rfl).1.trans hR.1) ((fa.2 98 1 rfl).1.trans hR.2.1)
    rw [q] at a3
    have hs3 := f3.st hsa
    obtain ⟨T4, a4, e4, f4⟩ := rM hs3 (b3 q)
    have c1 : f_X10_round 0 T = some (s, T2) := fw_t (T_K hs (by decide) rfl) (fw_b2 a1 (fw_f (by decide) (fw_b (T_rR hs1 (by decide) rfl rfl) (fw_b a2 (fw_b (T_rR hs2 (by decide) rfl rfl) (fw_b2 (fw_t (T_K hs2 (by decide) rfl) (fw_b (T_rI hs2 (by decide) rfl e5) rfl)) rfl))))))
    have c2 : f_X11_round 96 T2 = some (s, T4) := fw_t (T_K hs2 (by decide) rfl) (fw_b (T_wI hs2 0 (by decide) rfl) (fw_b2 a3 (fw_f (by decide) (fw_b2 a4 rfl))))
    exact ⟨T4, fw_b2 c1 (fw_b2 c2 (if_pos rfl)), mt_Inv_z hi ((fa.trans (mt_zg f3)).trans (mt_zg f4))⟩
theorem t_16 {T : mt_S} (hi : mt_Inv T) : ∃ S', l_16 T = some S' ∧ mt_Inv S' := by
  have hs := hi.1
  obtain ⟨⟨x, l⟩, hg, hB, hR⟩ := hi.2.1
  obtain ⟨T1, a1, b1, f1⟩ := mt_sfC hs hg.1 hB
  have hs1 := f1.st hs
  rcases mt_fq01 x with q | q
  · rw [q] at a1
    have fa : mt_fr mt_Dz T (mt_pI T1 96 0 0) := (mt_zf f1).trans (mt_fz0 0)
    have hsa := fa.st hs
    obtain ⟨T3, a3, b3, f3⟩ := mt_lfM hsa hg.1 ((fa.2 98 0 rfl).1.trans hR.1) ((fa.2 98 1 rfl).1.trans hR.2.1)
    rw [q] at a3
    have c1 : f_X10_least 0 T = some (-1, T1) := fw_t (T_K hs (by decide) rfl) (fw_b2 a1 (fw_t rfl rfl))
    have c2 : f_X11_least 96 T1 = some (-1, T3) := fw_t (T_K hs1 (by decide) rfl) (fw_b (T_wI hs1 0 (by decide) rfl) (fw_b2 a3 (fw_t rfl rfl)))
    exact ⟨T3, fw_b2 c1 (fw_b2 c2 (if_pos rfl)), mt_Inv_z hi (fa.trans (mt_zg f3))⟩
  · obtain ⟨s, m, rC, rM⟩ := mt_rdB hs hg.1 q
    rw [q] at a1
    obtain ⟨T2, a2, e5, e6, f2⟩ := rC hs1 (b1 q)
    have hs2 := f2.st hs1
    have fa : mt_fr mt_Dz T (mt_pI T2 96 0 0) := ((mt_zf f1).trans (mt_zf f2)).trans (mt_fz0 0)
    have hsa := fa.st hs
    obtain ⟨T3, a3, b3, f3⟩ := mt_lfM hsa hg.1 ((fa.2 98 0 rfl).1.trans hR.1) ((fa.2 98 1 rfl).1.trans hR.2.1)
    rw [q] at a3
    have hs3 := f3.st hsa
    obtain ⟨T4, a4, e4, f4⟩ := rM hs3 (b3 q)
    have hs4 := f4.st hs3
    have c1 : f_X10_least 0 T = some (m, T2) := fw_t (T_K hs (by decide) rfl) (fw_b2 a1 (fw_f (by decide) (fw_b (T_rR hs1 (by decide) rfl rfl) (fw_b a2 (fw_b (T_rR hs2 (by decide) rfl rfl) (fw_b2 (fw_t (T_K hs2 (by decide) rfl) (fw_b (T_rL hs2 (by decide) rfl e6) rfl)) rfl))))))
    have c2 : f_X11_least 96 T2 = some (m, T4) := fw_t (T_K hs2 (by decide) rfl) (fw_b (T_wI hs2 0 (by decide) rfl) (fw_b2 a3 (fw_f (by decide) (fw_b2 a4 (fw_b (T_rL hs4 (by decide) rfl e4) rfl)))))
    exact ⟨T4, fw_b2 c1 (fw_b2 c2 (if_pos rfl)), mt_Inv_z hi ((fa.trans (mt_zg f3)).trans (mt_zg f4))⟩
