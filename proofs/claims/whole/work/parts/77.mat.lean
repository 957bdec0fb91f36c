/-! the matrix: program and reference; triple, matrix -/
def mt_Dy (k j : Nat) : Bool := decide ((mt_shN k).2 ≤ j) || decide (k = 105)
theorem mt_lays2 {y : mt_P} (hy : y ∈ mt_PX) : (∀ {T : mt_S}, mt_st T → ∃ T', f_X9_setTo 88 y.1 y.2.1 T = some T' ∧ (∀ i, i < 4 → T'.2.2.2.1 88 i = some (mt_en y i)) ∧ mt_fr (fun k _ => decide (k = 88)) T T') ∧ (∀ {T : mt_S}, mt_st T → ∃ T', f_X11_laysMatrix 96 y.1 y.2.1 T = some T' ∧ (∀ i, i < 4 → T'.2.2.2.1 105 i = some (mt_en y i)) ∧ mt_fr mt_Dy T T') := by
  have q := List.all_eq_true.mp mt_chS_t y hy
  unfold mt_chS at q
  cases e : f_X9_setTo 88 y.1 y.2.1 (mt_m [88] (fun _ _ => none) (fun _ _ => none)) with
  | none => rw [e] at q; cases q
  | some S =>
    cases e2 : f_X11_laysMatrix 96 y.1 y.2.1 (mt_m [96, 105] mt_n2 mt_n6) with
    | none => rw [e, e2] at q; cases q
    | some S' =>
      rw [e, e2] at q
      obtain ⟨q, q3⟩ := (Bool.and_eq_true _ _).mp q
      obtain ⟨q1, q2⟩ := (Bool.and_eq_true _ _).mp q
      have q2 := of_decide_eq_true q2
      have eL : mt_enL y = [S.2.2.2.1 88 0, S.2.2.2.1 88 1, S.2.2.2.1 88 2, S.2.2.2.1 88 3] := by unfold mt_enL; rw [e]
      have k0 : ∀ i, i < 4 → S.2.2.2.1 88 i = some (mt_en y i) := by
        have z := List.all_eq_true.mp q1
        have g : ∀ (v : Option Int64), v.isSome = true → v = some (v.getD 0) := fun v h => by
          cases v with
          | none => cases h
          | some v => rfl
        intro i hi
        unfold mt_en
        rw [eL]
        match i, hi with
        | 0, _ => exact g _ (z _ (List.mem_cons_self))
        | 1, _ => exact g _ (z _ (List.mem_cons_of_mem _ (List.mem_cons_self)))
        | 2, _ => exact g _ (z _ (List.mem_cons_of_mem _ (List.mem_cons_of_mem _ (List.mem_cons_self))))
        | 3, _ => exact g _ (z _ (List.mem_cons_of_mem _ (List.mem_cons_of_mem _ (List.mem_cons_of_mem _ (List.mem_cons_self)))))
      have k1 : ∀ i, i < 4 → S'.2.2.2.1 105 i = some (mt_en y i) := by
        simp only [List.cons.injEq] at q2
        obtain ⟨r0, r1, r2, r3, -⟩ := q2
        intro i hi
        rw [← k0 i hi]
        match i, hi with
        | 0, _ => exact r0.symm
        | 1, _ => exact r1.symm
        | 2, _ => exact r2.symm
        | 3, _ => exact r3.symm
      refine ⟨fun {T} hs => ?_, fun {T} hs => ?_⟩
      · obtain ⟨a, b, c⟩ := mt_clV (f := f_X9_setTo 88 y.1 y.2.1) (fun _ _ _ hp h => (ov_X9_setTo hp h).1) (K := [88]) (i := fun _ _ => none) (l := fun _ _ => none) hs mt_n2_h mt_n6_h e
        exact ⟨_, a, fun i hi => mt_ovL (mt_vdm b c (by decide) (by decide) (by decide)) (k0 i hi), (mt_fr_ov c).mono (fun k j h => by
          have h := of_decide_eq_false h
          simp [h])⟩
      · obtain ⟨a, b, c⟩ := mt_clV (f := f_X11_laysMatrix 96 y.1 y.2.1) (fun _ _ _ hp h => (ov_X11_laysMatrix hp h).1) (K := [96, 105]) (i := mt_n2) (l := mt_n6) hs mt_n2_h mt_n6_h e2
        exact ⟨_, a, fun i hi => mt_ovL (mt_vdm b c (by decide) (by decide) (by decide)) (k1 i hi), (mt_fr_q c mt_n2_h mt_n6_h q3).mono (fun k j h => by
          unfold mt_Dy at h
          rw [Bool.or_eq_false_iff] at h ⊢
          exact ⟨h.1, by rw [h.2, Bool.and_false]⟩)⟩
theorem mt_PL_PX {x : mt_P} (hx : x ∈ mt_PL) : x ∈ mt_PX := List.mem_cons_of_mem _ (List.mem_cons_of_mem _ hx)
theorem mt_en1 {y : mt_P} (hy : y ∈ mt_PX) : mt_num y = mt_en y 1 := by
  have q := List.all_eq_true.mp mt_chS_t y hy
  unfold mt_chS at q
  unfold mt_num mt_en mt_enL
  cases e : f_X9_setTo 88 y.1 y.2.1 (mt_m [88] (fun _ _ => none) (fun _ _ => none)) with
  | none => rw [e] at q; cases q
  | some S => rfl
theorem mt_nmC {y : mt_P} (hy : y ∈ mt_PX) {T : mt_S} (hs : mt_st T) : ∃ T', f_X10_numberOf 0 y.1 y.2.1 T = some (mt_en y 1, T') ∧ (∀ i, i < 4 → T'.2.2.2.1 88 i = some (mt_en y i)) ∧ mt_fr (fun k _ => decide (k = 88)) T T' := by
  obtain ⟨T', a, b, f⟩ := (mt_lays2 hy).1 hs
  have hs1 := f.st hs
  exact ⟨T', fw_t (T_K hs (by decide) rfl) (fw_b (T_rR hs (by decide) rfl rfl) (fw_b a (fw_b (T_rR hs1 (by decide) rfl rfl) (fw_b2 (fw_t (T_K hs1 (by decide) rfl) (fw_t rfl (fw_f (by decide) (fw_b (T_rL hs1 (by decide) rfl (b 1 (by decide))) rfl)))) rfl)))), b, f⟩
theorem mt_nmM {y : mt_P} (hy : y ∈ mt_PX) {T : mt_S} (hs : mt_st T) : ∃ T', f_X11_numberOf 96 y.1 y.2.1 T = some (mt_en y 1, T') ∧ (∀ i, i < 4 → T'.2.2.2.1 105 i = some (mt_en y i)) ∧ mt_fr mt_Dy T T' := by
  obtain ⟨T', a, b, f⟩ := (mt_lays2 hy).2 hs
  have hs1 := f.st hs
  exact ⟨T', fw_t (T_K hs (by decide) rfl) (fw_b a (fw_b (T_rR hs1 (by decide) rfl rfl) (fw_b (T_aL hs1 (j := 1) (by decide) rfl (n := 4) (by decide) (by decide) (b 1 (by decide))) rfl))), b, f⟩
theorem mt_nhC {T : mt_S} (hs : mt_st T) {x : mt_P} {l : List mt_P} (hx : x ∈ mt_PL) (hB : mt_blk T 9 (x, l)) : ∃ T', f_X10_numberHere 0 T = some (mt_en x 1, T') ∧ (∀ i, i < 4 → T'.2.2.2.1 88 i = some (mt_en x i)) ∧ mt_fr (fun k _ => decide (k = 88)) T T' := by
  obtain ⟨T', a, b, f⟩ := mt_nmC (mt_PL_PX hx) hs
  exact ⟨T', fw_t (T_K hs (by decide) rfl) (fw_b (T_rR hs (by decide) rfl rfl) (fw_b2 (mt_pl9 hs) (fw_b2 (mt_p9 hs hx hB) (fw_b (T_rR hs (by decide) rfl rfl) (fw_b2 (mt_pl9 hs) (fw_b2 (mt_q9 hs hx hB) (fw_b2 a rfl))))))), b, f⟩
theorem mt_nhM {T : mt_S} (hs : mt_st T) {x : mt_P} (hx : x ∈ mt_PL) (e0 : T.2.2.1 98 0 = some x.1) (e1 : T.2.2.1 98 1 = some x.2.1) : ∃ T', f_X11_number 96 T = some (mt_en x 1, T') ∧ (∀ i, i < 4 → T'.2.2.2.1 105 i = some (mt_en x i)) ∧ mt_fr mt_Dy T T' := by
  obtain ⟨T', a, b, f⟩ := mt_nmM (mt_PL_PX hx) hs
  exact ⟨T', fw_t (T_K hs (by decide) rfl) (fw_b (T_rR hs (by decide) rfl rfl) (fw_b (T_aI hs (j := 0) (by decide) rfl (n := 35) (by decide) (by decide) e0) (fw_b (T_rR hs (by decide) rfl rfl) (fw_b (T_aI hs (j := 1) (by decide) rfl (n := 35) (by decide) (by decide) e1) (fw_b2 a rfl))))), b, f⟩
/-- the two beside a place have words -/
theorem mt_bsQ : mt_PL.all (fun x => mt_PX.any (fun y => decide (y.1 = x.2.2.1) && decide (y.2.1 = x.2.2.2.1)) && mt_PX.any (fun y => decide (y.1 = x.2.2.2.2.1) && decide (y.2.1 = x.2.2.2.2.2.1))) = true := by decide +kernel
theorem mt_bs {x : mt_P} (hx : x ∈ mt_PL) : (∃ y ∈ mt_PX, y.1 = x.2.2.1 ∧ y.2.1 = x.2.2.2.1) ∧ ∃ y ∈ mt_PX, y.1 = x.2.2.2.2.1 ∧ y.2.1 = x.2.2.2.2.2.1 := by
  have q := List.all_eq_true.mp mt_bsQ x hx
  simp only [Bool.and_eq_true, List.any_eq_true, decide_eq_true_eq] at q
  obtain ⟨⟨y, a, b, c⟩, ⟨z, d, e, f⟩⟩ := q
  exact ⟨⟨y, a, b, c⟩, ⟨z, d, e, f⟩⟩
theorem mt_z88 {T T' : mt_S} (f : mt_fr (fun k _ => decide (k = 88)) T T') : mt_fr mt_Dz T T' := f.mono (fun k j q => by
  unfold mt_Dz at q
  simp only [Bool.or_eq_false_iff, Bool.and_eq_false_iff, decide_eq_false_iff_not] at q ⊢; omega)
theorem mt_zm {T T' : mt_S} (f : mt_fr mt_Dy T T') : mt_fr mt_Dz T T' := f.mono (fun k j q => by
  unfold mt_Dz at q
  unfold mt_Dy
  simp only [Bool.or_eq_false_iff, Bool.and_eq_false_iff, decide_eq_false_iff_not] at q ⊢; omega)
theorem mt_zw {T T' : mt_S} (f : mt_fr mt_Dw T T') : mt_fr mt_Dz T T' := f.mono (fun k j q => by
  unfold mt_Dz at q
  unfold mt_Dw
  simp only [Bool.or_eq_false_iff, Bool.and_eq_false_iff, decide_eq_false_iff_not] at q ⊢
  by_cases h96 : k = 96
  · have : (mt_shN k).2 = 39 := by rw [h96]; rfl
    omega
  · by_cases h98 : k = 98
    · have : (mt_shN k).2 = 35 := by rw [h98]; rfl
      omega
    · omega)
/-- the end of a turn that may throw: not thrown -/
theorem mt_thE {T1 T3 : mt_S} {v : Int64} (hs3 : mt_st T3) (e0 : T3.2.2.1 96 0 = some 0) (eo : T3.2.2.2.1 108 0 = some v) : (mt_b2 (f_X11_thrown 96 T3) fun v6 S5 => if v6 = (0 : Int32) then if (0 : Int32) = 0 then Option.bind (mt_aL S5 108 0) fun v7 => if v7 = v then some S5 else none else some S5 else none) = some T3 :=
  fw_b2 (fw_t (T_K hs3 (by decide) rfl) (fw_b (T_rI hs3 (by decide) rfl e0) rfl)) (fw_t rfl (fw_t rfl (fw_b (T_aL hs3 (j := 0) (by decide) rfl (n := 1) (by decide) (by decide) eo) (fw_t rfl rfl))))
theorem mt_thT {T3 : mt_S} {v : Int64} (hs3 : mt_st T3) (e0 : T3.2.2.1 96 0 = some 1) : (mt_b2 (f_X11_thrown 96 T3) fun v6 S5 => if v6 = (1 : Int32) then if (1 : Int32) = 0 then Option.bind (mt_aL S5 108 0) fun v7 => if v7 = v then some S5 else none else some S5 else none) = some T3 :=
  fw_b2 (fw_t (T_K hs3 (by decide) rfl) (fw_b (T_rI hs3 (by decide) rfl e0) rfl)) (fw_t rfl (fw_f (by decide) rfl))
theorem mt_rf1 {T : mt_S} (hs : mt_st T) : f_X11_refuse 96 T = some (0, mt_pI T 96 0 1) := fw_t (T_K hs (by decide) rfl) (fw_b (T_wI hs 1 (by decide) rfl) rfl)
theorem t_9 {T : mt_S} (w : Int32) (hi : mt_Inv T) : ∃ S', l_9 w T = some S' ∧ mt_Inv S' := by
  have hs := hi.1
  obtain ⟨⟨x, l⟩, hg, hB, hR⟩ := hi.2.1
  have hl : l.length ≤ 16 := hg.2.2.1
  obtain ⟨⟨y0, hy0, p0, q0⟩, ⟨y1, hy1, p1, q1⟩⟩ := mt_bs hg.1
  have lo : ∀ {T : mt_S}, mt_st T → mt_blk T 9 (x, l) → f_X4_lowP 10 T = some (x.2.2.1, T) ∧ f_X4_lowQ 10 T = some (x.2.2.2.1, T) ∧ f_X4_highP 10 T = some (x.2.2.2.2.1, T) ∧ f_X4_highQ 10 T = some (x.2.2.2.2.2.1, T) := fun hs hB => ⟨fw_t (T_K hs (by decide) rfl) (fw_b (T_rI hs (by decide) rfl (hB.1 0 _ rfl)) rfl), fw_t (T_K hs (by decide) rfl) (fw_b (T_rI hs (by decide) rfl (hB.1 1 _ rfl)) rfl), fw_t (T_K hs (by decide) rfl) (fw_b (T_rI hs (by decide) rfl (hB.1 2 _ rfl)) rfl), fw_t (T_K hs (by decide) rfl) (fw_b (T_rI hs (by decide) rfl (hB.1 3 _ rfl)) rfl)⟩
  obtain ⟨lo1, lo2, lo3, lo4⟩ := lo hs hB
  /- the reference's lays -/
  have lay : ∀ {T1 : mt_S}, mt_st T1 → mt_fr mt_Dz T T1 → ∃ T2, f_X11_lays 96 (mt_pI T1 96 0 0) = some T2 ∧ (∀ j v, (mt_cm x)[j]? = some v → T2.2.2.1 96 (10 + j) = some v) ∧ T2.2.2.1 98 0 = some x.1 ∧ T2.2.2.1 98 1 = some x.2.1 ∧ T2.2.2.1 96 0 = some 0 ∧ mt_fr mt_Dw (mt_pI T1 96 0 0) T2 := fun {T1} hs1 f1 => by
    have r0 : T1.2.2.1 98 0 = some x.1 := (f1.2 98 0 rfl).1.trans hR.1
    have r1 : T1.2.2.1 98 1 = some x.2.1 := (f1.2 98 1 rfl).1.trans hR.2.1
    obtain ⟨T2, a2, b2, f2⟩ := mt_lays (T := mt_pI T1 96 0 0) hs1 hg.1 ((mt_I_ne (Or.inl (by decide))).trans r0) ((mt_I_ne (Or.inl (by decide))).trans r1)
    exact ⟨T2, a2, b2, (f2.2 98 0 rfl).1.trans ((mt_I_ne (Or.inl (by decide))).trans r0), (f2.2 98 1 rfl).1.trans ((mt_I_ne (Or.inl (by decide))).trans r1), (f2.2 96 0 rfl).1.trans mt_I_eq, f2⟩
  have fz0 : ∀ {T1 : mt_S} (v : Int32), mt_fr mt_Dz T1 (mt_pI T1 96 0 v) := fun v => (mt_fr.refl _ _).I 96 0 v rfl
  have fz8 : ∀ {T1 : mt_S} (v : Int64), mt_fr mt_Dz T1 (mt_pL T1 108 0 v) := fun v => (mt_fr.refl _ _).L 108 0 v rfl
  /- both tell v -/
  have both : ∀ (v : Int64) (T1 : mt_S), f_X10_triple 0 w T = some (v, T1) → mt_fr (fun k _ => decide (k = 88)) T T1 → (∀ T2 : mt_S, mt_st T2 → (∀ j u, (mt_cm x)[j]? = some u → T2.2.2.1 96 (10 + j) = some u) → T2.2.2.1 98 0 = some x.1 → T2.2.2.1 98 1 = some x.2.1 → ∃ T3, (if w = 0 then Option.bind (mt_rI T2 96 11 10) fun v3 => Option.bind (mt_rI T2 96 11 11) fun v4 => mt_b2 (f_X11_numberOf 96 v3 v4 T2) fun v6 S5 => some (v6, S5) else if w = 1 then Option.bind (mt_rI T2 96 11 12) fun v7 => Option.bind (mt_rI T2 96 11 13) fun v8 => mt_b2 (f_X11_numberOf 96 v7 v8 T2) fun v10 S9 => some (v10, S9) else if w = 2 then mt_b2 (f_X11_number 96 T2) fun v12 S11 => some (v12, S11) else mt_b2 (f_X11_refuse 96 T2) fun v14 S13 => some (v14.toInt64, S13)) = some (v, T3) ∧ mt_fr mt_Dy T2 T3) → ∃ S', l_9 w T = some S' ∧ mt_Inv S' := fun v T1 c1 f1 mo => by
    have hs1 := f1.st hs
    have fa : mt_fr mt_Dz T (mt_pL T1 108 0 v) := (mt_z88 f1).trans (fz8 v)
    have hsa := fa.st hs
    have h1 : h_triple 0 w 108 T = some (0, mt_pL T1 108 0 v) := by
      unfold h_triple
      rw [c1]
      exact fw_b (T_sL hs1 (j := 0) v (by decide) rfl (n := 1) (by decide) (by decide)) rfl
    obtain ⟨T2, a2, b2, r0, r1, t0, f2⟩ := lay hsa fa
    have hs2 := f2.st (fz0 (T1 := mt_pL T1 108 0 v) 0 |>.st hsa)
    obtain ⟨T3, a3, f3⟩ := mo T2 hs2 b2 r0 r1
    have hs3 := f3.st hs2
    have c2 : f_X11_triple 96 w (mt_pL T1 108 0 v) = some (v, T3) := fw_t (T_K hsa (by decide) rfl) (fw_b (T_wI hsa 0 (by decide) rfl) (fw_b a2 a3))
    have fb : mt_fr mt_Dz T T3 := ((fa.trans (fz0 0)).trans (mt_zw f2)).trans (mt_zm f3)
    have eo : T3.2.2.2.1 108 0 = some v := (f3.2 108 0 rfl).2.trans ((f2.2 108 0 rfl).2.trans mt_L_eq)
    exact ⟨T3, fw_b2 h1 (fw_b2 c2 (mt_thE (T1 := T1) hs3 ((f3.2 96 0 rfl).1.trans t0) eo)), mt_Inv_z hi fb⟩
  by_cases w0 : w = 0
  · obtain ⟨T1, a1, -, f1⟩ := mt_nmC hy0 hs
    rw [p0, q0] at a1
    refine both _ T1 (fw_t (T_K hs (by decide) rfl) (fw_b (T_rR hs (by decide) rfl rfl) (fw_b2 (mt_pl9 hs) (fw_t w0 (fw_b2 lo1 (fw_b2 lo2 (fw_b2 a1 rfl))))))) f1 (fun T2 hs2 b2 _ _ => ?_)
    obtain ⟨T3, a3, -, f3⟩ := mt_nmM hy0 hs2
    rw [p0, q0] at a3
    exact ⟨T3, fw_t w0 (fw_b (T_rI hs2 (by decide) rfl (b2 0 _ rfl)) (fw_b (T_rI hs2 (by decide) rfl (b2 1 _ rfl)) (fw_b2 a3 rfl))), f3⟩
  · by_cases w1 : w = 1
    · obtain ⟨T1, a1, -, f1⟩ := mt_nmC hy1 hs
      rw [p1, q1] at a1
      refine both _ T1 (fw_t (T_K hs (by decide) rfl) (fw_b (T_rR hs (by decide) rfl rfl) (fw_b2 (mt_pl9 hs) (fw_f w0 (fw_t w1 (fw_b2 lo3 (fw_b2 lo4 (fw_b2 a1 rfl)))))))) f1 (fun T2 hs2 b2 _ _ => ?_)
      obtain ⟨T3, a3, -, f3⟩ := mt_nmM hy1 hs2
      rw [p1, q1] at a3
      exact ⟨T3, fw_f w0 (fw_t w1 (fw_b (T_rI hs2 (by decide) rfl (b2 2 _ rfl)) (fw_b (T_rI hs2 (by decide) rfl (b2 3 _ rfl)) (fw_b2 a3 rfl)))), f3⟩
    · by_cases w2 : w = 2
      · obtain ⟨T1, a1, -, f1⟩ := mt_nhC hs hg.1 hB
        refine both _ T1 (fw_t (T_K hs (by decide) rfl) (fw_b (T_rR hs (by decide) rfl rfl) (fw_b2 (mt_pl9 hs) (fw_f w0 (fw_f w1 (fw_t w2 (fw_b2 a1 rfl))))))) f1 (fun T2 hs2 b2 r0 r1 => ?_)
        obtain ⟨T3, a3, -, f3⟩ := mt_nhM hs2 hg.1 r0 r1
        exact ⟨T3, fw_f w0 (fw_f w1 (fw_t w2 (fw_b2 a3 rfl))), f3⟩
      · have c0 : f_X10_triple 0 w T = none := fw_t (T_K hs (by decide) rfl) (fw_b (T_rR hs (by decide) rfl rfl) (fw_b2 (mt_pl9 hs) (fw_f w0 (fw_f w1 (fw_f w2 rfl)))))
        have c1 : x_X10_triple 0 w T = some T := fw_t (T_K hs (by decide) rfl) (fw_b (T_rR hs (by decide) rfl rfl) (fw_b2 (mt_pl9 hs) (fw_f w0 (fw_f w1 (fw_f w2 rfl)))))
        have h1 : h_triple 0 w 108 T = some (1, T) := by
          unfold h_triple
          rw [c0]
          exact fw_b c1 rfl
        obtain ⟨T2, a2, b2, r0, r1, t0, f2⟩ := lay hs (mt_fr.refl _ T)
        have hs2 := f2.st (fz0 (T1 := T) 0 |>.st hs)
        have c2 : f_X11_triple 96 w T = some (0, mt_pI T2 96 0 1) := fw_t (T_K hs (by decide) rfl) (fw_b (T_wI hs 0 (by decide) rfl) (fw_b a2 (fw_f w0 (fw_f w1 (fw_f w2 (fw_b2 (mt_rf1 hs2) rfl))))))
        exact ⟨mt_pI T2 96 0 1, fw_b2 h1 (fw_b2 c2 (mt_thT (T3 := mt_pI T2 96 0 1) hs2 mt_I_eq)), mt_Inv_z hi (((fz0 0).trans (mt_zw f2)).trans (fz0 1))⟩
