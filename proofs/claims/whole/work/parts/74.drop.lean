/-! unmark -/
theorem mt_sor_e : ∀ (l : List mt_P) (m : Nat), mt_sor l → mt_sor (l.eraseIdx m) := by
  intro l
  induction l with
  | nil => intro m h; exact h
  | cons x l ih =>
    intro m h
    cases m with
    | zero => exact h.2
    | succ m => exact ⟨fun y hy => h.1 y (List.mem_of_mem_eraseIdx hy), ih m h.2⟩
theorem mt_dropL (l : List mt_P) (m : Nat) (hm : m < l.length) (hl : l.length ≤ 16) : ∀ (r j f : Nat) (T : mt_S), mt_st T → j + r = l.length → m < j → r < f → T.2.2.1 11 3 = some (uI l.length) → (∀ i z, i < j - 1 → (l.eraseIdx m)[i]? = some z → mt_mk T 9 i z) → (∀ i z, j ≤ i → l[i]? = some z → mt_mk T 9 i z) → ∃ T', f_X3_drop_L13 f 11 (uI j) T = some T' ∧ (∀ i z, (l.eraseIdx m)[i]? = some z → mt_mk T' 9 i z) ∧ T'.2.2.1 11 3 = some (uI (l.length - 1)) ∧ mt_fr mt_Dp T T' := by
  intro r
  induction r with
  | zero =>
    intro j f T hs hj hmj hf e hA hB
    obtain ⟨f, rfl⟩ : ∃ g, f = g + 1 := ⟨f - 1, by omega⟩
    have hj : j = l.length := hj
    subst hj
    have g := (mt_fr.refl (fun k i => decide (k = 11) && decide (i = 3)) T).I 11 3 (uI (l.length - 1)) rfl
    refine ⟨mt_pI T 11 3 (uI (l.length - 1)), ?_, fun i z hz => ?_, mt_I_eq, g.mono (fun k i q => ?_)⟩
    · refine fw_b (T_rI hs (by decide) rfl e) (fw_t (by rw [uI_le (by omega) (by omega)]; omega) (fw_b (T_rI hs (by decide) rfl e) ?_))
      obtain ⟨n, hn⟩ : ∃ n, l.length = n + 1 := ⟨l.length - 1, by omega⟩
      rw [hn, uI_p, Nat.add_sub_cancel]
      exact fw_b (T_wI hs _ (by decide) rfl) rfl
    · have hi := mt_lt_of hz
      rw [List.length_eraseIdx_of_lt hm] at hi
      exact mt_mk_f g (by simp <;> omega) (by simp <;> omega) (by simp <;> omega) (hA i z hi hz)
    · unfold mt_Dp at q
      simp only [Bool.or_eq_false_iff, Bool.and_eq_false_iff, decide_eq_false_iff_not] at q ⊢; omega
  | succ r ih =>
    intro j f T hs hj hmj hf e hA hB
    obtain ⟨f, rfl⟩ : ∃ g, f = g + 1 := ⟨f - 1, by omega⟩
    have hjl : j < l.length := by omega
    have hjy : l[j]? = some l[j] := List.getElem?_eq_getElem hjl
    obtain ⟨n, rfl⟩ : ∃ n, j = n + 1 := ⟨j - 1, by omega⟩
    obtain ⟨T1, c1, c2, c3⟩ := mt_cR hs (a := 9) (b := 9) (mt_B_of (by decide)) (mt_B_of (by decide)) (m1 := n + 1) (m2 := n) (by omega) (by omega) (hB (n + 1) _ (Nat.le_refl _) hjy) (fun _ => by omega)
    obtain ⟨T2, d1, d2, d3, d4⟩ := ih (n + 1 + 1) f T1 (c3.st hs) (by omega) (by omega) (by omega) ((c3.2 11 3 (by simp [mt_DR])).1.trans e) (fun i z hi hz => by
        by_cases q : i = n
        · subst q
          rw [List.getElem?_eraseIdx_of_ge (by omega), hjy] at hz
          cases hz
          exact c2
        · exact mt_mk_f c3 (by simp [q]) (by simp [q]) (by simp [q]) (hA i z (by omega) hz)) (fun i z hi hz => mt_mk_f c3 (by simp <;> omega) (by simp <;> omega) (by simp <;> omega) (hB i z (by omega) hz))
    refine ⟨T2, ?_, d2, d3, (c3.mono (fun k i q => ?_)).trans d4⟩
    · refine fw_b (T_rI hs (by decide) rfl e) (fw_f (by rw [uI_le (by omega) (by omega)]; omega) ?_)
      rw [uI_p, uI_s]
      exact fw_b c1 d1
    · unfold mt_Dp at q
      simp only [Bool.or_eq_false_iff, Bool.and_eq_false_iff, decide_eq_false_iff_not, mt_DR] at q ⊢; omega
theorem mt_drop {T : mt_S} (hs : mt_st T) {x : mt_P} {l : List mt_P} (hl : l.length ≤ 16) {m : Nat} (hm : m < l.length) (hB : mt_blk T 9 (x, l)) : ∃ T', f_X3_drop 11 (uI m) T = some T' ∧ mt_blk T' 9 (x, l.eraseIdx m) ∧ mt_fr mt_Dp T T' := by
  have e : T.2.2.1 11 3 = some (uI l.length) := hB.2.1
  obtain ⟨T', a1, a2, a3, a4⟩ := mt_dropL l m hm hl (l.length - (m + 1)) (m + 1) 1000 T hs (by omega) (by omega) (by omega) e (fun i z hi hz => by
      rw [List.getElem?_eraseIdx_of_lt (by omega)] at hz
      exact hB.2.2 i z hz) (fun i z hi hz => hB.2.2 i z hz)
  refine ⟨T', ?_, ⟨fun j v hj => (a4.2 10 j rfl).1.trans (hB.1 j v hj), ?_, a2⟩, a4⟩
  · refine fw_t (T_K hs (by decide) rfl) (fw_b2 (mt_has1 hs hB (w := uI m) (fun q => ?_)) (fw_f (by decide) ?_))
    · rcases q with q | q
      · exact uI_nn (by omega) q
      · have q : uI l.length ≤ uI m := q
        rw [uI_le (by omega) (by omega)] at q; omega
    · rw [uI_s]; exact a1
  · show T'.2.2.1 11 3 = some (uI (l.eraseIdx m).length)
    rw [List.length_eraseIdx_of_lt hm]; exact a3
theorem uI_d (a : Nat) : (2 : Int32) * uI a = uI (2 * a) := by
  unfold uI; rw [Int32.ofNat_mul]; rfl
theorem uI_3 (a : Nat) : (3 : Int32) + uI a = uI (3 + a) := by
  unfold uI; rw [Int32.ofNat_add]; rfl
theorem uI_p2 (a : Nat) : uI a + 2 = uI (a + 2) := by
  unfold uI; rw [Int32.ofNat_add]; rfl
/-- the reference's loop: the slots behind move two down -/
theorem mt_unL (U : mt_S) (n b : Nat) (hn : n < 16) : ∀ (r i f : Nat) (T : mt_S), mt_st T → i + r = 2 * n → b ≤ i → r < f → T.2.2.1 98 2 = some (uI n) → mt_kn T → (∀ t, t < i → T.2.2.1 98 (3 + t) = U.2.2.1 98 (3 + (if t < b then t else t + 2))) → (∀ t, i ≤ t → T.2.2.1 98 (3 + t) = U.2.2.1 98 (3 + t)) → ∃ T', f_X11_unmark_L35 f 96 (uI i) T = some (0, T') ∧ (∀ t, t < 2 * n → T'.2.2.1 98 (3 + t) = U.2.2.1 98 (3 + (if t < b then t else t + 2))) ∧ mt_kn T' ∧ mt_fr (fun k j => decide (k = 98) && decide (3 ≤ j)) T T' := by
  intro r
  induction r with
  | zero =>
    intro i f T hs hi hb hf e hk hA hB
    obtain ⟨f, rfl⟩ : ∃ g, f = g + 1 := ⟨f - 1, by omega⟩
    have hi : i = 2 * n := hi
    subst hi
    refine ⟨T, fw_b (T_rR hs (by decide) rfl rfl) (fw_b (T_aI hs (j := 2) (by decide) rfl (n := 35) (by decide) (by decide) e) (fw_t ?_ rfl)), hA, hk, mt_fr.refl _ T⟩
    rw [uI_d, uI_le (by omega) (by omega)]; omega
  | succ r ih =>
    intro i f T hs hi hb hf e hk hA hB
    obtain ⟨f, rfl⟩ : ∃ g, f = g + 1 := ⟨f - 1, by omega⟩
    obtain ⟨v, hv⟩ := hk (3 + i + 2) (by omega)
    have g := (mt_fr.refl (fun k j => decide (k = 98) && decide (3 ≤ j)) T).I 98 (3 + i) v (by simp <;> omega)
    obtain ⟨T2, d1, d2, d3, d4⟩ := ih (i + 1) f (mt_pI T 98 (3 + i) v) hs (by omega) (by omega) (by omega) ((mt_I_ne (Or.inr (by omega))).trans e) (mt_kn_w hk) (fun t ht => by
        by_cases q : t = i
        · subst q
          rw [mt_I_eq, if_neg (by omega), ← hv, ← hB (t + 2) (by omega)]
          exact congrArg (fun z => T.2.2.1 98 z) (by omega)
        · rw [mt_I_ne (Or.inr (by omega))]; exact hA t (by omega)) (fun t ht => by rw [mt_I_ne (Or.inr (by omega))]; exact hB t (by omega))
    refine ⟨T2, fw_b (T_rR hs (by decide) rfl rfl) (fw_b (T_aI hs (j := 2) (by decide) rfl (n := 35) (by decide) (by decide) e) (fw_f ?_ (fw_b (T_rR hs (by decide) rfl rfl) (fw_b (T_rR hs (by decide) rfl rfl) ?_)))), d2, d3, g.trans d4⟩
    · rw [uI_d, uI_le (by omega) (by omega)]; omega
    · rw [uI_3, uI_p2, uI_s]
      exact fw_b (T_aI hs (by decide) rfl (n := 35) (by omega) (by decide) hv) (fw_b (T_sI hs v (by decide) rfl (n := 35) (by omega) (by decide)) d1)
theorem mt_e_g {x : mt_P} {l : List mt_P} (hg : mt_gC (x, l)) (m : Nat) : mt_gC (x, l.eraseIdx m) := by
  refine ⟨hg.1, fun y hy => hg.2.1 y (List.mem_of_mem_eraseIdx hy), ?_, mt_sor_e l m hg.2.2.2⟩
  have := List.length_eraseIdx_le l m
  have hl : l.length ≤ 16 := hg.2.2.1
  show (l.eraseIdx m).length ≤ 16
  omega
theorem mt_unM {T : mt_S} (hs : mt_st T) {x : mt_P} {l : List mt_P} (hl : l.length ≤ 16) {m : Nat} (hm : m < l.length) (hR : mt_row T 98 0 (x, l)) : ∃ T', (Option.bind (mt_rR T 96 11 3) fun v5 => Option.bind (mt_aI T v5 13 2) fun v6 => Option.bind (mt_sI T v5 13 2 (v6 - 1)) fun S7 => f_X11_unmark_L35 1000 96 (2 * uI m) S7) = some (0, T') ∧ mt_row T' 98 0 (x, l.eraseIdx m) ∧ mt_fr (fun k j => decide (k = 98) && decide (2 ≤ j)) T T' := by
  obtain ⟨r0, r1, r2, r3, r4⟩ := hR
  have r2 : T.2.2.1 98 2 = some (uI l.length) := r2
  have hk : mt_kn T := fun j hj => by have := r4 j hj; rwa [Nat.zero_add] at this
  obtain ⟨n, hn⟩ : ∃ n, l.length = n + 1 := ⟨l.length - 1, by omega⟩
  have g := (mt_fr.refl (fun k j => decide (k = 98) && decide (2 ≤ j)) T).I 98 2 (uI n) rfl
  obtain ⟨T', a1, a2, a3, a4⟩ := mt_unL T n (2 * m) (by omega) (2 * n - 2 * m) (2 * m) 1000 (mt_pI T 98 2 (uI n)) hs (by omega) (Nat.le_refl _) (by omega) mt_I_eq (mt_kn_w hk) (fun t ht => by rw [if_pos ht]; exact mt_I_ne (Or.inr (by omega))) (fun t ht => mt_I_ne (Or.inr (by omega)))
  have f := g.trans (a4.mono (fun k j q => by
    simp only [Bool.and_eq_false_iff, decide_eq_false_iff_not] at q ⊢; omega))
  refine ⟨T', ?_, ⟨(f.2 98 0 rfl).1.trans r0, (f.2 98 1 rfl).1.trans r1, ?_, fun i y hy => ?_, fun j hj => by rw [Nat.zero_add]; exact a3 j hj⟩, f⟩
  · refine fw_b (T_rR hs (by decide) rfl rfl) (fw_b (T_aI hs (j := 2) (by decide) rfl (n := 35) (by decide) (by decide) r2) ?_)
    rw [hn, uI_p, uI_d]
    exact fw_b (T_sI hs (j := 2) _ (by decide) rfl (n := 35) (by decide) (by decide)) a1
  · show T'.2.2.1 98 2 = some (uI (l.eraseIdx m).length)
    rw [List.length_eraseIdx_of_lt hm, hn, Nat.add_sub_cancel, (a4.2 98 2 rfl).1]; exact mt_I_eq
  · have hi : i < (l.eraseIdx m).length := mt_lt_of hy
    rw [List.length_eraseIdx_of_lt hm] at hi
    have s : ∀ t, t < 2 * n → T'.2.2.1 98 (3 + t) = T.2.2.1 98 (3 + (if t < 2 * m then t else t + 2)) := a2
    have s1 := s (2 * i) (by omega)
    have s2 := s (2 * i + 1) (by omega)
    have hy : (l.eraseIdx m)[i]? = some y := hy
    by_cases q : i < m
    · rw [List.getElem?_eraseIdx_of_lt q] at hy
      obtain ⟨u, v⟩ := r3 i y hy
      rw [if_pos (by omega)] at s1 s2
      rw [Nat.zero_add] at u v ⊢
      refine ⟨s1.trans u, ?_⟩
      rw [show 3 + (2 * i + 1) = 4 + 2 * i by omega] at s2
      rw [Nat.zero_add]
      exact s2.trans v
    · rw [List.getElem?_eraseIdx_of_ge (by omega)] at hy
      obtain ⟨u, v⟩ := r3 (i + 1) y hy
      rw [if_neg (by omega)] at s1 s2
      rw [Nat.zero_add] at u v ⊢
      rw [show 3 + (2 * i + 2) = 3 + 2 * (i + 1) by omega] at s1
      refine ⟨s1.trans u, ?_⟩
      rw [show 3 + (2 * i + 1) = 4 + 2 * i by omega, show 3 + (2 * i + 1 + 2) = 4 + 2 * (i + 1) by omega] at s2
      rw [Nat.zero_add]
      exact s2.trans v
theorem t_24 {T : mt_S} (hi : mt_Inv T) : ∃ S', l_24 T = some S' ∧ mt_Inv S' := by
  have hs := hi.1
  have hs0 : mt_st (mt_pI T 96 0 0) := hs
  obtain ⟨⟨x, l⟩, hg, hB, hR⟩ := hi.2.1
  have hl : l.length ≤ 16 := hg.2.2.1
  obtain ⟨nx, h, hh⟩ := hi.2.2.1
  obtain ⟨hgh, hC, hM⟩ := mt_hist.mp hh
  have hx : f_X3_indexOf 11 x.1 x.2.1 T = some (mt_ix x 0 l, T) := mt_idx hs hl hB x
  have pre : ∀ {z : Option (Int32 × mt_S)}, (if mt_ix x 0 l = (-1) then some (1, T) else Option.bind (mt_rR T 0 10 3) fun v16 => Option.bind (mt_rR T 0 10 2) fun v17 => Option.bind (f_X2_note v16 v17 T) fun S18 => Option.bind (mt_rR S18 0 10 2) fun v19 => mt_b2 (f_X5_marks v19 S18) fun v21 S20 => Option.bind (f_X3_drop v21 (mt_ix x 0 l) S20) fun S22 => Option.bind (mt_rR S22 0 10 3) fun v23 => Option.bind (f_X2_keep v23 S22) fun S24 => some (0, S24)) = z → f_X10_unmark 0 T = z := fun q =>
    fw_t (T_K hs (by decide) rfl) (fw_b (T_rR hs (by decide) rfl rfl) (fw_b2 (mt_mk9 hs) (fw_b (T_rR hs (by decide) rfl rfl) (fw_b2 (mt_pl9 hs) (fw_b2 (mt_p9 hs hg.1 hB) (fw_b (T_rR hs (by decide) rfl rfl) (fw_b2 (mt_pl9 hs) (fw_b2 (mt_q9 hs hg.1 hB) (fw_b2 hx q)))))))))
  rcases mt_ix_c (x := x) l 0 with q1 | ⟨m, hm, q1⟩
  · have R0 : mt_row (mt_pI T 96 0 0) 98 0 (x, l) := mt_row_f ((mt_fr.refl (fun k j => decide (k = 96) && decide (j = 0)) T).I 96 0 0 rfl) hl (fun _ _ => rfl) hR
    refine ⟨mt_pI T 96 0 0, ?_, mt_Inv_c hs (mt_thr (by decide +kernel)) hi⟩
    have c2 : f_X11_unmark 96 T = some (1, mt_pI T 96 0 0) := fw_t (T_K hs (by decide) rfl) (fw_b (T_wI hs 0 (by decide) rfl) (fw_b2 (mt_hereM hs0 hl R0) (fw_t q1 rfl)))
    exact fw_b2 (pre (fw_t q1 rfl)) (fw_b2 c2 (if_pos rfl))
  · rw [Nat.zero_add] at q1
    have q2 : ¬ mt_ix x 0 l = -1 := by rw [q1]; exact uI_n1 (by omega)
    obtain ⟨T1, a1, b1, n1, h1, f1⟩ := mt_note hs hg hB hC
    have hs1 := f1.st hs
    obtain ⟨T2, a2, b2, f2'⟩ := mt_drop hs1 hl hm b1
    have hs2 := f2'.st hs1
    have f2 : mt_fr mt_Dh T1 T2 := f2'.mono (fun k j q => by
      unfold mt_Dh at q
      simp only [Bool.or_eq_false_iff] at q; exact q.1.1)
    have h2 := mt_Dh_h f2 h1
    have n2 := mt_Dh_b f2 hC.1 n1
    obtain ⟨T3, a3, h3, f3⟩ := mt_kee hs2 n2 h2
    have hs3 := f3.st hs2
    have b3 : mt_blk T3 9 (x, l.eraseIdx m) := mt_blk_f f3 (fun i j _ _ => by simp; omega) b2
    have c1 : f_X10_unmark 0 T = some (0, T3) := by
      refine pre (fw_f q2 (fw_b (T_rR hs (by decide) rfl rfl) (fw_b (T_rR hs (by decide) rfl rfl) (fw_b a1 (fw_b (T_rR hs1 (by decide) rfl rfl) (fw_b2 (mt_mk9 hs1) ?_))))))
      rw [q1]
      exact fw_b a2 (fw_b (T_rR hs2 (by decide) rfl rfl) (fw_b a3 rfl))
    have f13 : mt_fr (fun k _ => decide (k = 0) || decide (k = 88) || (decide (9 < k) && decide (k ≤ 70))) T T3 := ((f1.mono (fun k j q => by
      have := hC.1
      simp only [Bool.or_eq_false_iff, Bool.and_eq_false_iff, decide_eq_false_iff_not] at q ⊢; omega)).trans (f2.mono (fun k j q => by
      unfold mt_Dh mt_Dp
      simp only [Bool.or_eq_false_iff, Bool.and_eq_false_iff, decide_eq_false_iff_not] at q ⊢; omega))).trans (f3.mono (fun k j q => by
      simp only [Bool.or_eq_false_iff, Bool.and_eq_false_iff, decide_eq_false_iff_not] at q ⊢; omega))
    have R3 : mt_row T3 98 0 (x, l) := mt_row_f f13 hl (fun _ _ => rfl) hR
    have M3 : mt_hM T3 h := mt_hM_f f13 hgh rfl (fun _ => rfl) hM
    have g0 := (mt_fr.refl (fun k j => decide (k = 96) && decide (j = 0)) T3).I 96 0 0 rfl
    have hs4 := g0.st hs3
    have R4 : mt_row (mt_pI T3 96 0 0) 98 0 (x, l) := mt_row_f g0 hl (fun _ _ => rfl) R3
    have M4 : mt_hM (mt_pI T3 96 0 0) h := mt_hM_f g0 hgh rfl (fun _ => rfl) M3
    obtain ⟨T5, a5, m5, f5⟩ := mt_snapH hs4 hC.2.1 hg hgh R4 M4
    have hs5 := f5.st hs4
    have R5 : mt_row T5 98 0 (x, l) := mt_row_f f5 hl (fun _ _ => rfl) R4
    obtain ⟨T6, a6, b6, f6⟩ := mt_unM hs5 hl hm R5
    have m6 : mt_hM T6 (mt_ad (x, l) h) := mt_hM_f f6 (mt_ad_g hg hgh) rfl (fun _ => rfl) m5
    have c2 : f_X11_unmark 96 T3 = some (0, T6) := by
      refine fw_t (T_K hs3 (by decide) rfl) (fw_b (T_wI hs3 0 (by decide) rfl) (fw_b2 (mt_hereM hs4 hl R4) (fw_f q2 (fw_b a5 ?_))))
      show (Option.bind (mt_rR T5 96 11 3) fun v5 => Option.bind (mt_aI T5 v5 13 2) fun v6 => Option.bind (mt_sI T5 v5 13 2 (v6 - 1)) fun S7 => f_X11_unmark_L35 1000 96 (2 * mt_ix x 0 l) S7) = _
      rw [q1]; exact a6
    have fM : mt_fr mt_DM T3 T6 := ((g0.mono (fun k j q => by
      unfold mt_DM at q
      simp only [Bool.or_eq_false_iff, Bool.and_eq_false_iff, decide_eq_false_iff_not] at q ⊢; omega)).trans (f5.mono (fun k j q => by
      unfold mt_DM at q
      simp only [Bool.or_eq_false_iff, Bool.and_eq_false_iff, decide_eq_false_iff_not] at q ⊢; omega))).trans (f6.mono (fun k j q => by
      unfold mt_DM at q
      simp only [Bool.or_eq_false_iff, Bool.and_eq_false_iff, decide_eq_false_iff_not] at q ⊢; omega))
    exact ⟨T6, fw_b2 c1 (fw_b2 c2 (if_pos rfl)), mt_join2 hi f13 fM (mt_e_g hg m) (mt_ad_g hg hgh) b3 h3 b6 m6⟩
