/-! copies: of rows, of blocks -/
theorem mt_cpL {a b o1 o2 na nb : Nat} (hab : a ≠ b) (ha : a < 109) (hb : b < 109) (sa : mt_shN a = (13, na)) (sb : mt_shN b = (13, nb)) (h1 : o1 + 35 ≤ na) (h2 : o2 + 35 ≤ nb) (hna : na < 1000) (hnb : nb < 1000) (U : mt_S) (hk : ∀ j, j < 35 → ∃ v, U.2.2.1 a (o1 + j) = some v) : ∀ (r m f : Nat) (T : mt_S), m + r = 35 → r < f → mt_st T → (∀ j, T.2.2.1 a j = U.2.2.1 a j) → (∀ j, j < m → T.2.2.1 b (o2 + j) = U.2.2.1 a (o1 + j)) → ∃ T', f_X11_copy_L3 f a (uI o1) b (uI o2) (uI m) T = some T' ∧ (∀ j, j < 35 → T'.2.2.1 b (o2 + j) = U.2.2.1 a (o1 + j)) ∧ mt_fr (fun k j => decide (k = b) && (decide (o2 ≤ j) && decide (j < o2 + 35))) T T' := by
  intro r
  induction r with
  | zero =>
    intro m f T hm hf hs hA hB
    obtain ⟨f, rfl⟩ : ∃ g, f = g + 1 := ⟨f - 1, by omega⟩
    refine ⟨T, ?_, fun j hj => hB j (by omega), mt_fr.refl _ T⟩
    show f_X11_copy_L3s (f_X11_copy_L3 f) a (uI o1) b (uI o2) (uI m) T = _
    exact fw_t (by rw [show (35 : Int32) = uI 35 from rfl, uI_le (by decide) (by omega)]; omega) rfl
  | succ r ih =>
    intro m f T hm hf hs hA hB
    obtain ⟨f, rfl⟩ : ∃ g, f = g + 1 := ⟨f - 1, by omega⟩
    obtain ⟨v, hv⟩ := hk m (by omega)
    have hs1 : mt_st (mt_pI T b (o2 + m) v) := hs
    have hA1 : ∀ j, (mt_pI T b (o2 + m) v).2.2.1 a j = U.2.2.1 a j := fun j => (mt_I_ne (Or.inl hab)).trans (hA j)
    have hB1 : ∀ j, j < m + 1 → (mt_pI T b (o2 + m) v).2.2.1 b (o2 + j) = U.2.2.1 a (o1 + j) := by
      intro j hj
      by_cases e : j = m
      · subst e; rw [mt_I_eq, hv]
      · rw [mt_I_ne (Or.inr (by omega))]; exact hB j (by omega)
    obtain ⟨T', e, q1, q2⟩ := ih (m + 1) f (mt_pI T b (o2 + m) v) (by omega) (by omega) hs1 hA1 hB1
    refine ⟨T', ?_, q1, (((mt_fr.refl _ T).I b (o2 + m) v (by simp; omega)).trans q2)⟩
    show f_X11_copy_L3s (f_X11_copy_L3 f) a (uI o1) b (uI o2) (uI m) T = _
    refine fw_f (by rw [show (35 : Int32) = uI 35 from rfl, uI_le (by decide) (by omega)]; omega) ?_
    rw [uI_a, uI_a, uI_s]
    exact fw_b (T_aI hs ha sa (by omega) (by omega) ((hA _).trans hv)) (fw_b (T_sI hs v hb sb (by omega) (by omega)) e)
theorem mt_cp35 {T : mt_S} (hs : mt_st T) {a b o1 o2 na nb : Nat} (hab : a ≠ b) (ha : a < 109) (hb : b < 109) (sa : mt_shN a = (13, na)) (sb : mt_shN b = (13, nb)) (h1 : o1 + 35 ≤ na) (h2 : o2 + 35 ≤ nb) (hna : na < 1000) (hnb : nb < 1000) (hk : ∀ j, j < 35 → ∃ v, T.2.2.1 a (o1 + j) = some v) : ∃ T', f_X11_copy a (uI o1) b (uI o2) T = some T' ∧ (∀ j, j < 35 → T'.2.2.1 b (o2 + j) = T.2.2.1 a (o1 + j)) ∧ mt_fr (fun k j => decide (k = b) && (decide (o2 ≤ j) && decide (j < o2 + 35))) T T' :=
  mt_cpL hab ha hb sa sb h1 h2 hna hnb T hk 35 0 1000 T rfl (by decide) hs (fun _ => rfl) (fun j hj => absurd hj (Nat.not_lt_zero j))
theorem uI_35 (n : Nat) : (35 : Int32) * uI n = uI (35 * n) := by
  unfold uI; rw [Int32.ofNat_mul]; rfl
/-- the end of snap -/
theorem mt_snE {T : mt_S} (hs : mt_st T) {n : Nat} (hn : n < 8) (e : T.2.2.1 96 9 = some (uI n)) (hk : ∀ j, j < 35 → ∃ v, T.2.2.1 98 (0 + j) = some v) {g : mt_S → Option mt_S} (hg : ∀ S, g S = Option.bind (mt_rR S 96 11 3) fun v10 => Option.bind (mt_rR S 96 11 5) fun v11 => Option.bind (mt_rI S 96 11 9) fun v12 => Option.bind (f_X11_copy v10 0 v11 (35 * v12) S) fun S13 => Option.bind (mt_rI S13 96 11 9) fun v14 => Option.bind (mt_wI S13 96 11 9 (v14 + 1)) fun S15 => some S15) : ∃ T', g T = some T' ∧ T'.2.2.1 96 9 = some (uI (n + 1)) ∧ (∀ j, j < 35 → T'.2.2.1 100 (35 * n + j) = T.2.2.1 98 (0 + j)) ∧ (∀ j, j < 35 * n → T'.2.2.1 100 j = T.2.2.1 100 j) ∧ mt_fr (fun k j => decide (k = 100) || (decide (k = 96) && decide (j = 9))) T T' := by
  obtain ⟨T1, c1, c2, c3⟩ := mt_cp35 hs (a := 98) (b := 100) (o1 := 0) (o2 := 35 * n) (by decide) (by decide) (by decide) rfl rfl (by decide) (by omega) (by decide) (by decide) hk
  have hs1 := c3.st hs
  have e1 : T1.2.2.1 96 9 = some (uI n) := (c3.2 96 9 rfl).1.trans e
  refine ⟨mt_pI T1 96 9 (uI (n + 1)), ?_, mt_I_eq, fun j hj => (mt_I_ne (Or.inl (by decide))).trans (c2 j hj), fun j hj => (mt_I_ne (Or.inl (by decide))).trans (c3.2 100 j (by simp; omega)).1, (c3.mono (fun k j h => ?_)).I 96 9 _ rfl⟩
  · rw [hg, ← uI_s]
    refine fw_b (T_rR hs (by decide) rfl rfl) (fw_b (T_rR hs (by decide) rfl rfl) (fw_b (T_rI hs (by decide) rfl e) ?_))
    rw [uI_35]
    exact fw_b c1 (fw_b (T_rI hs1 (by decide) rfl e1) (fw_b (T_wI hs1 _ (by decide) rfl) rfl))
  · simp only [Bool.or_eq_false_iff] at h
    rw [h.1]; rfl
theorem mt_snL (U : mt_S) (hk : ∀ j, j < 280 → ∃ v, U.2.2.1 100 j = some v) : ∀ (r m f : Nat) (T : mt_S), m + r = 245 → r < f → mt_st T → (∀ k j, k ≠ 100 → T.2.2.1 k j = U.2.2.1 k j) → (∀ j, j < m → T.2.2.1 100 j = U.2.2.1 100 (j + 35)) → (∀ j, m ≤ j → T.2.2.1 100 j = U.2.2.1 100 j) → ∃ T1, f_X11_snap_L11 f 96 (uI m) T = f_X11_snap_L11 (f - r) 96 (uI 245) T1 ∧ (∀ j, j < 245 → T1.2.2.1 100 j = U.2.2.1 100 (j + 35)) ∧ mt_fr (fun k _ => decide (k = 100)) T T1 := by
  intro r
  induction r with
  | zero =>
    intro m f T hm hf hs hK hA hB
    have hm : m = 245 := hm
    subst hm
    exact ⟨T, rfl, hA, mt_fr.refl _ T⟩
  | succ r ih =>
    intro m f T hm hf hs hK hA hB
    obtain ⟨f, rfl⟩ : ∃ g, f = g + 1 := ⟨f - 1, by omega⟩
    obtain ⟨v, hv⟩ := hk (m + 35) (by omega)
    have hv1 : T.2.2.1 100 (m + 35) = some v := (hB _ (by omega)).trans hv
    obtain ⟨T1, e, q1, q2⟩ := ih (m + 1) f (mt_pI T 100 m v) (by omega) (by omega) hs (fun k j h => (mt_I_ne (Or.inl h)).trans (hK k j h)) (fun j hj => by
      by_cases e : j = m
      · subst e; rw [mt_I_eq, hv]
      · rw [mt_I_ne (Or.inr e)]; exact hA j (by omega)) (fun j hj => by rw [mt_I_ne (Or.inr (by omega))]; exact hB j (by omega))
    refine ⟨T1, ?_, q1, ((mt_fr.refl _ T).I 100 m v rfl).trans q2⟩
    rw [show f + 1 - (r + 1) = f - r by omega, ← e]
    show f_X11_snap_L11s (f_X11_snap_L11 f) 96 (uI m) T = _
    refine fw_f (by rw [show (245 : Int32) = uI 245 from rfl, uI_le (by decide) (by omega)]; omega) (fw_b (T_rR hs (by decide) rfl rfl) (fw_b (T_rR hs (by decide) rfl rfl) ?_))
    rw [show (35 : Int32) = uI 35 from rfl, uI_a, uI_s]
    exact fw_b (T_aI hs (by decide) rfl (n := 280) (by omega) (by decide) hv1) (fw_b (T_sI hs v (by decide) rfl (n := 280) (by omega) (by decide)) rfl)
/-- snap: the newest row last -/
theorem mt_snap {T : mt_S} (hs : mt_st T) {n : Nat} (hn : n ≤ 8) (e : T.2.2.1 96 9 = some (uI n)) (hk : ∀ j, j < 35 → ∃ v, T.2.2.1 98 (0 + j) = some v) (hr : ∀ j, j < 35 * n → ∃ v, T.2.2.1 100 j = some v) : ∃ T', f_X11_snap 96 T = some T' ∧ T'.2.2.1 96 9 = some (uI (min (n + 1) 8)) ∧ (∀ j, j < 35 → T'.2.2.1 100 (35 * (min (n + 1) 8 - 1) + j) = T.2.2.1 98 (0 + j)) ∧ (∀ j, j < 35 * (min (n + 1) 8 - 1) → T'.2.2.1 100 j = T.2.2.1 100 (j + 35 * (n + 1 - min (n + 1) 8))) ∧ mt_fr (fun k j => decide (k = 100) || (decide (k = 96) && decide (j = 9))) T T' := by
  by_cases h8 : n = 8
  · subst h8
    obtain ⟨T1, e1, q1, q2⟩ := mt_snL T hr 245 0 1000 T rfl (by decide) hs (fun _ _ _ => rfl) (fun j hj => absurd hj (Nat.not_lt_zero j)) (fun _ _ => rfl)
    have hs1 := q2.st hs
    have e9 : T1.2.2.1 96 9 = some (uI 8) := (q2.2 96 9 rfl).1.trans e
    have f0 : mt_fr (fun k j => decide (k = 100) || (decide (k = 96) && decide (j = 9))) T (mt_pI T1 96 9 (uI 7)) := (q2.mono (fun k j h => by simp only [Bool.or_eq_false_iff] at h; exact h.1)).I 96 9 _ rfl
    obtain ⟨T2, c1, c2, c3, c4, c5⟩ := mt_snE (T := mt_pI T1 96 9 (uI 7)) hs1 (n := 7) (by decide) mt_I_eq (fun j hj => by rw [(f0.2 98 (0 + j) rfl).1]; exact hk j hj) (fun _ => rfl)
    refine ⟨T2, ?_, c2, fun j hj => (c3 j hj).trans (f0.2 98 (0 + j) rfl).1, fun j hj => ?_, f0.trans c5⟩
    · refine fw_t (T_K hs (by decide) rfl) (fw_b (T_rI hs (by decide) rfl e) (fw_t rfl ?_))
      rw [show (0 : Int32) = uI 0 from rfl, e1]
      show f_X11_snap_L11s (f_X11_snap_L11 754) 96 (uI 245) T1 = _
      exact fw_t (by decide) (fw_b (T_rI hs1 (by decide) rfl e9) (fw_b (T_wI hs1 _ (by decide) rfl) c1))
    · have hj : j < 35 * 7 := hj
      exact (c4 j hj).trans ((mt_I_ne (Or.inl (by decide))).trans (q1 j hj))
  · have hlt : n < 8 := by omega
    obtain ⟨T2, c1, c2, c3, c4, c5⟩ := mt_snE hs hlt e hk (g := fun S => Option.bind (mt_rR S 96 11 3) fun v10 => Option.bind (mt_rR S 96 11 5) fun v11 => Option.bind (mt_rI S 96 11 9) fun v12 => Option.bind (f_X11_copy v10 0 v11 (35 * v12) S) fun S13 => Option.bind (mt_rI S13 96 11 9) fun v14 => Option.bind (mt_wI S13 96 11 9 (v14 + 1)) fun S15 => some S15) (fun _ => rfl)
    have hm : min (n + 1) 8 = n + 1 := by omega
    rw [hm]
    refine ⟨T2, ?_, c2, c3, fun j hj => ?_, c5⟩
    · exact fw_t (T_K hs (by decide) rfl) (fw_b (T_rI hs (by decide) rfl e) (fw_f (by rw [show (8 : Int32) = uI 8 from rfl, uI_eq (by omega) (by decide)]; exact h8) c1))
    · rw [c4 j hj, Nat.sub_self, Nat.mul_zero, Nat.add_zero]
