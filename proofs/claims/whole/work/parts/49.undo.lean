/-! undo, image, restore -/
def mt_hC (T : mt_S) (nx : Nat) (h : List mt_C) : Prop := nx < 9 ∧ h.length ≤ 8 ∧ T.2.2.1 15 1 = some (uI nx) ∧ T.2.2.1 15 2 = some (uI h.length) ∧ ∀ m c, h[m]? = some c → mt_blk T (mt_rg nx m) c
def mt_hM (T : mt_S) (h : List mt_C) : Prop := T.2.2.1 96 9 = some (uI h.length) ∧ ∀ m c, h[m]? = some c → mt_row T 100 (35 * (h.length - 1 - m)) c
def mt_gH (h : List mt_C) : Prop := ∀ (m : Nat) (c : mt_C), h[m]? = some c → mt_gC c
theorem mt_hist {T : mt_S} {nx : Nat} {h : List mt_C} : mt_iHist T nx h ↔ mt_gH h ∧ mt_hC T nx h ∧ mt_hM T h := by
  constructor
  · intro q
    obtain ⟨a, b, c1, c2, c3, d⟩ := q
    exact ⟨fun m c hm => (d m c hm).1, ⟨a, b, c1, c2, fun m c hm => (d m c hm).2.1⟩, c3, fun m c hm => (d m c hm).2.2⟩
  · intro q
    obtain ⟨g, ⟨a, b, c1, c2, d⟩, c3, e⟩ := q
    exact ⟨a, b, c1, c2, c3, fun m c hm => ⟨g m c hm, d m c hm, e m c hm⟩⟩
def mt_DAc (k : Nat) : Bool := (decide (9 ≤ k) && decide (k ≤ 84)) || decide (k = 88) || decide (k = 89) || (decide (98 ≤ k) && decide (k ≤ 106)) || decide (k = 108)
def mt_DA (k j : Nat) : Bool := mt_DAc k || (decide (k = 96) && (decide (j ≠ 2) && (decide (j ≠ 30) && decide (j ≠ 33))))
theorem mt_DA_p {k j p : Nat} (hp : p = 4 ∨ p = 5 ∨ p = 6 ∨ p = 7) (h : mt_pc k j = p) : mt_DA k j = false := by
  by_cases h96 : k = 96
  · subst h96
    unfold mt_pc at h
    rw [if_pos rfl] at h
    unfold mt_DA
    by_cases h9 : j = 9
    · rw [if_pos h9] at h; omega
    · rw [if_neg h9] at h
      by_cases h2 : j = 2
      · subst h2; rfl
      · rw [if_neg h2] at h
        by_cases h3 : j = 30
        · subst h3; rfl
        · rw [if_neg h3] at h
          by_cases h33 : j = 33
          · subst h33; rfl
          · rw [if_neg h33] at h; omega
  · have e : mt_DA k j = mt_DAc k := by unfold mt_DA; simp [h96]
    rw [e]
    by_cases h3 : k = 3
    · subst h3; rfl
    · unfold mt_pc at h
      rw [if_neg h96, if_neg h3] at h
      by_cases hk : k < 109
      · have q : ∀ k, k < 109 → mt_DAc k = true → mt_pcT.getD k 0 < 4 := by decide +kernel
        cases hd : mt_DAc k with
        | false => rfl
        | true => have := q k hk hd; omega
      · unfold mt_DAc
        simp only [Bool.or_eq_false_iff, Bool.and_eq_false_iff, decide_eq_false_iff_not]; omega
/-- the place, the history and the images anew -/
theorem mt_Inv_A {T T' : mt_S} (hi : mt_Inv T) (hf : mt_fr mt_DA T T') (h1 : ∃ c, mt_iCur T' c) (h2 : ∃ nx h, mt_iHist T' nx h) (h3 : mt_iIm T') : mt_Inv T' := by
  obtain ⟨hs, -, -, -, ⟨n4, h4⟩, ⟨n5, h5⟩, h6, h7⟩ := hi
  have sp : ∀ p, (p = 4 ∨ p = 5 ∨ p = 6 ∨ p = 7) → mt_sp p T T' := fun p hp => hf.sp p (fun k j h => mt_DA_p hp h)
  exact ⟨hf.st hs, h1, h2, h3, ⟨n4, mt_iTape_c (sp 4 (by decide)) h4⟩, ⟨n5, mt_iText_c (sp 5 (by decide)) h5⟩, mt_iFault_c (sp 6 (by decide)) h6, mt_iTab_c (sp 7 (by decide)) h7⟩
theorem mt_blk_f {D : Nat → Nat → Bool} {T T' : mt_S} {k : Nat} {c : mt_C} (hf : mt_fr D T T') (hD : ∀ i j, 1 ≤ i → i ≤ 5 → D (k + i) j = false) (h : mt_blk T k c) : mt_blk T' k c := by
  obtain ⟨a, b, d⟩ := h
  refine ⟨fun j v hj => (hf.2 _ j (hD 1 j (by decide) (by decide))).1.trans (a j v hj), (hf.2 _ 3 (hD 2 3 (by decide) (by decide))).1.trans b, fun m y hm => ?_⟩
  obtain ⟨x, y, z⟩ := d m y hm
  exact ⟨(hf.2 _ m (hD 3 m (by decide) (by decide))).2.trans x, (hf.2 _ m (hD 4 m (by decide) (by decide))).1.trans y, (hf.2 _ m (hD 5 m (by decide) (by decide))).1.trans z⟩
theorem mt_row_f {D : Nat → Nat → Bool} {T T' : mt_S} {a o : Nat} {c : mt_C} (hf : mt_fr D T T') (hl : c.2.length ≤ 16) (hD : ∀ j, j < 35 → D a (o + j) = false) (h : mt_row T a o c) : mt_row T' a o c := mt_row_c hl (fun j hj => (hf.2 a _ (hD j hj)).1) h
theorem mt_nxb : ∀ nx, nx < 9 → (((uI nx + 9) - 1) - ((uI nx + 9) - 1) / 9 * 9) = uI ((nx + 8) % 9) := by decide +kernel
theorem mt_nxf : ∀ nx, nx < 9 → ((uI nx + 1) - (uI nx + 1) / 9 * 9) = uI ((nx + 1) % 9) := by decide +kernel
theorem mt_RN16 : ∀ r, r < 9 → mt_RN 16 r = some (17 + 6 * r) := by decide +kernel
theorem mt_rgB : ∀ r, r < 9 → 17 + 6 * r ∈ mt_BL := by decide +kernel
/-- the program's undo -/
theorem mt_undoC {T : mt_S} (hs : mt_st T) {nx : Nat} {c : mt_C} {h : List mt_C} (hg : mt_gC c) (hh : mt_hC T nx (c :: h)) : ∃ T', f_X10_undo 0 T = some (uI h.length, T') ∧ mt_blk T' 9 c ∧ mt_hC T' ((nx + 8) % 9) h ∧ mt_fr (fun k j => (decide (k = 15) && (decide (j = 1) || decide (j = 2))) || (decide (9 < k) && decide (k ≤ 14))) T T' := by
  obtain ⟨a, b, c1, c2, d⟩ := hh
  have c2 : T.2.2.1 15 2 = some (uI (h.length + 1)) := c2
  have b : h.length + 1 ≤ 8 := b
  have hr : (nx + 8) % 9 < 9 := Nat.mod_lt _ (by decide)
  have g1 := ((mt_fr.refl (fun k j => decide (k = 15) && (decide (j = 1) || decide (j = 2))) T).I 15 1 (uI ((nx + 8) % 9)) rfl).I 15 2 (uI h.length) rfl
  have e0 : mt_rg nx 0 = 17 + 6 * ((nx + 8) % 9) := rfl
  have hb0 : mt_blk (mt_pI (mt_pI T 15 1 (uI ((nx + 8) % 9))) 15 2 (uI h.length)) (17 + 6 * ((nx + 8) % 9)) c := by
    have := d 0 c rfl
    rw [e0] at this
    exact mt_blk_f g1 (fun i j _ _ => by simp; omega) this
  obtain ⟨T2, k1, k2, k3⟩ := mt_cB (T := mt_pI (mt_pI T 15 1 (uI ((nx + 8) % 9))) 15 2 (uI h.length)) hs (a := 9) (by decide) (mt_rgB _ hr) (by omega) hg.2.2.1 hb0
  have f15 : ∀ j, T2.2.2.1 15 j = (mt_pI (mt_pI T 15 1 (uI ((nx + 8) % 9))) 15 2 (uI h.length)).2.2.1 15 j := fun j => (k3.2 15 j rfl).1
  have e1 : T2.2.2.1 15 1 = some (uI ((nx + 8) % 9)) := (f15 1).trans ((mt_I_ne (Or.inr (by decide))).trans mt_I_eq)
  have e2 : T2.2.2.1 15 2 = some (uI h.length) := (f15 2).trans mt_I_eq
  refine ⟨T2, ?_, k2, ⟨hr, by omega, e1, e2, fun m x hm => ?_⟩, (g1.mono (fun k j q => ?_)).trans (k3.mono (fun k j q => ?_))⟩
  · have t1 : f_X2_takeBack 15 9 T = some (1, T2) := by
      refine fw_t (T_K hs (by decide) rfl) (fw_b (T_rI hs (by decide) rfl c2) (fw_f (by rw [show (0 : Int32) = uI 0 from rfl, uI_eq (by omega) (by decide)]; omega) (fw_b (T_rI hs (by decide) rfl c1) ?_)))
      rw [mt_nxb nx a]
      refine fw_b (T_wI hs _ (by decide) rfl) (fw_b (T_rI (T := mt_pI T 15 1 _) hs (by decide) rfl ((mt_I_ne (Or.inr (by decide))).trans c2)) ?_)
      rw [uI_p]
      refine fw_b (T_wI (T := mt_pI T 15 1 _) hs _ (by decide) rfl) (fw_b (T_rR (T := mt_pI (mt_pI T 15 1 _) 15 2 _) hs (by decide) rfl rfl) (fw_b (T_rI (T := mt_pI (mt_pI T 15 1 _) 15 2 _) hs (by decide) rfl ((mt_I_ne (Or.inr (by decide))).trans mt_I_eq)) ?_))
      exact fw_b (T_aR (T := mt_pI (mt_pI T 15 1 _) 15 2 _) hs (by decide) rfl (n := 9) hr (by decide) (mt_RN16 _ hr)) (fw_b k1 rfl)
    have hs2 := k3.st (T := mt_pI (mt_pI T 15 1 (uI ((nx + 8) % 9))) 15 2 (uI h.length)) hs
    exact fw_t (T_K hs (by decide) rfl) (fw_b (T_rR hs (by decide) rfl rfl) (fw_b (T_rR hs (by decide) rfl rfl) (fw_b2 t1 (fw_f (by decide) (fw_b (T_rR hs2 (by decide) rfl rfl) (fw_b2 (fw_t (T_K hs2 (by decide) rfl) (fw_b (T_rI hs2 (by decide) rfl e2) rfl)) rfl))))))
  · have hm' := mt_lt_of hm
    have hx := d (m + 1) x hm
    have er : mt_rg ((nx + 8) % 9) m = mt_rg nx (m + 1) := by unfold mt_rg; omega
    rw [er]
    have hge : 17 ≤ mt_rg nx (m + 1) := by unfold mt_rg; omega
    exact mt_blk_f k3 (fun i j _ _ => by simp; omega) (mt_blk_f g1 (fun i j _ _ => by simp; omega) hx)
  · simp only [Bool.or_eq_false_iff] at q; exact q.1
  · simp only [Bool.or_eq_false_iff] at q; exact q.2
/-- the reference's -/
theorem mt_undoM {T : mt_S} (hs : mt_st T) {c : mt_C} {h : List mt_C} (hl : h.length + 1 ≤ 8) (hg : mt_gC c) (hg2 : mt_gH h) (hh : mt_hM T (c :: h)) : ∃ T', f_X11_undo 96 T = some (uI h.length, T') ∧ mt_row T' 98 0 c ∧ mt_hM T' h ∧ mt_fr (fun k j => (decide (k = 96) && (decide (j = 0) || decide (j = 9))) || decide (k = 98)) T T' := by
  obtain ⟨c2, d⟩ := hh
  have c2 : T.2.2.1 96 9 = some (uI (h.length + 1)) := c2
  have g1 := ((mt_fr.refl (fun k j => decide (k = 96) && (decide (j = 0) || decide (j = 9))) T).I 96 0 0 rfl).I 96 9 (uI h.length) rfl
  have r0 : mt_row T 100 (35 * h.length) c := d 0 c rfl
  have r1 : mt_row (mt_pI (mt_pI T 96 0 0) 96 9 (uI h.length)) 100 (35 * h.length) c := mt_row_f g1 hg.2.2.1 (fun _ _ => rfl) r0
  obtain ⟨T2, k1, k2, k3⟩ := mt_cp35 (T := mt_pI (mt_pI T 96 0 0) 96 9 (uI h.length)) hs (a := 100) (b := 98) (o1 := 35 * h.length) (o2 := 0) (na := 280) (nb := 35) (by decide) (by decide) (by decide) rfl rfl (by omega) (by decide) (by decide) (by decide) r1.2.2.2.2
  have e2 : T2.2.2.1 96 9 = some (uI h.length) := (k3.2 96 9 rfl).1.trans mt_I_eq
  have hs2 := k3.st (T := mt_pI (mt_pI T 96 0 0) 96 9 (uI h.length)) hs
  refine ⟨T2, ?_, mt_row_t hg.2.2.1 k2 r1, ⟨e2, fun m x hm => ?_⟩, (g1.mono (fun k j q => ?_)).trans (k3.mono (fun k j q => ?_))⟩
  · refine fw_t (T_K hs (by decide) rfl) (fw_b (T_wI hs 0 (by decide) rfl) (fw_b (T_rI (T := mt_pI T 96 0 0) hs (by decide) rfl ((mt_I_ne (Or.inr (by decide))).trans c2)) (fw_f (by rw [show (0 : Int32) = uI 0 from rfl, uI_eq (by omega) (by decide)]; omega) (fw_b (T_rI (T := mt_pI T 96 0 0) hs (by decide) rfl ((mt_I_ne (Or.inr (by decide))).trans c2)) ?_))))
    rw [uI_p]
    refine fw_b (T_wI (T := mt_pI T 96 0 0) hs _ (by decide) rfl) (fw_b (T_rR (T := mt_pI (mt_pI T 96 0 0) 96 9 _) hs (by decide) rfl rfl) (fw_b (T_rI (T := mt_pI (mt_pI T 96 0 0) 96 9 _) hs (by decide) rfl mt_I_eq) (fw_b (T_rR (T := mt_pI (mt_pI T 96 0 0) 96 9 _) hs (by decide) rfl rfl) ?_)))
    rw [uI_35]
    exact fw_b k1 (fw_b (T_rI hs2 (by decide) rfl e2) rfl)
  · have hm' := mt_lt_of hm
    have hx : mt_row T 100 (35 * (h.length + 1 - 1 - (m + 1))) x := d (m + 1) x hm
    rw [show h.length + 1 - 1 - (m + 1) = h.length - 1 - m by omega] at hx
    exact mt_row_f k3 (hg2 m x hm).2.2.1 (fun _ _ => rfl) (mt_row_f g1 (hg2 m x hm).2.2.1 (fun _ _ => rfl) hx)
  · simp only [Bool.or_eq_false_iff] at q; exact q.1
  · simp only [Bool.or_eq_false_iff] at q; rw [q.2]; rfl
