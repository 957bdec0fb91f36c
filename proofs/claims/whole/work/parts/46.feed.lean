/-! feed -/
def mt_cb (w s : Int32) : Int32 := vp_nar .byte (((w.toUInt32 >>> (s.toUInt32 &&& Int32.toUInt32 31)).toInt32).toInt8.toInt32)
def mt_mb (w s : Int32) : Int32 := ((w.toUInt32 >>> (s.toUInt32 &&& Int32.toUInt32 31)).toInt32) &&& 255
theorem mt_by (x : Int32) : x.toInt8.toInt32 &&& 255 = x &&& 255 := by
  apply Int32.toBitVec_inj.mp
  simp only [Int32.toBitVec_and, Int8.toBitVec_toInt32, Int32.toBitVec_toInt8]
  apply BitVec.eq_of_getLsbD_eq
  intro i hi
  have h8 : (255 : Int32).toBitVec = BitVec.setWidth 32 (BitVec.allOnes 8) := by decide
  rw [h8]
  simp only [BitVec.getLsbD_and, BitVec.getLsbD_signExtend, BitVec.getLsbD_setWidth, BitVec.getLsbD_allOnes]
  by_cases h : i < 8
  · simp [h, hi]
  · simp [h]
theorem mt_cbmb (w s : Int32) : mt_cb w s &&& 255 = mt_mb w s := by
  unfold mt_cb mt_mb
  rw [vp_nar_byte, mt_by, mt_by]
def mt_bsC (T : mt_S) (bs : List Int32) : Prop := T.2.2.1 1 1 = some (uI bs.length) ∧ ∀ m b, bs[m]? = some b → T.2.2.1 2 m = some b
def mt_bsM (T : mt_S) (bs : List Int32) : Prop := T.2.2.1 96 2 = some (uI bs.length) ∧ ∀ m b, bs[m]? = some b → T.2.2.1 97 m = some (b &&& 255)
def mt_Dc (k _ : Nat) : Bool := decide (k = 1) || decide (k = 2)
def mt_Dm (k j : Nat) : Bool := decide (k = 97) || (decide (k = 96) && (decide (j = 0) || decide (j = 2)))
theorem mt_bsC_s {T : mt_S} {bs : List Int32} (h : mt_bsC T bs) (b : Int32) : mt_bsC (mt_pI (mt_pI T 2 bs.length b) 1 1 (uI (bs.length + 1))) (bs ++ [b]) := by
  refine ⟨by rw [List.length_append]; exact mt_I_eq, fun m v hm => ?_⟩
  rw [mt_I_ne (Or.inl (by decide))]
  by_cases hl : m = bs.length
  · subst hl
    rw [List.getElem?_append_right (Nat.le_refl _), Nat.sub_self] at hm
    rw [mt_I_eq]; exact hm
  · rw [mt_I_ne (Or.inr hl)]
    refine h.2 m v ?_
    have := mt_lt_of hm
    rw [List.length_append] at this
    have h1 : m < bs.length := by
      have h2 : m < bs.length + 1 := this
      omega
    rw [List.getElem?_append_left h1] at hm; exact hm
theorem mt_bsM_s {T : mt_S} {bs : List Int32} (h : mt_bsM T bs) (b v0 : Int32) (hv0 : b &&& 255 = v0) : mt_bsM (mt_pI (mt_pI T 97 bs.length v0) 96 2 (uI (bs.length + 1))) (bs ++ [b]) := by
  refine ⟨by rw [List.length_append]; exact mt_I_eq, fun m v hm => ?_⟩
  rw [mt_I_ne (Or.inl (by decide))]
  by_cases hl : m = bs.length
  · subst hl
    rw [List.getElem?_append_right (Nat.le_refl _), Nat.sub_self] at hm
    have hm : some b = some v := hm
    cases hm
    rw [mt_I_eq, hv0]
  · rw [mt_I_ne (Or.inr hl)]
    refine h.2 m v ?_
    have := mt_lt_of hm
    rw [List.length_append] at this
    have h1 : m < bs.length := by
      have h2 : m < bs.length + 1 := this
      omega
    rw [List.getElem?_append_left h1] at hm; exact hm
theorem mt_pn1 {T : mt_S} (hs : mt_st T) {n : Nat} (hn : n < 240) (e1 : T.2.2.1 1 1 = some (uI n)) (w s s2 : Int32) (h0 : ¬ s < 0) (h8 : s + (-8) = s2) (f : Nat) : f_X7_putNumber_L3 (f + 1) 1 w s T = f_X7_putNumber_L3 f 1 w s2 (mt_pI (mt_pI T 2 n (mt_cb w s)) 1 1 (uI (n + 1))) := by
  show f_X7_putNumber_L3s (f_X7_putNumber_L3 f) 1 w s T = _
  have hl : ¬ (240 : Int32) ≤ uI n := by
    rw [show (240 : Int32) = uI 240 from rfl, uI_le (by decide) (by omega)]; omega
  refine fw_f h0 (fw_b (T_rI hs (by decide) rfl e1) (fw_f hl (fw_b (T_rR hs (by decide) rfl rfl) (fw_b (T_rI hs (by decide) rfl e1) (fw_b (T_sI hs (mt_cb w s) (by decide) rfl (n := 240) hn (by decide)) (fw_b (T_rI (T := mt_pI T 2 n (mt_cb w s)) hs (by decide) rfl ((mt_I_ne (Or.inl (by decide))).trans e1)) (fw_b (T_wI (T := mt_pI T 2 n (mt_cb w s)) hs _ (by decide) rfl) ?_)))))))
  rw [uI_s, h8]
theorem mt_pn0 {T : mt_S} (w : Int32) (f : Nat) : f_X7_putNumber_L3 (f + 1) 1 w (-8) T = some T := by
  show f_X7_putNumber_L3s (f_X7_putNumber_L3 f) 1 w (-8) T = _
  unfold f_X7_putNumber_L3s
  exact if_pos (by decide)
theorem mt_pn {T : mt_S} (hs : mt_st T) {bs : List Int32} (hn : bs.length + 4 ≤ 240) (h : mt_bsC T bs) (w : Int32) : ∃ T', f_X7_putNumber 1 w T = some T' ∧ mt_bsC T' (bs ++ [mt_cb w 24, mt_cb w 16, mt_cb w 8, mt_cb w 0]) ∧ mt_fr mt_Dc T T' := by
  have h1 := mt_bsC_s h (mt_cb w 24)
  have h2 := mt_bsC_s h1 (mt_cb w 16)
  have h3 := mt_bsC_s h2 (mt_cb w 8)
  have h4 := mt_bsC_s h3 (mt_cb w 0)
  have l1 : (bs ++ [mt_cb w 24]).length = bs.length + 1 := by simp
  have l2 : (bs ++ [mt_cb w 24] ++ [mt_cb w 16]).length = bs.length + 2 := by simp
  have l3 : (bs ++ [mt_cb w 24] ++ [mt_cb w 16] ++ [mt_cb w 8]).length = bs.length + 3 := by simp
  have l4 : bs ++ [mt_cb w 24] ++ [mt_cb w 16] ++ [mt_cb w 8] ++ [mt_cb w 0] = bs ++ [mt_cb w 24, mt_cb w 16, mt_cb w 8, mt_cb w 0] := by simp
  have f1 := ((mt_fr.refl mt_Dc T).I 2 bs.length (mt_cb w 24) rfl).I 1 1 (uI (bs.length + 1)) rfl
  have f2 := (f1.I 2 (bs ++ [mt_cb w 24]).length (mt_cb w 16) rfl).I 1 1 (uI ((bs ++ [mt_cb w 24]).length + 1)) rfl
  have f3 := (f2.I 2 (bs ++ [mt_cb w 24] ++ [mt_cb w 16]).length (mt_cb w 8) rfl).I 1 1 (uI ((bs ++ [mt_cb w 24] ++ [mt_cb w 16]).length + 1)) rfl
  refine ⟨_, ?_, (congrArg (mt_bsC _) l4).mp h4, ?_⟩
  · refine fw_t (T_K hs (by decide) rfl) ?_
    exact (mt_pn1 hs (by omega) h.1 w 24 16 (by decide) (by decide) 999).trans ((mt_pn1 (f1.st hs) (by omega) h1.1 w 16 8 (by decide) (by decide) 998).trans ((mt_pn1 (f2.st hs) (by omega) h2.1 w 8 0 (by decide) (by decide) 997).trans ((mt_pn1 (f3.st hs) (by omega) h3.1 w 0 (-8) (by decide) (by decide) 996).trans (mt_pn0 w 995))))
  · exact ((((((((mt_fr.refl _ T).I 2 _ _ rfl).I 1 1 _ rfl).I 2 _ _ rfl).I 1 1 _ rfl).I 2 _ _ rfl).I 1 1 _ rfl).I 2 _ _ rfl).I 1 1 _ rfl
theorem mt_la1 {T : mt_S} (hs : mt_st T) {n : Nat} (hn : n < 240) (e1 : T.2.2.1 96 2 = some (uI n)) (w s s2 : Int32) (h0 : ¬ s < 0) (h8 : s + (-8) = s2) (f : Nat) : f_X11_lay_L3 (f + 1) 96 w s T = f_X11_lay_L3 f 96 w s2 (mt_pI (mt_pI T 97 n (mt_mb w s)) 96 2 (uI (n + 1))) := by
  show f_X11_lay_L3s (f_X11_lay_L3 f) 96 w s T = _
  refine fw_f h0 (fw_b (T_rR hs (by decide) rfl rfl) (fw_b (T_rI hs (by decide) rfl e1) (fw_b (T_sI hs (mt_mb w s) (by decide) rfl (n := 240) hn (by decide)) (fw_b (T_rI (T := mt_pI T 97 n (mt_mb w s)) hs (by decide) rfl ((mt_I_ne (Or.inl (by decide))).trans e1)) (fw_b (T_wI (T := mt_pI T 97 n (mt_mb w s)) hs _ (by decide) rfl) ?_)))))
  rw [uI_s, h8]
theorem mt_la0 {T : mt_S} (w : Int32) (f : Nat) : f_X11_lay_L3 (f + 1) 96 w (-8) T = some T := by
  show f_X11_lay_L3s (f_X11_lay_L3 f) 96 w (-8) T = _
  unfold f_X11_lay_L3s
  exact if_pos (by decide)
theorem mt_la {T : mt_S} (hs : mt_st T) {bs : List Int32} (hn : bs.length + 4 ≤ 240) (h : mt_bsM T bs) (w : Int32) : ∃ T', f_X11_lay 96 w T = some T' ∧ mt_bsM T' (bs ++ [mt_cb w 24, mt_cb w 16, mt_cb w 8, mt_cb w 0]) ∧ mt_fr mt_Dm T T' := by
  have h1 := mt_bsM_s h (mt_cb w 24) _ (mt_cbmb w 24)
  have h2 := mt_bsM_s h1 (mt_cb w 16) _ (mt_cbmb w 16)
  have h3 := mt_bsM_s h2 (mt_cb w 8) _ (mt_cbmb w 8)
  have h4 := mt_bsM_s h3 (mt_cb w 0) _ (mt_cbmb w 0)
  have l1 : (bs ++ [mt_cb w 24]).length = bs.length + 1 := by simp
  have l2 : (bs ++ [mt_cb w 24] ++ [mt_cb w 16]).length = bs.length + 2 := by simp
  have l3 : (bs ++ [mt_cb w 24] ++ [mt_cb w 16] ++ [mt_cb w 8]).length = bs.length + 3 := by simp
  have l4 : bs ++ [mt_cb w 24] ++ [mt_cb w 16] ++ [mt_cb w 8] ++ [mt_cb w 0] = bs ++ [mt_cb w 24, mt_cb w 16, mt_cb w 8, mt_cb w 0] := by simp
  have f1 := ((mt_fr.refl mt_Dm T).I 97 bs.length (mt_mb w 24) rfl).I 96 2 (uI (bs.length + 1)) rfl
  have f2 := (f1.I 97 (bs ++ [mt_cb w 24]).length (mt_mb w 16) rfl).I 96 2 (uI ((bs ++ [mt_cb w 24]).length + 1)) rfl
  have f3 := (f2.I 97 (bs ++ [mt_cb w 24] ++ [mt_cb w 16]).length (mt_mb w 8) rfl).I 96 2 (uI ((bs ++ [mt_cb w 24] ++ [mt_cb w 16]).length + 1)) rfl
  refine ⟨_, ?_, (congrArg (mt_bsM _) l4).mp h4, ?_⟩
  · refine fw_t (T_K hs (by decide) rfl) ?_
    exact (mt_la1 hs (by omega) h.1 w 24 16 (by decide) (by decide) 999).trans ((mt_la1 (f1.st hs) (by omega) h1.1 w 16 8 (by decide) (by decide) 998).trans ((mt_la1 (f2.st hs) (by omega) h2.1 w 8 0 (by decide) (by decide) 997).trans ((mt_la1 (f3.st hs) (by omega) h3.1 w 0 (-8) (by decide) (by decide) 996).trans (mt_la0 w 995))))
  · exact ((((((((mt_fr.refl _ T).I 97 _ _ rfl).I 96 2 _ rfl).I 97 _ _ rfl).I 96 2 _ rfl).I 97 _ _ rfl).I 96 2 _ rfl).I 97 _ _ rfl).I 96 2 _ rfl
theorem uI_a (a b : Nat) : uI a + uI b = uI (a + b) := by
  unfold uI; rw [Int32.ofNat_add]
theorem mt_bs_of {T : mt_S} {n : Nat} (h : mt_iTape T n) : ∃ bs : List Int32, bs.length = n ∧ mt_bsC T bs ∧ mt_bsM T bs := by
  obtain ⟨hn, e1, e2, e3⟩ := h
  refine ⟨(List.range n).map (fun m => (T.2.2.1 2 m).getD 0), by rw [List.length_map, List.length_range], ⟨by rw [List.length_map, List.length_range]; exact e1, fun m b hm => ?_⟩, by rw [List.length_map, List.length_range]; exact e2, fun m b hm => ?_⟩
  · have hl := mt_lt_of hm
    rw [List.length_map, List.length_range] at hl
    rw [List.getElem?_map, List.getElem?_range hl] at hm
    obtain ⟨v, v1, v2⟩ := e3 m hl
    have hm : some ((T.2.2.1 2 m).getD 0) = some b := hm
    rw [v1] at hm ⊢; exact hm
  · have hl := mt_lt_of hm
    rw [List.length_map, List.length_range] at hl
    rw [List.getElem?_map, List.getElem?_range hl] at hm
    obtain ⟨v, v1, v2⟩ := e3 m hl
    have hm : some ((T.2.2.1 2 m).getD 0) = some b := hm
    rw [v1] at hm
    have hm : some v = some b := hm
    cases hm
    exact v2
theorem mt_iTape_of {T : mt_S} {bs : List Int32} (hn : bs.length ≤ 240) (h1 : mt_bsC T bs) (h2 : mt_bsM T bs) : mt_iTape T bs.length :=
  ⟨hn, h1.1, h2.1, fun m hm => ⟨bs[m], h1.2 m _ (List.getElem?_eq_getElem hm), h2.2 m _ (List.getElem?_eq_getElem hm)⟩⟩
theorem mt_bsC_f {D : Nat → Nat → Bool} {T T' : mt_S} {bs : List Int32} (hf : mt_fr D T T') (h1 : D 1 1 = false) (h2 : ∀ m, D 2 m = false) (h : mt_bsC T bs) : mt_bsC T' bs := ⟨by rw [(hf.2 1 1 h1).1]; exact h.1, fun m b hm => by rw [(hf.2 2 m (h2 m)).1]; exact h.2 m b hm⟩
theorem mt_bsM_f {D : Nat → Nat → Bool} {T T' : mt_S} {bs : List Int32} (hf : mt_fr D T T') (h1 : D 96 2 = false) (h2 : ∀ m, D 97 m = false) (h : mt_bsM T bs) : mt_bsM T' bs := ⟨by rw [(hf.2 96 2 h1).1]; exact h.1, fun m b hm => by rw [(hf.2 97 m (h2 m)).1]; exact h.2 m b hm⟩
theorem t_0 {T : mt_S} (w1 w2 w3 w4 w5 : Int32) (hi : mt_Inv T) : ∃ S', l_0 w1 w2 w3 w4 w5 T = some S' ∧ mt_Inv S' := by
  have hs := hi.1
  obtain ⟨n, ht⟩ := hi.2.2.2.2.1
  obtain ⟨bs, rfl, hC, hM⟩ := mt_bs_of ht
  have hn := ht.1
  have h20 : ((240 : Int32) < uI bs.length + 20 ↔ 240 < bs.length + 20) := by
    rw [show (20 : Int32) = uI 20 from rfl, uI_a, show (240 : Int32) = uI 240 from rfl, uI_lt (by decide) (by omega)]
  have h21 : (uI bs.length + 20 ≤ (240 : Int32) ↔ bs.length + 20 ≤ 240) := by
    rw [show (20 : Int32) = uI 20 from rfl, uI_a, show (240 : Int32) = uI 240 from rfl, uI_le (by omega) (by decide)]
  have e2' : (mt_pI T 96 0 0).2.2.1 96 2 = some (uI bs.length) := (mt_I_ne (Or.inr (by decide))).trans hM.1
  by_cases hr : bs.length + 20 ≤ 240
  · have r1 : f_X7_hasRoom 1 T = some (1, T) := fw_t (T_K hs (by decide) rfl) (fw_b (T_rI hs (by decide) rfl hC.1) (fw_f (fun q => by have := h20.mp q; omega) rfl))
    obtain ⟨T1, p1, c1, f1⟩ := mt_pn hs (by omega) hC w1
    obtain ⟨T2, p2, c2, f2⟩ := mt_pn (f1.st hs) (by simp only [List.length_append, List.length_cons, List.length_nil]; omega) c1 w2
    have f12 := f1.trans f2
    obtain ⟨T3, p3, c3, f3⟩ := mt_pn (f12.st hs) (by simp only [List.length_append, List.length_cons, List.length_nil]; omega) c2 w3
    have f13 := f12.trans f3
    obtain ⟨T4, p4, c4, f4⟩ := mt_pn (f13.st hs) (by simp only [List.length_append, List.length_cons, List.length_nil]; omega) c3 w4
    have f14 := f13.trans f4
    obtain ⟨T5, p5, c5, f5⟩ := mt_pn (f14.st hs) (by simp only [List.length_append, List.length_cons, List.length_nil]; omega) c4 w5
    have f15 := f14.trans f5
    have a1 : f_X10_feed 0 w1 w2 w3 w4 w5 T = some (uI _, T5) := fw_t (T_K hs (by decide) rfl) (fw_b (T_rR hs (by decide) rfl rfl) (fw_b2 r1 (fw_f (by decide) (fw_b (T_rR hs (by decide) rfl rfl) (fw_b p1 (fw_b (T_rR (f1.st hs) (by decide) rfl rfl) (fw_b p2 (fw_b (T_rR (f12.st hs) (by decide) rfl rfl) (fw_b p3 (fw_b (T_rR (f13.st hs) (by decide) rfl rfl) (fw_b p4 (fw_b (T_rR (f14.st hs) (by decide) rfl rfl) (fw_b p5 (fw_b (T_rR (f15.st hs) (by decide) rfl rfl) (fw_b2 (fw_t (T_K (f15.st hs) (by decide) rfl) (fw_b (T_rI (f15.st hs) (by decide) rfl c5.1) rfl)) rfl)))))))))))))))
    have g0 : mt_fr (fun k j => decide (k = 96) && decide (j = 0)) T5 (mt_pI T5 96 0 0) := (mt_fr.refl _ T5).I 96 0 0 rfl
    have hs6 := g0.st (f15.st hs)
    have m0 : mt_bsM (mt_pI T5 96 0 0) bs := mt_bsM_f g0 rfl (fun _ => rfl) (mt_bsM_f f15 rfl (fun _ => rfl) hM)
    obtain ⟨U1, q1, m1, g1⟩ := mt_la hs6 (by omega) m0 w1
    obtain ⟨U2, q2, m2, g2⟩ := mt_la (g1.st hs6) (by simp only [List.length_append, List.length_cons, List.length_nil]; omega) m1 w2
    have g12 := g1.trans g2
    obtain ⟨U3, q3, m3, g3⟩ := mt_la (g12.st hs6) (by simp only [List.length_append, List.length_cons, List.length_nil]; omega) m2 w3
    have g13 := g12.trans g3
    obtain ⟨U4, q4, m4, g4⟩ := mt_la (g13.st hs6) (by simp only [List.length_append, List.length_cons, List.length_nil]; omega) m3 w4
    have g14 := g13.trans g4
    obtain ⟨U5, q5, m5, g5⟩ := mt_la (g14.st hs6) (by simp only [List.length_append, List.length_cons, List.length_nil]; omega) m4 w5
    have g15 := g14.trans g5
    have a2 : f_X11_feed 96 w1 w2 w3 w4 w5 T5 = some (uI _, U5) := fw_t (T_K (f15.st hs) (by decide) rfl) (fw_b (T_wI (f15.st hs) 0 (by decide) rfl) (fw_b (T_rI hs6 (by decide) rfl m0.1) (fw_t (h21.mpr hr) (fw_b q1 (fw_b q2 (fw_b q3 (fw_b q4 (fw_b q5 (fw_b (T_rI (g15.st hs6) (by decide) rfl m5.1) rfl)))))))))
    refine ⟨U5, fw_b2 a1 (fw_b2 a2 (if_pos rfl)), mt_Inv_tape hi ((f15.mono (fun k j h => ?_)).trans ((g0.mono (fun k j h => ?_)).trans (g15.mono (fun k j h => ?_)))) ⟨_, mt_iTape_of ?_ (mt_bsC_f (g0.mono (D' := mt_Dm) (fun k j h => ?_)|>.trans g15) rfl (fun _ => rfl) c5) m5⟩⟩
    · simp only [mt_Dc, Bool.or_eq_false_iff] at h ⊢; exact h.1.1
    · simp only [Bool.or_eq_false_iff, Bool.and_eq_false_iff] at h ⊢
      rcases h.2 with h | h
      · exact Or.inl h
      · exact Or.inr h.1
    · simp only [mt_Dm, Bool.or_eq_false_iff] at h ⊢; exact ⟨h.1.2, h.2⟩
    · simp only [List.length_append, List.length_cons, List.length_nil]; omega
    · simp only [mt_Dm, Bool.or_eq_false_iff, Bool.and_eq_false_iff] at h ⊢
      rcases h.2 with h | h
      · exact Or.inl h
      · exact Or.inr h.1
  · refine ⟨mt_pI T 96 0 0, ?_, mt_Inv_c hs (mt_thr (by decide +kernel)) hi⟩
    have a1 : f_X10_feed 0 w1 w2 w3 w4 w5 T = some (-1, T) := fw_t (T_K hs (by decide) rfl) (fw_b (T_rR hs (by decide) rfl rfl) (fw_b2 (v := 0) (S1 := T) (fw_t (T_K hs (by decide) rfl) (fw_b (T_rI hs (by decide) rfl hC.1) (fw_t (h20.mpr (by omega)) rfl))) rfl))
    have a2 : f_X11_feed 96 w1 w2 w3 w4 w5 T = some (-1, mt_pI T 96 0 0) := fw_t (T_K hs (by decide) rfl) (fw_b (T_wI hs 0 (by decide) rfl) (fw_b (T_rI (T := mt_pI T 96 0 0) hs (by decide) rfl e2') (fw_f (fun q => hr (h21.mp q)) rfl)))
    exact fw_b2 a1 (fw_b2 a2 (if_pos rfl))
