/-! items of a path -/
/-- behind i comes so often v; the next begins at j -/
def mt_nb (c : Nat → Int32) (n i j v : Nat) : Prop := (mt_skp c n i j ∧ (j < n → mt_dg (c j) = false) ∧ v = 1) ∨ ∃ a, mt_skp c n i a ∧ mt_dgp c n a j ∧ j - a ≤ 2 ∧ mt_mv c a 0 (j - a) 0 = uI v ∧ mt_cv c a 0 (j - a) 0 = uI v ∧ 1 ≤ v ∧ v ≤ 99
/-- behind i comes a bad number, at a -/
def mt_nx (c : Nat → Int32) (n i a : Nat) : Prop := ∃ e, mt_skp c n i a ∧ mt_dgp c n a e ∧ ((2 < e - a) ∨ (mt_mv c a 0 (e - a) 0 = uI 0 ∧ mt_cv c a 0 (e - a) 0 = uI 0))
theorem mt_nbE (c : Nat → Int32) {n i : Nat} (hi : i ≤ n) : (∃ j v, mt_nb c n i j v) ∨ ∃ a, mt_nx c n i a := by
  obtain ⟨a, h, q⟩ := mt_nxt c hi
  rcases q with q | ⟨e, q⟩
  · exact Or.inl ⟨a, 1, Or.inl ⟨h, q, rfl⟩⟩
  · by_cases h2 : e - a ≤ 2
    · obtain ⟨v, v9, m1, m2⟩ := mt_val q h2
      by_cases v0 : v = 0
      · subst v0
        exact Or.inr ⟨a, e, h, q, Or.inr ⟨m1, m2⟩⟩
      · exact Or.inl ⟨e, v, Or.inr ⟨a, h, q, h2, m1, m2, by omega, v9⟩⟩
    · exact Or.inr ⟨a, e, h, q, Or.inl (by omega)⟩
theorem mt_nb_b {c : Nat → Int32} {n i j v : Nat} (h : mt_nb c n i j v) : i ≤ j ∧ j ≤ n ∧ 1 ≤ v ∧ v ≤ 99 := by
  rcases h with ⟨h, -, rfl⟩ | ⟨a, h, d, -, -, -, h1, h9⟩
  · exact ⟨h.1, h.2.1, by decide, by decide⟩
  · have := h.1
    have := d.1
    exact ⟨by omega, d.2.1, h1, h9⟩
theorem mt_nx_b {c : Nat → Int32} {n i a : Nat} (h : mt_nx c n i a) : i ≤ a ∧ a < n := by
  obtain ⟨e, h, d, -⟩ := h
  have := d.1
  have := d.2.1
  exact ⟨h.1, by omega⟩
def mt_mcO (c : Nat → Int32) (n i : Nat) (mc : Int32) : Prop := mc = 0 ∨ (mc = 1 ∧ (i < n → ¬ c i = 32 ∧ mt_dg (c i) = false))
theorem mt_mcA {c : Nat → Int32} {n i a : Nat} {mc : Int32} (h : mt_mcO c n i mc) (hk : mt_skp c n i a) (ha : a < n) (hd : mt_dg (c a) = true) : mc = 0 := by
  rcases h with h | ⟨-, h⟩
  · exact h
  · exfalso
    have k1 := hk.1
    by_cases e : i = a
    · rw [e] at h
      rw [(h ha).2] at hd; cases hd
    · exact (h (by omega)).1 (hk.2.2.1 i (Nat.le_refl _) (by omega))
section mtIt
variable {c : Nat → Int32} {n : Nat}
/-- the program at what follows -/
theorem mt_nbC (hn : n ≤ 200) {i j v t s d : Nat} (h : mt_nb c n i j v) (ht : t ≤ i) {T : mt_S} (hs : mt_st T) (hp : mt_tpC c n T) {nf : Int32} (hc : mt_pC T s d 1 nf) (hnf : nf = -1 ∨ ∃ m, m < s ∧ nf = uI m) (hs2 : s ≤ 200) (h1 : ∀ m, nf = uI m → m < s → T.2.2.1 5 m = some (uI 1)) : ∃ T' t' mc, mt_rl n i t T = mt_rl n j t' T' ∧ t' ≤ j ∧ mt_pC T' s d mc nf ∧ mt_mcO c n j mc ∧ (∀ m, nf = uI m → m < s → T'.2.2.1 5 m = some (uI v)) ∧ mt_fr (fun k m => (decide (k = 3) && decide (m = 7)) || (decide (k = 5) && (decide (m < s) && decide (nf = uI m)))) T T' := by
  rcases h with ⟨h, h0, rfl⟩ | ⟨a, h, d', h2, -, m2, v1, v9⟩
  · have k1 := h.1
    refine ⟨T, t + (j - i), 1, mt_rlB hn (j - i) i t T (by omega) ht hs hp hc.2.2.2.2 h, by omega, hc, Or.inr ⟨rfl, fun q => ⟨h.2.2.2 q, h0 q⟩⟩, h1, mt_fr.refl _ T⟩
  · have k1 := h.1
    have k2 := d'.1
    have s1 := mt_rlB hn (a - i) i t T (by omega) ht hs hp hc.2.2.2.2 h
    obtain ⟨T', b1, b2, b3, b4⟩ := mt_rnG hn (t := t + (a - i)) d' (by omega) hs hp hc (by decide) h2 m2 v1 v9 hnf hs2
    exact ⟨T', t + (a - i) + 1, 0, s1.trans b1, by omega, b2, Or.inl rfl, b3, b4⟩
theorem mt_nxC (hn : n ≤ 200) {i a t s d : Nat} (h : mt_nx c n i a) (ht : t ≤ i) {T : mt_S} (hs : mt_st T) (hp : mt_tpC c n T) {nf : Int32} (hc : mt_pC T s d 1 nf) : ∃ T', mt_rl n i t T = some T' ∧ T'.2.2.1 3 9 = some 2 ∧ T'.2.2.1 3 10 = some (uI a) ∧ mt_fr mt_DF T T' := by
  obtain ⟨e, h, d', hb⟩ := h
  have k1 := h.1
  have s1 := mt_rlB hn (a - i) i t T (by omega) ht hs hp hc.2.2.2.2 h
  obtain ⟨T', b1, b2, b3, b4⟩ := mt_rnB hn (t := t + (a - i)) (k := 2) d' (by omega) hs hp hc.2.2.2.2 hc.2.2.1 (Or.inr ⟨by decide, rfl, hb.imp id And.right⟩)
  exact ⟨T', s1.trans b1, b2, b3, b4⟩
/-- a sign that puts an act, with what the reader holds then -/
theorem mt_sgA (hn : n ≤ 200) {i a t s d : Nat} (hk : mt_skp c n i a) (ha : a < n) (ht : t ≤ i) (hsi : s ≤ i) {T : mt_S} (hs : mt_st T) (hp : mt_tpC c n T) {mc nf mc2 : Int32} (hc : mt_pC T s d mc nf) (hdg : mt_dg (c a) = false) (hsg : ∀ {U V : mt_S}, f_X0_putAct 3 (c a) 0 U = some V → mt_st U → mt_st V → f_X0_readSign 3 (c a) (uI a) U = some (1, mt_pI V 3 7 mc2)) : ∃ T' t', mt_rl n i t T = mt_rl n (a + 1) t' T' ∧ t' ≤ a + 1 ∧ mt_pC T' (s + 1) d mc2 (uI s) ∧ mt_aC T' s [(c a, 1, 0)] ∧ mt_fr (mt_DP s d) T T' := by
  have k1 := hk.1
  have s1 := mt_rlB hn (a - i) i t T (by omega) ht hs hp hc.2.2.2.2 hk
  obtain ⟨V, b1, b2, b3, b4⟩ := mt_puA hs (b := 0) (w := c a) hc (by omega)
  have hV := b4.st hs
  have s2 := mt_rlS hn (t := t + (a - i)) (by omega) ha hs hp hc.2.2.2.2 hdg (hsg b1 hs hV)
  obtain ⟨p5, p6, p7, p8, p9⟩ := b2
  refine ⟨mt_pI V 3 7 mc2, t + (a - i) + 1, s1.trans s2, by omega, ⟨(mt_I_ne (Or.inr (by decide))).trans p5, (mt_I_ne (Or.inr (by decide))).trans p6, mt_I_eq, (mt_I_ne (Or.inr (by decide))).trans p8, (mt_I_ne (Or.inr (by decide))).trans p9⟩, mt_aC_f ((mt_fr.refl (fun k _ => decide (k = 3)) V).I 3 7 mc2 rfl) (fun k m h1 h2 _ => by simp <;> omega) b3, (b4.mono (fun k j q => ?_)).I 3 7 _ rfl⟩
  unfold mt_DP at q
  simp only [Bool.or_eq_false_iff, Bool.and_eq_false_iff, decide_eq_false_iff_not] at q ⊢; omega
theorem mt_sgL {w : Int32} (hw : w = 108 ∨ w = 114 ∨ w = 117) (a : Int32) {U V : mt_S} (h : f_X0_putAct 3 w 0 U = some V) (hU : mt_st U) (hV : mt_st V) : f_X0_readSign 3 w a U = some (1, mt_pI V 3 7 1) := by
  rcases hw with rfl | rfl | rfl
  · exact fw_t (T_K hU (by decide) rfl) (fw_f (by decide) (fw_f (by decide) (fw_f (by decide) (fw_f (by decide) (fw_t rfl (fw_b h (fw_b (T_wI hV _ (by decide) rfl) rfl)))))))
  · exact fw_t (T_K hU (by decide) rfl) (fw_f (by decide) (fw_f (by decide) (fw_f (by decide) (fw_f (by decide) (fw_f (by decide) (fw_t rfl (fw_b h (fw_b (T_wI hV _ (by decide) rfl) rfl))))))))
  · exact fw_t (T_K hU (by decide) rfl) (fw_f (by decide) (fw_f (by decide) (fw_f (by decide) (fw_f (by decide) (fw_f (by decide) (fw_f (by decide) (fw_t rfl (fw_b h (fw_b (T_wI hV _ (by decide) rfl) rfl)))))))))
theorem mt_sgH (a : Int32) {U V : mt_S} (h : f_X0_putAct 3 104 0 U = some V) (hU : mt_st U) (hV : mt_st V) : f_X0_readSign 3 104 a U = some (1, mt_pI V 3 7 0) := fw_t (T_K hU (by decide) rfl) (fw_f (by decide) (fw_f (by decide) (fw_f (by decide) (fw_t rfl (fw_b h (fw_b (T_wI hV _ (by decide) rfl) rfl))))))
/-- a letter with how often -/
theorem mt_ltC (hn : n ≤ 200) {i a j v t s d : Nat} (hk : mt_skp c n i a) (ha : a < n) (hw : c a = 108 ∨ c a = 114 ∨ c a = 117) (h : mt_nb c n (a + 1) j v) (ht : t ≤ i) (hsi : s ≤ i) {T : mt_S} (hs : mt_st T) (hp : mt_tpC c n T) {mc nf : Int32} (hc : mt_pC T s d mc nf) : ∃ T' t' mc', mt_rl n i t T = mt_rl n j t' T' ∧ t' ≤ j ∧ mt_pC T' (s + 1) d mc' (uI s) ∧ mt_mcO c n j mc' ∧ mt_aC T' s [(c a, v, 0)] ∧ mt_fr (mt_DP s d) T T' := by
  have hdg : mt_dg (c a) = false := by rcases hw with e | e | e <;> rw [e] <;> decide
  obtain ⟨T1, t1, a1, a2, a3, a4, a5⟩ := mt_sgA hn (mc2 := 1) hk ha ht hsi hs hp hc hdg (fun h1 h2 h3 => mt_sgL hw _ h1 h2 h3)
  have hs1 := a5.st hs
  have k1 := hk.1
  obtain ⟨z1, z2, z3, z4⟩ := a4 0 _ rfl
  rw [Nat.add_zero] at z1 z2 z3 z4
  obtain ⟨T2, t2, mc2, b1, b2, b3, b4, b5, b6⟩ := mt_nbC hn h a2 hs1 (mt_tpC_D a5 hp) a3 (Or.inr ⟨s, by omega, rfl⟩) (by omega) (fun m hm hl => by
    have : m = s := ((uI_eq (by omega) (by omega)).mp hm).symm
    rw [this]; exact z2)
  refine ⟨T2, t2, mc2, a1.trans b1, b2, b3, b4, fun m x hm => ?_, a5.trans (b6.mono (fun k m q => ?_))⟩
  · match m, hm with
    | 0, hm =>
      cases hm
      rw [Nat.add_zero]
      exact ⟨(b6.2 4 s rfl).1.trans z1, b5 s rfl (by omega), (b6.2 6 s rfl).1.trans z3, (b6.2 7 s rfl).1.trans z4⟩
  · unfold mt_DP at q
    simp only [Bool.or_eq_false_iff, Bool.and_eq_false_iff, decide_eq_false_iff_not] at q ⊢
    by_cases k5 : k = 5
    · refine ⟨by omega, Or.inr ?_⟩
      by_cases hm : m < s + 1
      · refine Or.inr fun e => ?_
        have : s = m := (uI_eq (by omega) (by omega)).mp e
        omega
      · exact Or.inl hm
    · omega
theorem mt_ltX (hn : n ≤ 200) {i a p t s d : Nat} (hk : mt_skp c n i a) (ha : a < n) (hw : c a = 108 ∨ c a = 114 ∨ c a = 117) (h : mt_nx c n (a + 1) p) (ht : t ≤ i) (hsi : s ≤ i) {T : mt_S} (hs : mt_st T) (hp : mt_tpC c n T) {mc nf : Int32} (hc : mt_pC T s d mc nf) : ∃ T', mt_rl n i t T = some T' ∧ T'.2.2.1 3 9 = some 2 ∧ T'.2.2.1 3 10 = some (uI p) ∧ mt_fr mt_DF T T' := by
  have hdg : mt_dg (c a) = false := by rcases hw with e | e | e <;> rw [e] <;> decide
  obtain ⟨T1, t1, a1, a2, a3, a4, a5⟩ := mt_sgA hn (mc2 := 1) hk ha ht hsi hs hp hc hdg (fun h1 h2 h3 => mt_sgL hw _ h1 h2 h3)
  obtain ⟨T2, b1, b2, b3, b4⟩ := mt_nxC hn h a2 (a5.st hs) (mt_tpC_D a5 hp) a3
  exact ⟨T2, a1.trans b1, b2, b3, (mt_DP_F a5).trans b4⟩
/-- h -/
theorem mt_hmC (hn : n ≤ 200) {i a t s d : Nat} (hk : mt_skp c n i a) (ha : a < n) (hw : c a = 104) (ht : t ≤ i) (hsi : s ≤ i) {T : mt_S} (hs : mt_st T) (hp : mt_tpC c n T) {mc nf : Int32} (hc : mt_pC T s d mc nf) : ∃ T' t', mt_rl n i t T = mt_rl n (a + 1) t' T' ∧ t' ≤ a + 1 ∧ mt_pC T' (s + 1) d 0 (uI s) ∧ mt_aC T' s [(104, 1, 0)] ∧ mt_fr (mt_DP s d) T T' := by
  have := mt_sgA hn (mc2 := 0) hk ha ht hsi hs hp hc (by rw [hw]; decide) (fun h1 h2 h3 => by rw [hw] at h1 ⊢; exact mt_sgH _ h1 h2 h3)
  rw [hw] at this
  exact this
/-- [ -/
theorem mt_opC (hn : n ≤ 200) {i a t s d : Nat} (hk : mt_skp c n i a) (ha : a < n) (hw : c a = 91) (ht : t ≤ i) (hsi : s ≤ i) (hd3 : d < 3) {T : mt_S} (hs : mt_st T) (hp : mt_tpC c n T) {mc nf : Int32} (hc : mt_pC T s d mc nf) : ∃ T' t', mt_rl n i t T = mt_rl n (a + 1) t' T' ∧ t' ≤ a + 1 ∧ mt_pC T' s (d + 1) 0 nf ∧ T'.2.2.1 8 d = some (uI s) ∧ mt_fr (mt_DP s d) T T' := by
  have k1 := hk.1
  have s1 := mt_rlB hn (a - i) i t T (by omega) ht hs hp hc.2.2.2.2 hk
  obtain ⟨p5, p6, p7, p8, p9⟩ := hc
  have f1 := (((mt_fr.refl (mt_DP s d) T).I 8 d (uI s) (by simp [mt_DP])).I 3 6 (uI (d + 1)) (by simp [mt_DP])).I 3 7 0 (by simp [mt_DP])
  have g6 : (mt_pI T 8 d (uI s)).2.2.1 3 6 = some (uI d) := (mt_I_ne (Or.inl (by decide))).trans p6
  have sg : f_X0_readSign 3 (c a) (uI a) T = some (1, mt_pI (mt_pI (mt_pI T 8 d (uI s)) 3 6 (uI (d + 1))) 3 7 0) := by
    rw [hw]
    refine fw_t (T_K hs (by decide) rfl) (fw_f (by decide) (fw_t rfl (fw_b (v := mt_pI (mt_pI (mt_pI T 8 d (uI s)) 3 6 (uI (d + 1))) 3 7 0) ?_ rfl)))
    refine fw_t (T_K hs (by decide) rfl) (fw_b (T_rI hs (by decide) rfl p6) (fw_t (by rw [show (3 : Int32) = uI 3 from rfl, uI_lt (by omega) (by decide)]; exact hd3) (fw_b (T_rR hs (by decide) rfl rfl) (fw_b (T_rI hs (by decide) rfl p6) (fw_b (T_rI hs (by decide) rfl p5) (fw_b (T_sI hs _ (by decide) rfl (n := 3) hd3 (by decide)) (fw_b (T_rI (T := mt_pI T 8 d (uI s)) hs (by decide) rfl g6) ?_)))))))
    rw [uI_s]
    exact fw_b (T_wI (T := mt_pI T 8 d (uI s)) hs _ (by decide) rfl) (fw_b (T_wI (T := mt_pI (mt_pI T 8 d (uI s)) 3 6 (uI (d + 1))) hs _ (by decide) rfl) rfl)
  have s2 := mt_rlS hn (t := t + (a - i)) (by omega) ha hs hp p9 (by rw [hw]; decide) sg
  refine ⟨_, t + (a - i) + 1, s1.trans s2, by omega, ⟨?_, (mt_I_ne (Or.inr (by decide))).trans mt_I_eq, mt_I_eq, ?_, ?_⟩, (mt_I_ne (Or.inl (by decide))).trans ((mt_I_ne (Or.inl (by decide))).trans mt_I_eq), f1⟩
  · exact (mt_I_ne (Or.inr (by decide))).trans ((mt_I_ne (Or.inr (by decide))).trans ((mt_I_ne (Or.inl (by decide))).trans p5))
  · exact (mt_I_ne (Or.inr (by decide))).trans ((mt_I_ne (Or.inr (by decide))).trans ((mt_I_ne (Or.inl (by decide))).trans p8))
  · exact (mt_I_ne (Or.inr (by decide))).trans ((mt_I_ne (Or.inr (by decide))).trans ((mt_I_ne (Or.inl (by decide))).trans p9))
/-- a sign that can't stand, or is too deep -/
theorem mt_sgF (hn : n ≤ 200) {i a t : Nat} (hk : mt_skp c n i a) (ha : a < n) (ht : t ≤ i) {T : mt_S} (hs : mt_st T) (hp : mt_tpC c n T) (e9 : T.2.2.1 3 9 = some 0) {k : Int32} (h0 : ¬ k = 0) (hdg : mt_dg (c a) = false) (hsg : f_X0_readSign 3 (c a) (uI a) T = some (1, mt_pI (mt_pI T 3 9 k) 3 10 (uI a))) : ∃ T', mt_rl n i t T = some T' ∧ T'.2.2.1 3 9 = some k ∧ T'.2.2.1 3 10 = some (uI a) ∧ mt_fr mt_DF T T' := by
  have k1 := hk.1
  have s1 := mt_rlB hn (a - i) i t T (by omega) ht hs hp e9 hk
  have s2 := mt_rlS hn (t := t + (a - i)) (by omega) ha hs hp e9 hdg hsg
  have e9' : (mt_pI (mt_pI T 3 9 k) 3 10 (uI a)).2.2.1 3 9 = some k := (mt_I_ne (Or.inr (by decide))).trans mt_I_eq
  exact ⟨_, (s1.trans s2).trans (mt_rlF (T := mt_pI (mt_pI T 3 9 k) 3 10 (uI a)) (by omega) hs h0 e9'), e9', mt_I_eq, ((mt_fr.refl mt_DF T).I 3 9 _ rfl).I 3 10 _ rfl⟩
/-- ] of the bracket that began at size s -/
theorem mt_clC (hn : n ≤ 200) {b t s s2 d : Nat} (hb : b < n) (hw : c b = 93) (ht : t ≤ b) (hs2 : s ≤ s2) (hsb : s2 ≤ b) (hd3 : d < 3) {T : mt_S} (hs : mt_st T) (hp : mt_tpC c n T) {mc nf : Int32} (hc : mt_pC T s2 (d + 1) mc nf) (e8 : T.2.2.1 8 d = some (uI s)) : ∃ T' t' s3 nf', mt_rl n b t T = mt_rl n (b + 1) t' T' ∧ t' ≤ b + 1 ∧ mt_pC T' s3 d 1 nf' ∧ ((s2 = s ∧ s3 = s2 ∧ nf' = -1) ∨ (s < s2 ∧ s3 = s2 + 1 ∧ nf' = uI s2 ∧ mt_aC T' s2 [(93, 1, s)])) ∧ mt_fr (mt_DP s2 (d + 1)) T T' := by
  obtain ⟨p5, p6, p7, p8, p9⟩ := hc
  have hdg : mt_dg (c b) = false := by rw [hw]; decide
  have f1 := ((mt_fr.refl (fun k j => decide (k = 3) && (decide (j = 6) || decide (j = 8))) T).I 3 6 (uI d) rfl).I 3 8 (-1) rfl
  have hs1 := f1.st hs
  have g5 : (mt_pI (mt_pI T 3 6 (uI d)) 3 8 (-1)).2.2.1 3 5 = some (uI s2) := (f1.2 3 5 rfl).1.trans p5
  have c1 : mt_pC (mt_pI (mt_pI T 3 6 (uI d)) 3 8 (-1)) s2 d mc (-1) := ⟨g5, (mt_I_ne (Or.inr (by decide))).trans mt_I_eq, (f1.2 3 7 rfl).1.trans p7, mt_I_eq, (f1.2 3 9 rfl).1.trans p9⟩
  have f1' : mt_fr (mt_DP s2 (d + 1)) T (mt_pI (mt_pI T 3 6 (uI d)) 3 8 (-1)) := f1.mono (fun k j q => by
    unfold mt_DP at q
    simp only [Bool.or_eq_false_iff, Bool.and_eq_false_iff, decide_eq_false_iff_not] at q ⊢; omega)
  have pre : ∀ {V : mt_S}, (if uI s2 ≤ uI s then Option.bind (mt_wI (mt_pI (mt_pI T 3 6 (uI d)) 3 8 (-1)) 3 0 7 1) fun S9 => some S9 else Option.bind (f_X0_putAct 3 93 (uI s) (mt_pI (mt_pI T 3 6 (uI d)) 3 8 (-1))) fun S10 => Option.bind (mt_wI S10 3 0 7 1) fun S11 => some S11) = some V → f_X0_readSign 3 (c b) (uI b) T = some (1, V) := fun {V} w => by
    rw [hw]
    refine fw_t (T_K hs (by decide) rfl) (fw_f (by decide) (fw_f (by decide) (fw_t rfl (fw_b (v := V) ?_ rfl))))
    refine fw_t (T_K hs (by decide) rfl) (fw_b (T_rI hs (by decide) rfl p6) (fw_t (by rw [show (1 : Int32) = uI 1 from rfl, uI_le (by decide) (by omega)]; omega) (fw_b (T_rI hs (by decide) rfl p6) ?_)))
    rw [uI_p]
    exact fw_b (T_wI hs _ (by decide) rfl) (fw_b (T_rR (T := mt_pI T 3 6 (uI d)) hs (by decide) rfl rfl) (fw_b (T_rI (T := mt_pI T 3 6 (uI d)) hs (by decide) rfl mt_I_eq) (fw_b (T_aI (T := mt_pI T 3 6 (uI d)) hs (by decide) rfl (n := 3) (by omega) (by decide) ((mt_I_ne (Or.inl (by decide))).trans e8)) (fw_b (T_wI (T := mt_pI T 3 6 (uI d)) hs _ (by decide) rfl) (fw_b (T_rI hs1 (by decide) rfl g5) w)))))
  by_cases q : s2 = s
  · have sg := pre (fw_t (by rw [uI_le (by omega) (by omega)]; omega) (fw_b (T_wI hs1 _ (by decide) rfl) rfl))
    have s2' := mt_rlS hn ht hb hs hp p9 hdg sg
    obtain ⟨q5, q6, q7, q8, q9⟩ := c1
    exact ⟨_, t + 1, s2, -1, s2', by omega, ⟨(mt_I_ne (Or.inr (by decide))).trans q5, (mt_I_ne (Or.inr (by decide))).trans q6, mt_I_eq, (mt_I_ne (Or.inr (by decide))).trans q8, (mt_I_ne (Or.inr (by decide))).trans q9⟩, Or.inl ⟨q, rfl, rfl⟩, f1'.I 3 7 _ (by simp [mt_DP])⟩
  · obtain ⟨V, b1, b2, b3, b4⟩ := mt_puA hs1 (b := s) (w := 93) c1 (by omega)
    have hV := b4.st hs1
    have sg := pre (fw_f (by rw [uI_le (by omega) (by omega)]; omega) (fw_b b1 (fw_b (T_wI hV _ (by decide) rfl) rfl)))
    have s2' := mt_rlS hn ht hb hs hp p9 hdg sg
    obtain ⟨q5, q6, q7, q8, q9⟩ := b2
    refine ⟨_, t + 1, s2 + 1, uI s2, s2', by omega, ⟨(mt_I_ne (Or.inr (by decide))).trans q5, (mt_I_ne (Or.inr (by decide))).trans q6, mt_I_eq, (mt_I_ne (Or.inr (by decide))).trans q8, (mt_I_ne (Or.inr (by decide))).trans q9⟩, Or.inr ⟨by omega, rfl, rfl, mt_aC_f ((mt_fr.refl (fun k _ => decide (k = 3)) V).I 3 7 1 rfl) (fun k m h1 h2 _ => by simp <;> omega) b3⟩, (f1'.trans (b4.mono (fun k j q => ?_))).I 3 7 _ (by simp [mt_DP])⟩
    unfold mt_DP at q
    simp only [Bool.or_eq_false_iff, Bool.and_eq_false_iff, decide_eq_false_iff_not] at q ⊢; omega
/-- ] where none is open -/
theorem mt_sgC0 {w : Int32} (hw : w = 93) {a : Int32} {T : mt_S} (hs : mt_st T) (e6 : T.2.2.1 3 6 = some (uI 0)) : f_X0_readSign 3 w a T = some (1, mt_pI (mt_pI T 3 9 1) 3 10 a) := by
  rw [hw]
  exact fw_t (T_K hs (by decide) rfl) (fw_f (by decide) (fw_f (by decide) (fw_t rfl (fw_b (v := mt_pI (mt_pI T 3 9 1) 3 10 a) (fw_t (T_K hs (by decide) rfl) (fw_b (T_rI hs (by decide) rfl e6) (fw_f (by decide) (fw_b (mt_failC hs _ _) rfl)))) rfl))))
/-- [ too deep -/
theorem mt_sgO3 {w : Int32} (hw : w = 91) {a : Int32} {T : mt_S} (hs : mt_st T) (e6 : T.2.2.1 3 6 = some (uI 3)) : f_X0_readSign 3 w a T = some (1, mt_pI (mt_pI T 3 9 3) 3 10 a) := by
  rw [hw]
  exact fw_t (T_K hs (by decide) rfl) (fw_f (by decide) (fw_t rfl (fw_b (v := mt_pI (mt_pI T 3 9 3) 3 10 a) (fw_t (T_K hs (by decide) rfl) (fw_b (T_rI hs (by decide) rfl e6) (fw_f (by decide) (fw_b (mt_failC hs _ _) rfl)))) rfl)))
/-- any other -/
theorem mt_sgX {w : Int32} (h1 : ¬ w = 32) (h2 : ¬ w = 91) (h3 : ¬ w = 93) (h4 : ¬ w = 104) (h5 : ¬ w = 108) (h6 : ¬ w = 114) (h7 : ¬ w = 117) {a : Int32} {T : mt_S} (hs : mt_st T) : f_X0_readSign 3 w a T = some (1, mt_pI (mt_pI T 3 9 1) 3 10 a) :=
  fw_t (T_K hs (by decide) rfl) (fw_f h1 (fw_f h2 (fw_f h3 (fw_f h4 (fw_f h5 (fw_f h6 (fw_f h7 (fw_b (mt_failC hs _ _) rfl))))))))
end mtIt
