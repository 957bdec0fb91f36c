/-! the reference reads a path -/
def mt_lv (d : Nat) : Int32 := if d = 0 then 0 else 1
theorem mt_lv0 {d : Nat} : (mt_lv d = 0) ↔ d = 0 := by
  unfold mt_lv
  by_cases q : d = 0
  · rw [if_pos q]; exact ⟨fun _ => q, fun _ => rfl⟩
  · rw [if_neg q]; exact ⟨fun z => absurd z (by decide), fun z => absurd z q⟩
def mt_rsX (rr rc : Nat → Int32 → mt_S → Option mt_S) (x1 v4 v3 : Int32) (S6 : mt_S) : Option mt_S := if v3 = 108 then mt_b2 (f_X11_often 96 S6) fun _ S7 => rc 96 x1 S7 else if v3 = 114 then mt_b2 (f_X11_often 96 S6) fun _ S7 => rc 96 x1 S7 else if v3 = 117 then mt_b2 (f_X11_often 96 S6) fun _ S7 => rc 96 x1 S7 else if v3 = 91 then Option.bind (f_X11_readsBracket rr 96 v4 S6) fun S12 => rc 96 x1 S12 else if v3 = 104 then rc 96 x1 S6 else Option.bind (f_X11_bad 96 1 v4 S6) fun S11 => rc 96 x1 S11
def mt_DR9 (k j : Nat) : Bool := decide (k = 96) && (decide (32 ≤ j) && decide (j ≤ 35))
theorem mt_9_32 {T T' : mt_S} (f : mt_fr mt_D32 T T') : mt_fr mt_DR9 T T' := f.mono (fun k j q => by
  unfold mt_DR9 at q
  unfold mt_D32
  simp only [Bool.and_eq_false_iff, decide_eq_false_iff_not] at q ⊢; omega)
theorem mt_9_b {T T' : mt_S} (f : mt_fr mt_Db T T') : mt_fr mt_DR9 T T' := f.mono (fun k j q => by
  unfold mt_DR9 at q
  unfold mt_Db
  simp only [Bool.or_eq_false_iff, Bool.and_eq_false_iff, decide_eq_false_iff_not] at q ⊢; omega)
section mtRs
variable {c : Nat → Int32} {n : Nat}
theorem mt_tpM_9 {T T' : mt_S} (f : mt_fr mt_DR9 T T') (h : mt_tpM c n T) : mt_tpM c n T' := mt_tpM_f f rfl (fun _ => rfl) h
/-- what follows, for the reference -/
theorem mt_nbM (hn : n ≤ 200) {i j v : Nat} (h : mt_nb c n i j v) {T : mt_S} (hs : mt_st T) (hp : mt_tpM c n T) (e : T.2.2.1 96 32 = some (uI i)) : ∃ T', f_X11_often 96 T = some (uI v, T') ∧ T'.2.2.1 96 32 = some (uI j) ∧ mt_fr mt_D32 T T' := by
  rcases h with ⟨h, h0, rfl⟩ | ⟨a, h, d', h2, m1, -, v1, v9⟩
  · exact mt_of0 hn hs hp h h0 e
  · exact mt_of1 hn hs hp h d' h2 m1 v1 v9 e
theorem mt_nxM (hn : n ≤ 200) {i a : Nat} (h : mt_nx c n i a) {T : mt_S} (hs : mt_st T) (hp : mt_tpM c n T) (e : T.2.2.1 96 32 = some (uI i)) (e33 : T.2.2.1 96 33 = some 0) : ∃ v T', f_X11_often 96 T = some (v, T') ∧ T'.2.2.1 96 33 = some 2 ∧ T'.2.2.1 96 34 = some (uI a) ∧ mt_fr mt_Db T T' := by
  obtain ⟨e', h, d', hb⟩ := h
  exact mt_ofB hn hs hp h d' (hb.imp id And.left) e e33
theorem mt_rsA (hn : n ≤ 200) {rr : Nat → Int32 → mt_S → Option mt_S} {i a f : Nat} {x1 : Int32} (hk : mt_skp c n i a) (ha : a < n) {T : mt_S} (hs : mt_st T) (hp : mt_tpM c n T) (e32 : T.2.2.1 96 32 = some (uI i)) (e33 : T.2.2.1 96 33 = some 0) : ∃ T2, f_X11_reads_L0 rr (f + 1) 96 x1 T = (if c a = 93 ∧ ¬ x1 = 0 then some T2 else mt_rsX rr (f_X11_reads_L0 rr f) x1 (uI a) (c a) (mt_pI T2 96 32 (uI (a + 1)))) ∧ T2.2.2.1 96 32 = some (uI a) ∧ mt_fr mt_D32 T T2 := by
  obtain ⟨T2, b1, b2, b3⟩ := mt_hr hn hs hp hk e32
  rw [if_pos ha] at b1
  have hs2 := b3.st hs
  have n2 : T2.2.2.1 96 31 = some (uI n) := (b3.2 96 31 rfl).1.trans hp.1
  refine ⟨T2, fw_b (T_rI hs (by decide) rfl e33) (fw_t rfl (fw_b2 b1 (fw_b (T_rI hs2 (by decide) rfl b2) ?_))), b2, b3⟩
  have st : ∀ {y : Option mt_S}, mt_rsX rr (f_X11_reads_L0 rr f) x1 (uI a) (c a) (mt_pI T2 96 32 (uI (a + 1))) = y → (Option.bind (mt_rI T2 96 11 32) fun v5 => Option.bind (mt_wI T2 96 11 32 (v5 + 1)) fun S6 => mt_rsX rr (f_X11_reads_L0 rr f) x1 (uI a) (c a) S6) = y := fun h => fw_b (T_rI hs2 (by decide) rfl b2) (by rw [uI_s]; exact fw_b (T_wI hs2 _ (by decide) rfl) h)
  by_cases z0 : c a = 0
  · have z9 : ¬ c a = 93 := fun w => by rw [z0] at w; exact absurd w (by decide)
    exact fw_t z0 (fw_b (T_rI hs2 (by decide) rfl b2) (fw_b (T_rI hs2 (by decide) rfl n2) (fw_t (by rw [uI_lt (by omega) (by omega)]; exact ha) (fw_f z9 (st (if_neg (fun w => z9 w.1)).symm)))))
  · refine fw_f z0 ?_
    by_cases z9 : c a = 93
    · by_cases z1 : x1 = 0
      · exact fw_t z9 (fw_t z1 (st (if_neg (fun w => w.2 z1)).symm))
      · exact fw_t z9 (fw_f z1 (if_pos ⟨z9, z1⟩).symm)
    · exact fw_f z9 (st (if_neg (fun w => z9 w.1)).symm)
theorem mt_rsE (hn : n ≤ 200) {rr : Nat → Int32 → mt_S → Option mt_S} {i f : Nat} {x1 : Int32} (hk : mt_skp c n i n) {T : mt_S} (hs : mt_st T) (hp : mt_tpM c n T) (e32 : T.2.2.1 96 32 = some (uI i)) (e33 : T.2.2.1 96 33 = some 0) : ∃ T2, f_X11_reads_L0 rr (f + 1) 96 x1 T = (if x1 = 0 then some T2 else some (mt_pI (mt_pI T2 96 33 1) 96 34 (uI n))) ∧ T2.2.2.1 96 32 = some (uI n) ∧ mt_fr mt_D32 T T2 := by
  obtain ⟨T2, b1, b2, b3⟩ := mt_hr hn hs hp hk e32
  rw [if_neg (Nat.lt_irrefl n)] at b1
  have hs2 := b3.st hs
  have n2 : T2.2.2.1 96 31 = some (uI n) := (b3.2 96 31 rfl).1.trans hp.1
  refine ⟨T2, fw_b (T_rI hs (by decide) rfl e33) (fw_t rfl (fw_b2 b1 (fw_b (T_rI hs2 (by decide) rfl b2) (fw_t rfl (fw_b (T_rI hs2 (by decide) rfl b2) (fw_b (T_rI hs2 (by decide) rfl n2) (fw_f (by rw [uI_lt (by omega) (by omega)]; omega) ?_))))))), b2, b3⟩
  by_cases z1 : x1 = 0
  · exact fw_t z1 (if_pos z1).symm
  · exact fw_f z1 (fw_b (T_rI hs2 (by decide) rfl n2) (fw_b (mt_bad hs2 ((b3.2 96 33 rfl).1.trans e33) 1 (uI n)) (if_neg z1).symm))
/-- a reading from i on at depth d ends with R -/
def mt_rM (c : Nat → Int32) (n d i : Nat) (R : mt_S → Prop) : Prop := ∀ (T : mt_S) (f : Nat), mt_st T → mt_tpM c n T → T.2.2.1 96 32 = some (uI i) → T.2.2.1 96 33 = some 0 → T.2.2.1 96 35 = some (uI d) → n - i < f → ∃ T', f_X11_reads_L0 (f_X11_reads (5 - d)) f 96 (mt_lv d) T = some T' ∧ R T' ∧ T'.2.2.1 96 35 = some (uI d) ∧ mt_fr mt_DR9 T T'
def mt_okM (b : Nat) (T : mt_S) : Prop := T.2.2.1 96 32 = some (uI b) ∧ T.2.2.1 96 33 = some 0
def mt_ftM (k : Int32) (p : Nat) (T : mt_S) : Prop := T.2.2.1 96 33 = some k ∧ T.2.2.1 96 34 = some (uI p)
/-- after a fault -/
theorem mt_rsF {rr : Nat → Int32 → mt_S → Option mt_S} {f : Nat} (hf : 0 < f) {x1 k : Int32} {T : mt_S} (hs : mt_st T) (hk : ¬ k = 0) (e33 : T.2.2.1 96 33 = some k) : f_X11_reads_L0 rr f 96 x1 T = some T := by
  obtain ⟨f, rfl⟩ : ∃ g, f = g + 1 := ⟨f - 1, by omega⟩
  exact fw_b (T_rI hs (by decide) rfl e33) (fw_f hk rfl)
/-- a letter with how often -/
theorem mt_ltM (hn : n ≤ 200) {i a j v d : Nat} {R : mt_S → Prop} (hk : mt_skp c n i a) (ha : a < n) (hw : c a = 108 ∨ c a = 114 ∨ c a = 117) (h : mt_nb c n (a + 1) j v) (hc : mt_rM c n d j R) : mt_rM c n d i R := by
  intro T f hs hp e32 e33 e35 hf
  have k1 := hk.1
  have jb := mt_nb_b h
  obtain ⟨f, rfl⟩ : ∃ g, f = g + 1 := ⟨f - 1, by omega⟩
  obtain ⟨T2, b1, b2, b3⟩ := mt_rsA (rr := f_X11_reads (5 - d)) (f := f) (x1 := mt_lv d) hn hk ha hs hp e32 e33
  have n9 : ¬ c a = 93 := by rcases hw with e | e | e <;> rw [e] <;> decide
  rw [if_neg (fun w => n9 w.1)] at b1
  have hs2 := b3.st hs
  have g1 := (mt_fr.refl mt_D32 T2).I 96 32 (uI (a + 1)) rfl
  have f1 := b3.trans g1
  obtain ⟨T3, c1, c2, c3⟩ := mt_nbM hn h (T := mt_pI T2 96 32 (uI (a + 1))) hs2 (mt_tpM_9 (mt_9_32 f1) hp) mt_I_eq
  have f2 := f1.trans c3
  obtain ⟨T4, d1, d2, d3, d4⟩ := hc T3 f (f2.st hs) (mt_tpM_9 (mt_9_32 f2) hp) c2 ((f2.2 96 33 rfl).1.trans e33) ((f2.2 96 35 rfl).1.trans e35) (by omega)
  refine ⟨T4, b1.trans ?_, d2, d3, (mt_9_32 f2).trans d4⟩
  rcases hw with e | e | e
  · rw [e]; exact fw_t rfl (fw_b2 c1 d1)
  · rw [e]; exact fw_f (by decide) (fw_t rfl (fw_b2 c1 d1))
  · rw [e]; exact fw_f (by decide) (fw_f (by decide) (fw_t rfl (fw_b2 c1 d1)))
theorem mt_ltMx (hn : n ≤ 200) {i a p d : Nat} (hk : mt_skp c n i a) (ha : a < n) (hw : c a = 108 ∨ c a = 114 ∨ c a = 117) (h : mt_nx c n (a + 1) p) : mt_rM c n d i (mt_ftM 2 p) := by
  intro T f hs hp e32 e33 e35 hf
  have k1 := hk.1
  have jb := mt_nx_b h
  obtain ⟨f, rfl⟩ : ∃ g, f = g + 1 := ⟨f - 1, by omega⟩
  obtain ⟨T2, b1, b2, b3⟩ := mt_rsA (rr := f_X11_reads (5 - d)) (f := f) (x1 := mt_lv d) hn hk ha hs hp e32 e33
  have n9 : ¬ c a = 93 := by rcases hw with e | e | e <;> rw [e] <;> decide
  rw [if_neg (fun w => n9 w.1)] at b1
  have hs2 := b3.st hs
  have g1 := (mt_fr.refl mt_D32 T2).I 96 32 (uI (a + 1)) rfl
  have f1 := b3.trans g1
  obtain ⟨v, T3, c1, c2, c3, c4⟩ := mt_nxM hn h (T := mt_pI T2 96 32 (uI (a + 1))) hs2 (mt_tpM_9 (mt_9_32 f1) hp) mt_I_eq ((f1.2 96 33 rfl).1.trans e33)
  have f2 := (mt_9_32 f1).trans (mt_9_b c4)
  have d1 := mt_rsF (rr := f_X11_reads (5 - d)) (f := f) (x1 := mt_lv d) (by omega) (f2.st hs) (by decide) c2
  refine ⟨T3, b1.trans ?_, ⟨c2, c3⟩, (c4.2 96 35 rfl).1.trans ((f1.2 96 35 rfl).1.trans e35), f2⟩
  rcases hw with e | e | e
  · rw [e]; exact fw_t rfl (fw_b2 c1 d1)
  · rw [e]; exact fw_f (by decide) (fw_t rfl (fw_b2 c1 d1))
  · rw [e]; exact fw_f (by decide) (fw_f (by decide) (fw_t rfl (fw_b2 c1 d1)))
theorem mt_hmM (hn : n ≤ 200) {i a d : Nat} {R : mt_S → Prop} (hk : mt_skp c n i a) (ha : a < n) (hw : c a = 104) (hc : mt_rM c n d (a + 1) R) : mt_rM c n d i R := by
  intro T f hs hp e32 e33 e35 hf
  have k1 := hk.1
  obtain ⟨f, rfl⟩ : ∃ g, f = g + 1 := ⟨f - 1, by omega⟩
  obtain ⟨T2, b1, b2, b3⟩ := mt_rsA (rr := f_X11_reads (5 - d)) (f := f) (x1 := mt_lv d) hn hk ha hs hp e32 e33
  rw [if_neg (fun w => absurd (hw.symm.trans w.1) (by decide))] at b1
  have g1 := (mt_fr.refl mt_D32 T2).I 96 32 (uI (a + 1)) rfl
  have f1 := b3.trans g1
  obtain ⟨T4, d1, d2, d3, d4⟩ := hc (mt_pI T2 96 32 (uI (a + 1))) f (f1.st hs) (mt_tpM_9 (mt_9_32 f1) hp) mt_I_eq ((f1.2 96 33 rfl).1.trans e33) ((f1.2 96 35 rfl).1.trans e35) (by omega)
  refine ⟨T4, b1.trans ?_, d2, d3, (mt_9_32 f1).trans d4⟩
  rw [hw]
  exact fw_f (by decide) (fw_f (by decide) (fw_f (by decide) (fw_f (by decide) (fw_t rfl d1))))
/-- a sign that can't stand -/
theorem mt_xxM (hn : n ≤ 200) {i a d : Nat} (hk : mt_skp c n i a) (ha : a < n) (h9 : ¬ (c a = 93 ∧ ¬ d = 0)) (h2 : ¬ c a = 91) (h4 : ¬ c a = 104) (h5 : ¬ c a = 108) (h6 : ¬ c a = 114) (h7 : ¬ c a = 117) : mt_rM c n d i (mt_ftM 1 a) := by
  intro T f hs hp e32 e33 e35 hf
  have k1 := hk.1
  obtain ⟨f, rfl⟩ : ∃ g, f = g + 1 := ⟨f - 1, by omega⟩
  obtain ⟨T2, b1, b2, b3⟩ := mt_rsA (rr := f_X11_reads (5 - d)) (f := f) (x1 := mt_lv d) hn hk ha hs hp e32 e33
  rw [if_neg (fun w => h9 ⟨w.1, fun z => w.2 (mt_lv0.mpr z)⟩)] at b1
  have hs2 := b3.st hs
  have g1 := (mt_fr.refl mt_D32 T2).I 96 32 (uI (a + 1)) rfl
  have f1 := b3.trans g1
  have bd := mt_bad (T := mt_pI T2 96 32 (uI (a + 1))) hs2 ((f1.2 96 33 rfl).1.trans e33) 1 (uI a)
  have f2 : mt_fr mt_DR9 T (mt_pI (mt_pI (mt_pI T2 96 32 (uI (a + 1))) 96 33 1) 96 34 (uI a)) := ((mt_9_32 f1).I 96 33 _ rfl).I 96 34 _ rfl
  have e33' : (mt_pI (mt_pI (mt_pI T2 96 32 (uI (a + 1))) 96 33 1) 96 34 (uI a)).2.2.1 96 33 = some 1 := (mt_I_ne (Or.inr (by decide))).trans mt_I_eq
  have d1 := mt_rsF (rr := f_X11_reads (5 - d)) (f := f) (x1 := mt_lv d) (by omega) (f2.st hs) (by decide) e33'
  exact ⟨_, b1.trans (fw_f h5 (fw_f h6 (fw_f h7 (fw_f h2 (fw_f h4 (fw_b bd d1)))))), ⟨e33', mt_I_eq⟩, (mt_I_ne (Or.inr (by decide))).trans ((mt_I_ne (Or.inr (by decide))).trans ((f1.2 96 35 rfl).1.trans e35)), f2⟩
/-- the end -/
theorem mt_enM (hn : n ≤ 200) {i d : Nat} (hk : mt_skp c n i n) : mt_rM c n d i (if d = 0 then mt_okM n else mt_ftM 1 n) := by
  intro T f hs hp e32 e33 e35 hf
  obtain ⟨f, rfl⟩ : ∃ g, f = g + 1 := ⟨f - 1, by omega⟩
  obtain ⟨T2, b1, b2, b3⟩ := mt_rsE (rr := f_X11_reads (5 - d)) (f := f) (x1 := mt_lv d) hn hk hs hp e32 e33
  have e35' : T2.2.2.1 96 35 = some (uI d) := (b3.2 96 35 rfl).1.trans e35
  by_cases q : d = 0
  · rw [if_pos q]
    rw [if_pos (mt_lv0.mpr q)] at b1
    exact ⟨T2, b1, ⟨b2, (b3.2 96 33 rfl).1.trans e33⟩, e35', mt_9_32 b3⟩
  · rw [if_neg q]
    rw [if_neg (fun z => q (mt_lv0.mp z))] at b1
    exact ⟨_, b1, ⟨(mt_I_ne (Or.inr (by decide))).trans mt_I_eq, mt_I_eq⟩, (mt_I_ne (Or.inr (by decide))).trans ((mt_I_ne (Or.inr (by decide))).trans e35'), ((mt_9_32 b3).I 96 33 _ rfl).I 96 34 _ rfl⟩
/-- ] -/
theorem mt_clM (hn : n ≤ 200) {i a d : Nat} (hk : mt_skp c n i a) (ha : a < n) (hw : c a = 93) (hd : ¬ d = 0) : mt_rM c n d i (mt_okM a) := by
  intro T f hs hp e32 e33 e35 hf
  obtain ⟨f, rfl⟩ : ∃ g, f = g + 1 := ⟨f - 1, by omega⟩
  obtain ⟨T2, b1, b2, b3⟩ := mt_rsA (rr := f_X11_reads (5 - d)) (f := f) (x1 := mt_lv d) hn hk ha hs hp e32 e33
  rw [if_pos ⟨hw, fun z => hd (mt_lv0.mp z)⟩] at b1
  exact ⟨T2, b1, ⟨b2, (b3.2 96 33 rfl).1.trans e33⟩, (b3.2 96 35 rfl).1.trans e35, mt_9_32 b3⟩
/-- [ : what is inside ends with Ri; then the rest -/
theorem mt_brM (hn : n ≤ 200) {i a d : Nat} {R Ri : mt_S → Prop} (hk : mt_skp c n i a) (ha : a < n) (hw : c a = 91) (hd : d < 3) (hin : mt_rM c n (d + 1) (a + 1) Ri) (hrest : ∀ (T T4 : mt_S) (f : Nat), mt_st T4 → mt_tpM c n T4 → Ri T4 → T4.2.2.1 96 35 = some (uI (d + 1)) → n - (a + 1) < f → ∃ T', (Option.bind (mt_rI (mt_pI T4 96 35 (uI d)) 96 11 33) fun v7 => if v7 = 0 then Option.bind (mt_rI (mt_pI T4 96 35 (uI d)) 96 11 32) fun v8 => Option.bind (mt_wI (mt_pI T4 96 35 (uI d)) 96 11 32 (v8 + 1)) fun S9 => mt_b2 (f_X11_often 96 S9) fun _ S10 => f_X11_reads_L0 (f_X11_reads (5 - d)) f 96 (mt_lv d) S10 else f_X11_reads_L0 (f_X11_reads (5 - d)) f 96 (mt_lv d) (mt_pI T4 96 35 (uI d))) = some T' ∧ R T' ∧ T'.2.2.1 96 35 = some (uI d) ∧ mt_fr mt_DR9 T4 T') : mt_rM c n d i R := by
  intro T f hs hp e32 e33 e35 hf
  have k1 := hk.1
  obtain ⟨f, rfl⟩ : ∃ g, f = g + 1 := ⟨f - 1, by omega⟩
  obtain ⟨T2, b1, b2, b3⟩ := mt_rsA (rr := f_X11_reads (5 - d)) (f := f) (x1 := mt_lv d) hn hk ha hs hp e32 e33
  rw [if_neg (fun w => absurd (hw.symm.trans w.1) (by decide))] at b1
  have hs2 := b3.st hs
  have g1 := (mt_fr.refl mt_D32 T2).I 96 32 (uI (a + 1)) rfl
  have f1 := mt_9_32 (b3.trans g1)
  have e35' : (mt_pI T2 96 32 (uI (a + 1))).2.2.1 96 35 = some (uI d) := ((b3.trans g1).2 96 35 rfl).1.trans e35
  have f2 := f1.I 96 35 (uI (d + 1)) rfl
  have hs3 := f2.st hs
  obtain ⟨T4, c1, c2, c3, c4⟩ := hin (mt_pI (mt_pI T2 96 32 (uI (a + 1))) 96 35 (uI (d + 1))) 1000 hs3 (mt_tpM_9 f2 hp) ((mt_I_ne (Or.inr (by decide))).trans mt_I_eq) ((mt_I_ne (Or.inr (by decide))).trans (((b3.trans g1).2 96 33 rfl).1.trans e33)) mt_I_eq (by omega)
  have f4 := f2.trans c4
  have hs4 := f4.st hs
  obtain ⟨T', h1, h2, h3, h4⟩ := hrest T T4 f hs4 (mt_tpM_9 f4 hp) c2 c3 (by omega)
  refine ⟨T', b1.trans ?_, h2, h3, f4.trans h4⟩
  have e1 : f_X11_reads (5 - d) 96 1 (mt_pI (mt_pI T2 96 32 (uI (a + 1))) 96 35 (uI (d + 1))) = some T4 := by
    rw [show 5 - d = (5 - (d + 1)) + 1 by omega]
    exact fw_t (T_K hs3 (by decide) rfl) c1
  rw [hw]
  refine fw_f (by decide) (fw_f (by decide) (fw_f (by decide) (fw_t rfl ?_)))
  rw [← h1]
  have rb : f_X11_readsBracket (f_X11_reads (5 - d)) 96 (uI a) (mt_pI T2 96 32 (uI (a + 1))) = Option.bind (mt_rI (mt_pI T4 96 35 (uI d)) 96 11 33) fun v7 => if v7 = 0 then Option.bind (mt_rI (mt_pI T4 96 35 (uI d)) 96 11 32) fun v8 => Option.bind (mt_wI (mt_pI T4 96 35 (uI d)) 96 11 32 (v8 + 1)) fun S9 => mt_b2 (f_X11_often 96 S9) fun _ S10 => some S10 else some (mt_pI T4 96 35 (uI d)) := by
    refine fw_t (T_K (T := mt_pI T2 96 32 (uI (a + 1))) hs2 (by decide) rfl) (fw_b (T_rI (T := mt_pI T2 96 32 (uI (a + 1))) hs2 (by decide) rfl e35') (fw_f (by rw [show (3 : Int32) = uI 3 from rfl, uI_eq (by omega) (by decide)]; omega) (fw_b (T_rI (T := mt_pI T2 96 32 (uI (a + 1))) hs2 (by decide) rfl e35') ?_)))
    rw [uI_s]
    refine fw_b (T_wI (T := mt_pI T2 96 32 (uI (a + 1))) hs2 _ (by decide) rfl) (fw_b e1 (fw_b (T_rI hs4 (by decide) rfl c3) ?_))
    rw [uI_p]
    exact fw_b (T_wI hs4 _ (by decide) rfl) rfl
  rw [rb]
  cases z : mt_rI (mt_pI T4 96 35 (uI d)) 96 11 33 with
  | none => rfl
  | some v7 =>
    show Option.bind (if v7 = 0 then _ else _) _ = (if v7 = 0 then _ else _)
    by_cases q : v7 = 0
    · rw [if_pos q, if_pos q]
      cases z2 : mt_rI (mt_pI T4 96 35 (uI d)) 96 11 32 with
      | none => rfl
      | some v8 =>
        show Option.bind (Option.bind (mt_wI (mt_pI T4 96 35 (uI d)) 96 11 32 (v8 + 1)) _) _ = Option.bind (mt_wI (mt_pI T4 96 35 (uI d)) 96 11 32 (v8 + 1)) _
        cases z3 : mt_wI (mt_pI T4 96 35 (uI d)) 96 11 32 (v8 + 1) with
        | none => rfl
        | some S9 =>
          show Option.bind (mt_b2 (f_X11_often 96 S9) _) _ = mt_b2 (f_X11_often 96 S9) _
          cases z4 : f_X11_often 96 S9 with
          | none => rfl
          | some w => rfl
    · rw [if_neg q, if_neg q]; rfl
/-- [ .. ] with how often -/
theorem mt_brMo (hn : n ≤ 200) {i a b j v d : Nat} {R : mt_S → Prop} (hk : mt_skp c n i a) (ha : a < n) (hw : c a = 91) (hd : d < 3) (hab : a < b) (hin : mt_rM c n (d + 1) (a + 1) (mt_okM b)) (h : mt_nb c n (b + 1) j v) (hc : mt_rM c n d j R) : mt_rM c n d i R := by
  have jb := mt_nb_b h
  refine mt_brM hn hk ha hw hd hin (fun T T4 f hs4 hp4 hok e35 hf => ?_)
  obtain ⟨o1, o2⟩ := hok
  have g := ((mt_fr.refl mt_DR9 T4).I 96 35 (uI d) rfl).I 96 32 (uI (b + 1)) rfl
  have hs5 := g.st hs4
  obtain ⟨T6, c1, c2, c3⟩ := mt_nbM hn h hs5 (mt_tpM_9 g hp4) mt_I_eq
  have f6 := g.trans (mt_9_32 c3)
  obtain ⟨T7, d1, d2, d3, d4⟩ := hc T6 f (f6.st hs4) (mt_tpM_9 f6 hp4) c2 ((c3.2 96 33 rfl).1.trans ((mt_I_ne (Or.inr (by decide))).trans ((mt_I_ne (Or.inr (by decide))).trans o2))) ((c3.2 96 35 rfl).1.trans ((mt_I_ne (Or.inr (by decide))).trans mt_I_eq)) (by omega)
  refine ⟨T7, fw_b (T_rI (T := mt_pI T4 96 35 (uI d)) hs4 (by decide) rfl ((mt_I_ne (Or.inr (by decide))).trans o2)) (fw_t rfl (fw_b (T_rI (T := mt_pI T4 96 35 (uI d)) hs4 (by decide) rfl ((mt_I_ne (Or.inr (by decide))).trans o1)) ?_)), d2, d3, f6.trans d4⟩
  rw [uI_s]
  exact fw_b (T_wI (T := mt_pI T4 96 35 (uI d)) hs4 _ (by decide) rfl) (fw_b2 c1 d1)
theorem mt_brMx (hn : n ≤ 200) {i a b p d : Nat} (hk : mt_skp c n i a) (ha : a < n) (hw : c a = 91) (hd : d < 3) (hab : a < b) (hin : mt_rM c n (d + 1) (a + 1) (mt_okM b)) (h : mt_nx c n (b + 1) p) : mt_rM c n d i (mt_ftM 2 p) := by
  refine mt_brM hn hk ha hw hd hin (fun T T4 f hs4 hp4 hok e35 hf => ?_)
  obtain ⟨o1, o2⟩ := hok
  have g := ((mt_fr.refl mt_DR9 T4).I 96 35 (uI d) rfl).I 96 32 (uI (b + 1)) rfl
  have hs5 := g.st hs4
  obtain ⟨v, T6, c1, c2, c3, c4⟩ := mt_nxM hn h hs5 (mt_tpM_9 g hp4) mt_I_eq ((mt_I_ne (Or.inr (by decide))).trans ((mt_I_ne (Or.inr (by decide))).trans o2))
  have f6 := g.trans (mt_9_b c4)
  have d1 := mt_rsF (rr := f_X11_reads (5 - d)) (f := f) (x1 := mt_lv d) (by omega) (f6.st hs4) (by decide) c2
  refine ⟨T6, fw_b (T_rI (T := mt_pI T4 96 35 (uI d)) hs4 (by decide) rfl ((mt_I_ne (Or.inr (by decide))).trans o2)) (fw_t rfl (fw_b (T_rI (T := mt_pI T4 96 35 (uI d)) hs4 (by decide) rfl ((mt_I_ne (Or.inr (by decide))).trans o1)) ?_)), ⟨c2, c3⟩, (c4.2 96 35 rfl).1.trans ((mt_I_ne (Or.inr (by decide))).trans mt_I_eq), f6⟩
  rw [uI_s]
  exact fw_b (T_wI (T := mt_pI T4 96 35 (uI d)) hs4 _ (by decide) rfl) (fw_b2 c1 d1)
theorem mt_brMf (hn : n ≤ 200) {i a p d : Nat} {k : Int32} (h0 : ¬ k = 0) (hk : mt_skp c n i a) (ha : a < n) (hw : c a = 91) (hd : d < 3) (hin : mt_rM c n (d + 1) (a + 1) (mt_ftM k p)) : mt_rM c n d i (mt_ftM k p) := by
  refine mt_brM hn hk ha hw hd hin (fun T T4 f hs4 hp4 hok e35 hf => ?_)
  obtain ⟨o1, o2⟩ := hok
  have g := (mt_fr.refl mt_DR9 T4).I 96 35 (uI d) rfl
  have o1' : (mt_pI T4 96 35 (uI d)).2.2.1 96 33 = some k := (mt_I_ne (Or.inr (by decide))).trans o1
  have d1 := mt_rsF (rr := f_X11_reads (5 - d)) (f := f) (x1 := mt_lv d) (T := mt_pI T4 96 35 (uI d)) (by omega) hs4 h0 o1'
  exact ⟨_, fw_b (T_rI (T := mt_pI T4 96 35 (uI d)) hs4 (by decide) rfl o1') (fw_f h0 d1), ⟨o1', (mt_I_ne (Or.inr (by decide))).trans o2⟩, mt_I_eq, g⟩
/-- [ too deep -/
theorem mt_brM3 (hn : n ≤ 200) {i a : Nat} (hk : mt_skp c n i a) (ha : a < n) (hw : c a = 91) : mt_rM c n 3 i (mt_ftM 3 a) := by
  intro T f hs hp e32 e33 e35 hf
  have k1 := hk.1
  obtain ⟨f, rfl⟩ : ∃ g, f = g + 1 := ⟨f - 1, by omega⟩
  obtain ⟨T2, b1, b2, b3⟩ := mt_rsA (rr := f_X11_reads (5 - 3)) (f := f) (x1 := mt_lv 3) hn hk ha hs hp e32 e33
  rw [if_neg (fun w => absurd (hw.symm.trans w.1) (by decide))] at b1
  have hs2 := b3.st hs
  have g1 := (mt_fr.refl mt_D32 T2).I 96 32 (uI (a + 1)) rfl
  have f1 := b3.trans g1
  have e35' : (mt_pI T2 96 32 (uI (a + 1))).2.2.1 96 35 = some (uI 3) := (f1.2 96 35 rfl).1.trans e35
  have bd := mt_bad (T := mt_pI T2 96 32 (uI (a + 1))) hs2 ((f1.2 96 33 rfl).1.trans e33) 3 (uI a)
  have f2 : mt_fr mt_DR9 T (mt_pI (mt_pI (mt_pI T2 96 32 (uI (a + 1))) 96 33 3) 96 34 (uI a)) := ((mt_9_32 f1).I 96 33 _ rfl).I 96 34 _ rfl
  have e33' : (mt_pI (mt_pI (mt_pI T2 96 32 (uI (a + 1))) 96 33 3) 96 34 (uI a)).2.2.1 96 33 = some 3 := (mt_I_ne (Or.inr (by decide))).trans mt_I_eq
  have d1 := mt_rsF (rr := f_X11_reads (5 - 3)) (f := f) (x1 := mt_lv 3) (by omega) (f2.st hs) (by decide) e33'
  refine ⟨_, b1.trans ?_, ⟨e33', mt_I_eq⟩, (mt_I_ne (Or.inr (by decide))).trans ((mt_I_ne (Or.inr (by decide))).trans e35'), f2⟩
  rw [hw]
  refine fw_f (by decide) (fw_f (by decide) (fw_f (by decide) (fw_t rfl (fw_b (v := mt_pI (mt_pI (mt_pI T2 96 32 (uI (a + 1))) 96 33 3) 96 34 (uI a)) ?_ d1))))
  exact fw_t (T_K (T := mt_pI T2 96 32 (uI (a + 1))) hs2 (by decide) rfl) (fw_b (T_rI (T := mt_pI T2 96 32 (uI (a + 1))) hs2 (by decide) rfl e35') (fw_t rfl (fw_b bd rfl)))
end mtRs
