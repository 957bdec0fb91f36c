/-! steps drawn -/
def mt_dw (d : Int32) (c : mt_C) : Int32 × mt_C := if d = 0 then (mt_str1 117 c.1, mt_sty 117 c.1, c.2) else if 3 < d then (if 6 < d then (if mt_mq c.1 c.2 = true then 1 else 0, c.1, mt_ml c.1 c.2) else (mt_str1 114 c.1, mt_sty 114 c.1, c.2)) else (mt_str1 108 c.1, mt_sty 108 c.1, c.2)
theorem mt_s01 (w : Int32) (x : mt_P) : mt_str1 w x = 0 ∨ mt_str1 w x = 1 := by
  unfold mt_str1
  by_cases h : (mt_stp w x).isSome = true
  · rw [if_pos h]; exact Or.inr rfl
  · rw [if_neg h]; exact Or.inl rfl
theorem mt_dw_g {d : Int32} {c : mt_C} (hg : mt_gC c) : mt_gC (mt_dw d c).2 := by
  unfold mt_dw
  by_cases h0 : d = 0
  · rw [if_pos h0]; exact ⟨mt_sty_PL (by decide) hg.1, hg.2⟩
  · rw [if_neg h0]
    by_cases h3 : 3 < d
    · rw [if_pos h3]
      by_cases h6 : 6 < d
      · rw [if_pos h6]; exact mt_ml_g hg
      · rw [if_neg h6]; exact ⟨mt_sty_PL (by decide) hg.1, hg.2⟩
    · rw [if_neg h3]; exact ⟨mt_sty_PL (by decide) hg.1, hg.2⟩
def mt_De (k j : Nat) : Bool := mt_Dh k j || decide (k = 10)
theorem mt_De10 {T T' : mt_S} (f : mt_fr (fun k _ => decide (k = 10)) T T') : mt_fr mt_De T T' := f.mono (fun k j q => by
  unfold mt_De at q
  exact (Bool.or_eq_false_iff.mp q).2)
/-- the program draws -/
theorem mt_drC {T : mt_S} (hs : mt_st T) {c : mt_C} (hg : mt_gC c) (hB : mt_blk T 9 c) (d : Int32) : ∃ T', f_X10_doDrawn 0 d T = some ((mt_dw d c).1, T') ∧ mt_blk T' 9 (mt_dw d c).2 ∧ mt_fr mt_De T T' := by
  obtain ⟨x, l⟩ := c
  unfold mt_dw
  by_cases h0 : d = 0
  · rw [if_pos h0]
    obtain ⟨T2, a2, b2, f2⟩ := mt_stepC (f := f_X4_stepUp 10) (w := 117) (fun _ _ _ _ hp e => (ov_X4_stepUp hp e).1) mt_chU hs hg.1 hB
    exact ⟨T2, fw_t (T_K hs (by decide) rfl) (fw_t h0 (fw_b (T_rR hs (by decide) rfl rfl) (fw_b2 (mt_pl9 hs) (fw_b2 a2 (fw_t (mt_s01 _ _) rfl))))), b2, mt_De10 f2⟩
  · rw [if_neg h0]
    by_cases h3 : 3 < d
    · rw [if_pos h3]
      by_cases h6 : 6 < d
      · rw [if_pos h6]
        obtain ⟨T2, a2, b2, f2⟩ := mt_mhC hs hg hB
        refine ⟨T2, fw_t (T_K hs (by decide) rfl) (fw_f h0 (fw_t h3 (fw_t h6 (fw_b2 a2 (fw_t ?_ rfl))))), b2, f2.mono (fun k j q => by
          unfold mt_De at q
          exact (Bool.or_eq_false_iff.mp q).1)⟩
        by_cases q : mt_mq x l = true
        · rw [if_pos q]; exact Or.inr rfl
        · rw [if_neg q]; exact Or.inl rfl
      · rw [if_neg h6]
        obtain ⟨T2, a2, b2, f2⟩ := mt_stepC (f := f_X4_stepRight 10) (w := 114) (fun _ _ _ _ hp e => (ov_X4_stepRight hp e).1) mt_chR hs hg.1 hB
        exact ⟨T2, fw_t (T_K hs (by decide) rfl) (fw_f h0 (fw_t h3 (fw_f h6 (fw_b (T_rR hs (by decide) rfl rfl) (fw_b2 (mt_pl9 hs) (fw_b2 a2 (fw_t (mt_s01 _ _) rfl))))))), b2, mt_De10 f2⟩
    · rw [if_neg h3]
      obtain ⟨T2, a2, b2, f2⟩ := mt_stepC (f := f_X4_stepLeft 10) (w := 108) (fun _ _ _ _ hp e => (ov_X4_stepLeft hp e).1) mt_chL hs hg.1 hB
      exact ⟨T2, fw_t (T_K hs (by decide) rfl) (fw_f h0 (fw_f h3 (fw_b (T_rR hs (by decide) rfl rfl) (fw_b2 (mt_pl9 hs) (fw_b2 a2 (fw_t (mt_s01 _ _) rfl)))))), b2, mt_De10 f2⟩
/-- the number drawn -/
def mt_sd (s : Int32) : Int32 := (s * 1103515245) + 12345
def mt_dn (s : Int32) : Int32 := (((mt_sd s).toUInt32 >>> ((8 : Int32).toUInt32 &&& Int32.toUInt32 31)).toInt32) - ((mt_sd s).toUInt32 >>> ((8 : Int32).toUInt32 &&& Int32.toUInt32 31)).toInt32 / 8 * 8
def mt_Dd (k j : Nat) : Bool := mt_Ds k j || mt_Dq k j || (decide (k = 96) && decide (j = 38))
theorem mt_lt_le {a b c : Int32} (h : c.toInt = b.toInt + 1) : (b < a ↔ c ≤ a) := by
  rw [Int32.lt_iff_toInt_lt, Int32.le_iff_toInt_le]; omega
/-- the reference draws -/
theorem mt_drM {T : mt_S} (hs : mt_st T) {c : mt_C} (hg : mt_gC c) (hR : mt_row T 98 0 c) {s : Int32} (e : T.2.2.1 96 38 = some s) : ∃ T', f_X11_draws 96 T = some ((mt_dw (mt_dn s) c).1, T') ∧ mt_row T' 98 0 (mt_dw (mt_dn s) c).2 ∧ T'.2.2.1 96 38 = some (mt_sd s) ∧ mt_fr mt_Dd T T' := by
  obtain ⟨x, l⟩ := c
  have hl : l.length ≤ 16 := hg.2.2.1
  have hs1 : mt_st (mt_pI T 96 38 (mt_sd s)) := hs
  have f1 := (mt_fr.refl (fun k j => decide (k = 96) && decide (j = 38)) T).I 96 38 (mt_sd s) rfl
  have a1 : f_X11_draw 96 8 T = some (mt_dn s, mt_pI T 96 38 (mt_sd s)) := fw_t (T_K hs (by decide) rfl) (fw_b (T_rI hs (by decide) rfl e) (fw_b (T_wI hs _ (by decide) rfl) (fw_b (T_rI hs1 (by decide) rfl mt_I_eq) (fw_f (by decide) rfl))))
  have R1 : mt_row (mt_pI T 96 38 (mt_sd s)) 98 0 (x, l) := mt_row_f f1 hl (fun _ _ => rfl) hR
  have e1 : (mt_pI T 96 38 (mt_sd s)).2.2.1 96 38 = some (mt_sd s) := mt_I_eq
  have f1' : mt_fr mt_Dd T (mt_pI T 96 38 (mt_sd s)) := f1.mono (fun k j q => by
    unfold mt_Dd at q
    exact (Bool.or_eq_false_iff.mp q).2)
  generalize mt_pI T 96 38 (mt_sd s) = T1 at a1 R1 e1 f1' hs1
  have st : ∀ w, w ∈ ([108, 114, 117, 104] : List Int32) → ∃ T', f_X11_steps 96 w T1 = some (mt_str1 w x, T') ∧ mt_row T' 98 0 (mt_sty w x, l) ∧ T'.2.2.1 96 38 = some (mt_sd s) ∧ mt_fr mt_Dd T T' := fun w hw => by
    obtain ⟨T2, a2, b2, f2⟩ := mt_stepM hw hs1 hl hg.1 R1
    exact ⟨T2, a2, b2, (f2.2 96 38 rfl).1.trans e1, f1'.trans (f2.mono (fun k j q => by
      unfold mt_Dd at q
      exact (Bool.or_eq_false_iff.mp (Bool.or_eq_false_iff.mp q).1).1))⟩
  unfold mt_dw
  by_cases h0 : mt_dn s = 0
  · rw [if_pos h0]
    obtain ⟨T2, a2, b2, b3, f2⟩ := st 117 (by decide)
    exact ⟨T2, fw_t (T_K hs (by decide) rfl) (fw_b2 a1 (fw_f (by rw [h0]; decide) (fw_t h0 (fw_b2 a2 (fw_t (mt_s01 _ _) rfl))))), b2, b3, f2⟩
  · rw [if_neg h0]
    by_cases h3 : 3 < mt_dn s
    · rw [if_pos h3]
      have h4 : 4 ≤ mt_dn s := (mt_lt_le rfl).mp h3
      by_cases h6 : 6 < mt_dn s
      · rw [if_pos h6]
        have h7 : 7 ≤ mt_dn s := (mt_lt_le rfl).mp h6
        have hh := mt_hereM hs1 hl R1
        unfold mt_ml
        by_cases q1 : mt_ix x 0 l = -1
        · by_cases q2 : l.length < 16
          · have q : mt_mq x l = true := by unfold mt_mq; rw [decide_eq_true q1, decide_eq_true q2]; rfl
            obtain ⟨T2, a2, b2, f2⟩ := mt_marksM hs1 hg q2 R1
            refine ⟨T2, fw_t (T_K hs (by decide) rfl) (fw_b2 a1 (fw_t h7 (fw_b2 hh (fw_t q1 (fw_b (T_rR hs1 (by decide) rfl rfl) (fw_b (T_aI hs1 (j := 2) (by decide) rfl (n := 35) (by decide) (by decide) R1.2.2.1) (fw_f ?_ (fw_b a2 ?_)))))))), ?_, (f2.2 96 38 rfl).1.trans e1, f1'.trans (f2.mono (fun k j q => by
              unfold mt_Dd at q
              exact (Bool.or_eq_false_iff.mp (Bool.or_eq_false_iff.mp q).1).2))⟩
            · show ¬ uI l.length = 16
              rw [show (16 : Int32) = uI 16 from rfl, uI_eq (by omega) (by decide)]; omega
            · show _ = some ((if mt_mq x l = true then (1 : Int32) else 0), T2)
              rw [if_pos q]
            · show mt_row T2 98 0 (x, if mt_mq x l = true then mt_ins x l.reverse [] else l)
              rw [if_pos q]; exact b2
          · have q : ¬ mt_mq x l = true := by unfold mt_mq; rw [decide_eq_false q2, Bool.and_false]; exact Bool.false_ne_true
            refine ⟨T1, fw_t (T_K hs (by decide) rfl) (fw_b2 a1 (fw_t h7 (fw_b2 hh (fw_t q1 (fw_b (T_rR hs1 (by decide) rfl rfl) (fw_b (T_aI hs1 (j := 2) (by decide) rfl (n := 35) (by decide) (by decide) R1.2.2.1) (fw_t ?_ ?_))))))), ?_, e1, f1'⟩
            · show uI l.length = 16
              rw [show (16 : Int32) = uI 16 from rfl, uI_eq (by omega) (by decide)]; omega
            · show _ = some ((if mt_mq x l = true then (1 : Int32) else 0), T1)
              rw [if_neg q]
            · show mt_row T1 98 0 (x, if mt_mq x l = true then mt_ins x l.reverse [] else l)
              rw [if_neg q]; exact R1
        · have q : ¬ mt_mq x l = true := by unfold mt_mq; rw [decide_eq_false q1, Bool.false_and]; exact Bool.false_ne_true
          refine ⟨T1, fw_t (T_K hs (by decide) rfl) (fw_b2 a1 (fw_t h7 (fw_b2 hh (fw_f q1 ?_)))), ?_, e1, f1'⟩
          · show _ = some ((if mt_mq x l = true then (1 : Int32) else 0), T1)
            rw [if_neg q]
          · show mt_row T1 98 0 (x, if mt_mq x l = true then mt_ins x l.reverse [] else l)
            rw [if_neg q]; exact R1
      · rw [if_neg h6]
        have h7 : ¬ 7 ≤ mt_dn s := fun z => h6 ((mt_lt_le rfl).mpr z)
        obtain ⟨T2, a2, b2, b3, f2⟩ := st 114 (by decide)
        exact ⟨T2, fw_t (T_K hs (by decide) rfl) (fw_b2 a1 (fw_f h7 (fw_f h0 (fw_t h4 (fw_b2 a2 (fw_t (mt_s01 _ _) rfl)))))), b2, b3, f2⟩
    · rw [if_neg h3]
      have h4 : ¬ 4 ≤ mt_dn s := fun z => h3 ((mt_lt_le rfl).mpr z)
      have h7 : ¬ 7 ≤ mt_dn s := fun z => h4 (by
        rw [Int32.le_iff_toInt_le] at z ⊢
        have e7 : (7 : Int32).toInt = 7 := rfl
        have e4 : (4 : Int32).toInt = 4 := rfl
        omega)
      obtain ⟨T2, a2, b2, b3, f2⟩ := st 108 (by decide)
      exact ⟨T2, fw_t (T_K hs (by decide) rfl) (fw_b2 a1 (fw_f h7 (fw_f h0 (fw_f h4 (fw_b2 a2 (fw_t (mt_s01 _ _) rfl)))))), b2, b3, f2⟩
def mt_dl : Nat → Int32 → Int32 → mt_C → Int32 × mt_C
  | 0, _, k, c => (k, c)
  | n + 1, s, k, c => if (mt_dw (mt_dn s) c).1 = 0 then mt_dl n (mt_sd s) k (mt_dw (mt_dn s) c).2 else mt_dl n (mt_sd s) (k + 1) (mt_dw (mt_dn s) c).2
theorem mt_dl_g : ∀ (n : Nat) (s k : Int32) (c : mt_C), mt_gC c → mt_gC (mt_dl n s k c).2 := by
  intro n
  induction n with
  | zero => intro s k c h; exact h
  | succ n ih =>
    intro s k c h
    show mt_gC (if (mt_dw (mt_dn s) c).1 = 0 then mt_dl n (mt_sd s) k (mt_dw (mt_dn s) c).2 else mt_dl n (mt_sd s) (k + 1) (mt_dw (mt_dn s) c).2).2
    by_cases q : (mt_dw (mt_dn s) c).1 = 0
    · rw [if_pos q]; exact ih _ _ _ (mt_dw_g h)
    · rw [if_neg q]; exact ih _ _ _ (mt_dw_g h)
theorem mt_De_h {T T' : mt_S} {nx : Nat} {h : List mt_C} (f : mt_fr mt_De T T') (hC : mt_hC T nx h) : mt_hC T' nx h := mt_hC_f f rfl rfl (fun m i j _ _ => by
  have : 17 ≤ mt_rg nx m ∧ mt_rg nx m ≤ 65 := by unfold mt_rg; omega
  unfold mt_De mt_Dh mt_Dp
  simp only [Bool.or_eq_false_iff, Bool.and_eq_false_iff, decide_eq_false_iff_not]; omega) hC
theorem mt_De_b {T T' : mt_S} {r : Nat} {c : mt_C} (f : mt_fr mt_De T T') (hr : r < 9) (hB : mt_blk T (17 + 6 * r) c) : mt_blk T' (17 + 6 * r) c := mt_blk_f f (fun i j _ _ => by
  unfold mt_De mt_Dh mt_Dp
  simp only [Bool.or_eq_false_iff, Bool.and_eq_false_iff, decide_eq_false_iff_not]; omega) hB
def mt_dh (k : Int32) (c : mt_C) (h : List mt_C) : List mt_C := if k ≤ 0 then h else mt_ad c h
theorem mt_dh_g {k : Int32} {c : mt_C} {h : List mt_C} (hc : mt_gC c) (hh : mt_gH h) : mt_gH (mt_dh k c h) := by
  unfold mt_dh
  by_cases q : k ≤ 0
  · rw [if_pos q]; exact hh
  · rw [if_neg q]; exact mt_ad_g hc hh
def mt_D70 (k _j : Nat) : Bool := decide (k = 0) || decide (k = 88) || (decide (9 < k) && decide (k ≤ 70))
theorem mt_De70 {T T' : mt_S} (f : mt_fr mt_De T T') : mt_fr mt_D70 T T' := f.mono (fun k j q => by
  unfold mt_D70 at q
  unfold mt_De mt_Dh mt_Dp
  simp only [Bool.or_eq_false_iff, Bool.and_eq_false_iff, decide_eq_false_iff_not] at q ⊢; omega)
theorem mt_dlC {nx : Nat} {h : List mt_C} {c0 : mt_C} (hnx : nx < 9) (N : Nat) (hN : N ≤ 60) : ∀ (r i f : Nat) (s k : Int32) (c : mt_C) (T : mt_S), mt_st T → mt_gC c → i + r = N → r < f → mt_blk T 9 c → mt_blk T (17 + 6 * nx) c0 → mt_hC T nx h → ∃ T' nx2, f_X10_drawn_L32 f 0 (uI N) s k (uI i) T = some ((mt_dl r s k c).1, T') ∧ mt_blk T' 9 (mt_dl r s k c).2 ∧ mt_hC T' nx2 (mt_dh (mt_dl r s k c).1 c0 h) ∧ mt_fr mt_D70 T T' := by
  intro r
  induction r with
  | zero =>
    intro i f s k c T hs hg hi hf hB h0 hC
    obtain ⟨f, rfl⟩ : ∃ g, f = g + 1 := ⟨f - 1, by omega⟩
    have hi : i = N := hi
    subst hi
    show ∃ T' nx2, f_X10_drawn_L32 (f + 1) 0 (uI i) s k (uI i) T = some (k, T') ∧ mt_blk T' 9 c ∧ mt_hC T' nx2 (mt_dh k c0 h) ∧ mt_fr mt_D70 T T'
    have c0' : uI i ≤ uI i := by rw [uI_le (by omega) (by omega)]; omega
    unfold mt_dh
    by_cases q : k ≤ 0
    · rw [if_pos q]
      exact ⟨T, nx, fw_t c0' (fw_t q rfl), hB, hC, mt_fr.refl _ T⟩
    · rw [if_neg q]
      obtain ⟨T3, a3, h3, f3⟩ := mt_kee hs h0 hC
      exact ⟨T3, _, fw_t c0' (fw_f q (fw_b (T_rR hs (by decide) rfl rfl) (fw_b a3 rfl))), mt_blk_f f3 (fun i j _ _ => by simp; omega) hB, h3, f3.mono (fun k j q => by
        unfold mt_D70 at q
        simp only [Bool.or_eq_false_iff, Bool.and_eq_false_iff, decide_eq_false_iff_not] at q ⊢; omega)⟩
  | succ r ih =>
    intro i f s k c T hs hg hi hf hB h0 hC
    obtain ⟨f, rfl⟩ : ∃ g, f = g + 1 := ⟨f - 1, by omega⟩
    obtain ⟨T1, a1, b1, f1⟩ := mt_drC hs hg hB (mt_dn s)
    have hs1 := f1.st hs
    have nc : ¬ uI N ≤ uI i := by rw [uI_le (by omega) (by omega)]; omega
    have go : ∀ k2 : Int32, ∃ T' nx2, f_X10_drawn_L32 f 0 (uI N) (mt_sd s) k2 (uI i + 1) T1 = some ((mt_dl r (mt_sd s) k2 (mt_dw (mt_dn s) c).2).1, T') ∧ mt_blk T' 9 (mt_dl r (mt_sd s) k2 (mt_dw (mt_dn s) c).2).2 ∧ mt_hC T' nx2 (mt_dh (mt_dl r (mt_sd s) k2 (mt_dw (mt_dn s) c).2).1 c0 h) ∧ mt_fr mt_D70 T1 T' := fun k2 => by
      rw [uI_s]
      exact ih (i + 1) f (mt_sd s) k2 _ T1 hs1 (mt_dw_g hg) (by omega) (by omega) b1 (mt_De_b f1 hnx h0) (mt_De_h f1 hC)
    have e : mt_dl (r + 1) s k c = if (mt_dw (mt_dn s) c).1 = 0 then mt_dl r (mt_sd s) k (mt_dw (mt_dn s) c).2 else mt_dl r (mt_sd s) (k + 1) (mt_dw (mt_dn s) c).2 := rfl
    rw [e]
    by_cases q : (mt_dw (mt_dn s) c).1 = 0
    · rw [if_pos q]
      obtain ⟨T', nx2, g1, g2, g3, g4⟩ := go k
      exact ⟨T', nx2, fw_f nc (fw_b2 a1 (fw_t q g1)), g2, g3, (mt_De70 f1).trans g4⟩
    · rw [if_neg q]
      obtain ⟨T', nx2, g1, g2, g3, g4⟩ := go (k + 1)
      exact ⟨T', nx2, fw_f nc (fw_b2 a1 (fw_f q g1)), g2, g3, (mt_De70 f1).trans g4⟩
theorem mt_DdM {T T' : mt_S} (f : mt_fr mt_Dd T T') : mt_fr mt_DM T T' := f.mono (fun k j q => by
  unfold mt_DM at q
  unfold mt_Dd mt_Ds mt_Dq mt_Dn
  simp only [Bool.or_eq_false_iff, Bool.and_eq_false_iff, decide_eq_false_iff_not] at q ⊢; omega)
theorem mt_dlM {h : List mt_C} {c0 : mt_C} (hh : mt_gH h) (hl8 : h.length ≤ 8) (hg0 : mt_gC c0) (N : Nat) (hN : N ≤ 60) : ∀ (r i f : Nat) (s k : Int32) (c : mt_C) (T : mt_S), mt_st T → mt_gC c → i + r = N → r < f → mt_row T 98 0 c → mt_row T 101 0 c0 → mt_hM T h → T.2.2.1 96 38 = some s → ∃ T', f_X11_drawn_L42 f 96 (uI N) k (uI i) T = some ((mt_dl r s k c).1, T') ∧ mt_row T' 98 0 (mt_dl r s k c).2 ∧ mt_hM T' (mt_dh (mt_dl r s k c).1 c0 h) ∧ mt_fr mt_DM T T' := by
  intro r
  induction r with
  | zero =>
    intro i f s k c T hs hg hi hf hR h0 hM es
    obtain ⟨f, rfl⟩ : ∃ g, f = g + 1 := ⟨f - 1, by omega⟩
    have hi : i = N := hi
    subst hi
    show ∃ T', f_X11_drawn_L42 (f + 1) 96 (uI i) k (uI i) T = some (k, T') ∧ mt_row T' 98 0 c ∧ mt_hM T' (mt_dh k c0 h) ∧ mt_fr mt_DM T T'
    have c0' : uI i ≤ uI i := by rw [uI_le (by omega) (by omega)]; omega
    unfold mt_dh
    by_cases q : k ≤ 0
    · rw [if_pos q]
      exact ⟨T, fw_t c0' (fw_t q rfl), hR, hM, mt_fr.refl _ T⟩
    · rw [if_neg q]
      obtain ⟨T3, a3, b3, m3, f3⟩ := mt_stay hs hl8 hg0 hg hh h0 hR hM
      exact ⟨T3, fw_t c0' (fw_f q (fw_b a3 rfl)), b3, m3, f3.mono (fun k j q => by
        unfold mt_DM at q
        simp only [Bool.or_eq_false_iff, Bool.and_eq_false_iff, decide_eq_false_iff_not] at q ⊢; omega)⟩
  | succ r ih =>
    intro i f s k c T hs hg hi hf hR h0 hM es
    obtain ⟨f, rfl⟩ : ∃ g, f = g + 1 := ⟨f - 1, by omega⟩
    obtain ⟨T1, a1, b1, e1, f1⟩ := mt_drM hs hg hR es
    have hs1 := f1.st hs
    have nc : ¬ uI N ≤ uI i := by rw [uI_le (by omega) (by omega)]; omega
    have go : ∀ k2 : Int32, ∃ T', f_X11_drawn_L42 f 96 (uI N) k2 (uI i + 1) T1 = some ((mt_dl r (mt_sd s) k2 (mt_dw (mt_dn s) c).2).1, T') ∧ mt_row T' 98 0 (mt_dl r (mt_sd s) k2 (mt_dw (mt_dn s) c).2).2 ∧ mt_hM T' (mt_dh (mt_dl r (mt_sd s) k2 (mt_dw (mt_dn s) c).2).1 c0 h) ∧ mt_fr mt_DM T1 T' := fun k2 => by
      rw [uI_s]
      exact ih (i + 1) f (mt_sd s) k2 _ T1 hs1 (mt_dw_g hg) (by omega) (by omega) b1 (mt_row_f f1 hg0.2.2.1 (fun _ _ => rfl) h0) (mt_hM_f f1 hh rfl (fun _ => rfl) hM) e1
    have e : mt_dl (r + 1) s k c = if (mt_dw (mt_dn s) c).1 = 0 then mt_dl r (mt_sd s) k (mt_dw (mt_dn s) c).2 else mt_dl r (mt_sd s) (k + 1) (mt_dw (mt_dn s) c).2 := rfl
    rw [e]
    by_cases q : (mt_dw (mt_dn s) c).1 = 0
    · rw [if_pos q]
      obtain ⟨T', g1, g2, g3, g4⟩ := go k
      exact ⟨T', fw_f nc (fw_b2 a1 (fw_t q g1)), g2, g3, (mt_DdM f1).trans g4⟩
    · rw [if_neg q]
      obtain ⟨T', g1, g2, g3, g4⟩ := go (k + 1)
      exact ⟨T', fw_f nc (fw_b2 a1 (fw_f q g1)), g2, g3, (mt_DdM f1).trans g4⟩
theorem t_30 {T : mt_S} (w s : Int32) (hi : mt_Inv T) : ∃ S', l_30 w s T = some S' ∧ mt_Inv S' := by
  have hs := hi.1
  have hs0 : mt_st (mt_pI T 96 0 0) := hs
  obtain ⟨⟨x, l⟩, hg, hB, hR⟩ := hi.2.1
  have hl : l.length ≤ 16 := hg.2.2.1
  obtain ⟨nx, h, hh⟩ := hi.2.2.1
  obtain ⟨hgh, hC, hM⟩ := mt_hist.mp hh
  by_cases hw : w < 1 ∨ 60 < w
  · refine ⟨mt_pI T 96 0 0, ?_, mt_Inv_c hs (mt_thr (by decide +kernel)) hi⟩
    have c1 : f_X10_drawn 0 w s T = some (-1, T) := by
      refine fw_t (T_K hs (by decide) rfl) ?_
      by_cases h1 : w < 1
      · exact fw_t h1 rfl
      · exact fw_f h1 (fw_f (mt_nle.mpr (hw.resolve_left h1)) rfl)
    have c2 : f_X11_drawn 96 w s T = some (-1, mt_pI T 96 0 0) := by
      refine fw_t (T_K hs (by decide) rfl) (fw_b (T_wI hs 0 (by decide) rfl) (fw_b2 (isInG w 1 60 _) ?_))
      rw [if_pos hw]; rfl
    exact fw_b2 c1 (fw_b2 c2 (if_pos rfl))
  · obtain ⟨h1, h2⟩ := not_or.mp hw
    have h0 : ¬ w < 0 := fun z => h1 (by
      rw [Int32.lt_iff_toInt_lt] at z ⊢
      have e1 : (1 : Int32).toInt = 1 := rfl
      have e0 : (0 : Int32).toInt = 0 := rfl
      omega)
    obtain ⟨N, hN, rfl⟩ := (uI_cs w).resolve_left h0
    have h3 : uI N ≤ 60 := by
      rw [Int32.lt_iff_toInt_lt] at h2; rw [Int32.le_iff_toInt_le]; omega
    have hN60 : N ≤ 60 := by
      rw [show (60 : Int32) = uI 60 from rfl, uI_le hN (by decide)] at h3; exact h3
    obtain ⟨T1, a1, b1, n1, k1, f1⟩ := mt_note hs hg hB hC
    have hs1 := f1.st hs
    obtain ⟨T2, nx2, a2, b2, k2, f2⟩ := mt_dlC (c0 := (x, l)) hC.1 N hN60 N 0 1000 s 0 (x, l) T1 hs1 hg (Nat.zero_add _) (by omega) b1 n1 k1
    have hs2 := f2.st hs1
    have c1 : f_X10_drawn 0 (uI N) s T = some ((mt_dl N s 0 (x, l)).1, T2) := fw_t (T_K hs (by decide) rfl) (fw_f h1 (fw_t h3 (fw_b (T_rR hs (by decide) rfl rfl) (fw_b (T_rR hs (by decide) rfl rfl) (fw_b a1 a2)))))
    have f12 : mt_fr mt_D70 T T2 := (f1.mono (fun k j q => by
      have := hC.1
      unfold mt_D70 at q
      simp only [Bool.or_eq_false_iff, Bool.and_eq_false_iff, decide_eq_false_iff_not] at q ⊢; omega)).trans f2
    have R2 : mt_row T2 98 0 (x, l) := mt_row_f f12 hl (fun _ _ => rfl) hR
    have M2 : mt_hM T2 h := mt_hM_f f12 hgh rfl (fun _ => rfl) hM
    have g0 := (mt_fr.refl (fun k j => decide (k = 96) && decide (j = 0)) T2).I 96 0 0 rfl
    have hs3 := g0.st hs2
    have R3 : mt_row (mt_pI T2 96 0 0) 98 0 (x, l) := mt_row_f g0 hl (fun _ _ => rfl) R2
    have M3 : mt_hM (mt_pI T2 96 0 0) h := mt_hM_f g0 hgh rfl (fun _ => rfl) M2
    obtain ⟨T4, a4, b4, f4⟩ := mt_cp35 hs3 (a := 98) (b := 101) (o1 := 0) (o2 := 0) (na := 35) (nb := 35) (by decide) (by decide) (by decide) rfl rfl (by decide) (by decide) (by decide) (by decide) R3.2.2.2.2
    have hs4 := f4.st hs3
    have K4 : mt_row T4 101 0 (x, l) := mt_row_t hl b4 R3
    have R4 : mt_row T4 98 0 (x, l) := mt_row_f f4 hl (fun _ _ => rfl) R3
    have M4 : mt_hM T4 h := mt_hM_f f4 hgh rfl (fun _ => rfl) M3
    have g5 := (mt_fr.refl (fun k j => decide (k = 96) && decide (j = 38)) T4).I 96 38 s rfl
    have hs5 := g5.st hs4
    obtain ⟨T6, a6, b6, k6, f6⟩ := mt_dlM (c0 := (x, l)) hgh hC.2.1 hg N hN60 N 0 1000 s 0 (x, l) (mt_pI T4 96 38 s) hs5 hg (Nat.zero_add _) (by omega) (mt_row_f g5 hl (fun _ _ => rfl) R4) (mt_row_f g5 hl (fun _ _ => rfl) K4) (mt_hM_f g5 hgh rfl (fun _ => rfl) M4) mt_I_eq
    have c2 : f_X11_drawn 96 (uI N) s T2 = some ((mt_dl N s 0 (x, l)).1, T6) := by
      refine fw_t (T_K hs2 (by decide) rfl) (fw_b (T_wI hs2 0 (by decide) rfl) (fw_b2 (isInG _ 1 60 _) ?_))
      rw [if_neg hw]
      exact fw_f (by decide) (fw_b (T_rR hs3 (by decide) rfl rfl) (fw_b (T_rR hs3 (by decide) rfl rfl) (fw_b a4 (fw_b (T_wI hs4 s (by decide) rfl) a6))))
    have fM : mt_fr mt_DM T2 T6 := (((g0.mono (fun k j q => by
      unfold mt_DM at q
      simp only [Bool.or_eq_false_iff, Bool.and_eq_false_iff, decide_eq_false_iff_not] at q ⊢; omega)).trans (f4.mono (fun k j q => by
      unfold mt_DM at q
      simp only [Bool.or_eq_false_iff, Bool.and_eq_false_iff, decide_eq_false_iff_not] at q ⊢; omega))).trans (g5.mono (fun k j q => by
      unfold mt_DM at q
      simp only [Bool.or_eq_false_iff, Bool.and_eq_false_iff, decide_eq_false_iff_not] at q ⊢; omega))).trans f6
    exact ⟨T6, fw_b2 c1 (fw_b2 c2 (if_pos rfl)), mt_join2 hi f12 fM (mt_dl_g N s 0 (x, l) hg) (mt_dh_g hg hgh) b2 k2 b6 k6⟩
