/-! brackets gone, the reference goes -/
def mt_D7e (e k j : Nat) : Bool := decide (k = 10) || (decide (k = 7) && decide (j = e))
/-- at the end of a bracket -/
theorem mt_ruB {T : mt_S} (hs : mt_st T) {e dn t N v s g : Nat} (he : e < N) (hN : N ≤ 200) (ht : t ≤ 2500) (hsl : s ≤ 200) (hv : v ≤ 99) (hg : g < v) (e5 : T.2.2.1 3 5 = some (uI N)) (a4 : T.2.2.1 4 e = some 93) (a5 : T.2.2.1 5 e = some (uI v)) (a6 : T.2.2.1 6 e = some (uI s)) (a7 : T.2.2.1 7 e = some (uI g)) : mt_ru e dn t T = if v ≤ g + 1 then mt_ru (e + 1) dn (t + 1) (mt_pI (mt_pI T 7 e (uI (g + 1))) 7 e 0) else mt_ru s dn (t + 1) (mt_pI T 7 e (uI (g + 1))) := by
  have hs1 : mt_st (mt_pI T 7 e (uI (g + 1))) := hs
  have n5 : (mt_pI T 7 e (uI (g + 1))).2.2.1 5 e = some (uI v) := (mt_I_ne (Or.inl (by decide))).trans a5
  have n6 : (mt_pI T 7 e (uI (g + 1))).2.2.1 6 e = some (uI s) := (mt_I_ne (Or.inl (by decide))).trans a6
  have af : f_X0_afterBracket 3 (uI e) T = if v ≤ g + 1 then some (uI e + 1, mt_pI (mt_pI T 7 e (uI (g + 1))) 7 e 0) else some (uI s, mt_pI T 7 e (uI (g + 1))) := by
    refine fw_t (T_K hs (by decide) rfl) (fw_b (T_rR hs (by decide) rfl rfl) (fw_b (T_aI hs (by decide) rfl (n := 200) (by omega) (by decide) a7) ?_))
    rw [uI_s]
    refine fw_b (T_sI hs _ (by decide) rfl (n := 200) (by omega) (by decide)) (fw_b (T_rR hs1 (by decide) rfl rfl) (fw_b (T_aI hs1 (by decide) rfl (n := 200) (by omega) (by decide) mt_I_eq) (fw_b (T_rR hs1 (by decide) rfl rfl) (fw_b (T_aI hs1 (by decide) rfl (n := 200) (by omega) (by decide) n5) ?_))))
    by_cases q : v ≤ g + 1
    · exact fw_t ((uI_le (by omega) (by omega)).mpr q) (fw_b (T_rR hs1 (by decide) rfl rfl) (fw_b (T_sI hs1 _ (by decide) rfl (n := 200) (by omega) (by decide)) (if_pos q).symm))
    · exact fw_f (fun w => q ((uI_le (by omega) (by omega)).mp w)) (fw_b (T_rR hs1 (by decide) rfl rfl) (fw_b (T_aI hs1 (by decide) rfl (n := 200) (by omega) (by decide) n6) (if_neg q).symm))
  unfold mt_ru
  rw [show 5000 - t = (5000 - (t + 1)) + 1 by omega]
  refine fw_f (by rw [show (1000000 : Int32) = uI 1000000 from rfl, uI_le (by decide) (by omega)]; omega) (fw_f (uI_nn (by omega)) (fw_b (T_rI hs (by decide) rfl e5) (fw_f (by rw [uI_le (by omega) (by omega)]; omega) (fw_b (T_rR hs (by decide) rfl rfl) (fw_b (T_aI hs (by decide) rfl (n := 200) (by omega) (by decide) a4) (fw_t rfl ?_))))))
  by_cases q : v ≤ g + 1
  · rw [if_pos q] at af
    refine fw_b2 af ?_
    rw [if_pos q, uI_s, uI_s]
  · rw [if_neg q] at af
    refine fw_b2 af ?_
    rw [if_neg q, uI_s]
theorem mt_rcBL {K s v N : Nat} {ac : List mt_Ac} {den : mt_Dn9} {l : List mt_P} (hden : mt_dk den) (hne : ¬ ac = []) (h : mt_rC9 K s ac den) (h9 : v ≤ 99) (hN : N ≤ 200) (hlN : s + ac.length + 1 ≤ N) : ∀ (r g : Nat) (T : mt_S) (t dn : Nat) (x : mt_P), g + (r + 1) = v → mt_st T → mt_blk T 9 (x, l) → x ∈ mt_PL → dn ≤ 500 → T.2.2.1 3 5 = some (uI N) → mt_aC T s ac → T.2.2.1 4 (s + ac.length) = some 93 → T.2.2.1 5 (s + ac.length) = some (uI v) → T.2.2.1 6 (s + ac.length) = some (uI s) → T.2.2.1 7 (s + ac.length) = some (uI g) → t + (K + 1) * (500 - dn) ≤ 2500 →
    ((mt_dR den (r + 1) (x, dn)).2 = false → ∃ T' t', mt_ru s dn t T = mt_ru (s + ac.length + 1) (mt_dR den (r + 1) (x, dn)).1.2 t' T' ∧ t' + (K + 1) * (500 - (mt_dR den (r + 1) (x, dn)).1.2) ≤ t + (K + 1) * (500 - dn) ∧ dn < (mt_dR den (r + 1) (x, dn)).1.2 ∧ mt_blk T' 9 ((mt_dR den (r + 1) (x, dn)).1.1, l) ∧ T'.2.2.1 7 (s + ac.length) = some 0 ∧ T'.2.2.2.1 7 (s + ac.length) = T.2.2.2.1 7 (s + ac.length) ∧ mt_fr (mt_D7e (s + ac.length)) T T') ∧
    ((mt_dR den (r + 1) (x, dn)).2 = true → ∃ T', mt_ru s dn t T = some (uI (mt_dR den (r + 1) (x, dn)).1.2, T') ∧ mt_blk T' 9 ((mt_dR den (r + 1) (x, dn)).1.1, l) ∧ mt_fr mt_D17 T T') := by
  intro r
  induction r with
  | zero =>
    intro g T t dn x hg hs hB hx hdn e5 hA a4 a5 a6 a7 ht
    have hK : (K + 1) * (500 - dn) = K * (500 - dn) + (500 - dn) := by rw [Nat.add_mul, Nat.one_mul]
    obtain ⟨p1, p2⟩ := h T N t dn x l hs hB hx hdn e5 (by omega) hN hA (by omega)
    have e : mt_dR den (0 + 1) (x, dn) = if (den (x, dn)).2 = true then den (x, dn) else ((den (x, dn)).1, false) := rfl
    rw [e]
    by_cases q : (den (x, dn)).2 = true
    · rw [if_pos q]
      exact ⟨fun z => (by rw [q] at z; cases z), fun _ => p2 q⟩
    · rw [if_neg q]
      obtain ⟨T1, t1, c1, c2, c3, c4, c5⟩ := p1 (by simpa using q)
      obtain ⟨z1, z2, z3⟩ := hden (x, dn) hx hdn
      have c3 := c3 hne
      have hK1 : (K + 1) * (500 - (den (x, dn)).1.2) = K * (500 - (den (x, dn)).1.2) + (500 - (den (x, dn)).1.2) := by rw [Nat.add_mul, Nat.one_mul]
      have s1 := mt_ruB (e := s + ac.length) (dn := (den (x, dn)).1.2) (t := t1) (N := N) (v := v) (s := s) (g := g) (c5.st hs) (by omega) hN (by omega) (by omega) h9 (by omega) ((c5.2 3 5 rfl).1.trans e5) ((c5.2 4 _ rfl).1.trans a4) ((c5.2 5 _ rfl).1.trans a5) ((c5.2 6 _ rfl).1.trans a6) ((c5.2 7 _ rfl).1.trans a7)
      rw [if_pos (by omega)] at s1
      refine ⟨fun _ => ⟨_, t1 + 1, c1.trans s1, ?_, c3, ?_, mt_I_eq, (c5.2 7 _ rfl).2, ?_⟩, fun z => (by cases z)⟩
      · show t1 + 1 + (K + 1) * (500 - (den (x, dn)).1.2) ≤ _
        omega
      · have f7 := ((mt_fr.refl (fun k _ => decide (k = 7)) T1).I 7 (s + ac.length) (uI (g + 1)) rfl).I 7 (s + ac.length) 0 rfl
        exact mt_blk_f f7 (fun i j _ _ => by simp <;> omega) c4
      · exact ((c5.mono (fun k j w => by unfold mt_D7e at w; exact (Bool.or_eq_false_iff.mp w).1)).I 7 (s + ac.length) _ (by simp [mt_D7e])).I 7 (s + ac.length) _ (by simp [mt_D7e])
  | succ r ih =>
    intro g T t dn x hg hs hB hx hdn e5 hA a4 a5 a6 a7 ht
    have hK : (K + 1) * (500 - dn) = K * (500 - dn) + (500 - dn) := by rw [Nat.add_mul, Nat.one_mul]
    obtain ⟨p1, p2⟩ := h T N t dn x l hs hB hx hdn e5 (by omega) hN hA (by omega)
    have e : mt_dR den (r + 1 + 1) (x, dn) = if (den (x, dn)).2 = true then den (x, dn) else mt_dR den (r + 1) (den (x, dn)).1 := rfl
    rw [e]
    by_cases q : (den (x, dn)).2 = true
    · rw [if_pos q]
      exact ⟨fun z => (by rw [q] at z; cases z), fun _ => p2 q⟩
    · rw [if_neg q]
      obtain ⟨T1, t1, c1, c2, c3, c4, c5⟩ := p1 (by simpa using q)
      obtain ⟨z1, z2, z3⟩ := hden (x, dn) hx hdn
      have c3 := c3 hne
      have hK1 : (K + 1) * (500 - (den (x, dn)).1.2) = K * (500 - (den (x, dn)).1.2) + (500 - (den (x, dn)).1.2) := by rw [Nat.add_mul, Nat.one_mul]
      have s1 := mt_ruB (e := s + ac.length) (dn := (den (x, dn)).1.2) (t := t1) (N := N) (v := v) (s := s) (g := g) (c5.st hs) (by omega) hN (by omega) (by omega) h9 (by omega) ((c5.2 3 5 rfl).1.trans e5) ((c5.2 4 _ rfl).1.trans a4) ((c5.2 5 _ rfl).1.trans a5) ((c5.2 6 _ rfl).1.trans a6) ((c5.2 7 _ rfl).1.trans a7)
      rw [if_neg (by omega)] at s1
      have f7 := (mt_fr.refl (fun k j => decide (k = 7) && decide (j = s + ac.length)) T1).I 7 (s + ac.length) (uI (g + 1)) (by simp)
      have fe : mt_fr (mt_D7e (s + ac.length)) T (mt_pI T1 7 (s + ac.length) (uI (g + 1))) := (c5.mono (fun k j w => by unfold mt_D7e at w; exact (Bool.or_eq_false_iff.mp w).1)).I 7 (s + ac.length) _ (by simp [mt_D7e])
      have hA2 : mt_aC (mt_pI T1 7 (s + ac.length) (uI (g + 1))) s ac := mt_aC_f f7 (fun k m _ _ hm => by simp <;> omega) (mt_aC_f c5 (fun k m k1 k2 _ => by unfold mt_D10; simp <;> omega) hA)
      obtain ⟨r1, r2⟩ := ih (g + 1) (mt_pI T1 7 (s + ac.length) (uI (g + 1))) (t1 + 1) (den (x, dn)).1.2 (den (x, dn)).1.1 (by omega) (fe.st hs) (mt_blk_f f7 (fun i j _ _ => by simp <;> omega) c4) z1 z3 ((fe.2 3 5 rfl).1.trans e5) hA2 ((fe.2 4 _ rfl).1.trans a4) ((fe.2 5 _ rfl).1.trans a5) ((fe.2 6 _ rfl).1.trans a6) mt_I_eq (by omega)
      rw [show ((den (x, dn)).1.1, (den (x, dn)).1.2) = (den (x, dn)).1 from rfl] at r1 r2
      refine ⟨fun z => ?_, fun z => ?_⟩
      · obtain ⟨T2, t2, d1, d2, d3, d4, d5, d6, d7⟩ := r1 z
        exact ⟨T2, t2, c1.trans (s1.trans d1), by omega, by omega, d4, d5, d6.trans (c5.2 7 _ rfl).2, fe.trans d7⟩
      · obtain ⟨T2, d1, d2, d3⟩ := r2 z
        refine ⟨T2, c1.trans (s1.trans d1), d2, (fe.mono (fun k j w => ?_)).trans d3⟩
        unfold mt_D17 at w
        unfold mt_D7e
        simp only [Bool.or_eq_false_iff, Bool.and_eq_false_iff, decide_eq_false_iff_not] at w ⊢; omega
theorem mt_rcB {K s v : Nat} {ac : List mt_Ac} {den : mt_Dn9} (hden : mt_dk den) (hne : ¬ ac = []) (h : mt_rC9 K s ac den) (h1 : 1 ≤ v) (h9 : v ≤ 99) : mt_rC9 (K + 1) s (ac ++ [(93, v, s)]) (mt_dR den v) := by
  intro T N t dn x l hs hB hx hdn e5 hl hN hA ht
  rw [List.length_append] at hl
  have hl : s + (ac.length + 1) ≤ N := hl
  have hA1 : mt_aC T s ac := fun m y hm => hA m y (by rw [List.getElem?_append_left (mt_lt_of hm)]; exact hm)
  obtain ⟨a4, a5, a6, a7⟩ := hA ac.length (93, v, s) (by rw [List.getElem?_append_right (Nat.le_refl _), Nat.sub_self]; rfl)
  obtain ⟨r, rfl⟩ : ∃ r, v = r + 1 := ⟨v - 1, by omega⟩
  obtain ⟨p1, p2⟩ := mt_rcBL (l := l) hden hne h h9 hN (by omega) r 0 T t dn x (by omega) hs hB hx hdn e5 hA1 a4 a5 a6 a7 ht
  refine ⟨fun z => ?_, p2⟩
  obtain ⟨T', t', c1, c2, c3, c4, c5, c6, c7⟩ := p1 z
  refine ⟨T', t', ?_, c2, fun _ => c3, c4, c7.1, fun k j w => ?_⟩
  · rw [List.length_append]; exact c1
  · by_cases q : k = 7 ∧ j = s + ac.length
    · obtain ⟨rfl, rfl⟩ := q
      exact ⟨c5.trans a7.symm, c6⟩
    · refine c7.2 k j ?_
      unfold mt_D7e
      rw [Bool.or_eq_false_iff]
      refine ⟨w, ?_⟩
      rw [Bool.and_eq_false_iff, decide_eq_false_iff_not, decide_eq_false_iff_not]
      omega
/-! the reference -/
def mt_DG (k j : Nat) : Bool := mt_Ds k j || (decide (k = 96) && (decide (j = 32) || decide (j = 36) || decide (j = 37)))
theorem mt_DG_s {T T' : mt_S} (f : mt_fr mt_Ds T T') : mt_fr mt_DG T T' := f.mono (fun k j q => by
  unfold mt_DG at q
  exact (Bool.or_eq_false_iff.mp q).1)
theorem mt_DG_3 {T T' : mt_S} (f : mt_fr mt_D32 T T') : mt_fr mt_DG T T' := f.mono (fun k j q => by
  unfold mt_DG at q
  unfold mt_D32
  simp only [Bool.or_eq_false_iff, Bool.and_eq_false_iff, decide_eq_false_iff_not] at q ⊢; omega)
def mt_DH (k j : Nat) : Bool := mt_Ds k j || (decide (k = 96) && (decide (j = 36) || decide (j = 37)))
theorem mt_DH_s {T T' : mt_S} (f : mt_fr mt_Ds T T') : mt_fr mt_DH T T' := f.mono (fun k j q => by
  unfold mt_DH at q
  exact (Bool.or_eq_false_iff.mp q).1)
theorem mt_DG_H {T T' : mt_S} (f : mt_fr mt_DH T T') : mt_fr mt_DG T T' := f.mono (fun k j q => by
  unfold mt_DG at q
  unfold mt_DH
  simp only [Bool.or_eq_false_iff, Bool.and_eq_false_iff, decide_eq_false_iff_not] at q ⊢
  refine ⟨q.1, ?_⟩
  omega)
def mt_hd (b : Bool) : Int32 := if b = true then 1 else 0
theorem mt_doH {w : Int32} {v : Nat} {x3 : Int32} {f : Nat} (hf : 0 < f) {T : mt_S} (hs : mt_st T) (e37 : T.2.2.1 96 37 = some 1) : f_X11_does_L2 f 96 w (uI v) x3 T = some T := by
  obtain ⟨f, rfl⟩ : ∃ g, f = g + 1 := ⟨f - 1, by omega⟩
  by_cases q : uI v ≤ x3
  · exact fw_t q rfl
  · exact fw_f q (fw_b (T_rI hs (by decide) rfl e37) (fw_f (by decide) rfl))
theorem mt_doM {w : Int32} (hw : w ∈ ([108, 114, 117, 104] : List Int32)) {v : Nat} (hv : v ≤ 99) {l : List mt_P} (hl : l.length ≤ 16) : ∀ (r k f dn : Nat) (x : mt_P) (T : mt_S), k + r = v → r < f → mt_st T → x ∈ mt_PL → dn ≤ 500 → mt_row T 98 0 (x, l) → T.2.2.1 96 36 = some (uI dn) → T.2.2.1 96 37 = some 0 → ∃ T', f_X11_does_L2 f 96 w (uI v) (uI k) T = some T' ∧ mt_row T' 98 0 ((mt_dL w r (x, dn)).1.1, l) ∧ T'.2.2.1 96 36 = some (uI (mt_dL w r (x, dn)).1.2) ∧ T'.2.2.1 96 37 = some (mt_hd (mt_dL w r (x, dn)).2) ∧ mt_fr mt_DH T T' := by
  intro r
  induction r with
  | zero =>
    intro k f dn x T hk hf hs hx hdn hR e36 e37
    obtain ⟨f, rfl⟩ : ∃ g, f = g + 1 := ⟨f - 1, by omega⟩
    exact ⟨T, fw_t (by rw [uI_le (by omega) (by omega)]; omega) rfl, hR, e36, e37, mt_fr.refl _ T⟩
  | succ r ih =>
    intro k f dn x T hk hf hs hx hdn hR e36 e37
    obtain ⟨f, rfl⟩ : ∃ g, f = g + 1 := ⟨f - 1, by omega⟩
    have e : mt_dL w (r + 1) (x, dn) = if dn = 500 ∨ mt_str1 w x = 0 then ((x, dn), true) else mt_dL w r (mt_sty w x, dn + 1) := rfl
    rw [e]
    have nc : ¬ uI v ≤ uI k := by rw [uI_le (by omega) (by omega)]; omega
    by_cases q5 : dn = 500
    · rw [if_pos (Or.inl q5)]
      have g := (mt_fr.refl (fun a b => decide (a = 96) && decide (b = 37)) T).I 96 37 1 rfl
      refine ⟨mt_pI T 96 37 1, fw_f nc (fw_b (T_rI hs (by decide) rfl e37) (fw_t rfl (fw_b (T_rI hs (by decide) rfl e36) (fw_t (by rw [q5]; rfl) (fw_b (T_wI hs _ (by decide) rfl) (mt_doH (by omega) hs mt_I_eq)))))), mt_row_f g hl (fun _ _ => rfl) hR, (mt_I_ne (Or.inr (by decide))).trans e36, mt_I_eq, (mt_fr.refl mt_DH T).I 96 37 1 rfl⟩
    · have q5' : ¬ uI dn = 500 := by rw [show (500 : Int32) = uI 500 from rfl, uI_eq (by omega) (by decide)]; exact q5
      obtain ⟨T1, a1, b1, f1⟩ := mt_stepM hw hs hl hx hR
      have hs1 := f1.st hs
      have n36 : T1.2.2.1 96 36 = some (uI dn) := (f1.2 96 36 rfl).1.trans e36
      have n37 : T1.2.2.1 96 37 = some 0 := (f1.2 96 37 rfl).1.trans e37
      by_cases q0 : mt_str1 w x = 0
      · rw [if_pos (Or.inr q0)]
        have ey : mt_sty w x = x := by
          unfold mt_str1 at q0
          unfold mt_sty
          cases ez : mt_stp w x with
          | none => rfl
          | some y =>
            rw [ez] at q0
            have q0 : (1 : Int32) = 0 := q0
            exact absurd q0 (by decide)
        rw [ey] at b1
        have g := (mt_fr.refl (fun a b => decide (a = 96) && decide (b = 37)) T1).I 96 37 1 rfl
        exact ⟨mt_pI T1 96 37 1, fw_f nc (fw_b (T_rI hs (by decide) rfl e37) (fw_t rfl (fw_b (T_rI hs (by decide) rfl e36) (fw_f q5' (fw_b2 a1 (fw_t q0 (fw_b (T_wI hs1 _ (by decide) rfl) (mt_doH (by omega) hs1 mt_I_eq)))))))), mt_row_f g hl (fun _ _ => rfl) b1, (mt_I_ne (Or.inr (by decide))).trans n36, mt_I_eq, (mt_DH_s f1).I 96 37 1 rfl⟩
      · rw [if_neg (not_or.mpr ⟨q5, q0⟩)]
        have g := (mt_fr.refl (fun a b => decide (a = 96) && decide (b = 36)) T1).I 96 36 (uI (dn + 1)) rfl
        obtain ⟨T2, a2, b2, c2, d2, f2⟩ := ih (k + 1) f (dn + 1) (mt_sty w x) (mt_pI T1 96 36 (uI (dn + 1))) (by omega) (by omega) hs1 (mt_sty_PL hw hx) (by omega) (mt_row_f g hl (fun _ _ => rfl) b1) mt_I_eq ((mt_I_ne (Or.inr (by decide))).trans n37)
        refine ⟨T2, fw_f nc (fw_b (T_rI hs (by decide) rfl e37) (fw_t rfl (fw_b (T_rI hs (by decide) rfl e36) (fw_f q5' (fw_b2 a1 (fw_f q0 (fw_b (T_rI hs1 (by decide) rfl n36) ?_))))))), b2, c2, d2, ((mt_DH_s f1).I 96 36 _ rfl).trans f2⟩
        rw [uI_s, uI_s]
        exact fw_b (T_wI hs1 _ (by decide) rfl) a2
def mt_goX (rr rc : Nat → Int32 → mt_S → Option mt_S) (x1 v3 : Int32) (S7 : mt_S) : Option mt_S := if v3 = 104 then Option.bind (f_X11_does 96 104 1 S7) fun S21 => rc 96 x1 S21 else if v3 = 91 then Option.bind (mt_rI S7 96 11 32) fun v11 => Option.bind (f_X11_skips 96 S7) fun S12 => mt_b2 (f_X11_often 96 S12) fun v14 S13 => Option.bind (mt_rI S13 96 11 32) fun v15 => f_X11_goes_L90 rr (fun z0 z1 z5 S19 => Option.bind (mt_wI S19 z0 11 32 z5) fun S20 => rc z0 z1 S20) 1000 96 x1 v11 v14 v15 0 S13 else mt_b2 (f_X11_often 96 S7) fun v9 S8 => Option.bind (f_X11_does 96 v3 v9 S8) fun S10 => rc 96 x1 S10
section mtGo
variable {c : Nat → Int32} {n : Nat}
theorem mt_tpM_G {T T' : mt_S} (f : mt_fr mt_DG T T') (h : mt_tpM c n T) : mt_tpM c n T' := mt_tpM_f f rfl (fun _ => rfl) h
theorem mt_goA (hn : n ≤ 200) {rr : Nat → Int32 → mt_S → Option mt_S} {i a f : Nat} {x1 : Int32} (hk : mt_skp c n i a) {T : mt_S} (hs : mt_st T) (hp : mt_tpM c n T) (e32 : T.2.2.1 96 32 = some (uI i)) (e37 : T.2.2.1 96 37 = some 0) : ∃ T2, f_X11_goes_L0 rr (f + 1) 96 x1 T = (if n ≤ a ∨ (c a = 93 ∧ ¬ x1 = 0) then some T2 else mt_goX rr (f_X11_goes_L0 rr f) x1 (c a) (mt_pI T2 96 32 (uI (a + 1)))) ∧ mt_fr mt_D32 T T2 := by
  obtain ⟨T2, b1, b2, b3⟩ := mt_hr hn hs hp hk e32
  have k2 := hk.2.1
  have hs2 := b3.st hs
  have n2 : T2.2.2.1 96 31 = some (uI n) := (b3.2 96 31 rfl).1.trans hp.1
  refine ⟨T2, fw_b (T_rI hs (by decide) rfl e37) (fw_t rfl (fw_b2 b1 (fw_b (T_rI hs2 (by decide) rfl b2) (fw_b (T_rI hs2 (by decide) rfl n2) ?_)))), b3⟩
  by_cases ha : n ≤ a
  · exact fw_t (by rw [uI_le (by omega) (by omega)]; exact ha) (if_pos (Or.inl ha)).symm
  · have hA : a < n := by omega
    refine fw_f (by rw [uI_le (by omega) (by omega)]; exact ha) ?_
    rw [if_pos hA]
    have st : ∀ {y : Option mt_S}, mt_goX rr (f_X11_goes_L0 rr f) x1 (c a) (mt_pI T2 96 32 (uI (a + 1))) = y → (Option.bind (mt_rI T2 96 11 32) fun v5 => Option.bind (mt_wI T2 96 11 32 (v5 + 1)) fun S6 => mt_goX rr (f_X11_goes_L0 rr f) x1 (c a) S6) = y := fun h => fw_b (T_rI hs2 (by decide) rfl b2) (by rw [uI_s]; exact fw_b (T_wI hs2 _ (by decide) rfl) h)
    by_cases z9 : c a = 93
    · by_cases z1 : x1 = 0
      · exact fw_t z9 (fw_t z1 (st (if_neg (not_or.mpr ⟨ha, fun w => w.2 z1⟩)).symm))
      · exact fw_t z9 (fw_f z1 (if_pos (Or.inr ⟨z9, z1⟩)).symm)
    · exact fw_f z9 (st (if_neg (not_or.mpr ⟨ha, fun w => z9 w.1⟩)).symm)
theorem mt_goF {rr : Nat → Int32 → mt_S → Option mt_S} {f : Nat} (hf : 0 < f) {x1 : Int32} {T : mt_S} (hs : mt_st T) (e37 : T.2.2.1 96 37 = some 1) : f_X11_goes_L0 rr f 96 x1 T = some T := by
  obtain ⟨f, rfl⟩ : ∃ g, f = g + 1 := ⟨f - 1, by omega⟩
  exact fw_b (T_rI hs (by decide) rfl e37) (fw_f (by decide) rfl)
/-- going from i on at depth d does what den tells -/
def mt_gM (c : Nat → Int32) (n d i : Nat) (den : mt_Dn9) : Prop := ∀ (T : mt_S) (f dn : Nat) (x : mt_P) (l : List mt_P), mt_st T → mt_tpM c n T → mt_row T 98 0 (x, l) → l.length ≤ 16 → x ∈ mt_PL → dn ≤ 500 → T.2.2.1 96 32 = some (uI i) → T.2.2.1 96 36 = some (uI dn) → T.2.2.1 96 37 = some 0 → n - i < f → ∃ T', f_X11_goes_L0 (f_X11_goes (5 - d)) f 96 (mt_lv d) T = some T' ∧ mt_row T' 98 0 ((den (x, dn)).1.1, l) ∧ T'.2.2.1 96 36 = some (uI (den (x, dn)).1.2) ∧ T'.2.2.1 96 37 = some (mt_hd (den (x, dn)).2) ∧ mt_fr mt_DG T T'
theorem mt_gEn (hn : n ≤ 200) {i a d : Nat} (hk : mt_skp c n i a) (h : n ≤ a ∨ (c a = 93 ∧ ¬ d = 0)) : mt_gM c n d i mt_d0 := by
  intro T f dn x l hs hp hR hl hx hdn e32 e36 e37 hf
  obtain ⟨f, rfl⟩ : ∃ g, f = g + 1 := ⟨f - 1, by omega⟩
  obtain ⟨T2, b1, b3⟩ := mt_goA (rr := f_X11_goes (5 - d)) (f := f) (x1 := mt_lv d) hn hk hs hp e32 e37
  rw [if_pos (h.imp id (fun w => ⟨w.1, fun z => w.2 (mt_lv0.mp z)⟩))] at b1
  exact ⟨T2, b1, mt_row_f b3 hl (fun _ _ => rfl) hR, (b3.2 96 36 rfl).1.trans e36, (b3.2 96 37 rfl).1.trans e37, mt_DG_3 b3⟩
/-- what comes behind an item that was done -/
theorem mt_gNx {d j f : Nat} {den g : mt_Dn9} {x : mt_P} {l : List mt_P} {dn : Nat} (hl : l.length ≤ 16) (hden : mt_dk den) (hx : x ∈ mt_PL) (hdn : dn ≤ 500) (hg : mt_gM c n d j g) {S : mt_S} (hs : mt_st S) (hp : mt_tpM c n S) (hR : mt_row S 98 0 ((den (x, dn)).1.1, l)) (e32 : S.2.2.1 96 32 = some (uI j)) (e36 : S.2.2.1 96 36 = some (uI (den (x, dn)).1.2)) (e37 : S.2.2.1 96 37 = some (mt_hd (den (x, dn)).2)) (hf : n - j < f) : ∃ T', f_X11_goes_L0 (f_X11_goes (5 - d)) f 96 (mt_lv d) S = some T' ∧ mt_row T' 98 0 ((mt_dS den g (x, dn)).1.1, l) ∧ T'.2.2.1 96 36 = some (uI (mt_dS den g (x, dn)).1.2) ∧ T'.2.2.1 96 37 = some (mt_hd (mt_dS den g (x, dn)).2) ∧ mt_fr mt_DG S T' := by
  unfold mt_dS
  by_cases q : (den (x, dn)).2 = true
  · rw [if_pos q]
    rw [q] at e37
    exact ⟨S, mt_goF (by omega) hs e37, hR, e36, by rw [q]; exact e37, mt_fr.refl _ S⟩
  · rw [if_neg q]
    have q' : (den (x, dn)).2 = false := by simpa using q
    rw [q'] at e37
    obtain ⟨z1, z2, z3⟩ := hden (x, dn) hx hdn
    exact hg S f (den (x, dn)).1.2 (den (x, dn)).1.1 l hs hp hR hl z1 z3 e32 e36 e37 hf
theorem mt_gLt (hn : n ≤ 200) {i a j v d : Nat} {g : mt_Dn9} (hk : mt_skp c n i a) (ha : a < n) (hw : c a = 108 ∨ c a = 114 ∨ c a = 117) (h : mt_nb c n (a + 1) j v) (hg : mt_gM c n d j g) : mt_gM c n d i (mt_dS (mt_dL (c a) v) g) := by
  intro T f dn x l hs hp hR hl hx hdn e32 e36 e37 hf
  have k1 := hk.1
  have jb := mt_nb_b h
  obtain ⟨f, rfl⟩ : ∃ g, f = g + 1 := ⟨f - 1, by omega⟩
  obtain ⟨T2, b1, b3⟩ := mt_goA (rr := f_X11_goes (5 - d)) (f := f) (x1 := mt_lv d) hn hk hs hp e32 e37
  have n9 : ¬ c a = 93 := by rcases hw with e | e | e <;> rw [e] <;> decide
  have n4 : ¬ c a = 104 := by rcases hw with e | e | e <;> rw [e] <;> decide
  have n1 : ¬ c a = 91 := by rcases hw with e | e | e <;> rw [e] <;> decide
  have hwl : c a ∈ ([108, 114, 117, 104] : List Int32) := by rcases hw with e | e | e <;> rw [e] <;> decide
  rw [if_neg (not_or.mpr ⟨by omega, fun w => n9 w.1⟩)] at b1
  have f1 := b3.I 96 32 (uI (a + 1)) rfl
  obtain ⟨T3, c1, c2, c3⟩ := mt_nbM hn h (f1.st hs) (mt_tpM_3 f1 hp) mt_I_eq
  have f3 := f1.trans c3
  have hs3 := f3.st hs
  obtain ⟨T4, d1, d2, d3, d4, d5⟩ := mt_doM hwl jb.2.2.2 hl v 0 1000 dn x T3 (Nat.zero_add _) (by omega) hs3 hx hdn (mt_row_f f3 hl (fun _ _ => rfl) hR) ((f3.2 96 36 rfl).1.trans e36) ((f3.2 96 37 rfl).1.trans e37)
  have e32' : T4.2.2.1 96 32 = some (uI j) := (d5.2 96 32 rfl).1.trans c2
  have f4 := (mt_DG_3 f3).trans (mt_DG_H d5)
  obtain ⟨T5, g1, g2, g3, g4, g5⟩ := mt_gNx (f := f) hl (mt_dkL hwl v) hx hdn hg (f4.st hs) (mt_tpM_G f4 hp) d2 e32' d3 d4 (by omega)
  exact ⟨T5, b1.trans (fw_f n4 (fw_f n1 (fw_b2 c1 (fw_b (fw_t (T_K hs3 (by decide) rfl) d1) g1)))), g2, g3, g4, f4.trans g5⟩
theorem mt_gHm (hn : n ≤ 200) {i a d : Nat} {g : mt_Dn9} (hk : mt_skp c n i a) (ha : a < n) (hw : c a = 104) (hg : mt_gM c n d (a + 1) g) : mt_gM c n d i (mt_dS (mt_dL 104 1) g) := by
  intro T f dn x l hs hp hR hl hx hdn e32 e36 e37 hf
  have k1 := hk.1
  obtain ⟨f, rfl⟩ : ∃ g, f = g + 1 := ⟨f - 1, by omega⟩
  obtain ⟨T2, b1, b3⟩ := mt_goA (rr := f_X11_goes (5 - d)) (f := f) (x1 := mt_lv d) hn hk hs hp e32 e37
  rw [if_neg (not_or.mpr ⟨by omega, fun w => absurd (hw.symm.trans w.1) (by decide)⟩)] at b1
  have f3 := b3.I 96 32 (uI (a + 1)) rfl
  have hs3 := f3.st hs
  obtain ⟨T4, d1, d2, d3, d4, d5⟩ := mt_doM (w := 104) (by decide) (v := 1) (by decide) hl 1 0 1000 dn x (mt_pI T2 96 32 (uI (a + 1))) rfl (by decide) hs3 hx hdn (mt_row_f f3 hl (fun _ _ => rfl) hR) ((f3.2 96 36 rfl).1.trans e36) ((f3.2 96 37 rfl).1.trans e37)
  have e32' : T4.2.2.1 96 32 = some (uI (a + 1)) := (d5.2 96 32 rfl).1.trans mt_I_eq
  have f4 := (mt_DG_3 f3).trans (mt_DG_H d5)
  obtain ⟨T5, g1, g2, g3, g4, g5⟩ := mt_gNx (f := f) hl (mt_dkL (by decide) 1) hx hdn hg (f4.st hs) (mt_tpM_G f4 hp) d2 e32' d3 d4 (by omega)
  exact ⟨T5, b1.trans (fw_t hw (fw_b (fw_t (T_K hs3 (by decide) rfl) d1) g1)), g2, g3, g4, f4.trans g5⟩
/-- a bracket so often -/
theorem mt_g90 {a j v d : Nat} {gi : mt_Dn9} {l : List mt_P} (hl : l.length ≤ 16) (hd : d < 3) (hv : v ≤ 99) (han : n - (a + 1) < 1000) (hgi : mt_dk gi) (hin : mt_gM c n (d + 1) (a + 1) gi) {x1 : Int32} {K : Nat → Int32 → Int32 → mt_S → Option mt_S} : ∀ (r k f dn : Nat) (x : mt_P) (T : mt_S), k + r = v → r < f → mt_st T → mt_tpM c n T → mt_row T 98 0 (x, l) → x ∈ mt_PL → dn ≤ 500 → T.2.2.1 96 36 = some (uI dn) → T.2.2.1 96 37 = some 0 → ∃ T', f_X11_goes_L90 (f_X11_goes (5 - d)) K f 96 x1 (uI (a + 1)) (uI v) (uI j) (uI k) T = K 96 x1 (uI j) T' ∧ mt_row T' 98 0 ((mt_dR gi r (x, dn)).1.1, l) ∧ T'.2.2.1 96 36 = some (uI (mt_dR gi r (x, dn)).1.2) ∧ T'.2.2.1 96 37 = some (mt_hd (mt_dR gi r (x, dn)).2) ∧ mt_fr mt_DG T T' := by
  intro r
  induction r with
  | zero =>
    intro k f dn x T hk hf hs hp hR hx hdn e36 e37
    obtain ⟨f, rfl⟩ : ∃ g, f = g + 1 := ⟨f - 1, by omega⟩
    exact ⟨T, fw_t (by rw [uI_le (by omega) (by omega)]; omega) rfl, hR, e36, e37, mt_fr.refl _ T⟩
  | succ r ih =>
    intro k f dn x T hk hf hs hp hR hx hdn e36 e37
    obtain ⟨f, rfl⟩ : ∃ g, f = g + 1 := ⟨f - 1, by omega⟩
    have e : mt_dR gi (r + 1) (x, dn) = if (gi (x, dn)).2 = true then gi (x, dn) else mt_dR gi r (gi (x, dn)).1 := rfl
    rw [e]
    have nc : ¬ uI v ≤ uI k := by rw [uI_le (by omega) (by omega)]; omega
    have f1 := (mt_fr.refl mt_D32 T).I 96 32 (uI (a + 1)) rfl
    have hs1 := f1.st hs
    obtain ⟨T2, b1, b2, b3, b4, b5⟩ := hin (mt_pI T 96 32 (uI (a + 1))) 1000 dn x l hs1 (mt_tpM_3 f1 hp) (mt_row_f f1 hl (fun _ _ => rfl) hR) hl hx hdn mt_I_eq ((mt_I_ne (Or.inr (by decide))).trans e36) ((mt_I_ne (Or.inr (by decide))).trans e37) han
    have f2 := (mt_DG_3 f1).trans b5
    have hs2 := f2.st hs
    have rr : f_X11_goes (5 - d) 96 1 (mt_pI T 96 32 (uI (a + 1))) = some T2 := by
      rw [show 5 - d = (5 - (d + 1)) + 1 by omega]
      exact fw_t (T_K hs1 (by decide) rfl) b1
    have pre : ∀ {y : Option mt_S}, f_X11_goes_L90 (f_X11_goes (5 - d)) K f 96 x1 (uI (a + 1)) (uI v) (uI j) (uI (k + 1)) T2 = y → f_X11_goes_L90 (f_X11_goes (5 - d)) K (f + 1) 96 x1 (uI (a + 1)) (uI v) (uI j) (uI k) T = y := fun w => fw_f nc (fw_b (T_rI hs (by decide) rfl e37) (fw_t rfl (fw_b (T_wI hs _ (by decide) rfl) (fw_b rr (by rw [uI_s]; exact w)))))
    by_cases q : (gi (x, dn)).2 = true
    · rw [if_pos q]
      refine ⟨T2, pre ?_, b2, b3, b4, f2⟩
      rw [q] at b4
      obtain ⟨f, rfl⟩ : ∃ g, f = g + 1 := ⟨f - 1, by omega⟩
      by_cases z : uI v ≤ uI (k + 1)
      · exact fw_t z rfl
      · exact fw_f z (fw_b (T_rI hs2 (by decide) rfl b4) (fw_f (by decide) rfl))
    · rw [if_neg q]
      have q' : (gi (x, dn)).2 = false := by simpa using q
      rw [q'] at b4
      obtain ⟨z1, z2, z3⟩ := hgi (x, dn) hx hdn
      obtain ⟨T3, d1, d2, d3, d4, d5⟩ := ih (k + 1) f (gi (x, dn)).1.2 (gi (x, dn)).1.1 T2 (by omega) (by omega) hs2 (mt_tpM_G f2 hp) b2 z1 z3 b3 b4
      exact ⟨T3, pre d1, d2, d3, d4, f2.trans d5⟩
theorem mt_gBr (hn : n ≤ 200) {i a b j v d : Nat} {gi g : mt_Dn9} (hk : mt_skp c n i a) (ha : a < n) (hw : c a = 91) (hd : d < 3) (hab : a < b) (hb : b < n) (hw2 : c b = 93) (hsM : mt_sM c n (a + 1) b) (hgi : mt_dk gi) (hin : mt_gM c n (d + 1) (a + 1) gi) (h : mt_nb c n (b + 1) j v) (hg : mt_gM c n d j g) : mt_gM c n d i (mt_dS (mt_dR gi v) g) := by
  intro T f dn x l hs hp hR hl hx hdn e32 e36 e37 hf
  have k1 := hk.1
  have jb := mt_nb_b h
  obtain ⟨f, rfl⟩ : ∃ g, f = g + 1 := ⟨f - 1, by omega⟩
  obtain ⟨T2, b1, b3⟩ := mt_goA (rr := f_X11_goes (5 - d)) (f := f) (x1 := mt_lv d) hn hk hs hp e32 e37
  rw [if_neg (not_or.mpr ⟨by omega, fun w => absurd (hw.symm.trans w.1) (by decide)⟩)] at b1
  have f1 := b3.I 96 32 (uI (a + 1)) rfl
  have hs1 := f1.st hs
  obtain ⟨T3, c1, c2, c3⟩ := mt_skpT hn hsM hb hw2 hs1 (mt_tpM_3 f1 hp) mt_I_eq
  have f3 := f1.trans c3
  obtain ⟨T4, d1, d2, d3⟩ := mt_nbM hn h (f3.st hs) (mt_tpM_3 f3 hp) c2
  have f4 := f3.trans d3
  have hs4 := f4.st hs
  obtain ⟨T5, e1, e2, e3, e4, e5⟩ := mt_g90 (x1 := mt_lv d) (j := j) (K := fun z0 z1 z5 S19 => Option.bind (mt_wI S19 z0 11 32 z5) fun S20 => f_X11_goes_L0 (f_X11_goes (5 - d)) f z0 z1 S20) hl hd jb.2.2.2 (by omega) hgi hin v 0 1000 dn x T4 (Nat.zero_add _) (by omega) hs4 (mt_tpM_3 f4 hp) (mt_row_f f4 hl (fun _ _ => rfl) hR) hx hdn ((f4.2 96 36 rfl).1.trans e36) ((f4.2 96 37 rfl).1.trans e37)
  have f5 := (mt_DG_3 f4).trans e5
  have g6 := (mt_fr.refl mt_D32 T5).I 96 32 (uI j) rfl
  have f6 := f5.trans (mt_DG_3 g6)
  obtain ⟨T7, g1, g2, g3, g4, g5⟩ := mt_gNx (f := f) hl (mt_dkR hgi v) hx hdn hg (f6.st hs) (mt_tpM_G f6 hp) (mt_row_f g6 hl (fun _ _ => rfl) e2) mt_I_eq ((g6.2 96 36 rfl).1.trans e3) ((g6.2 96 37 rfl).1.trans e4) (by omega)
  refine ⟨T7, b1.trans (fw_f (by rw [hw]; decide) (fw_t hw (fw_b (T_rI hs1 (by decide) rfl mt_I_eq) (fw_b c1 (fw_b2 d1 (fw_b (T_rI hs4 (by decide) rfl d2) (e1.trans (fw_b (T_wI (f5.st hs) _ (by decide) rfl) g1)))))))), g2, g3, g4, f6.trans g5⟩
end mtGo
