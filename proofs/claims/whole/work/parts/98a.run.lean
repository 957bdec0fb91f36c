/-! a path is gone: the program -/
abbrev mt_Zx : Type := mt_P × Nat
abbrev mt_Dn9 : Type := mt_Zx → mt_Zx × Bool
def mt_dS (f g : mt_Dn9) (z : mt_Zx) : mt_Zx × Bool := if (f z).2 = true then f z else g (f z).1
def mt_dR (f : mt_Dn9) : Nat → mt_Dn9
  | 0, z => (z, false)
  | k + 1, z => if (f z).2 = true then f z else mt_dR f k (f z).1
def mt_dL (w : Int32) : Nat → mt_Dn9
  | 0, z => (z, false)
  | k + 1, z => if z.2 = 500 ∨ mt_str1 w z.1 = 0 then (z, true) else mt_dL w k (mt_sty w z.1, z.2 + 1)
def mt_d0 : mt_Dn9 := fun z => (z, false)
def mt_dk (f : mt_Dn9) : Prop := ∀ z : mt_Zx, z.1 ∈ mt_PL → z.2 ≤ 500 → (f z).1.1 ∈ mt_PL ∧ z.2 ≤ (f z).1.2 ∧ (f z).1.2 ≤ 500
theorem mt_dk0 : mt_dk mt_d0 := fun z h1 h2 => ⟨h1, Nat.le_refl _, h2⟩
theorem mt_dkS {f g : mt_Dn9} (hf : mt_dk f) (hg : mt_dk g) : mt_dk (mt_dS f g) := by
  intro z h1 h2
  obtain ⟨a, b, d⟩ := hf z h1 h2
  unfold mt_dS
  by_cases q : (f z).2 = true
  · rw [if_pos q]; exact ⟨a, b, d⟩
  · rw [if_neg q]
    obtain ⟨a', b', d'⟩ := hg (f z).1 a d
    exact ⟨a', by omega, d'⟩
theorem mt_dkR {f : mt_Dn9} (hf : mt_dk f) : ∀ k, mt_dk (mt_dR f k) := by
  intro k
  induction k with
  | zero => exact mt_dk0
  | succ k ih => exact mt_dkS hf ih
theorem mt_dkL {w : Int32} (hw : w ∈ ([108, 114, 117, 104] : List Int32)) : ∀ k, mt_dk (mt_dL w k) := by
  intro k
  induction k with
  | zero => exact mt_dk0
  | succ k ih =>
    intro z h1 h2
    show (if z.2 = 500 ∨ mt_str1 w z.1 = 0 then (z, true) else mt_dL w k (mt_sty w z.1, z.2 + 1)).1.1 ∈ mt_PL ∧ z.2 ≤ (if z.2 = 500 ∨ mt_str1 w z.1 = 0 then (z, true) else mt_dL w k (mt_sty w z.1, z.2 + 1)).1.2 ∧ (if z.2 = 500 ∨ mt_str1 w z.1 = 0 then (z, true) else mt_dL w k (mt_sty w z.1, z.2 + 1)).1.2 ≤ 500
    by_cases q : z.2 = 500 ∨ mt_str1 w z.1 = 0
    · rw [if_pos q]; exact ⟨h1, Nat.le_refl _, h2⟩
    · rw [if_neg q]
      obtain ⟨q1, q2⟩ := not_or.mp q
      obtain ⟨a, b, d⟩ := ih (mt_sty w z.1, z.2 + 1) (mt_sty_PL hw h1) (by show z.2 + 1 ≤ 500; omega)
      exact ⟨a, by have : z.2 + 1 ≤ _ := b; omega, d⟩
theorem mt_dLc (w : Int32) : ∀ (k : Nat) (z : mt_Zx), ((mt_dL w k z).2 = false ∧ (mt_dL w k z).1.2 = z.2 + k) ∨ ((mt_dL w k z).2 = true ∧ z.2 ≤ (mt_dL w k z).1.2 ∧ (mt_dL w k z).1.2 < z.2 + k) := by
  intro k
  induction k with
  | zero => intro z; exact Or.inl ⟨rfl, rfl⟩
  | succ k ih =>
    intro z
    have e : mt_dL w (k + 1) z = if z.2 = 500 ∨ mt_str1 w z.1 = 0 then (z, true) else mt_dL w k (mt_sty w z.1, z.2 + 1) := rfl
    rw [e]
    by_cases q : z.2 = 500 ∨ mt_str1 w z.1 = 0
    · rw [if_pos q]; exact Or.inr ⟨rfl, Nat.le_refl _, by show z.2 < z.2 + (k + 1); omega⟩
    · rw [if_neg q]
      rcases ih (mt_sty w z.1, z.2 + 1) with ⟨a, b⟩ | ⟨a, b, d⟩
      · exact Or.inl ⟨a, by rw [b]; show z.2 + 1 + k = z.2 + (k + 1); omega⟩
      · exact Or.inr ⟨a, by have : z.2 + 1 ≤ _ := b; omega, by have : _ < z.2 + 1 + k := d; omega⟩
def mt_D10 (k _j : Nat) : Bool := decide (k = 10)
/-- one step of the program's -/
theorem mt_do1 {T : mt_S} (hs : mt_st T) {w : Int32} (hw : w ∈ ([108, 114, 117, 104] : List Int32)) {x : mt_P} {l : List mt_P} (hx : x ∈ mt_PL) (hB : mt_blk T 9 (x, l)) : ∃ T', f_X0_doOnce 10 w T = some (mt_str1 w x, T') ∧ mt_blk T' 9 (mt_sty w x, l) ∧ mt_fr mt_D10 T T' := by
  simp only [List.mem_cons, List.not_mem_nil, or_false] at hw
  rcases hw with rfl | rfl | rfl | rfl
  · obtain ⟨T2, a2, b2, f2⟩ := mt_stepC (f := f_X4_stepLeft 10) (w := 108) (fun _ _ _ _ hp e => (ov_X4_stepLeft hp e).1) mt_chL hs hx hB
    exact ⟨T2, fw_t rfl (fw_b2 a2 (fw_t (mt_s01 _ _) rfl)), b2, f2⟩
  · obtain ⟨T2, a2, b2, f2⟩ := mt_stepC (f := f_X4_stepRight 10) (w := 114) (fun _ _ _ _ hp e => (ov_X4_stepRight hp e).1) mt_chR hs hx hB
    exact ⟨T2, fw_f (by decide) (fw_t rfl (fw_b2 a2 (fw_t (mt_s01 _ _) rfl))), b2, f2⟩
  · obtain ⟨T2, a2, b2, f2⟩ := mt_stepC (f := f_X4_stepUp 10) (w := 117) (fun _ _ _ _ hp e => (ov_X4_stepUp hp e).1) mt_chU hs hx hB
    exact ⟨T2, fw_f (by decide) (fw_f (by decide) (fw_t rfl (fw_b2 a2 (fw_t (mt_s01 _ _) rfl)))), b2, f2⟩
  · have hst : mt_stp 104 x = some (1, 1, 0, 1, 1, 0, 0) := by
      unfold mt_stp
      exact (if_neg (by decide)).trans ((if_neg (by decide)).trans (if_neg (by decide)))
    have e1 : mt_str1 104 x = 1 := by unfold mt_str1; rw [hst]; rfl
    have e2 : mt_sty 104 x = (1, 1, 0, 1, 1, 0, 0) := by unfold mt_sty; rw [hst]; rfl
    rw [e1, e2]
    have f1 := (((((mt_fr.refl mt_D10 T).I 10 0 0 rfl).I 10 1 1 rfl).I 10 2 1 rfl).I 10 3 0 rfl).I 10 4 0 rfl
    refine ⟨_, fw_f (by decide) (fw_f (by decide) (fw_f (by decide) (fw_b (fw_t (T_K hs (by decide) rfl) (fw_b (T_wI hs _ (by decide) rfl) (fw_b (T_wI (T := mt_pI T 10 0 0) hs _ (by decide) rfl) (fw_b (T_wI (T := mt_pI (mt_pI T 10 0 0) 10 1 1) hs _ (by decide) rfl) (fw_b (T_wI (T := mt_pI (mt_pI (mt_pI T 10 0 0) 10 1 1) 10 2 1) hs _ (by decide) rfl) (fw_b (T_wI (T := mt_pI (mt_pI (mt_pI (mt_pI T 10 0 0) 10 1 1) 10 2 1) 10 3 0) hs _ (by decide) rfl) rfl)))))) rfl))), ⟨fun j v hj => ?_, (f1.2 11 3 rfl).1.trans hB.2.1, fun m y hm => ?_⟩, f1⟩
    · match j, hj with
      | 0, hj => cases hj; exact (mt_I_ne (Or.inr (by decide))).trans ((mt_I_ne (Or.inr (by decide))).trans ((mt_I_ne (Or.inr (by decide))).trans ((mt_I_ne (Or.inr (by decide))).trans mt_I_eq)))
      | 1, hj => cases hj; exact (mt_I_ne (Or.inr (by decide))).trans ((mt_I_ne (Or.inr (by decide))).trans ((mt_I_ne (Or.inr (by decide))).trans mt_I_eq))
      | 2, hj => cases hj; exact (mt_I_ne (Or.inr (by decide))).trans ((mt_I_ne (Or.inr (by decide))).trans mt_I_eq)
      | 3, hj => cases hj; exact (mt_I_ne (Or.inr (by decide))).trans mt_I_eq
      | 4, hj => cases hj; exact mt_I_eq
    · obtain ⟨y1, y2, y3⟩ := hB.2.2 m y hm
      exact ⟨(f1.2 12 m rfl).2.trans y1, (f1.2 13 m rfl).1.trans y2, (f1.2 14 m rfl).1.trans y3⟩
theorem mt_doO {w : Int32} (hw : w ∈ ([108, 114, 117, 104] : List Int32)) {v dn : Nat} (hv : v ≤ 99) (hdn : dn ≤ 500) {l : List mt_P} : ∀ (r k f : Nat) (x : mt_P) (T : mt_S), k + r = v → k ≤ min v (500 - dn) → r < f → mt_st T → x ∈ mt_PL → mt_blk T 9 (x, l) → ∃ T', f_X0_doOften_L2 f 10 w (uI (min v (500 - dn))) (uI k) T = some (uI ((mt_dL w r (x, dn + k)).1.2 - dn), T') ∧ mt_blk T' 9 ((mt_dL w r (x, dn + k)).1.1, l) ∧ mt_fr mt_D10 T T' := by
  intro r
  induction r with
  | zero =>
    intro k f x T hk hM hf hs hx hB
    obtain ⟨f, rfl⟩ : ∃ g, f = g + 1 := ⟨f - 1, by omega⟩
    refine ⟨T, fw_t (by rw [uI_le (by omega) (by omega)]; omega) ?_, hB, mt_fr.refl _ T⟩
    show some (uI k, T) = some (uI (dn + k - dn), T)
    rw [show dn + k - dn = k by omega]
  | succ r ih =>
    intro k f x T hk hM hf hs hx hB
    obtain ⟨f, rfl⟩ : ∃ g, f = g + 1 := ⟨f - 1, by omega⟩
    have e : mt_dL w (r + 1) (x, dn + k) = if dn + k = 500 ∨ mt_str1 w x = 0 then ((x, dn + k), true) else mt_dL w r (mt_sty w x, dn + k + 1) := rfl
    rw [e]
    by_cases q : k = min v (500 - dn)
    · have q5 : dn + k = 500 := by omega
      rw [if_pos (Or.inl q5)]
      refine ⟨T, fw_t (by rw [uI_le (by omega) (by omega)]; omega) ?_, hB, mt_fr.refl _ T⟩
      show some (uI k, T) = some (uI (dn + k - dn), T)
      rw [show dn + k - dn = k by omega]
    · have q5 : ¬ dn + k = 500 := by omega
      obtain ⟨T1, a1, b1, f1⟩ := mt_do1 hs hw hx hB
      have nc : ¬ uI (min v (500 - dn)) ≤ uI k := by rw [uI_le (by omega) (by omega)]; omega
      by_cases q0 : mt_str1 w x = 0
      · rw [if_pos (Or.inr q0)]
        have ey : mt_sty w x = x := by
          unfold mt_str1 at q0
          unfold mt_sty
          cases ez : mt_stp w x with
          | none => rfl
          | some y =>
            rw [ez] at q0
            have q0 : (1 : Int32) = 0 := q0
            exact absurd q0 (by decide)
        rw [ey] at b1
        refine ⟨T1, fw_f nc (fw_b2 a1 (fw_t q0 ?_)), b1, f1⟩
        show some (uI k, T1) = some (uI (dn + k - dn), T1)
        rw [show dn + k - dn = k by omega]
      · rw [if_neg (not_or.mpr ⟨q5, q0⟩)]
        obtain ⟨T2, a2, b2, f2⟩ := ih (k + 1) f (mt_sty w x) T1 (by omega) (by omega) (by omega) (f1.st hs) (mt_sty_PL hw hx) b1
        refine ⟨T2, fw_f nc (fw_b2 a1 (fw_f q0 ?_)), b2, f1.trans f2⟩
        rw [uI_s]; exact a2
/-- the program's loop at act i, in turn t -/
def mt_ru (i dn t : Nat) (T : mt_S) : Option (Int32 × mt_S) := f_X0_run_L7 (5000 - t) 3 10 (uI dn) (uI i) (uI t) T
def mt_D17 (k _j : Nat) : Bool := decide (k = 10) || decide (k = 7)
/-- the acts ac from s on do what den tells -/
def mt_rC9 (K s : Nat) (ac : List mt_Ac) (den : mt_Dn9) : Prop := ∀ (T : mt_S) (N t dn : Nat) (x : mt_P) (l : List mt_P), mt_st T → mt_blk T 9 (x, l) → x ∈ mt_PL → dn ≤ 500 → T.2.2.1 3 5 = some (uI N) → s + ac.length ≤ N → N ≤ 200 → mt_aC T s ac → t + K * (500 - dn) ≤ 2500 →
  ((den (x, dn)).2 = false → ∃ T' t', mt_ru s dn t T = mt_ru (s + ac.length) (den (x, dn)).1.2 t' T' ∧ t' + K * (500 - (den (x, dn)).1.2) ≤ t + K * (500 - dn) ∧ (¬ ac = [] → dn < (den (x, dn)).1.2) ∧ mt_blk T' 9 ((den (x, dn)).1.1, l) ∧ mt_fr mt_D10 T T') ∧
  ((den (x, dn)).2 = true → ∃ T', mt_ru s dn t T = some (uI (den (x, dn)).1.2, T') ∧ mt_blk T' 9 ((den (x, dn)).1.1, l) ∧ mt_fr mt_D17 T T')
theorem mt_rc0 (K s : Nat) : mt_rC9 K s [] mt_d0 := by
  intro T N t dn x l hs hB hx hdn e5 hl hN hA ht
  exact ⟨fun _ => ⟨T, t, rfl, Nat.le_refl _, fun z => absurd rfl z, hB, mt_fr.refl _ T⟩, fun z => by cases z⟩
theorem mt_1017 {T T' : mt_S} (f : mt_fr mt_D10 T T') : mt_fr mt_D17 T T' := f.mono (fun k j q => by
  unfold mt_D17 at q
  exact (Bool.or_eq_false_iff.mp q).1)
theorem mt_rcS {K s : Nat} {a b : List mt_Ac} {f g : mt_Dn9} (hf : mt_dk f) (h1 : mt_rC9 K s a f) (h2 : mt_rC9 K (s + a.length) b g) (hg : mt_dk g) : mt_rC9 K s (a ++ b) (mt_dS f g) := by
  intro T N t dn x l hs hB hx hdn e5 hl hN hA ht
  rw [List.length_append] at hl
  have hA1 : mt_aC T s a := fun m y hm => hA m y (by rw [List.getElem?_append_left (mt_lt_of hm)]; exact hm)
  have hA2 : mt_aC T (s + a.length) b := fun m y hm => by
    have := hA (a.length + m) y (by rw [List.getElem?_append_right (by omega), show a.length + m - a.length = m by omega]; exact hm)
    rw [← Nat.add_assoc] at this
    exact this
  obtain ⟨p1, p2⟩ := h1 T N t dn x l hs hB hx hdn e5 (by omega) hN hA1 ht
  obtain ⟨z1, z2, z3⟩ := hf (x, dn) hx hdn
  have z2 : dn ≤ (f (x, dn)).1.2 := z2
  unfold mt_dS
  by_cases q : (f (x, dn)).2 = true
  · rw [if_pos q]
    exact ⟨fun z => (by rw [q] at z; cases z), fun _ => p2 q⟩
  · rw [if_neg q]
    obtain ⟨T1, t1, c1, c2, c3, c4, c5⟩ := p1 (by simpa using q)
    obtain ⟨r1, r2⟩ := h2 T1 N t1 (f (x, dn)).1.2 (f (x, dn)).1.1 l (c5.st hs) c4 z1 z3 ((c5.2 3 5 rfl).1.trans e5) (by omega) hN (mt_aC_f c5 (fun k m k1 k2 _ => by unfold mt_D10; simp <;> omega) hA2) (by omega)
    rw [show ((f (x, dn)).1.1, (f (x, dn)).1.2) = (f (x, dn)).1 from rfl] at r1 r2
    obtain ⟨w1, w2, w3⟩ := hg (f (x, dn)).1 z1 z3
    refine ⟨fun z => ?_, fun z => ?_⟩
    · obtain ⟨T2, t2, d1, d2, d3, d4, d5⟩ := r1 z
      refine ⟨T2, t2, ?_, by omega, fun hne => ?_, d4, c5.trans d5⟩
      · rw [List.length_append, ← Nat.add_assoc]; exact c1.trans d1
      · by_cases ha : a = []
        · have hb : ¬ b = [] := fun hb => hne (by rw [ha, hb]; rfl)
          have := d3 hb
          omega
        · have := c3 ha
          omega
    · obtain ⟨T2, d1, d2, d3⟩ := r2 z
      exact ⟨T2, c1.trans d1, d2, (mt_1017 c5).trans d3⟩
theorem mt_Kmul {K a b : Nat} (hK : 1 ≤ K) (h : a + 1 ≤ b) : K * a + 1 ≤ K * b := by
  have h1 : K * (a + 1) ≤ K * b := Nat.mul_le_mul_left K h
  rw [Nat.mul_add, Nat.mul_one] at h1
  omega
/-- a letter -/
theorem mt_rcL {w : Int32} (hw : w ∈ ([108, 114, 117, 104] : List Int32)) {K s v b : Nat} (hK : 1 ≤ K) (h1 : 1 ≤ v) (h9 : v ≤ 99) : mt_rC9 K s [(w, v, b)] (mt_dL w v) := by
  intro T N t dn x l hs hB hx hdn e5 hl hN hA ht
  have hl : s + 1 ≤ N := hl
  obtain ⟨a4, a5, a6, a7⟩ := hA 0 _ rfl
  rw [Nat.add_zero] at a4 a5
  obtain ⟨T1, b1, b2, b3⟩ := mt_doO hw h9 hdn v 0 1000 x T (Nat.zero_add _) (Nat.zero_le _) (by omega) hs hx hB
  rw [Nat.add_zero] at b1 b2
  have hs1 := b3.st hs
  obtain ⟨z1, z2, z3⟩ := mt_dkL hw v (x, dn) hx hdn
  have z2 : dn ≤ (mt_dL w v (x, dn)).1.2 := z2
  have ew : ¬ w = 93 := by
    simp only [List.mem_cons, List.not_mem_nil, or_false] at hw
    rcases hw with rfl | rfl | rfl | rfl <;> decide
  have pre : ∀ {y : Option (Int32 × mt_S)}, (if uI v ≤ uI ((mt_dL w v (x, dn)).1.2 - dn) then f_X0_run_L7 (5000 - (t + 1)) 3 10 (uI dn + uI ((mt_dL w v (x, dn)).1.2 - dn)) (uI s + 1) (uI t + 1) T1 else some (uI dn + uI ((mt_dL w v (x, dn)).1.2 - dn), T1)) = y → mt_ru s dn t T = y := fun {y} q => by
    unfold mt_ru
    rw [show 5000 - t = (5000 - (t + 1)) + 1 by omega]
    refine fw_f (by rw [show (1000000 : Int32) = uI 1000000 from rfl, uI_le (by decide) (by omega)]; omega) (fw_f (uI_nn (by omega)) (fw_b (T_rI hs (by decide) rfl e5) (fw_f (by rw [uI_le (by omega) (by omega)]; omega) (fw_b (T_rR hs (by decide) rfl rfl) (fw_b (T_aI hs (by decide) rfl (n := 200) (by omega) (by decide) a4) (fw_f ew (fw_b (T_rR hs (by decide) rfl rfl) (fw_b (T_aI hs (by decide) rfl (n := 200) (by omega) (by decide) a5) (fw_b2 (v := uI (min v (500 - dn))) (S1 := T) ?_ (fw_b (T_rR hs (by decide) rfl rfl) (fw_b (T_aI hs (by decide) rfl (n := 200) (by omega) (by decide) a4) (fw_b2 b1 (fw_b (T_rR hs1 (by decide) rfl rfl) (fw_b (T_aI hs1 (by decide) rfl (n := 200) (by omega) (by decide) ((b3.2 5 s rfl).1.trans a5)) q))))))))))))))
    rw [show (500 : Int32) = uI 500 from rfl, uI_sb hdn]
    unfold f_J9_min_7cf53
    by_cases c0 : 500 - dn < v
    · rw [if_pos ((uI_lt (by omega) (by omega)).mpr c0), Nat.min_eq_right (by omega)]
    · rw [if_neg (fun w => c0 ((uI_lt (by omega) (by omega)).mp w)), Nat.min_eq_left (by omega)]
  have ea : uI dn + uI ((mt_dL w v (x, dn)).1.2 - dn) = uI (mt_dL w v (x, dn)).1.2 := by
    rw [uI_a, show dn + ((mt_dL w v (x, dn)).1.2 - dn) = (mt_dL w v (x, dn)).1.2 by omega]
  rcases mt_dLc w v (x, dn) with ⟨c1, c2⟩ | ⟨c1, c2, c3⟩
  · have c2 : (mt_dL w v (x, dn)).1.2 = dn + v := c2
    refine ⟨fun _ => ⟨T1, t + 1, ?_, ?_, fun _ => by omega, b2, b3⟩, fun z => (by rw [c1] at z; cases z)⟩
    · refine pre (fw_t (by rw [uI_le (by omega) (by omega)]; omega) ?_)
      rw [ea, uI_s, uI_s]; rfl
    · have := mt_Kmul (a := 500 - (mt_dL w v (x, dn)).1.2) (b := 500 - dn) hK (by omega)
      omega
  · have c3 : (mt_dL w v (x, dn)).1.2 < dn + v := c3
    refine ⟨fun z => (by rw [c1] at z; cases z), fun _ => ⟨T1, pre (fw_f (by rw [uI_le (by omega) (by omega)]; omega) ?_), b2, mt_1017 b3⟩⟩
    rw [ea]
