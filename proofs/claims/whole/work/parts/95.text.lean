/-! the text of a path: both read it -/
def mt_dg (v : Int32) : Bool := !(decide (v < 48)) && !(decide (57 < v))
theorem mt_dgC (v : Int32) (S : mt_S) : f_X0_isDigit v S = some (if mt_dg v = true then 1 else 0, S) := by
  unfold f_X0_isDigit mt_dg
  by_cases a : v < 48
  · rw [if_pos a, decide_eq_true a]; rfl
  · rw [if_neg a, decide_eq_false a]
    by_cases b : 57 < v
    · rw [if_pos b, decide_eq_true b]; rfl
    · rw [if_neg b, decide_eq_false b]; rfl
theorem mt_dgM (v : Int32) (S : mt_S) : f_X11_isDigit v S = some (if mt_dg v = true then 1 else 0, S) := by
  unfold f_X11_isDigit mt_dg
  by_cases a : v < 48
  · rw [if_pos a, decide_eq_true a]; rfl
  · rw [if_neg a, decide_eq_false a]
    by_cases b : 57 < v
    · rw [if_pos b, decide_eq_true b]; rfl
    · rw [if_neg b, decide_eq_false b]; rfl
theorem mt_dgV {v : Int32} (h : mt_dg v = true) : ∃ d, d < 10 ∧ v = uI (48 + d) := by
  unfold mt_dg at h
  simp only [Bool.and_eq_true, Bool.not_eq_true', decide_eq_false_iff_not] at h
  obtain ⟨h1, h2⟩ := h
  have h0 : ¬ v < 0 := fun z => h1 (by
    rw [Int32.lt_iff_toInt_lt] at z ⊢
    have e1 : (48 : Int32).toInt = 48 := rfl
    have e0 : (0 : Int32).toInt = 0 := rfl
    omega)
  obtain ⟨j, hj, rfl⟩ := (uI_cs v).resolve_left h0
  rw [show (48 : Int32) = uI 48 from rfl, uI_lt hj (by decide)] at h1
  rw [show (57 : Int32) = uI 57 from rfl, uI_lt (by decide) hj] at h2
  exact ⟨j - 48, by omega, congrArg uI (by omega)⟩
/-- blanks from i to a -/
def mt_skp (c : Nat → Int32) (n i a : Nat) : Prop := i ≤ a ∧ a ≤ n ∧ (∀ j, i ≤ j → j < a → c j = 32) ∧ (a < n → ¬ c a = 32)
/-- digits from a to e -/
def mt_dgp (c : Nat → Int32) (n a e : Nat) : Prop := a < e ∧ e ≤ n ∧ (∀ j, a ≤ j → j < e → mt_dg (c j) = true) ∧ (e < n → mt_dg (c e) = false)
theorem mt_skE (c : Nat → Int32) (n : Nat) : ∀ (r i : Nat), i + r = n → ∃ a, mt_skp c n i a := by
  intro r
  induction r with
  | zero => intro i h; exact ⟨i, Nat.le_refl _, by omega, fun j h1 h2 => by omega, fun h => by omega⟩
  | succ r ih =>
    intro i h
    by_cases q : c i = 32
    · obtain ⟨a, a1, a2, a3, a4⟩ := ih (i + 1) (by omega)
      refine ⟨a, by omega, a2, fun j h1 h2 => ?_, a4⟩
      by_cases e : j = i
      · rw [e]; exact q
      · exact a3 j (by omega) h2
    · exact ⟨i, Nat.le_refl _, by omega, fun j h1 h2 => by omega, fun _ => q⟩
theorem mt_dgE (c : Nat → Int32) (n : Nat) : ∀ (r i : Nat), i + r = n → ∃ e, i ≤ e ∧ e ≤ n ∧ (∀ j, i ≤ j → j < e → mt_dg (c j) = true) ∧ (e < n → mt_dg (c e) = false) := by
  intro r
  induction r with
  | zero => intro i h; exact ⟨i, Nat.le_refl _, by omega, fun j h1 h2 => by omega, fun h => by omega⟩
  | succ r ih =>
    intro i h
    cases q : mt_dg (c i) with
    | true =>
      obtain ⟨a, a1, a2, a3, a4⟩ := ih (i + 1) (by omega)
      refine ⟨a, by omega, a2, fun j h1 h2 => ?_, a4⟩
      by_cases e : j = i
      · rw [e]; exact q
      · exact a3 j (by omega) h2
    | false => exact ⟨i, Nat.le_refl _, by omega, fun j h1 h2 => by omega, fun _ => q⟩
/-- what may follow: no number, or one -/
theorem mt_nxt (c : Nat → Int32) {n i : Nat} (hi : i ≤ n) : ∃ a, mt_skp c n i a ∧ ((a < n → mt_dg (c a) = false) ∨ ∃ e, mt_dgp c n a e) := by
  obtain ⟨a, h⟩ := mt_skE c n (n - i) i (by omega)
  refine ⟨a, h, ?_⟩
  by_cases ha : a < n
  · cases q : mt_dg (c a) with
    | false => exact Or.inl fun _ => rfl
    | true =>
      obtain ⟨e, e1, e2, e3, e4⟩ := mt_dgE c n (n - a) a (by omega)
      refine Or.inr ⟨e, ?_, e2, e3, e4⟩
      by_cases z : e = a
      · rw [z] at e4
        have := e4 ha
        rw [q] at this; cases this
      · omega
  · exact Or.inl fun z => absurd z ha
/-- the values of digits -/
def mt_mv (c : Nat → Int32) (a : Nat) : Nat → Nat → Int32 → Int32
  | _, 0, v => v
  | k, r + 1, v => if 2 ≤ k then mt_mv c a (k + 1) r v else mt_mv c a (k + 1) r (((10 * v) + c (a + k)) - 48)
def mt_cv (c : Nat → Int32) (a : Nat) : Nat → Nat → Int32 → Int32
  | _, 0, x => x
  | k, r + 1, x => mt_cv c a (k + 1) r (if 100 < (((x * 10) + c (a + k)) - 48) then 100 else (((x * 10) + c (a + k)) - 48))
theorem mt_v1 : ∀ d, d < 10 → ((10 * (0 : Int32)) + uI (48 + d)) - 48 = uI d ∧ (if 100 < (((0 : Int32) * 10) + uI (48 + d)) - 48 then 100 else (((0 : Int32) * 10) + uI (48 + d)) - 48) = uI d := by decide +kernel
theorem mt_v2 : ∀ d, d < 10 → ∀ e, e < 10 → ((10 * uI d) + uI (48 + e)) - 48 = uI (10 * d + e) ∧ (if 100 < ((uI d * 10) + uI (48 + e)) - 48 then 100 else ((uI d * 10) + uI (48 + e)) - 48) = uI (10 * d + e) := by decide +kernel
theorem mt_val {c : Nat → Int32} {n a e : Nat} (h : mt_dgp c n a e) (h2 : e - a ≤ 2) : ∃ v, v ≤ 99 ∧ mt_mv c a 0 (e - a) 0 = uI v ∧ mt_cv c a 0 (e - a) 0 = uI v := by
  obtain ⟨h1, -, h3, -⟩ := h
  obtain ⟨d, hd, ed⟩ := mt_dgV (h3 a (Nat.le_refl _) h1)
  by_cases q : e - a = 1
  · rw [q]
    refine ⟨d, by omega, ?_, ?_⟩
    · show ((10 * (0 : Int32)) + c (a + 0)) - 48 = uI d
      rw [Nat.add_zero, ed]; exact (mt_v1 d hd).1
    · show (if 100 < (((0 : Int32) * 10) + c (a + 0)) - 48 then 100 else (((0 : Int32) * 10) + c (a + 0)) - 48) = uI d
      rw [Nat.add_zero, ed]; exact (mt_v1 d hd).2
  · have q2 : e - a = 2 := by omega
    obtain ⟨d2, hd2, ed2⟩ := mt_dgV (h3 (a + 1) (by omega) (by omega))
    rw [q2]
    refine ⟨10 * d + d2, by omega, ?_, ?_⟩
    · show ((10 * (((10 * (0 : Int32)) + c (a + 0)) - 48)) + c (a + 1)) - 48 = _
      rw [Nat.add_zero, ed, ed2, (mt_v1 d hd).1]; exact (mt_v2 d hd d2 hd2).1
    · show (if 100 < (((if 100 < (((0 : Int32) * 10) + c (a + 0)) - 48 then 100 else (((0 : Int32) * 10) + c (a + 0)) - 48) * 10) + c (a + 1)) - 48 then 100 else (((if 100 < (((0 : Int32) * 10) + c (a + 0)) - 48 then 100 else (((0 : Int32) * 10) + c (a + 0)) - 48) * 10) + c (a + 1)) - 48) = _
      rw [Nat.add_zero, ed, ed2, (mt_v1 d hd).2]; exact (mt_v2 d hd d2 hd2).2
/-- the tapes -/
def mt_tpC (c : Nat → Int32) (n : Nat) (T : mt_S) : Prop := T.2.2.1 1 1 = some (uI n) ∧ ∀ m, m < n → ∃ b : Int32, T.2.2.1 2 m = some b ∧ b &&& 255 = c m
def mt_tpM (c : Nat → Int32) (n : Nat) (T : mt_S) : Prop := T.2.2.1 96 31 = some (uI n) ∧ ∀ m, m < n → T.2.2.1 97 m = some (c m)
theorem mt_tpC_f {D : Nat → Nat → Bool} {c : Nat → Int32} {n : Nat} {T T' : mt_S} (f : mt_fr D T T') (h1 : D 1 1 = false) (h2 : ∀ j, D 2 j = false) (h : mt_tpC c n T) : mt_tpC c n T' := ⟨(f.2 1 1 h1).1.trans h.1, fun m hm => by
  obtain ⟨b, e1, e2⟩ := h.2 m hm
  exact ⟨b, (f.2 2 m (h2 m)).1.trans e1, e2⟩⟩
theorem mt_tpM_f {D : Nat → Nat → Bool} {c : Nat → Int32} {n : Nat} {T T' : mt_S} (f : mt_fr D T T') (h1 : D 96 31 = false) (h2 : ∀ j, D 97 j = false) (h : mt_tpM c n T) : mt_tpM c n T' := ⟨(f.2 96 31 h1).1.trans h.1, fun m hm => (f.2 97 m (h2 m)).1.trans (h.2 m hm)⟩
theorem mt_atC {c : Nat → Int32} {n : Nat} (hn : n ≤ 200) {T : mt_S} (hs : mt_st T) (ht : mt_tpC c n T) {i : Nat} (hi : i < 1000) : f_X7_at 1 (uI i) T = some (if i < n then c i else -1, T) := by
  refine fw_t (T_K hs (by decide) rfl) (fw_f (uI_nn (by omega)) (fw_b (T_rI hs (by decide) rfl ht.1) ?_))
  by_cases q : i < n
  · obtain ⟨b, e1, e2⟩ := ht.2 i q
    rw [if_pos q, ← e2]
    exact fw_f (by rw [uI_le (by omega) (by omega)]; omega) (fw_b (T_rR hs (by decide) rfl rfl) (fw_b (T_aI hs (by decide) rfl (n := 240) (by omega) (by decide) e1) rfl))
  · rw [if_neg q]
    exact fw_t (by rw [uI_le (by omega) (by omega)]; omega) rfl
def mt_D32 (k j : Nat) : Bool := decide (k = 96) && decide (j = 32)
/-- here -/
theorem mt_hrL {c : Nat → Int32} {n : Nat} (hn : n ≤ 200) {a : Nat} : ∀ (r i f : Nat) (T : mt_S), i + r = a → r < f → mt_st T → mt_tpM c n T → mt_skp c n i a → T.2.2.1 96 32 = some (uI i) → ∃ T', f_X11_here_L0 f 96 T = some (if a < n then c a else 0, T') ∧ T'.2.2.1 96 32 = some (uI a) ∧ mt_fr mt_D32 T T' := by
  intro r
  induction r with
  | zero =>
    intro i f T hi hf hs ht hk e
    obtain ⟨f, rfl⟩ : ∃ g, f = g + 1 := ⟨f - 1, by omega⟩
    have hi : i = a := hi
    subst hi
    obtain ⟨k1, k2, k3, k4⟩ := hk
    refine ⟨T, fw_b (T_rI hs (by decide) rfl e) (fw_b (T_rI hs (by decide) rfl ht.1) ?_), e, mt_fr.refl _ T⟩
    by_cases q : i < n
    · rw [if_pos q]
      have c0 : ¬ uI n ≤ uI i := by rw [uI_le (by omega) (by omega)]; omega
      have a0 := T_aI hs (k := 97) (c := 13) (by decide) rfl (n := 240) (by omega) (by decide) (ht.2 i q)
      exact fw_f c0 (fw_b (T_rR hs (by decide) rfl rfl) (fw_b (T_rI hs (by decide) rfl e) (fw_b a0 (fw_f (k4 q) (fw_b (T_rI hs (by decide) rfl e) (fw_b (T_rI hs (by decide) rfl ht.1) (fw_f c0 (fw_b (T_rR hs (by decide) rfl rfl) (fw_b (T_rI hs (by decide) rfl e) (fw_b a0 rfl))))))))))
    · rw [if_neg q]
      have c0 : uI n ≤ uI i := by rw [uI_le (by omega) (by omega)]; omega
      exact fw_t c0 (fw_b (T_rI hs (by decide) rfl e) (fw_b (T_rI hs (by decide) rfl ht.1) (fw_t c0 rfl)))
  | succ r ih =>
    intro i f T hi hf hs ht hk e
    obtain ⟨f, rfl⟩ : ∃ g, f = g + 1 := ⟨f - 1, by omega⟩
    obtain ⟨k1, k2, k3, k4⟩ := hk
    have q : i < n := by omega
    have c0 : ¬ uI n ≤ uI i := by rw [uI_le (by omega) (by omega)]; omega
    have a0 := T_aI hs (k := 97) (c := 13) (by decide) rfl (n := 240) (by omega) (by decide) (ht.2 i q)
    have f1 := (mt_fr.refl mt_D32 T).I 96 32 (uI (i + 1)) rfl
    obtain ⟨T', b1, b2, b3⟩ := ih (i + 1) f (mt_pI T 96 32 (uI (i + 1))) (by omega) (by omega) hs (mt_tpM_f f1 rfl (fun _ => rfl) ht) ⟨by omega, k2, fun j h1 h2 => k3 j (by omega) h2, k4⟩ mt_I_eq
    refine ⟨T', fw_b (T_rI hs (by decide) rfl e) (fw_b (T_rI hs (by decide) rfl ht.1) (fw_f c0 (fw_b (T_rR hs (by decide) rfl rfl) (fw_b (T_rI hs (by decide) rfl e) (fw_b a0 (fw_t (k3 i (Nat.le_refl _) (by omega)) (fw_b (T_rI hs (by decide) rfl e) ?_))))))), b2, f1.trans b3⟩
    rw [uI_s]
    exact fw_b (T_wI hs _ (by decide) rfl) b1
theorem mt_hr {c : Nat → Int32} {n : Nat} (hn : n ≤ 200) {i a : Nat} {T : mt_S} (hs : mt_st T) (ht : mt_tpM c n T) (hk : mt_skp c n i a) (e : T.2.2.1 96 32 = some (uI i)) : ∃ T', f_X11_here 96 T = some (if a < n then c a else 0, T') ∧ T'.2.2.1 96 32 = some (uI a) ∧ mt_fr mt_D32 T T' := by
  have h1 := hk.1
  have h2 := hk.2.1
  obtain ⟨T', b1, b2, b3⟩ := mt_hrL hn (a - i) i 1000 T (by omega) (by omega) hs ht hk e
  exact ⟨T', fw_t (T_K hs (by decide) rfl) b1, b2, b3⟩
theorem uI_sb {a b : Nat} (h : b ≤ a) : uI a - uI b = uI (a - b) := by
  obtain ⟨d, rfl⟩ : ∃ d, a = b + d := ⟨a - b, by omega⟩
  rw [← uI_a, show b + d - b = d by omega, Int32.add_comm]
  exact Int32.add_sub_cancel _ _
def mt_Db (k j : Nat) : Bool := decide (k = 96) && (decide (j = 32) || decide (j = 33) || decide (j = 34))
/-- bad, when nothing was bad -/
theorem mt_bad {T : mt_S} (hs : mt_st T) (e : T.2.2.1 96 33 = some 0) (k p : Int32) : f_X11_bad 96 k p T = some (mt_pI (mt_pI T 96 33 k) 96 34 p) := fw_t (T_K hs (by decide) rfl) (fw_b (T_rI hs (by decide) rfl e) (fw_t rfl (fw_b (T_wI hs _ (by decide) rfl) (fw_b (T_wI (T := mt_pI T 96 33 k) hs _ (by decide) rfl) rfl))))
/-- the end of often -/
def mt_ofE (x1 x2 : Int32) (S : mt_S) : Option (Int32 × mt_S) := Option.bind (mt_rI S 96 11 32) fun v8 => if 2 < (v8 - x1) then Option.bind (f_X11_bad 96 2 x1 S) fun S9 => some (x2, S9) else if 1 ≤ x2 then some (x2, S) else Option.bind (f_X11_bad 96 2 x1 S) fun S10 => some (x2, S10)
theorem mt_ofL {c : Nat → Int32} {n : Nat} (hn : n ≤ 200) {a e : Nat} (hd : mt_dgp c n a e) : ∀ (r k f : Nat) (v : Int32) (T : mt_S), a + k + r = e → r < f → mt_st T → mt_tpM c n T → T.2.2.1 96 32 = some (uI (a + k)) → ∃ T', f_X11_often_L19 f 96 (uI a) v T = mt_ofE (uI a) (mt_mv c a k r v) T' ∧ T'.2.2.1 96 32 = some (uI e) ∧ mt_fr mt_D32 T T' := by
  obtain ⟨d1, d2, d3, d4⟩ := hd
  intro r
  induction r with
  | zero =>
    intro k f v T hk hf hs ht e32
    obtain ⟨f, rfl⟩ : ∃ g, f = g + 1 := ⟨f - 1, by omega⟩
    have hk : a + k = e := hk
    rw [hk] at e32
    refine ⟨T, fw_b (T_rI hs (by decide) rfl e32) (fw_b (T_rI hs (by decide) rfl ht.1) ?_), e32, mt_fr.refl _ T⟩
    by_cases q : e < n
    · refine fw_f (by rw [uI_le (by omega) (by omega)]; omega) (fw_b (T_rR hs (by decide) rfl rfl) (fw_b (T_rI hs (by decide) rfl e32) (fw_b (T_aI hs (k := 97) (c := 13) (by decide) rfl (n := 240) (by omega) (by decide) (ht.2 e q)) (fw_b2 (mt_dgM _ _) ?_))))
      rw [d4 q]
      exact fw_t rfl rfl
    · exact fw_t (by rw [uI_le (by omega) (by omega)]; omega) rfl
  | succ r ih =>
    intro k f v T hk hf hs ht e32
    obtain ⟨f, rfl⟩ : ∃ g, f = g + 1 := ⟨f - 1, by omega⟩
    have q : a + k < n := by omega
    have f1 := (mt_fr.refl mt_D32 T).I 96 32 (uI (a + k + 1)) rfl
    have go : ∀ v2, ∃ T', f_X11_often_L19 f 96 (uI a) v2 (mt_pI T 96 32 (uI (a + k) + 1)) = mt_ofE (uI a) (mt_mv c a (k + 1) r v2) T' ∧ T'.2.2.1 96 32 = some (uI e) ∧ mt_fr mt_D32 T T' := fun v2 => by
      rw [uI_s]
      obtain ⟨T', b1, b2, b3⟩ := ih (k + 1) f v2 (mt_pI T 96 32 (uI (a + k + 1))) (by omega) (by omega) hs (mt_tpM_f f1 rfl (fun _ => rfl) ht) mt_I_eq
      exact ⟨T', b1, b2, f1.trans b3⟩
    have a0 := T_aI hs (k := 97) (c := 13) (by decide) rfl (n := 240) (by omega) (by decide) (ht.2 (a + k) q)
    have pre : ∀ {z : Option (Int32 × mt_S)}, (if 2 ≤ (uI (a + k) - uI a) then Option.bind (mt_rI T 96 11 32) fun v20 => Option.bind (mt_wI T 96 11 32 (v20 + 1)) fun S21 => f_X11_often_L19 f 96 (uI a) v S21 else Option.bind (mt_rR T 96 11 1) fun v22 => Option.bind (mt_rI T 96 11 32) fun v23 => Option.bind (mt_aI T v22 13 v23) fun v24 => Option.bind (mt_rI T 96 11 32) fun v25 => Option.bind (mt_wI T 96 11 32 (v25 + 1)) fun S26 => f_X11_often_L19 f 96 (uI a) (((10 * v) + v24) - 48) S26) = z → f_X11_often_L19 (f + 1) 96 (uI a) v T = z := fun w => by
      refine fw_b (T_rI hs (by decide) rfl e32) (fw_b (T_rI hs (by decide) rfl ht.1) (fw_f (by rw [uI_le (by omega) (by omega)]; omega) (fw_b (T_rR hs (by decide) rfl rfl) (fw_b (T_rI hs (by decide) rfl e32) (fw_b a0 (fw_b2 (mt_dgM _ _) ?_))))))
      rw [d3 (a + k) (by omega) (by omega)]
      exact fw_f (by decide) (fw_b (T_rI hs (by decide) rfl e32) w)
    have ev : mt_mv c a k (r + 1) v = if 2 ≤ k then mt_mv c a (k + 1) r v else mt_mv c a (k + 1) r (((10 * v) + c (a + k)) - 48) := rfl
    have ec : (2 ≤ (uI (a + k) - uI a)) ↔ 2 ≤ k := by
      rw [uI_sb (by omega), show (2 : Int32) = uI 2 from rfl, uI_le (by decide) (by omega)]; omega
    rw [ev]
    by_cases c2 : 2 ≤ k
    · rw [if_pos c2]
      obtain ⟨T', b1, b2⟩ := go v
      exact ⟨T', pre (fw_t (ec.mpr c2) (fw_b (T_rI hs (by decide) rfl e32) (fw_b (T_wI hs _ (by decide) rfl) b1))), b2⟩
    · rw [if_neg c2]
      obtain ⟨T', b1, b2⟩ := go (((10 * v) + c (a + k)) - 48)
      exact ⟨T', pre (fw_f (fun z => c2 (ec.mp z)) (fw_b (T_rR hs (by decide) rfl rfl) (fw_b (T_rI hs (by decide) rfl e32) (fw_b a0 (fw_b (T_rI hs (by decide) rfl e32) (fw_b (T_wI hs _ (by decide) rfl) b1)))))), b2⟩
/-- often: no number -/
theorem mt_of0 {c : Nat → Int32} {n : Nat} (hn : n ≤ 200) {i a : Nat} {T : mt_S} (hs : mt_st T) (ht : mt_tpM c n T) (hk : mt_skp c n i a) (h0 : a < n → mt_dg (c a) = false) (e : T.2.2.1 96 32 = some (uI i)) : ∃ T', f_X11_often 96 T = some (1, T') ∧ T'.2.2.1 96 32 = some (uI a) ∧ mt_fr mt_D32 T T' := by
  obtain ⟨T', b1, b2, b3⟩ := mt_hr hn hs ht hk e
  refine ⟨T', fw_t (T_K hs (by decide) rfl) (fw_b2 b1 (fw_b2 (mt_dgM _ _) ?_)), b2, b3⟩
  by_cases q : a < n
  · rw [if_pos q, h0 q]; exact fw_t rfl rfl
  · rw [if_neg q]; exact fw_t rfl rfl
theorem mt_ofN {c : Nat → Int32} {n : Nat} (hn : n ≤ 200) {i a e : Nat} {T : mt_S} (hs : mt_st T) (ht : mt_tpM c n T) (hk : mt_skp c n i a) (hd : mt_dgp c n a e) (e32 : T.2.2.1 96 32 = some (uI i)) : ∃ T', f_X11_often 96 T = mt_ofE (uI a) (mt_mv c a 0 (e - a) 0) T' ∧ T'.2.2.1 96 32 = some (uI e) ∧ mt_fr mt_D32 T T' := by
  obtain ⟨T1, b1, b2, b3⟩ := mt_hr hn hs ht hk e32
  have hs1 := b3.st hs
  have d1 := hd.1
  have d2 := hd.2.1
  obtain ⟨T', c1, c2, c3⟩ := mt_ofL hn hd (e - a) 0 1000 0 T1 (by omega) (by omega) hs1 (mt_tpM_f b3 rfl (fun _ => rfl) ht) b2
  refine ⟨T', fw_t (T_K hs (by decide) rfl) (fw_b2 b1 (fw_b2 (mt_dgM _ _) ?_)), c2, b3.trans c3⟩
  have qa : a < n := by omega
  rw [if_pos qa, hd.2.2.1 a (Nat.le_refl _) d1]
  exact fw_f (by decide) (fw_b (T_rI hs1 (by decide) rfl b2) c1)
/-- often: a number -/
theorem mt_of1 {c : Nat → Int32} {n : Nat} (hn : n ≤ 200) {i a e v : Nat} {T : mt_S} (hs : mt_st T) (ht : mt_tpM c n T) (hk : mt_skp c n i a) (hd : mt_dgp c n a e) (h2 : e - a ≤ 2) (hv : mt_mv c a 0 (e - a) 0 = uI v) (h1 : 1 ≤ v) (h9 : v ≤ 99) (e32 : T.2.2.1 96 32 = some (uI i)) : ∃ T', f_X11_often 96 T = some (uI v, T') ∧ T'.2.2.1 96 32 = some (uI e) ∧ mt_fr mt_D32 T T' := by
  obtain ⟨T', b1, b2, b3⟩ := mt_ofN hn hs ht hk hd e32
  have d1 := hd.1
  have d2 := hd.2.1
  refine ⟨T', b1.trans (fw_b (T_rI (b3.st hs) (by decide) rfl b2) (fw_f ?_ ?_)), b2, b3⟩
  · rw [uI_sb (by omega), show (2 : Int32) = uI 2 from rfl, uI_lt (by decide) (by omega)]; omega
  · rw [hv]
    exact fw_t (by rw [show (1 : Int32) = uI 1 from rfl, uI_le (by decide) (by omega)]; exact h1) rfl
/-- often: a bad number -/
theorem mt_ofB {c : Nat → Int32} {n : Nat} (hn : n ≤ 200) {i a e : Nat} {T : mt_S} (hs : mt_st T) (ht : mt_tpM c n T) (hk : mt_skp c n i a) (hd : mt_dgp c n a e) (hb : 2 < e - a ∨ mt_mv c a 0 (e - a) 0 = uI 0) (e32 : T.2.2.1 96 32 = some (uI i)) (e33 : T.2.2.1 96 33 = some 0) : ∃ v T', f_X11_often 96 T = some (v, T') ∧ T'.2.2.1 96 33 = some 2 ∧ T'.2.2.1 96 34 = some (uI a) ∧ mt_fr mt_Db T T' := by
  obtain ⟨T', b1, b2, b3⟩ := mt_ofN hn hs ht hk hd e32
  have d1 := hd.1
  have d2 := hd.2.1
  have hs1 := b3.st hs
  have e33' : T'.2.2.1 96 33 = some 0 := (b3.2 96 33 rfl).1.trans e33
  refine ⟨mt_mv c a 0 (e - a) 0, mt_pI (mt_pI T' 96 33 2) 96 34 (uI a), b1.trans (fw_b (T_rI hs1 (by decide) rfl b2) ?_), (mt_I_ne (Or.inr (by decide))).trans mt_I_eq, mt_I_eq, ((b3.mono (fun k j q => ?_)).I 96 33 _ rfl).I 96 34 _ rfl⟩
  · have bd := mt_bad hs1 e33' 2 (uI a)
    by_cases q : 2 < e - a
    · exact fw_t (by rw [uI_sb (by omega), show (2 : Int32) = uI 2 from rfl, uI_lt (by decide) (by omega)]; exact q) (fw_b bd rfl)
    · rw [hb.resolve_left q]
      exact fw_f (by rw [uI_sb (by omega), show (2 : Int32) = uI 2 from rfl, uI_lt (by decide) (by omega)]; exact q) (fw_f (by decide) (fw_b bd rfl))
  · unfold mt_Db at q
    unfold mt_D32
    simp only [Bool.or_eq_false_iff, Bool.and_eq_false_iff, decide_eq_false_iff_not] at q ⊢; omega
