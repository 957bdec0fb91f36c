/-! the program reads a path -/
/-- its loop at i, in turn t -/
def mt_rl (n i t : Nat) (T : mt_S) : Option mt_S := f_X0_read_L56 (1000 - t) 3 1 (uI n) (uI i) (uI t) T
abbrev mt_Ac : Type := Int32 × Nat × Nat
/-- acts from s on -/
def mt_aC (T : mt_S) (s : Nat) (ac : List mt_Ac) : Prop := ∀ m a, ac[m]? = some a → T.2.2.1 4 (s + m) = some a.1 ∧ T.2.2.1 5 (s + m) = some (uI a.2.1) ∧ T.2.2.1 6 (s + m) = some (uI a.2.2) ∧ T.2.2.1 7 (s + m) = some 0
/-- what the reader holds -/
def mt_pC (T : mt_S) (s d : Nat) (mc nf : Int32) : Prop := T.2.2.1 3 5 = some (uI s) ∧ T.2.2.1 3 6 = some (uI d) ∧ T.2.2.1 3 7 = some mc ∧ T.2.2.1 3 8 = some nf ∧ T.2.2.1 3 9 = some 0
/-- what it may write, from size s, depth d on -/
def mt_DP (s d k j : Nat) : Bool := decide (k = 3) || (decide (4 ≤ k) && (decide (k ≤ 7) && decide (s ≤ j))) || (decide (k = 8) && decide (d ≤ j))
def mt_DF (k _j : Nat) : Bool := decide (3 ≤ k) && decide (k ≤ 8)
theorem mt_DP_F {s d : Nat} {T T' : mt_S} (f : mt_fr (mt_DP s d) T T') : mt_fr mt_DF T T' := f.mono (fun k j q => by
  unfold mt_DF at q
  unfold mt_DP
  simp only [Bool.or_eq_false_iff, Bool.and_eq_false_iff, decide_eq_false_iff_not] at q ⊢; omega)
theorem mt_DP_m {s d s2 d2 : Nat} (hs : s ≤ s2) (hd : d ≤ d2) {T T' : mt_S} (f : mt_fr (mt_DP s2 d2) T T') : mt_fr (mt_DP s d) T T' := f.mono (fun k j q => by
  unfold mt_DP at q ⊢
  simp only [Bool.or_eq_false_iff, Bool.and_eq_false_iff, decide_eq_false_iff_not] at q ⊢; omega)
theorem mt_aC_f {D : Nat → Nat → Bool} {T T' : mt_S} {s : Nat} {ac : List mt_Ac} (f : mt_fr D T T') (hD : ∀ k m, 4 ≤ k → k ≤ 7 → m < ac.length → D k (s + m) = false) (h : mt_aC T s ac) : mt_aC T' s ac := by
  intro m a hm
  have hl := mt_lt_of hm
  obtain ⟨h1, h2, h3, h4⟩ := h m a hm
  exact ⟨(f.2 4 _ (hD 4 m (by decide) (by decide) hl)).1.trans h1, (f.2 5 _ (hD 5 m (by decide) (by decide) hl)).1.trans h2, (f.2 6 _ (hD 6 m (by decide) (by decide) hl)).1.trans h3, (f.2 7 _ (hD 7 m (by decide) (by decide) hl)).1.trans h4⟩
theorem mt_aC_app {T : mt_S} {s : Nat} {a b : List mt_Ac} (h1 : mt_aC T s a) (h2 : mt_aC T (s + a.length) b) : mt_aC T s (a ++ b) := by
  intro m x hm
  by_cases q : m < a.length
  · rw [List.getElem?_append_left q] at hm; exact h1 m x hm
  · rw [List.getElem?_append_right (by omega)] at hm
    have := h2 (m - a.length) x hm
    rw [show s + a.length + (m - a.length) = s + m by omega] at this
    exact this
section mtRd
variable {c : Nat → Int32} {n : Nat}
theorem mt_tpC_D {s d : Nat} {T T' : mt_S} (f : mt_fr (mt_DP s d) T T') (h : mt_tpC c n T) : mt_tpC c n T' := mt_tpC_f f rfl (fun _ => rfl) h
/-- a turn at no digit -/
theorem mt_rlS (hn : n ≤ 200) {i t : Nat} (ht : t ≤ i) (hi : i < n) {T T' : mt_S} (hs : mt_st T) (hp : mt_tpC c n T) (e9 : T.2.2.1 3 9 = some 0) (hd : mt_dg (c i) = false) (h : f_X0_readSign 3 (c i) (uI i) T = some (1, T')) : mt_rl n i t T = mt_rl n (i + 1) (t + 1) T' := by
  unfold mt_rl
  rw [show 1000 - t = (1000 - (t + 1)) + 1 by omega]
  have a0 := mt_atC hn hs hp (i := i) (by omega)
  rw [if_pos hi] at a0
  refine fw_f (by rw [show (200 : Int32) = uI 200 from rfl, uI_le (by decide) (by omega)]; omega) (fw_f (by rw [uI_le (by omega) (by omega)]; omega) (fw_b (T_rI hs (by decide) rfl e9) (fw_t rfl (fw_b2 a0 (fw_b2 (mt_dgC _ _) ?_)))))
  rw [hd]
  refine fw_t rfl (fw_b2 a0 (fw_b2 h ?_))
  rw [uI_s, uI_s]
/-- a turn at a digit -/
theorem mt_rlN (hn : n ≤ 200) {i t r : Nat} (ht : t ≤ i) (hi : i < n) {T T' : mt_S} (hs : mt_st T) (hp : mt_tpC c n T) (e9 : T.2.2.1 3 9 = some 0) (hd : mt_dg (c i) = true) (h : f_X0_readNumber 3 1 (uI i) T = some (uI r, T')) : mt_rl n i t T = mt_rl n (i + r) (t + 1) T' := by
  unfold mt_rl
  rw [show 1000 - t = (1000 - (t + 1)) + 1 by omega]
  have a0 := mt_atC hn hs hp (i := i) (by omega)
  rw [if_pos hi] at a0
  refine fw_f (by rw [show (200 : Int32) = uI 200 from rfl, uI_le (by decide) (by omega)]; omega) (fw_f (by rw [uI_le (by omega) (by omega)]; omega) (fw_b (T_rI hs (by decide) rfl e9) (fw_t rfl (fw_b2 a0 (fw_b2 (mt_dgC _ _) ?_)))))
  rw [hd]
  refine fw_f (by decide) (fw_b2 h ?_)
  rw [uI_s, uI_a]
/-- after a fault -/
theorem mt_rlF {i t : Nat} (ht : t < 900) {T : mt_S} (hs : mt_st T) {k : Int32} (hk : ¬ k = 0) (e9 : T.2.2.1 3 9 = some k) : mt_rl n i t T = some T := by
  unfold mt_rl
  rw [show 1000 - t = (1000 - (t + 1)) + 1 by omega]
  by_cases q1 : (200 : Int32) ≤ uI t
  · exact fw_t q1 (fw_b (T_rI hs (by decide) rfl e9) (fw_f hk rfl))
  · refine fw_f q1 ?_
    by_cases q2 : uI n ≤ uI i
    · exact fw_t q2 (fw_b (T_rI hs (by decide) rfl e9) (fw_f hk rfl))
    · exact fw_f q2 (fw_b (T_rI hs (by decide) rfl e9) (fw_f hk (fw_b (T_rI hs (by decide) rfl e9) (fw_f hk rfl))))
/-- at the end -/
theorem mt_rlE (hn : n ≤ 200) {t d : Nat} (ht : t ≤ n) {T : mt_S} (hs : mt_st T) (e9 : T.2.2.1 3 9 = some 0) (e6 : T.2.2.1 3 6 = some (uI d)) (hd : d ≤ 3) : mt_rl n n t T = if d = 0 then some T else some (mt_pI (mt_pI T 3 9 1) 3 10 (uI n)) := by
  unfold mt_rl
  rw [show 1000 - t = (1000 - (t + 1)) + 1 by omega]
  have en : ∀ {z : Option mt_S}, z = (if d = 0 then some T else some (mt_pI (mt_pI T 3 9 1) 3 10 (uI n))) → (Option.bind (mt_rI T 3 0 9) fun v9 => if v9 = 0 then Option.bind (mt_rI T 3 0 6) fun v10 => if v10 ≤ 0 then some T else Option.bind (f_X0_fail 3 1 (uI n) T) fun S11 => some S11 else some T) = z := fun {z} hz => by
    rw [hz]
    refine fw_b (T_rI hs (by decide) rfl e9) (fw_t rfl (fw_b (T_rI hs (by decide) rfl e6) ?_))
    by_cases q : d = 0
    · rw [if_pos q]
      exact fw_t (by rw [q]; decide) rfl
    · rw [if_neg q]
      refine fw_f (by rw [show (0 : Int32) = uI 0 from rfl, uI_le (by omega) (by decide)]; omega) (fw_b (fw_t (T_K hs (by decide) rfl) (fw_b (T_wI hs _ (by decide) rfl) (fw_b (T_wI (T := mt_pI T 3 9 1) hs _ (by decide) rfl) rfl))) rfl)
  by_cases q1 : (200 : Int32) ≤ uI t
  · exact fw_t q1 (en rfl)
  · exact fw_f q1 (fw_t (by rw [uI_le (by omega) (by omega)]; omega) (en rfl))
/-- blanks -/
theorem mt_rlB (hn : n ≤ 200) {a : Nat} : ∀ (r i t : Nat) (T : mt_S), i + r = a → t ≤ i → mt_st T → mt_tpC c n T → T.2.2.1 3 9 = some 0 → mt_skp c n i a → mt_rl n i t T = mt_rl n a (t + r) T := by
  intro r
  induction r with
  | zero =>
    intro i t T hi ht hs hp e9 hk
    have hi : i = a := hi
    rw [hi]; rfl
  | succ r ih =>
    intro i t T hi ht hs hp e9 hk
    obtain ⟨k1, k2, k3, k4⟩ := hk
    have ci : c i = 32 := k3 i (Nat.le_refl _) (by omega)
    have s1 := mt_rlS (T' := T) hn ht (by omega) hs hp e9 (by rw [ci]; decide) (by rw [ci]; exact fw_t (T_K hs (by decide) rfl) (fw_t rfl rfl))
    rw [s1, ih (i + 1) (t + 1) T (by omega) (by omega) hs hp e9 ⟨by omega, k2, fun j h1 h2 => k3 j (by omega) h2, k4⟩]
    rw [show t + 1 + r = t + (r + 1) by omega]
/-- the end of a number -/
def mt_rnE (x2 x3 x4 : Int32) (S : mt_S) : Option (Int32 × mt_S) := Option.bind (mt_rI S 3 0 7) fun v1 => if v1 = 0 then Option.bind (f_X0_fail 3 1 x2 S) fun S17 => Option.bind (mt_wI S17 3 0 7 0) fun S18 => some (x4, S18) else if 2 < x4 then Option.bind (f_X0_fail 3 2 x2 S) fun S2 => Option.bind (mt_wI S2 3 0 7 0) fun S3 => some (x4, S3) else if x3 < 1 then Option.bind (f_X0_fail 3 2 x2 S) fun S4 => Option.bind (mt_wI S4 3 0 7 0) fun S5 => some (x4, S5) else if x3 ≤ 99 then Option.bind (mt_rI S 3 0 8) fun v6 => if v6 < 0 then Option.bind (mt_wI S 3 0 7 0) fun S7 => some (x4, S7) else Option.bind (mt_rI S 3 0 8) fun v8 => Option.bind (mt_rI S 3 0 5) fun v9 => if v9 ≤ v8 then Option.bind (mt_wI S 3 0 7 0) fun S10 => some (x4, S10) else Option.bind (mt_rR S 3 0 1) fun v11 => Option.bind (mt_rI S 3 0 8) fun v12 => Option.bind (mt_sI S v11 13 v12 x3) fun S13 => Option.bind (mt_wI S13 3 0 7 0) fun S14 => some (x4, S14) else Option.bind (f_X0_fail 3 2 x2 S) fun S15 => Option.bind (mt_wI S15 3 0 7 0) fun S16 => some (x4, S16)
theorem mt_rnL (hn : n ≤ 200) {a e : Nat} (hd : mt_dgp c n a e) {T : mt_S} (hs : mt_st T) (hp : mt_tpC c n T) : ∀ (r k f : Nat) (x : Int32), a + k + r = e → r < f → f_X0_readNumber_L5 f 3 1 (uI a) x (uI k) T = mt_rnE (uI a) (mt_cv c a k r x) (uI (e - a)) T := by
  obtain ⟨d1, d2, d3, d4⟩ := hd
  intro r
  induction r with
  | zero =>
    intro k f x hk hf
    obtain ⟨f, rfl⟩ : ∃ g, f = g + 1 := ⟨f - 1, by omega⟩
    have hk : a + k = e := hk
    have ek : e - a = k := by omega
    rw [ek]
    by_cases q : (200 : Int32) ≤ uI k
    · exact fw_t q rfl
    · refine fw_f q ?_
      rw [uI_a, hk]
      refine fw_b2 (mt_atC hn hs hp (i := e) (by omega)) (fw_b2 (mt_dgC _ _) ?_)
      by_cases z : e < n
      · rw [if_pos z, d4 z]; exact fw_t rfl rfl
      · rw [if_neg z]; exact fw_t rfl rfl
  | succ r ih =>
    intro k f x hk hf
    obtain ⟨f, rfl⟩ : ∃ g, f = g + 1 := ⟨f - 1, by omega⟩
    have a0 := mt_atC hn hs hp (i := a + k) (by omega)
    have qa : a + k < n := by omega
    rw [if_pos qa] at a0
    refine fw_f (by rw [show (200 : Int32) = uI 200 from rfl, uI_le (by decide) (by omega)]; omega) ?_
    rw [uI_a]
    refine fw_b2 a0 (fw_b2 (mt_dgC _ _) ?_)
    rw [d3 (a + k) (by omega) (by omega)]
    refine fw_f (by decide) (fw_b2 a0 (fw_b2 (v := if 100 < (((x * 10) + c (a + k)) - 48) then 100 else (((x * 10) + c (a + k)) - 48)) (S1 := T) ?_ ?_))
    · unfold f_J9_min_7cf53
      by_cases z : 100 < (((x * 10) + c (a + k)) - 48)
      · rw [if_pos z, if_pos z]
      · rw [if_neg z, if_neg z]
    · rw [uI_s]
      exact ih (k + 1) f _ (by omega) (by omega)
theorem mt_rn (hn : n ≤ 200) {a e : Nat} (hd : mt_dgp c n a e) {T : mt_S} (hs : mt_st T) (hp : mt_tpC c n T) : f_X0_readNumber 3 1 (uI a) T = mt_rnE (uI a) (mt_cv c a 0 (e - a) 0) (uI (e - a)) T := by
  have d1 := hd.1
  have d2 := hd.2.1
  exact fw_t (T_K hs (by decide) rfl) (mt_rnL hn hd hs hp (e - a) 0 1000 0 (by omega) (by omega))
theorem mt_failC {T : mt_S} (hs : mt_st T) (k p : Int32) : f_X0_fail 3 k p T = some (mt_pI (mt_pI T 3 9 k) 3 10 p) := fw_t (T_K hs (by decide) rfl) (fw_b (T_wI hs _ (by decide) rfl) (fw_b (T_wI (T := mt_pI T 3 9 k) hs _ (by decide) rfl) rfl))
/-- a fault at a number -/
theorem mt_rnB (hn : n ≤ 200) {a e t : Nat} (hd : mt_dgp c n a e) (ht : t ≤ a) {T : mt_S} (hs : mt_st T) (hp : mt_tpC c n T) (e9 : T.2.2.1 3 9 = some 0) {mc k : Int32} (e7 : T.2.2.1 3 7 = some mc) (hb : (mc = 0 ∧ k = 1) ∨ (¬ mc = 0 ∧ k = 2 ∧ (2 < e - a ∨ mt_cv c a 0 (e - a) 0 = uI 0))) : ∃ T', mt_rl n a t T = some T' ∧ T'.2.2.1 3 9 = some k ∧ T'.2.2.1 3 10 = some (uI a) ∧ mt_fr mt_DF T T' := by
  have d1 := hd.1
  have d2 := hd.2.1
  have hs2 : mt_st (mt_pI (mt_pI T 3 9 k) 3 10 (uI a)) := hs
  have key : mt_rnE (uI a) (mt_cv c a 0 (e - a) 0) (uI (e - a)) T = some (uI (e - a), mt_pI (mt_pI (mt_pI T 3 9 k) 3 10 (uI a)) 3 7 0) := by
    refine fw_b (T_rI hs (by decide) rfl e7) ?_
    rcases hb with ⟨h0, rfl⟩ | ⟨h0, rfl, h2⟩
    · exact fw_t h0 (fw_b (mt_failC hs _ _) (fw_b (T_wI hs2 _ (by decide) rfl) rfl))
    · refine fw_f h0 ?_
      by_cases q : 2 < e - a
      · exact fw_t (by rw [show (2 : Int32) = uI 2 from rfl, uI_lt (by decide) (by omega)]; exact q) (fw_b (mt_failC hs _ _) (fw_b (T_wI hs2 _ (by decide) rfl) rfl))
      · rw [h2.resolve_left q]
        exact fw_f (by rw [show (2 : Int32) = uI 2 from rfl, uI_lt (by decide) (by omega)]; exact q) (fw_t (by decide) (fw_b (mt_failC hs _ _) (fw_b (T_wI hs2 _ (by decide) rfl) rfl)))
  have hk : ¬ k = 0 := by
    rcases hb with ⟨h0, rfl⟩ | ⟨h0, rfl, h2⟩ <;> decide
  have s1 := mt_rlN hn (r := e - a) ht (by omega) hs hp e9 (hd.2.2.1 a (Nat.le_refl _) d1) ((mt_rn hn hd hs hp).trans key)
  have e9' : (mt_pI (mt_pI (mt_pI T 3 9 k) 3 10 (uI a)) 3 7 0).2.2.1 3 9 = some k := (mt_I_ne (Or.inr (by decide))).trans ((mt_I_ne (Or.inr (by decide))).trans mt_I_eq)
  refine ⟨_, s1.trans (mt_rlF (by omega) hs2 hk e9'), e9', (mt_I_ne (Or.inr (by decide))).trans mt_I_eq, (((mt_fr.refl mt_DF T).I 3 9 _ rfl).I 3 10 _ rfl).I 3 7 _ rfl⟩
/-- a good number -/
theorem mt_rnG (hn : n ≤ 200) {a e t v s d : Nat} (hd : mt_dgp c n a e) (ht : t ≤ a) {T : mt_S} (hs : mt_st T) (hp : mt_tpC c n T) {mc nf : Int32} (h : mt_pC T s d mc nf) (hmc : ¬ mc = 0) (h2 : e - a ≤ 2) (hv : mt_cv c a 0 (e - a) 0 = uI v) (h1 : 1 ≤ v) (h9 : v ≤ 99) (hnf : nf = -1 ∨ ∃ m, m < s ∧ nf = uI m) (hs2 : s ≤ 200) : ∃ T', mt_rl n a t T = mt_rl n e (t + 1) T' ∧ mt_pC T' s d 0 nf ∧ (∀ m, nf = uI m → m < s → T'.2.2.1 5 m = some (uI v)) ∧ mt_fr (fun k j => (decide (k = 3) && decide (j = 7)) || (decide (k = 5) && (decide (j < s) && decide (nf = uI j)))) T T' := by
  have d1 := hd.1
  have d2 := hd.2.1
  obtain ⟨p5, p6, p7, p8, p9⟩ := h
  have q1 : ¬ (2 : Int32) < uI (e - a) := by rw [show (2 : Int32) = uI 2 from rfl, uI_lt (by decide) (by omega)]; omega
  have q2 : ¬ uI v < 1 := by rw [show (1 : Int32) = uI 1 from rfl, uI_lt (by omega) (by decide)]; omega
  have q3 : uI v ≤ 99 := by rw [show (99 : Int32) = uI 99 from rfl, uI_le (by omega) (by decide)]; exact h9
  have fin : ∀ {U : mt_S}, mt_st U → mt_fr (fun k j => (decide (k = 3) && decide (j = 7)) || (decide (k = 5) && (decide (j < s) && decide (nf = uI j)))) T U → mt_rnE (uI a) (mt_cv c a 0 (e - a) 0) (uI (e - a)) T = some (uI (e - a), mt_pI U 3 7 0) → (∀ m, nf = uI m → m < s → U.2.2.1 5 m = some (uI v)) → ∃ T', mt_rl n a t T = mt_rl n e (t + 1) T' ∧ mt_pC T' s d 0 nf ∧ (∀ m, nf = uI m → m < s → T'.2.2.1 5 m = some (uI v)) ∧ mt_fr (fun k j => (decide (k = 3) && decide (j = 7)) || (decide (k = 5) && (decide (j < s) && decide (nf = uI j)))) T T' := fun {U} hU fU key h5 => by
    have s1 := mt_rlN hn (r := e - a) ht (by omega) hs hp p9 (hd.2.2.1 a (Nat.le_refl _) d1) ((mt_rn hn hd hs hp).trans key)
    rw [show a + (e - a) = e by omega] at s1
    have f2 := fU.I 3 7 0 rfl
    exact ⟨mt_pI U 3 7 0, s1, ⟨(f2.2 3 5 rfl).1.trans p5, (f2.2 3 6 rfl).1.trans p6, mt_I_eq, (f2.2 3 8 rfl).1.trans p8, (f2.2 3 9 rfl).1.trans p9⟩, fun m hm hl => (mt_I_ne (Or.inl (by decide))).trans (h5 m hm hl), f2⟩
  have pre : ∀ {z : Option (Int32 × mt_S)}, (if nf < 0 then Option.bind (mt_wI T 3 0 7 0) fun S7 => some (uI (e - a), S7) else Option.bind (mt_rI T 3 0 8) fun v8 => Option.bind (mt_rI T 3 0 5) fun v9 => if v9 ≤ v8 then Option.bind (mt_wI T 3 0 7 0) fun S10 => some (uI (e - a), S10) else Option.bind (mt_rR T 3 0 1) fun v11 => Option.bind (mt_rI T 3 0 8) fun v12 => Option.bind (mt_sI T v11 13 v12 (uI v)) fun S13 => Option.bind (mt_wI S13 3 0 7 0) fun S14 => some (uI (e - a), S14)) = z → mt_rnE (uI a) (mt_cv c a 0 (e - a) 0) (uI (e - a)) T = z := fun w => by
    rw [hv]
    exact fw_b (T_rI hs (by decide) rfl p7) (fw_f hmc (fw_f q1 (fw_f q2 (fw_t q3 (fw_b (T_rI hs (by decide) rfl p8) w)))))
  rcases hnf with rfl | ⟨m, hm, rfl⟩
  · exact fin hs (mt_fr.refl _ T) (pre (fw_t (by decide) (fw_b (T_wI hs _ (by decide) rfl) rfl))) (fun m hm hl => absurd hm.symm (uI_n1 (by omega)))
  · refine fin (U := mt_pI T 5 m (uI v)) hs ((mt_fr.refl _ T).I 5 m _ (by simp [hm])) (pre (fw_f (uI_nn (by omega)) (fw_b (T_rI hs (by decide) rfl p8) (fw_b (T_rI hs (by decide) rfl p5) (fw_f (by rw [uI_le (by omega) (by omega)]; omega) (fw_b (T_rR hs (by decide) rfl rfl) (fw_b (T_rI hs (by decide) rfl p8) (fw_b (T_sI hs _ (by decide) rfl (n := 200) (by omega) (by decide)) (fw_b (T_wI (T := mt_pI T 5 m (uI v)) hs _ (by decide) rfl) rfl))))))))) (fun m2 hm2 hl => ?_)
    have : m2 = m := ((uI_eq (by omega) (by omega)).mp hm2).symm
    rw [this]; exact mt_I_eq
/-- an act is put -/
theorem mt_puA {T : mt_S} (hs : mt_st T) {s d b : Nat} {mc nf w : Int32} (h : mt_pC T s d mc nf) (hl : s < 200) : ∃ T', f_X0_putAct 3 w (uI b) T = some T' ∧ mt_pC T' (s + 1) d mc (uI s) ∧ mt_aC T' s [(w, 1, b)] ∧ mt_fr (fun k j => (decide (k = 3) && (decide (j = 5) || decide (j = 8))) || (decide (4 ≤ k) && (decide (k ≤ 7) && decide (s = j)))) T T' := by
  obtain ⟨p5, p6, p7, p8, p9⟩ := h
  have f1 := ((((((mt_fr.refl (fun k j => (decide (k = 3) && (decide (j = 5) || decide (j = 8))) || (decide (4 ≤ k) && (decide (k ≤ 7) && decide (s = j)))) T).I 4 s w (by simp)).I 5 s 1 (by simp)).I 6 s (uI b) (by simp)).I 7 s 0 (by simp)).I 3 8 (uI s) rfl).I 3 5 (uI (s + 1)) rfl
  refine ⟨_, ?_, ⟨mt_I_eq, (f1.2 3 6 rfl).1.trans p6, (f1.2 3 7 rfl).1.trans p7, (mt_I_ne (Or.inr (by decide))).trans mt_I_eq, (f1.2 3 9 rfl).1.trans p9⟩, fun m x hm => ?_, f1⟩
  · have n5 : ∀ {U : mt_S} {k j : Nat} {v : Int32}, k ≠ 3 → U.2.2.1 3 5 = some (uI s) → (mt_pI U k j v).2.2.1 3 5 = some (uI s) := fun hk hu => (mt_I_ne (Or.inl (Ne.symm hk))).trans hu
    have g4 : (mt_pI T 4 s w).2.2.1 3 5 = some (uI s) := n5 (by decide) p5
    have g5 : (mt_pI (mt_pI T 4 s w) 5 s 1).2.2.1 3 5 = some (uI s) := n5 (by decide) g4
    have g6 : (mt_pI (mt_pI (mt_pI T 4 s w) 5 s 1) 6 s (uI b)).2.2.1 3 5 = some (uI s) := n5 (by decide) g5
    have g7 : (mt_pI (mt_pI (mt_pI (mt_pI T 4 s w) 5 s 1) 6 s (uI b)) 7 s 0).2.2.1 3 5 = some (uI s) := n5 (by decide) g6
    have g8 : (mt_pI (mt_pI (mt_pI (mt_pI (mt_pI T 4 s w) 5 s 1) 6 s (uI b)) 7 s 0) 3 8 (uI s)).2.2.1 3 5 = some (uI s) := (mt_I_ne (Or.inr (by decide))).trans g7
    refine fw_t (T_K hs (by decide) rfl) (fw_b (T_rI hs (by decide) rfl p5) (fw_t (by rw [show (200 : Int32) = uI 200 from rfl, uI_lt (by omega) (by decide)]; exact hl) (fw_b (T_rR hs (by decide) rfl rfl) (fw_b (T_rI hs (by decide) rfl p5) (fw_b (T_sI hs _ (by decide) rfl (n := 200) hl (by decide)) ?_)))))
    refine fw_b (T_rR (T := mt_pI T 4 s w) hs (by decide) rfl rfl) (fw_b (T_rI (T := mt_pI T 4 s w) hs (by decide) rfl g4) (fw_b (T_sI (T := mt_pI T 4 s w) hs _ (by decide) rfl (n := 200) hl (by decide)) ?_))
    refine fw_b (T_rR (T := mt_pI (mt_pI T 4 s w) 5 s 1) hs (by decide) rfl rfl) (fw_b (T_rI (T := mt_pI (mt_pI T 4 s w) 5 s 1) hs (by decide) rfl g5) (fw_b (T_sI (T := mt_pI (mt_pI T 4 s w) 5 s 1) hs _ (by decide) rfl (n := 200) hl (by decide)) ?_))
    refine fw_b (T_rR (T := mt_pI (mt_pI (mt_pI T 4 s w) 5 s 1) 6 s (uI b)) hs (by decide) rfl rfl) (fw_b (T_rI (T := mt_pI (mt_pI (mt_pI T 4 s w) 5 s 1) 6 s (uI b)) hs (by decide) rfl g6) (fw_b (T_sI (T := mt_pI (mt_pI (mt_pI T 4 s w) 5 s 1) 6 s (uI b)) hs _ (by decide) rfl (n := 200) hl (by decide)) ?_))
    refine fw_b (T_rI (T := mt_pI (mt_pI (mt_pI (mt_pI T 4 s w) 5 s 1) 6 s (uI b)) 7 s 0) hs (by decide) rfl g7) (fw_b (T_wI (T := mt_pI (mt_pI (mt_pI (mt_pI T 4 s w) 5 s 1) 6 s (uI b)) 7 s 0) hs _ (by decide) rfl) (fw_b (T_rI (T := mt_pI (mt_pI (mt_pI (mt_pI (mt_pI T 4 s w) 5 s 1) 6 s (uI b)) 7 s 0) 3 8 (uI s)) hs (by decide) rfl g8) ?_))
    rw [uI_s]
    exact fw_b (T_wI (T := mt_pI (mt_pI (mt_pI (mt_pI (mt_pI T 4 s w) 5 s 1) 6 s (uI b)) 7 s 0) 3 8 (uI s)) hs _ (by decide) rfl) rfl
  · match m, hm with
    | 0, hm =>
      cases hm
      rw [Nat.add_zero]
      refine ⟨?_, ?_, ?_, ?_⟩
      · exact (mt_I_ne (Or.inl (by decide))).trans ((mt_I_ne (Or.inl (by decide))).trans ((mt_I_ne (Or.inl (by decide))).trans ((mt_I_ne (Or.inl (by decide))).trans ((mt_I_ne (Or.inl (by decide))).trans mt_I_eq))))
      · exact (mt_I_ne (Or.inl (by decide))).trans ((mt_I_ne (Or.inl (by decide))).trans ((mt_I_ne (Or.inl (by decide))).trans ((mt_I_ne (Or.inl (by decide))).trans mt_I_eq)))
      · exact (mt_I_ne (Or.inl (by decide))).trans ((mt_I_ne (Or.inl (by decide))).trans ((mt_I_ne (Or.inl (by decide))).trans mt_I_eq))
      · exact (mt_I_ne (Or.inl (by decide))).trans ((mt_I_ne (Or.inl (by decide))).trans mt_I_eq)
end mtRd
