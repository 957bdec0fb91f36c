/-! upTo, markov, rank, triples, with -/
theorem mt_gqA : ∃ L, mt_gr 45 1 2 5 = some L ∧ L.length ≤ 200 ∧ L.foldl mt_sN [1, 2] = mt_TN ∧ (∀ t ∈ L, ∃ r ∈ mt_TT, r.2.2.1 = t.2.2) ∧ ∀ m r, mt_TT[m]? = some r → mt_gaQ r.2.2.1 m r L = true := by
  have q := mt_gqQ_t
  unfold mt_gqQ at q
  cases e : mt_gr 45 1 2 5 with
  | none => rw [e] at q; cases q
  | some L =>
    rw [e] at q
    obtain ⟨q, q4⟩ := (Bool.and_eq_true _ _).mp q
    obtain ⟨q, q3⟩ := (Bool.and_eq_true _ _).mp q
    obtain ⟨q1, q2⟩ := (Bool.and_eq_true _ _).mp q
    refine ⟨L, rfl, of_decide_eq_true q1, of_decide_eq_true q2, fun t ht => ?_, fun m r hr => ?_⟩
    · have q3 := of_decide_eq_true q3
      have z := List.all_eq_true.mp q3 t.2.2 (List.mem_map.mpr ⟨t, ht, rfl⟩)
      obtain ⟨r, hr, e⟩ := List.any_eq_true.mp z
      exact ⟨r, hr, of_decide_eq_true e⟩
    · have z := List.all_eq_true.mp q4 m (List.mem_range.mpr (mt_lt_of hr))
      rw [hr] at z
      exact z
theorem mt_foN {n : Int64} : ∀ (L : List mt_T3) (a : mt_A3), (∀ t ∈ L, ¬ t.2.2 = n) → L.foldl (mt_sA n) a = a := by
  intro L
  induction L with
  | nil => intro a _; rfl
  | cons t L ih =>
    intro a h
    have e : mt_sA n a t = a := by unfold mt_sA; rw [if_neg (h t List.mem_cons_self)]
    show L.foldl (mt_sA n) (mt_sA n a t) = a
    rw [e]; exact ih a (fun u hu => h u (List.mem_cons_of_mem _ hu))
theorem mt_rwN {n : Int64} : ∀ (l : List mt_R4) (i : Nat), (∀ r ∈ l, ¬ r.2.2.1 = n) → mt_rw4 n i l = -1 := by
  intro l
  induction l with
  | nil => intro i _; rfl
  | cons r l ih =>
    intro i h
    show (if r.2.2.1 = n then uI i else mt_rw4 n (i + 1) l) = -1
    rw [if_neg (h r List.mem_cons_self)]; exact ih (i + 1) (fun u hu => h u (List.mem_cons_of_mem _ hu))
theorem mt_cgN {n : Int64} : ∀ (l : List mt_R4) (k : Int32), (∀ r ∈ l, ¬ r.2.2.1 = n) → mt_cg n k l = k := by
  intro l
  induction l with
  | nil => intro k _; rfl
  | cons r l ih =>
    intro k h
    show (if r.2.2.1 = n then mt_cg n (k + 1) l else mt_cg n k l) = k
    rw [if_neg (h r List.mem_cons_self)]; exact ih k (fun u hu => h u (List.mem_cons_of_mem _ hu))
theorem mt_riN {n : Int64} : ∀ (l : List Int64) (i : Nat), (∀ v ∈ l, ¬ v = n) → mt_ri n i l = -1 := by
  intro l
  induction l with
  | nil => intro i _; rfl
  | cons r l ih =>
    intro i h
    show (if r = n then uI i else mt_ri n (i + 1) l) = -1
    rw [if_neg (h r List.mem_cons_self)]; exact ih (i + 1) (fun u hu => h u (List.mem_cons_of_mem _ hu))
/-- n is a greatest one, or not -/
theorem mt_hit (n : Int64) : (∃ (m : Nat) (r : mt_R4), mt_TT[m]? = some r ∧ r.2.2.1 = n) ∨ ∀ r ∈ mt_TT, ¬ r.2.2.1 = n := by
  by_cases h : ∃ r ∈ mt_TT, r.2.2.1 = n
  · obtain ⟨r, hr, e⟩ := h
    obtain ⟨m, hm⟩ := List.getElem?_of_mem hr
    exact Or.inl ⟨m, r, hm, e⟩
  · exact Or.inr fun r hr e => h ⟨r, hr, e⟩
theorem mt_laysN {T : mt_S} (hs : mt_st T) (n : Int64) : ∃ T' a, f_X11_laysNumbers 96 n T = some T' ∧ mt_ns T' mt_TN ∧ mt_as T' a ∧ mt_fr mt_Dz T T' ∧ (∀ m r, mt_TT[m]? = some r → r.2.2.1 = n → a = (1, r.1, r.2.1) ∧ 5 ≤ n ∧ n ≤ 1000000000000 ∧ mt_rw4 n 0 mt_TT = uI m ∧ mt_cg n 0 mt_TT = 1 ∧ ∀ S : mt_S, f_X11_down r.1 r.2.1 n S = some (r.2.2.2, S)) ∧ ((∀ r ∈ mt_TT, ¬ r.2.2.1 = n) → a = (0, 0, 0)) := by
  obtain ⟨L, g1, g2, g3, g4, g5⟩ := mt_gqA
  have hs1 : mt_st (mt_pI (mt_pI (mt_pL T 96 26 n) 96 24 0) 96 25 0) := hs
  have f1 : mt_fr mt_Dz T (mt_pI (mt_pI (mt_pL T 96 26 n) 96 24 0) 96 25 0) := (((mt_fr.refl _ T).L 96 26 _ rfl).I 96 24 _ rfl).I 96 25 _ rfl
  have n1 : mt_ns (mt_pI (mt_pI (mt_pL T 96 26 n) 96 24 0) 96 25 0) [] := ⟨(mt_I_ne (Or.inr (by decide))).trans mt_I_eq, fun m v q => by cases q⟩
  have a1 : mt_as (mt_pI (mt_pI (mt_pL T 96 26 n) 96 24 0) 96 25 0) (0, 0, 0) := ⟨mt_I_eq, fun z => absurd rfl z⟩
  have e1 : (mt_pI (mt_pI (mt_pL T 96 26 n) 96 24 0) 96 25 0).2.2.2.1 96 26 = some n := mt_L_eq
  obtain ⟨T2, b2, n2, f2⟩ := mt_cmsT 1 hs1 n1 (by decide)
  have hs2 := f2.st hs1
  obtain ⟨T3, b3, n3, f3⟩ := mt_cmsT 2 hs2 n2 (by decide)
  have hs3 := f3.st hs2
  have eN : mt_cms 2 (mt_cms 1 []) = [1, 2] := by decide
  rw [eN] at n3
  have f23 := f2.trans f3
  have a3 : mt_as T3 (0, 0, 0) := ⟨(f23.2 96 25 rfl).1.trans a1.1, fun z => absurd rfl z⟩
  obtain ⟨T4, b4, ⟨hs4, n4, a4, e4⟩, f4⟩ := mt_growL n 45 1 2 5 L [1, 2] (0, 0, 0) T3 g1 ⟨hs3, n3, a3, (f23.2 96 26 rfl).2.trans e1⟩ (by show 2 + L.length < 399; omega)
  rw [g3] at n4
  refine ⟨T4, L.foldl (mt_sA n) (0, 0, 0), ?_, n4, a4, (f1.trans (f23.mono (fun k j q => ?_))).trans (f4.mono (fun k j q => ?_)), fun m r hm hr => ?_, fun h => mt_foN L _ (fun t ht e => ?_)⟩
  · exact fw_t (T_K hs (by decide) rfl) (fw_b (T_wL hs _ (by decide) rfl) (fw_b (T_wI (T := mt_pL T 96 26 n) hs _ (by decide) rfl) (fw_b (T_wI (T := mt_pI (mt_pL T 96 26 n) 96 24 0) hs _ (by decide) rfl) (fw_b b2 (fw_b b3 (fw_b b4 rfl))))))
  · unfold mt_Dz at q
    unfold mt_Dcm
    simp only [Bool.or_eq_false_iff, Bool.and_eq_false_iff, decide_eq_false_iff_not] at q ⊢; omega
  · unfold mt_Dz at q
    unfold mt_Do mt_Dcm
    simp only [Bool.or_eq_false_iff, Bool.and_eq_false_iff, decide_eq_false_iff_not] at q ⊢; omega
  · have z := g5 m r hm
    rw [hr] at z
    unfold mt_gaQ at z
    obtain ⟨z, z6⟩ := (Bool.and_eq_true _ _).mp z
    obtain ⟨z, z5⟩ := (Bool.and_eq_true _ _).mp z
    obtain ⟨z, z4⟩ := (Bool.and_eq_true _ _).mp z
    obtain ⟨z, z3⟩ := (Bool.and_eq_true _ _).mp z
    obtain ⟨z1, z2⟩ := (Bool.and_eq_true _ _).mp z
    refine ⟨of_decide_eq_true z3, of_decide_eq_true z4, of_decide_eq_true z5, of_decide_eq_true z1, of_decide_eq_true z2, fun S => ?_⟩
    cases e : f_X11_down r.1 r.2.1 n mt_Z0 with
    | none => rw [e] at z6; cases z6
    | some w =>
      obtain ⟨k, Z⟩ := w
      rw [e] at z6
      have z6 : k = r.2.2.2 := of_decide_eq_true z6
      subst z6
      exact mt_pureR S (fun _ _ _ hp h => (ov_X11_down hp h).1) e
  · obtain ⟨r, hr, e2⟩ := g4 t ht
    exact h r hr (e2.trans e)
theorem isIn6 (n a b : Int64) (S : mt_S) : f_X11_isIn n a b S = some ((if n < a ∨ b < n then 0 else 1), S) := by
  unfold f_X11_isIn
  by_cases q : n < a
  · rw [if_pos q, if_pos (Or.inl q)]
  · rw [if_neg q]
    by_cases r : b < n
    · rw [if_pos r, if_pos (Or.inr r)]
    · rw [if_neg r, if_neg (fun z => z.elim q r)]
/-- filled first, then asked -/
theorem mt_via {T T1 : mt_S} (hs : mt_st T) (hs1 : mt_st T1) (a1 : f_X6_fill 90 T = some T1) (h1 : mt_tF T1) (n : Int64) (w : Int32) : f_X6_countUpTo 90 n T = some (uI (mt_cu n mt_TN), T1) ∧ f_X6_numberAt 90 w T = some (mt_na w, T1) ∧ f_X6_rowOf 90 n T = some (mt_rw4 n 0 mt_TT, T1) ∧ f_X6_countGreatest 90 n T = some (mt_cg n 0 mt_TT, T1) := by
  have k : mt_isK T 90 6 = true := T_K hs (by decide) rfl
  have k1 : mt_isK T1 90 6 = true := T_K hs1 (by decide) rfl
  have a2 := mt_tF_fill hs1 h1
  refine ⟨?_, ?_, ?_, ?_⟩
  · rw [← mt_cuF hs1 h1 n]
    unfold f_X6_countUpTo
    rw [if_pos k, if_pos k1, a1, a2]
  · rw [← mt_naF hs1 h1 w]
    unfold f_X6_numberAt
    rw [if_pos k, if_pos k1, a1, a2]
  · rw [← mt_rwF hs1 h1 n]
    unfold f_X6_rowOf
    rw [if_pos k, if_pos k1, a1, a2]
  · rw [← mt_cgF hs1 h1 n]
    unfold f_X6_countGreatest
    rw [if_pos k, if_pos k1, a1, a2]
theorem mt_cuM {T : mt_S} (hs : mt_st T) (h : mt_ns T mt_TN) (n : Int64) : ∀ (r : List Int64) (i f : Nat), i + r.length = mt_TN.length → (∀ m v, r[m]? = some v → mt_TN[i + m]? = some v) → r.length < f → f_X11_upTo_L25 f 96 n (uI i) T = some (uI (i + mt_cu n r), T) := by
  obtain ⟨l1, l2⟩ := mt_TNl
  intro r
  induction r with
  | nil =>
    intro i f hi _ hf
    obtain ⟨f, rfl⟩ : ∃ g, f = g + 1 := ⟨f - 1, by omega⟩
    have hi : i = mt_TN.length := hi
    exact fw_b (T_rI hs (by decide) rfl h.1) (fw_t (by rw [uI_le (by omega) (by omega)]; omega) rfl)
  | cons y r ih =>
    intro i f hi hr hf
    obtain ⟨f, rfl⟩ : ∃ g, f = g + 1 := ⟨f - 1, by omega⟩
    rw [List.length_cons] at hi hf
    have z := h.2 i y (hr 0 y rfl)
    refine fw_b (T_rI hs (by decide) rfl h.1) (fw_f (by rw [uI_le (by omega) (by omega)]; omega) (fw_b (T_rR hs (by decide) rfl rfl) (fw_b (T_aL hs (by decide) rfl (n := 400) (by omega) (by decide) z) ?_)))
    show _ = some (uI (i + (if n < y then 0 else mt_cu n r + 1)), T)
    by_cases c : n < y
    · exact fw_t c (by rw [if_pos c]; rfl)
    · refine fw_f c ?_
      rw [if_neg c, uI_s, show i + (mt_cu n r + 1) = i + 1 + mt_cu n r by omega]
      exact ih (i + 1) f (by omega) (fun m v hm => by rw [show i + 1 + m = i + (m + 1) by omega]; exact hr (m + 1) v hm) (by omega)
theorem mt_riM {T : mt_S} (hs : mt_st T) (h : mt_ns T mt_TN) (n : Int64) : ∀ (r : List Int64) (i f : Nat), i + r.length = mt_TN.length → (∀ m v, r[m]? = some v → mt_TN[i + m]? = some v) → r.length < f → f_X11_rank_L12 f 96 n (uI i) T = some (mt_ri n i r, T) := by
  obtain ⟨l1, l2⟩ := mt_TNl
  intro r
  induction r with
  | nil =>
    intro i f hi _ hf
    obtain ⟨f, rfl⟩ : ∃ g, f = g + 1 := ⟨f - 1, by omega⟩
    have hi : i = mt_TN.length := hi
    exact fw_b (T_rI hs (by decide) rfl h.1) (fw_t (by rw [uI_le (by omega) (by omega)]; omega) rfl)
  | cons y r ih =>
    intro i f hi hr hf
    obtain ⟨f, rfl⟩ : ∃ g, f = g + 1 := ⟨f - 1, by omega⟩
    rw [List.length_cons] at hi hf
    have z := h.2 i y (hr 0 y rfl)
    refine fw_b (T_rI hs (by decide) rfl h.1) (fw_f (by rw [uI_le (by omega) (by omega)]; omega) (fw_b (T_rR hs (by decide) rfl rfl) (fw_b (T_aL hs (by decide) rfl (n := 400) (by omega) (by decide) z) ?_)))
    show _ = some (if y = n then uI i else mt_ri n (i + 1) r, T)
    by_cases c : y = n
    · exact fw_t c (by rw [if_pos c])
    · refine fw_f c ?_
      rw [if_neg c, uI_s]
      exact ih (i + 1) f (by omega) (fun m v hm => by rw [show i + 1 + m = i + (m + 1) by omega]; exact hr (m + 1) v hm) (by omega)
def mt_D7 (k j : Nat) : Bool := mt_Dj k j || mt_Dz k j
theorem mt_D7Q : mt_spQ mt_D7 [1, 2, 3, 4, 5, 6] = true := by decide +kernel
theorem mt_fin7 {T T1 T2 : mt_S} (hi : mt_Inv T) (f1 : mt_fr mt_Dj T T1) (h1 : mt_tF T1) (f2 : mt_fr mt_Dz T1 T2) : mt_Inv T2 := by
  refine mt_Inv_7 hi ((f1.mono (fun k j q => ?_)).trans (f2.mono (fun k j q => ?_))) mt_D7Q (mt_iTab_c (mt_sp_of f2 mt_DzQ rfl) (Or.inr h1))
  · unfold mt_D7 at q; exact (Bool.or_eq_false_iff.mp q).1
  · unfold mt_D7 at q; exact (Bool.or_eq_false_iff.mp q).2
theorem mt_nle6 {a b : Int64} : (¬ a ≤ b) ↔ b < a := by rw [Int64.lt_iff_toInt_lt, Int64.le_iff_toInt_le]; omega
theorem mt_upT {T : mt_S} (n : Int64) (hi : mt_Inv T) : ∃ v T1 T2, f_X10_upTo 0 n T = some (v, T1) ∧ f_X11_upTo 96 n T1 = some (v, T2) ∧ mt_Inv T2 := by
  have hs := hi.1
  by_cases hw : n < 1 ∨ 1000000000000 < n
  · refine ⟨-1, T, mt_pI T 96 0 0, fw_t (T_K hs (by decide) rfl) ?_, fw_t (T_K hs (by decide) rfl) (fw_b (T_wI hs 0 (by decide) rfl) (fw_b2 (isIn6 n 1 1000000000000 _) (by rw [if_pos hw]; rfl))), mt_Inv_z hi (mt_fz0 0)⟩
    by_cases h1 : n < 1
    · exact fw_t h1 rfl
    · exact fw_f h1 (fw_f (mt_nle6.mpr (hw.resolve_left h1)) rfl)
  · obtain ⟨h1, h2⟩ := not_or.mp hw
    have h3 : n ≤ 1000000000000 := by rw [Int64.lt_iff_toInt_lt] at h2; rw [Int64.le_iff_toInt_le]; omega
    obtain ⟨T1, a1, b1, f1⟩ := mt_fill hs hi.2.2.2.2.2.2.2
    have hs1 := f1.st hs
    obtain ⟨v1, -, -, -⟩ := mt_via hs hs1 a1 b1 n 0
    obtain ⟨T2, a, c2, n2, -, f2, -⟩ := mt_laysN (T := mt_pI T1 96 0 0) hs1 0
    have hs2 := f2.st (T := mt_pI T1 96 0 0) hs1
    have m2 := mt_cuM hs2 n2 n mt_TN 0 1000 (Nat.zero_add _) (fun m v q => by rw [Nat.zero_add]; exact q) (by have := mt_TNl; omega)
    rw [Nat.zero_add] at m2
    refine ⟨_, T1, T2, fw_t (T_K hs (by decide) rfl) (fw_f h1 (fw_t h3 (fw_b (T_rR hs (by decide) rfl rfl) (fw_b2 v1 rfl)))), ?_, mt_fin7 hi f1 b1 ((mt_fz0 0).trans f2)⟩
    refine fw_t (T_K hs1 (by decide) rfl) (fw_b (T_wI hs1 0 (by decide) rfl) (fw_b2 (isIn6 n 1 1000000000000 _) ?_))
    rw [if_neg hw]
    exact fw_f (by decide) (fw_b c2 m2)
theorem t_17 {T : mt_S} (w1 w2 : Int32) (hi : mt_Inv T) : ∃ S', l_17 w1 w2 T = some S' ∧ mt_Inv S' := by
  obtain ⟨v, T1, T2, a, b, c⟩ := mt_upT ((w1.toInt64 <<< ((32 : Int32).toInt64 &&& 63)) ||| (w2.toInt64 &&& 4294967295)) hi
  exact ⟨T2, fw_b2 a (fw_b2 b (if_pos rfl)), c⟩
theorem t_18 {T : mt_S} (w : Int32) (hi : mt_Inv T) : ∃ S', l_18 w T = some S' ∧ mt_Inv S' := by
  have hs := hi.1
  obtain ⟨l1, l2⟩ := mt_TNl
  obtain ⟨T1, a1, b1, f1⟩ := mt_fill hs hi.2.2.2.2.2.2.2
  have hs1 := f1.st hs
  obtain ⟨-, v1, -, -⟩ := mt_via hs hs1 a1 b1 0 w
  obtain ⟨T2, a, c2, n2, -, f2, -⟩ := mt_laysN (T := mt_pI T1 96 0 0) hs1 0
  have hs2 := f2.st (T := mt_pI T1 96 0 0) hs1
  have c1 : f_X10_markov 0 w T = some (mt_na w, T1) := fw_t (T_K hs (by decide) rfl) (fw_b (T_rR hs (by decide) rfl rfl) (fw_b2 v1 rfl))
  have c3 : f_X11_markov 96 w T1 = some (mt_na w, T2) := by
    refine fw_t (T_K hs1 (by decide) rfl) (fw_b (T_wI hs1 0 (by decide) rfl) (fw_b c2 (fw_b (T_rI hs2 (by decide) rfl n2.1) (fw_b2 (isInN w (by omega) _) ?_))))
    unfold mt_na
    by_cases c : w < 0 ∨ uI mt_TN.length ≤ w
    · rw [if_pos c, if_pos c]; rfl
    · rw [if_neg c, if_neg c]
      obtain ⟨m, hm, rfl⟩ := mt_inl2 (by omega) c
      have e : mt_TN[m]? = some mt_TN[m] := List.getElem?_eq_getElem hm
      refine fw_f (by decide) (fw_b (T_rR hs2 (by decide) rfl rfl) (fw_b (T_aL hs2 (by decide) rfl (n := 400) (by omega) (by decide) (n2.2 m _ e)) ?_))
      rw [uI_cl (by omega), List.getD_eq_getElem?_getD, e]; rfl
  exact ⟨T2, fw_b2 c1 (fw_b2 c3 (if_pos rfl)), mt_fin7 hi f1 b1 ((mt_fz0 0).trans f2)⟩
/-- the program's rank is the reference's -/
theorem mt_rkE (n : Int64) : (if mt_na (uI (mt_cu n mt_TN) - 1) = n then (if (uI (mt_cu n mt_TN) - 1) < 0 then (-1 : Int32) else uI (mt_cu n mt_TN) - 1) else -1) = mt_ri n 0 mt_TN := by
  obtain ⟨l1, l2⟩ := mt_TNl
  have hc := mt_cu_l n mt_TN
  have na : ∀ m, m < mt_TN.length → mt_na (uI m) = mt_TN.getD m 0 := fun m hm => by
    unfold mt_na
    rw [if_neg (by
      intro z
      rcases z with z | z
      · exact uI_nn (by omega) z
      · rw [uI_le (by omega) (by omega)] at z; omega), uI_cl (by omega)]
  by_cases h : ∃ m, m < mt_TN.length ∧ mt_TN.getD m 0 = n
  · obtain ⟨m, hm, e⟩ := h
    obtain ⟨z1, z2⟩ := (Bool.and_eq_true _ _).mp (List.all_eq_true.mp mt_riQ m (List.mem_range.mpr hm))
    have z1 := of_decide_eq_true z1
    have z2 := of_decide_eq_true z2
    rw [e] at z1 z2
    rw [z1, z2, uI_p, na m hm, if_pos e, if_neg (uI_nn (by omega))]
  · have hn : ∀ v ∈ mt_TN, ¬ v = n := fun v hv e => by
      obtain ⟨m, hm⟩ := List.getElem?_of_mem hv
      exact h ⟨m, mt_lt_of hm, by rw [List.getD_eq_getElem?_getD, hm]; exact e⟩
    rw [mt_riN mt_TN 0 hn]
    generalize mt_cu n mt_TN = c at hc
    cases c with
    | zero =>
      have e : uI 0 - 1 = -1 := by decide
      rw [e]
      by_cases q : mt_na (-1) = n
      · rw [if_pos q, if_pos (by decide)]
      · rw [if_neg q]
    | succ k =>
      rw [uI_p, na k (by omega), if_neg (fun q => h ⟨k, by omega, q⟩)]
theorem mt_rkT {T : mt_S} (n : Int64) (hi : mt_Inv T) : ∃ v T1 T2, f_X10_rank 0 n T = some (v, T1) ∧ f_X11_rank 96 n T1 = some (v, T2) ∧ mt_Inv T2 := by
  have hs := hi.1
  obtain ⟨T1, a1, b1, f1⟩ := mt_fill hs hi.2.2.2.2.2.2.2
  have hs1 := f1.st hs
  obtain ⟨v1, -, -, -⟩ := mt_via hs hs1 a1 b1 n 0
  obtain ⟨T2, a, c2, n2, -, f2, -⟩ := mt_laysN (T := mt_pI T1 96 0 0) hs1 0
  have hs2 := f2.st (T := mt_pI T1 96 0 0) hs1
  have m2 := mt_riM hs2 n2 n mt_TN 0 1000 (Nat.zero_add _) (fun m v q => by rw [Nat.zero_add]; exact q) (by have := mt_TNl; omega)
  refine ⟨mt_ri n 0 mt_TN, T1, T2, ?_, fw_t (T_K hs1 (by decide) rfl) (fw_b (T_wI hs1 0 (by decide) rfl) (fw_b c2 m2)), mt_fin7 hi f1 b1 ((mt_fz0 0).trans f2)⟩
  refine fw_t (T_K hs (by decide) rfl) (fw_b (T_rR hs (by decide) rfl rfl) (fw_b2 (v := mt_ri n 0 mt_TN) (S1 := T1) ?_ rfl))
  refine fw_t (T_K hs (by decide) rfl) (fw_b2 v1 (fw_b2 (mt_naF hs1 b1 _) ?_))
  rw [← mt_rkE n]
  by_cases q : mt_na (uI (mt_cu n mt_TN) - 1) = n
  · rw [if_pos q, if_pos q]
    by_cases q2 : (uI (mt_cu n mt_TN) - 1) < 0
    · rw [if_pos q2, if_pos q2]
    · rw [if_neg q2, if_neg q2]
  · rw [if_neg q, if_neg q]
theorem t_19 {T : mt_S} (w1 w2 : Int32) (hi : mt_Inv T) : ∃ S', l_19 w1 w2 T = some S' ∧ mt_Inv S' := by
  obtain ⟨v, T1, T2, a, b, c⟩ := mt_rkT ((w1.toInt64 <<< ((32 : Int32).toInt64 &&& 63)) ||| (w2.toInt64 &&& 4294967295)) hi
  exact ⟨T2, fw_b2 a (fw_b2 b (if_pos rfl)), c⟩
theorem mt_nin {n : Int64} (h1 : 5 ≤ n) (h2 : n ≤ 1000000000000) : ¬ (n < 5 ∨ 1000000000000 < n) := by
  rw [Int64.lt_iff_toInt_lt, Int64.lt_iff_toInt_lt]
  rw [Int64.le_iff_toInt_le] at h1 h2
  omega
theorem mt_tpT {T : mt_S} (n : Int64) (hi : mt_Inv T) : ∃ v T1 T2, f_X10_triples 0 n T = some (v, T1) ∧ f_X11_triples 96 n T1 = some (v, T2) ∧ mt_Inv T2 := by
  have hs := hi.1
  obtain ⟨T1, a1, b1, f1⟩ := mt_fill hs hi.2.2.2.2.2.2.2
  have hs1 := f1.st hs
  obtain ⟨-, -, -, v1⟩ := mt_via hs hs1 a1 b1 n 0
  obtain ⟨T2, a, c2, n2, a2, f2, p1, p2⟩ := mt_laysN (T := mt_pI T1 96 0 0) hs1 n
  have hs2 := f2.st (T := mt_pI T1 96 0 0) hs1
  have pC : ∀ {y : Option (Int32 × mt_S)}, (if mt_cg n 0 mt_TT = 0 then some ((-1), T1) else some (mt_cg n 0 mt_TT, T1)) = y → f_X10_triples 0 n T = y := fun q => fw_t (T_K hs (by decide) rfl) (fw_b (T_rR hs (by decide) rfl rfl) (fw_b2 v1 q))
  rcases mt_hit n with ⟨m, r, hm, hr⟩ | h
  · obtain ⟨ea, h5, h6, -, ec, -⟩ := p1 m r hm hr
    subst ea
    refine ⟨1, T1, T2, pC (by rw [ec]; rfl), ?_, mt_fin7 hi f1 b1 ((mt_fz0 0).trans f2)⟩
    refine fw_t (T_K hs1 (by decide) rfl) (fw_b (T_wI hs1 0 (by decide) rfl) (fw_b2 (isIn6 n 5 1000000000000 _) ?_))
    rw [if_neg (mt_nin h5 h6)]
    exact fw_f (by decide) (fw_b c2 (fw_b (T_rI hs2 (by decide) rfl a2.1) (fw_f (show ¬ (1 : Int32) = 0 by decide) (fw_b (T_rI hs2 (by decide) rfl a2.1) rfl))))
  · have ec := mt_cgN mt_TT 0 h
    have ea := p2 h
    subst ea
    by_cases hw : n < 5 ∨ 1000000000000 < n
    · exact ⟨-1, T1, mt_pI T1 96 0 0, pC (by rw [ec]; rfl), fw_t (T_K hs1 (by decide) rfl) (fw_b (T_wI hs1 0 (by decide) rfl) (fw_b2 (isIn6 n 5 1000000000000 _) (by rw [if_pos hw]; rfl))), mt_fin7 hi f1 b1 (mt_fz0 0)⟩
    · refine ⟨-1, T1, T2, pC (by rw [ec]; rfl), ?_, mt_fin7 hi f1 b1 ((mt_fz0 0).trans f2)⟩
      refine fw_t (T_K hs1 (by decide) rfl) (fw_b (T_wI hs1 0 (by decide) rfl) (fw_b2 (isIn6 n 5 1000000000000 _) ?_))
      rw [if_neg hw]
      exact fw_f (by decide) (fw_b c2 (fw_b (T_rI hs2 (by decide) rfl a2.1) (fw_t rfl rfl)))
theorem t_20 {T : mt_S} (w1 w2 : Int32) (hi : mt_Inv T) : ∃ S', l_20 w1 w2 T = some S' ∧ mt_Inv S' := by
  obtain ⟨v, T1, T2, a, b, c⟩ := mt_tpT ((w1.toInt64 <<< ((32 : Int32).toInt64 &&& 63)) ||| (w2.toInt64 &&& 4294967295)) hi
  exact ⟨T2, fw_b2 a (fw_b2 b (if_pos rfl)), c⟩
theorem mt_i012 {w : Int32} (h : ¬ (w < 0 ∨ 2 < w)) : w = 0 ∨ w = 1 ∨ w = 2 := by
  obtain ⟨h0, h1⟩ := not_or.mp h
  rw [Int32.lt_iff_toInt_lt] at h0 h1
  have e0 : (0 : Int32).toInt = 0 := rfl
  have e1 : (1 : Int32).toInt = 1 := rfl
  have e2 : (2 : Int32).toInt = 2 := rfl
  rw [← Int32.toInt_inj, ← Int32.toInt_inj (y := (1 : Int32)), ← Int32.toInt_inj (y := (2 : Int32))]
  omega
theorem mt_wiT {T : mt_S} (n : Int64) (w : Int32) (hi : mt_Inv T) : ∃ v T1 T2, f_X10_with 0 n w T = some (v, T1) ∧ f_X11_with 96 n w T1 = some (v, T2) ∧ mt_Inv T2 := by
  have hs := hi.1
  obtain ⟨lt1, lt2⟩ := mt_TTl
  obtain ⟨T1, a1, b1, f1⟩ := mt_fill hs hi.2.2.2.2.2.2.2
  have hs1 := f1.st hs
  obtain ⟨-, -, v1, -⟩ := mt_via hs hs1 a1 b1 n 0
  obtain ⟨T2, a, c2, n2, a2, f2, p1, p2⟩ := mt_laysN (T := mt_pI T1 96 0 0) hs1 n
  have hs2 := f2.st (T := mt_pI T1 96 0 0) hs1
  have pC : ∀ {y : Option (Int64 × mt_S)}, (if w = 0 then Option.bind (mt_rR T1 0 10 9) fun v4 => mt_b2 (f_X6_leastAt v4 (mt_rw4 n 0 mt_TT) T1) fun v6 S5 => some (v6, S5) else if w = 1 then Option.bind (mt_rR T1 0 10 9) fun v7 => mt_b2 (f_X6_middleAt v7 (mt_rw4 n 0 mt_TT) T1) fun v9 S8 => some (v9, S8) else if w = 2 then Option.bind (mt_rR T1 0 10 9) fun v10 => mt_b2 (f_X6_stepsDownAt v10 (mt_rw4 n 0 mt_TT) T1) fun v12 S11 => some (v12.toInt64, S11) else some ((-1), T1)) = y → f_X10_with 0 n w T = y := fun q => fw_t (T_K hs (by decide) rfl) (fw_b (T_rR hs (by decide) rfl rfl) (fw_b2 v1 q))
  have k6 : mt_isK T1 90 6 = true := T_K hs1 (by decide) rfl
  by_cases hw : w < 0 ∨ 2 < w
  · have w0 : ¬ w = 0 := fun e => by rw [e] at hw; exact absurd hw (by decide)
    have w1 : ¬ w = 1 := fun e => by rw [e] at hw; exact absurd hw (by decide)
    have w2 : ¬ w = 2 := fun e => by rw [e] at hw; exact absurd hw (by decide)
    refine ⟨-1, T1, mt_pI T1 96 0 0, pC (fw_f w0 (fw_f w1 (fw_f w2 rfl))), ?_, mt_fin7 hi f1 b1 (mt_fz0 0)⟩
    refine fw_t (T_K hs1 (by decide) rfl) (fw_b (T_wI hs1 0 (by decide) rfl) (fw_b2 (isIn6 n 5 1000000000000 _) ?_))
    by_cases hn : n < 5 ∨ 1000000000000 < n
    · rw [if_pos hn]; rfl
    · rw [if_neg hn]
      refine fw_f (by decide) (fw_b2 (isInG w 0 2 _) ?_)
      rw [if_pos hw]; rfl
  · rcases mt_hit n with ⟨m, r, hm, hr⟩ | h
    · obtain ⟨ea, h5, h6, er, -, dn⟩ := p1 m r hm hr
      subst ea
      obtain ⟨r1, r2, r3, r4⟩ := b1.2.2.1 m r hm
      have hml := mt_lt_of hm
      obtain ⟨a27, a28⟩ := a2.2 (show ¬ (1 : Int32) = 0 by decide)
      have has : f_X6_has 90 (uI m) T1 = some (1, T1) := fw_t k6 (fw_f (uI_nn (by omega)) (fw_b (T_rI hs1 (by decide) rfl b1.1) (fw_f (by rw [uI_le (by omega) (by omega)]; omega) rfl)))
      have pM : ∀ {y : Option (Int64 × mt_S)}, (if w = 0 then Option.bind (mt_rL T2 96 11 27) fun v13 => some (v13, T2) else if w = 1 then Option.bind (mt_rL T2 96 11 28) fun v12 => some (v12, T2) else Option.bind (mt_rL T2 96 11 27) fun v8 => Option.bind (mt_rL T2 96 11 28) fun v9 => mt_b2 (f_X11_down v8 v9 n T2) fun v11 S10 => some (v11.toInt64, S10)) = y → f_X11_with 96 n w T1 = y := fun q => by
        refine fw_t (T_K hs1 (by decide) rfl) (fw_b (T_wI hs1 0 (by decide) rfl) (fw_b2 (isIn6 n 5 1000000000000 _) ?_))
        rw [if_neg (mt_nin h5 h6)]
        refine fw_f (by decide) (fw_b2 (isInG w 0 2 _) ?_)
        rw [if_neg hw]
        exact fw_f (by decide) (fw_b c2 (fw_b (T_rI hs2 (by decide) rfl a2.1) (fw_f (show ¬ (1 : Int32) = 0 by decide) q)))
      have fin := mt_fin7 hi f1 b1 ((mt_fz0 0).trans f2)
      rw [er] at pC
      by_cases w0 : w = 0
      · exact ⟨r.1, T1, T2, pC (fw_t w0 (fw_b (T_rR hs1 (by decide) rfl rfl) (fw_b2 (fw_t k6 (fw_b2 has (fw_f (by decide) (fw_b (T_rR hs1 (by decide) rfl rfl) (fw_b (T_aL hs1 (by decide) rfl (n := 160) (by omega) (by decide) r1) rfl))))) rfl))), pM (fw_t w0 (fw_b (T_rL hs2 (by decide) rfl a27) rfl)), fin⟩
      · by_cases w1 : w = 1
        · exact ⟨r.2.1, T1, T2, pC (fw_f w0 (fw_t w1 (fw_b (T_rR hs1 (by decide) rfl rfl) (fw_b2 (fw_t k6 (fw_b2 has (fw_f (by decide) (fw_b (T_rR hs1 (by decide) rfl rfl) (fw_b (T_aL hs1 (by decide) rfl (n := 160) (by omega) (by decide) r2) rfl))))) rfl)))), pM (fw_f w0 (fw_t w1 (fw_b (T_rL hs2 (by decide) rfl a28) rfl))), fin⟩
        · have w2 : w = 2 := ((mt_i012 hw).resolve_left w0).resolve_left w1
          exact ⟨r.2.2.2.toInt64, T1, T2, pC (fw_f w0 (fw_f w1 (fw_t w2 (fw_b (T_rR hs1 (by decide) rfl rfl) (fw_b2 (fw_t k6 (fw_b2 has (fw_f (by decide) (fw_b (T_rR hs1 (by decide) rfl rfl) (fw_b (T_aI hs1 (by decide) rfl (n := 160) (by omega) (by decide) r4) rfl))))) rfl))))), pM (fw_f w0 (fw_f w1 (fw_b (T_rL hs2 (by decide) rfl a27) (fw_b (T_rL hs2 (by decide) rfl a28) (fw_b2 (dn T2) rfl))))), fin⟩
    · have er := mt_rwN mt_TT 0 h
      have ea := p2 h
      subst ea
      have has : f_X6_has 90 (-1) T1 = some (0, T1) := fw_t k6 (fw_t (by decide) rfl)
      rw [er] at pC
      have cC : f_X10_with 0 n w T = some (-1, T1) := by
        rcases mt_i012 hw with w0 | w0 | w0
        · exact pC (fw_t w0 (fw_b (T_rR hs1 (by decide) rfl rfl) (fw_b2 (v := -1) (S1 := T1) (fw_t k6 (fw_b2 has (fw_t rfl rfl))) rfl)))
        · exact pC (fw_f (by rw [w0]; decide) (fw_t w0 (fw_b (T_rR hs1 (by decide) rfl rfl) (fw_b2 (v := -1) (S1 := T1) (fw_t k6 (fw_b2 has (fw_t rfl rfl))) rfl))))
        · exact pC (fw_f (by rw [w0]; decide) (fw_f (by rw [w0]; decide) (fw_t w0 (fw_b (T_rR hs1 (by decide) rfl rfl) (fw_b2 (v := -1) (S1 := T1) (fw_t k6 (fw_b2 has (fw_t rfl rfl))) rfl)))))
      by_cases hn : n < 5 ∨ 1000000000000 < n
      · exact ⟨-1, T1, mt_pI T1 96 0 0, cC, fw_t (T_K hs1 (by decide) rfl) (fw_b (T_wI hs1 0 (by decide) rfl) (fw_b2 (isIn6 n 5 1000000000000 _) (by rw [if_pos hn]; rfl))), mt_fin7 hi f1 b1 (mt_fz0 0)⟩
      · refine ⟨-1, T1, T2, cC, ?_, mt_fin7 hi f1 b1 ((mt_fz0 0).trans f2)⟩
        refine fw_t (T_K hs1 (by decide) rfl) (fw_b (T_wI hs1 0 (by decide) rfl) (fw_b2 (isIn6 n 5 1000000000000 _) ?_))
        rw [if_neg hn]
        refine fw_f (by decide) (fw_b2 (isInG w 0 2 _) ?_)
        rw [if_neg hw]
        exact fw_f (by decide) (fw_b c2 (fw_b (T_rI hs2 (by decide) rfl a2.1) (fw_t rfl rfl)))
theorem t_21 {T : mt_S} (w1 w2 w3 : Int32) (hi : mt_Inv T) : ∃ S', l_21 w1 w2 w3 T = some S' ∧ mt_Inv S' := by
  obtain ⟨v, T1, T2, a, b, c⟩ := mt_wiT ((w1.toInt64 <<< ((32 : Int32).toInt64 &&& 63)) ||| (w2.toInt64 &&& 4294967295)) w3 hi
  exact ⟨T2, fw_b2 a (fw_b2 b (if_pos rfl)), c⟩
