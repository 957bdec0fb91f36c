/-! what is kept from call to call; closed turns -/
def mt_bk (k : Nat) : Bool := decide (k = 9) || decide (k = 72) || decide (k = 78) || (decide (17 ≤ k) && decide (k < 71) && decide ((k - 17) % 6 = 0))
/-- the slots of ints that a later call may ask for -/
def mt_perI (k j : Nat) : Bool := decide (j < (mt_shN k).2) && (decide (k = 2) || decide (k = 84) || decide (k = 86) || decide (k = 94) || decide (k = 97) || decide (k = 98) || decide (k = 99) || decide (k = 100) || decide (k = 103) || decide (k = 107)
  || (decide (k = 1) && decide (j = 1)) || (decide (k = 3) && decide (j = 9)) || (decide (k = 15) && decide (1 ≤ j)) || (decide (k = 85) && decide (j = 2)) || (decide (k = 90) && decide (5 ≤ j)) || (decide (k = 96) && (decide (j = 2) || decide (j = 9) || decide (j = 30) || decide (j = 33)))
  || (decide (1 ≤ k) && mt_bk (k - 1)) || (decide (2 ≤ k) && mt_bk (k - 2) && decide (j = 3)) || (decide (4 ≤ k) && mt_bk (k - 4)) || (decide (5 ≤ k) && mt_bk (k - 5)))
def mt_perL (k j : Nat) : Bool := decide (j < (mt_shN k).2) && ((decide (3 ≤ k) && mt_bk (k - 3)) || decide (k = 91) || decide (k = 92) || decide (k = 93) || decide (k = 95))
def mt_same (T T' : mt_S) : Prop := (∀ k j, mt_perI k j = true → T'.2.2.1 k j = T.2.2.1 k j) ∧ (∀ k j, mt_perL k j = true → T'.2.2.2.1 k j = T.2.2.2.1 k j)
def mt_ks (K : List Nat) (k : Nat) : Nat × Nat := if K.contains k = true then mt_shN k else (99, 0)
def mt_m (K : List Nat) (i : Nat → Nat → Option Int32) (l : Nat → Nat → Option Int64) : mt_S := (109, mt_ks K, i, l, mt_RN)
def mt_px (x : mt_P) (k j : Nat) : Option Int32 := match x with
  | (p, q, a, b, c, d, s) => if k = 10 then [a, b, c, d, s][j]? else if k = 98 then [p, q][j]? else none
def mt_s0 (K : List Nat) (x : mt_P) : mt_S := mt_m K (mt_px x) (fun _ _ => none)
def mt_kp (Q : List (Nat × Nat)) (S S' : mt_S) : Bool := Q.all (fun x => decide (S'.2.2.1 x.1 x.2 = S.2.2.1 x.1 x.2))
/-- Q names all that is kept in the cells of K -/
def mt_kq (K : List Nat) (Q : List (Nat × Nat)) : Bool := K.all (fun k => (List.range (mt_shN k).2).all (fun j => (!mt_perI k j || Q.contains (k, j)) && !mt_perL k j))
def mt_qv (x : Option mt_S) (q : mt_S → Bool) : Bool := match x with
  | some S => q S
  | none => false
theorem mt_qv_t {x : Option mt_S} {q : mt_S → Bool} (h : mt_qv x q = true) : ∃ S, x = some S ∧ q S = true := by
  cases x with
  | none => cases h
  | some S => exact ⟨S, rfl, h⟩
theorem mt_ov_of {S T : mt_S} (hI : ∀ k j v, S.2.2.1 k j = some v → T.2.2.1 k j = some v) (hL : ∀ k j v, S.2.2.2.1 k j = some v → T.2.2.2.1 k j = some v) : mt_ov S T = T := by
  have e1 : (fun k j => if mt_vd S k = true then (S.2.2.1 k j).or (T.2.2.1 k j) else T.2.2.1 k j) = T.2.2.1 := by
    funext k j
    by_cases h : mt_vd S k = true
    · rw [if_pos h]
      cases e : S.2.2.1 k j with
      | none => rfl
      | some v => rw [hI k j v e]; rfl
    · rw [if_neg h]
  have e2 : (fun k j => if mt_vd S k = true then (S.2.2.2.1 k j).or (T.2.2.2.1 k j) else T.2.2.2.1 k j) = T.2.2.2.1 := by
    funext k j
    by_cases h : mt_vd S k = true
    · rw [if_pos h]
      cases e : S.2.2.2.1 k j with
      | none => rfl
      | some v => rw [hL k j v e]; rfl
    · rw [if_neg h]
  show (T.1, T.2.1, _, _, T.2.2.2.2) = T
  rw [e1, e2]
theorem mt_cp_m {K : List Nat} {i : Nat → Nat → Option Int32} {l : Nat → Nat → Option Int64} {T : mt_S} (hs : mt_st T) : mt_cp (mt_m K i l) T := by
  intro k c hc hk
  obtain ⟨h1, h2⟩ := mt_isK_iff.mp hk
  have h1 : k < 109 := h1
  have h2 : (mt_ks K k).1 = c := h2
  have h3 : mt_ks K k = mt_shN k := by
    unfold mt_ks at h2 ⊢
    by_cases h : K.contains k = true
    · rw [if_pos h]
    · rw [if_neg h] at h2
      have h2 : 99 = c := h2
      omega
  have h4 := hs.2.1 k h1
  refine ⟨mt_isK_iff.mpr ⟨by rw [hs.1]; exact h1, ?_⟩, ?_, ?_⟩
  · show (T.2.1 k).1 = c
    rw [h4, ← h3]; exact h2
  · show (T.2.1 k).2 = (mt_ks K k).2
    rw [h4, h3]
  · intro j v hv
    exact hs.2.2 k h1 j v hv
theorem mt_perI_ln {k j : Nat} (h : mt_perI k j = true) : j < (mt_shN k).2 := by
  unfold mt_perI at h
  exact of_decide_eq_true ((Bool.and_eq_true _ _).mp h).1
theorem mt_perL_ln {k j : Nat} (h : mt_perL k j = true) : j < (mt_shN k).2 := by
  unfold mt_perL at h
  exact of_decide_eq_true ((Bool.and_eq_true _ _).mp h).1
/-- a closed run changes nothing that is kept -/
theorem mt_keep {K : List Nat} {Q : List (Nat × Nat)} {i : Nat → Nat → Option Int32} {l : Nat → Nat → Option Int64} {T S' : mt_S} (hI : ∀ k j v, i k j = some v → T.2.2.1 k j = some v) (hsh : S'.1 = 109 ∧ S'.2.1 = mt_ks K) (hq : mt_kq K Q = true) (hk : mt_kp Q (mt_m K i l) S' = true) : mt_same T (mt_ov S' T) := by
  have hin : ∀ k, mt_vd S' k = true → k ∈ K := by
    intro k hv
    have h2 : (S'.2.1 k).1 < 17 := of_decide_eq_true ((Bool.and_eq_true _ _).mp hv).2
    rw [hsh.2] at h2
    unfold mt_ks at h2
    by_cases h : K.contains k = true
    · exact List.contains_iff_mem.mp h
    · rw [if_neg h] at h2
      exact absurd h2 (by decide)
  have key : ∀ k j, mt_vd S' k = true → j < (mt_shN k).2 → (mt_perI k j = true → S'.2.2.1 k j = i k j) ∧ mt_perL k j = false := by
    intro k j hv hj
    have h1 := List.all_eq_true.mp (List.all_eq_true.mp hq k (hin k hv)) j (List.mem_range.mpr hj)
    obtain ⟨h1, h2⟩ := (Bool.and_eq_true _ _).mp h1
    refine ⟨fun hp => ?_, by simpa using h2⟩
    rw [hp] at h1
    have h3 : (k, j) ∈ Q := List.contains_iff_mem.mp h1
    exact of_decide_eq_true (List.all_eq_true.mp hk (k, j) h3)
  refine ⟨fun k j hp => ?_, fun k j hp => ?_⟩
  · show (if mt_vd S' k = true then (S'.2.2.1 k j).or (T.2.2.1 k j) else T.2.2.1 k j) = _
    by_cases hv : mt_vd S' k = true
    · rw [if_pos hv, (key k j hv (mt_perI_ln hp)).1 hp]
      cases e : i k j with
      | none => rfl
      | some v => rw [hI k j v e]; rfl
    · rw [if_neg hv]
  · show (if mt_vd S' k = true then (S'.2.2.2.1 k j).or (T.2.2.2.1 k j) else T.2.2.2.1 k j) = _
    by_cases hv : mt_vd S' k = true
    · have := (key k j hv (mt_perL_ln hp)).2
      rw [hp] at this; cases this
    · rw [if_neg hv]
/-- a state with no cells: functions of their arguments alone -/
def mt_Z0 : mt_S := (0, fun _ => (99, 0), fun _ _ => none, fun _ _ => none, fun _ _ => none)
theorem mt_ov_Z {Z T : mt_S} (h : Z.1 = 0) : mt_ov Z T = T := by
  have hv : ∀ k, ¬ mt_vd Z k = true := by
    intro k hv
    have := of_decide_eq_true ((Bool.and_eq_true _ _).mp hv).1
    rw [h] at this; exact absurd this (Nat.not_lt_zero k)
  have e1 : (fun k j => if mt_vd Z k = true then (Z.2.2.1 k j).or (T.2.2.1 k j) else T.2.2.1 k j) = T.2.2.1 := by
    funext k j; rw [if_neg (hv k)]
  have e2 : (fun k j => if mt_vd Z k = true then (Z.2.2.2.1 k j).or (T.2.2.2.1 k j) else T.2.2.2.1 k j) = T.2.2.2.1 := by
    funext k j; rw [if_neg (hv k)]
  show (T.1, T.2.1, _, _, T.2.2.2.2) = T
  rw [e1, e2]
theorem mt_cp_Z (T : mt_S) : mt_cp mt_Z0 T := fun k c _ h => absurd (mt_isK_iff.mp h).1 (Nat.not_lt_zero k)
theorem mt_pureR {α : Type} {f : mt_S → Option (α × mt_S)} {r : α} (T : mt_S) (hov : ∀ S T S' : mt_S, mt_cp S T → f S = some (r, S') → f (mt_ov S T) = some (r, mt_ov S' T)) {Z' : mt_S} (h : f mt_Z0 = some (r, Z')) : f T = some (r, T) := by
  have h0 := hov _ _ _ (mt_cp_self mt_Z0) h
  have h1 := (mt_str h h0).1
  have h2 := hov _ T _ (mt_cp_Z T) h
  rw [mt_ov_Z rfl, mt_ov_Z h1] at h2
  exact h2

theorem ov_l_10 {w1 : Int32} {S T S' : mt_S} (hp : mt_cp S T) (h : l_10 w1 S = some S') : l_10 w1 (mt_ov S T) = some (mt_ov S' T) ∧ mt_cp S' T := by
  unfold l_10 at h ⊢
  obtain ⟨v2, S1, e2, h⟩ := mt_ob2 h
  obtain ⟨v4, S3, e4, h⟩ := mt_ob2 h
  obtain ⟨hc, h⟩ := mt_gd h
  obtain ⟨q1, hp⟩ := ov_X10_letter hp e2
  obtain ⟨q2, hp⟩ := ov_X11_letter hp e4
  exact ov_b2 q1 (ov_b2 q2 (ov_t hc (ov_retv hp h)))
theorem ov_l_11  {S T S' : mt_S} (hp : mt_cp S T) (h : l_11  S = some S') : l_11  (mt_ov S T) = some (mt_ov S' T) ∧ mt_cp S' T := by
  unfold l_11 at h ⊢
  obtain ⟨v2, S1, e2, h⟩ := mt_ob2 h
  obtain ⟨v4, S3, e4, h⟩ := mt_ob2 h
  obtain ⟨hc, h⟩ := mt_gd h
  obtain ⟨q1, hp⟩ := ov_X10_cut hp e2
  obtain ⟨q2, hp⟩ := ov_X11_cut hp e4
  exact ov_b2 q1 (ov_b2 q2 (ov_t hc (ov_retv hp h)))
theorem ov_l_15  {S T S' : mt_S} (hp : mt_cp S T) (h : l_15  S = some S') : l_15  (mt_ov S T) = some (mt_ov S' T) ∧ mt_cp S' T := by
  unfold l_15 at h ⊢
  obtain ⟨v2, S1, e2, h⟩ := mt_ob2 h
  obtain ⟨v4, S3, e4, h⟩ := mt_ob2 h
  obtain ⟨hc, h⟩ := mt_gd h
  obtain ⟨q1, hp⟩ := ov_X10_round hp e2
  obtain ⟨q2, hp⟩ := ov_X11_round hp e4
  exact ov_b2 q1 (ov_b2 q2 (ov_t hc (ov_retv hp h)))
theorem ov_l_16  {S T S' : mt_S} (hp : mt_cp S T) (h : l_16  S = some S') : l_16  (mt_ov S T) = some (mt_ov S' T) ∧ mt_cp S' T := by
  unfold l_16 at h ⊢
  obtain ⟨v2, S1, e2, h⟩ := mt_ob2 h
  obtain ⟨v4, S3, e4, h⟩ := mt_ob2 h
  obtain ⟨hc, h⟩ := mt_gd h
  obtain ⟨q1, hp⟩ := ov_X10_least hp e2
  obtain ⟨q2, hp⟩ := ov_X11_least hp e4
  exact ov_b2 q1 (ov_b2 q2 (ov_t hc (ov_retv hp h)))
theorem ov_l_22  {S T S' : mt_S} (hp : mt_cp S T) (h : l_22  S = some S') : l_22  (mt_ov S T) = some (mt_ov S' T) ∧ mt_cp S' T := by
  unfold l_22 at h ⊢
  obtain ⟨v2, S1, e2, h⟩ := mt_ob2 h
  obtain ⟨v4, S3, e4, h⟩ := mt_ob2 h
  obtain ⟨hc, h⟩ := mt_gd h
  obtain ⟨q1, hp⟩ := ov_X10_spread hp e2
  obtain ⟨q2, hp⟩ := ov_X11_spread hp e4
  exact ov_b2 q1 (ov_b2 q2 (ov_t hc (ov_retv hp h)))
theorem ov_l_28  {S T S' : mt_S} (hp : mt_cp S T) (h : l_28  S = some S') : l_28  (mt_ov S T) = some (mt_ov S' T) ∧ mt_cp S' T := by
  unfold l_28 at h ⊢
  obtain ⟨v2, S1, e2, h⟩ := mt_ob2 h
  obtain ⟨v4, S3, e4, h⟩ := mt_ob2 h
  obtain ⟨hc, h⟩ := mt_gd h
  obtain ⟨q1, hp⟩ := ov_X10_told hp e2
  obtain ⟨q2, hp⟩ := ov_X11_told hp e4
  exact ov_b2 q1 (ov_b2 q2 (ov_t hc (ov_retv hp h)))
def mt_K1 : List Nat := [0, 9, 10, 88, 89, 96, 98, 104, 105]
def mt_Q1 : List (Nat × Nat) := [(10, 0), (10, 1), (10, 2), (10, 3), (10, 4), (96, 2), (96, 9), (96, 30), (96, 33), (98, 0), (98, 1), (98, 2), (98, 3), (98, 4), (98, 5), (98, 6), (98, 7), (98, 8), (98, 9), (98, 10), (98, 11), (98, 12), (98, 13), (98, 14), (98, 15), (98, 16), (98, 17), (98, 18), (98, 19), (98, 20), (98, 21), (98, 22), (98, 23), (98, 24), (98, 25), (98, 26), (98, 27), (98, 28), (98, 29), (98, 30), (98, 31), (98, 32), (98, 33), (98, 34)]
theorem mt_kq1 : mt_kq mt_K1 mt_Q1 = true := by decide +kernel
