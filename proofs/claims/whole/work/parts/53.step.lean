/-! steps -/
def mt_stp (w : Int32) (x : mt_P) : Option mt_P := match x with
  | (p, q, a, b, c, d, s) =>
    if w = 108 then (if p + q + a + b ≤ 22 then some (p + a, q + b, a, b, p, q, s + 1) else none)
    else if w = 114 then (if p + q + c + d ≤ 22 then some (p + c, q + d, p, q, c, d, s + 1) else none)
    else if w = 117 then (if s = 0 then none else if c + d < a + b then some (a, b, a - c, b - d, c, d, s - 1) else some (c, d, a, b, c - a, d - b, s - 1))
    else some (1, 1, 0, 1, 1, 0, 0)
def mt_sty (w : Int32) (x : mt_P) : mt_P := (mt_stp w x).getD x
def mt_str1 (w : Int32) (x : mt_P) : Int32 := if (mt_stp w x).isSome = true then 1 else 0
def mt_cm (x : mt_P) : List Int32 := [x.2.2.1, x.2.2.2.1, x.2.2.2.2.1, x.2.2.2.2.2.1, x.2.2.2.2.2.2]
def mt_p10 (x : mt_P) (k j : Nat) : Option Int32 := if k = 10 then (mt_cm x)[j]? else none
def mt_p98 (x : mt_P) (k j : Nat) : Option Int32 := if k = 98 then [x.1, x.2.1][j]? else none
def mt_chC (f : mt_S → Option (Int32 × mt_S)) (w : Int32) (x : mt_P) : Bool := match f (mt_m [10] (mt_p10 x) (fun _ _ => none)) with
  | some (r, S') => decide (r = mt_str1 w x) && (List.range 5).all (fun j => decide (S'.2.2.1 10 j = (mt_cm (mt_sty w x))[j]?))
  | none => false
def mt_chM (w : Int32) (x : mt_P) : Bool := match f_X11_steps 96 w (mt_m [96, 98, 104] (mt_p98 x) (fun _ _ => none)) with
  | some (r, S') => decide (r = mt_str1 w x) && decide (S'.2.2.1 98 0 = some (mt_sty w x).1) && decide (S'.2.2.1 98 1 = some (mt_sty w x).2.1) && (List.range 33).all (fun j => decide (S'.2.2.1 98 (j + 2) = none)) && (List.range 39).all (fun j => ((decide (10 ≤ j) && decide (j ≤ 14)) || decide (S'.2.2.1 96 j = none)) && (decide (S'.2.2.2.1 96 j = none) && decide (S'.2.2.2.1 98 j = none)))
  | none => false
theorem mt_stPL : ([108, 114, 117, 104] : List Int32).all (fun w => mt_PL.all (fun x => mt_PL.contains (mt_sty w x))) = true := by decide +kernel
theorem mt_chL : mt_PL.all (mt_chC (f_X4_stepLeft 10) 108) = true := by decide +kernel
theorem mt_chR : mt_PL.all (mt_chC (f_X4_stepRight 10) 114) = true := by decide +kernel
theorem mt_chU : mt_PL.all (mt_chC (f_X4_stepUp 10) 117) = true := by decide +kernel
theorem mt_chML : mt_PL.all (mt_chM 108) = true := by decide +kernel
theorem mt_chMR : mt_PL.all (mt_chM 114) = true := by decide +kernel
theorem mt_chMU : mt_PL.all (mt_chM 117) = true := by decide +kernel
theorem mt_chMH : mt_PL.all (mt_chM 104) = true := by decide +kernel
theorem mt_sty_PL {w : Int32} {x : mt_P} (hw : w ∈ ([108, 114, 117, 104] : List Int32)) (hx : x ∈ mt_PL) : mt_sty w x ∈ mt_PL := List.contains_iff_mem.mp (List.all_eq_true.mp (List.all_eq_true.mp mt_stPL w hw) x hx)
theorem mt_chMa {w : Int32} {x : mt_P} (hw : w ∈ ([108, 114, 117, 104] : List Int32)) (hx : x ∈ mt_PL) : mt_chM w x = true := by
  simp only [List.mem_cons, List.not_mem_nil, or_false] at hw
  rcases hw with rfl | rfl | rfl | rfl
  · exact List.all_eq_true.mp mt_chML x hx
  · exact List.all_eq_true.mp mt_chMR x hx
  · exact List.all_eq_true.mp mt_chMU x hx
  · exact List.all_eq_true.mp mt_chMH x hx
theorem mt_ks_in {K : List Nat} {S' : mt_S} (hsh : S'.2.1 = mt_ks K) {k : Nat} (hv : mt_vd S' k = true) : K.contains k = true := by
  have h2 : (S'.2.1 k).1 < 17 := of_decide_eq_true ((Bool.and_eq_true _ _).mp hv).2
  rw [hsh] at h2
  unfold mt_ks at h2
  by_cases h : K.contains k = true
  · exact h
  · rw [if_neg h] at h2
    exact absurd h2 (by decide)
theorem mt_fr_ov {K : List Nat} {S' T : mt_S} (hsh : S'.2.1 = mt_ks K) : mt_fr (fun k _ => K.contains k) T (mt_ov S' T) := by
  refine ⟨⟨rfl, rfl, rfl⟩, fun k j h => ?_⟩
  have hv : ¬ mt_vd S' k = true := fun hv => by
    have h2 : K.contains k = false := h
    have h3 := mt_ks_in hsh hv
    rw [h2] at h3; cases h3
  exact ⟨if_neg hv, if_neg hv⟩
theorem mt_ovI {S' T : mt_S} {k j : Nat} {v : Int32} (hv : mt_vd S' k = true) (h : S'.2.2.1 k j = some v) : (mt_ov S' T).2.2.1 k j = some v := by
  show (if mt_vd S' k = true then (S'.2.2.1 k j).or _ else _) = _
  rw [if_pos hv, h]; rfl
theorem mt_ovN {S' T : mt_S} {k j : Nat} (h : S'.2.2.1 k j = none) : (mt_ov S' T).2.2.1 k j = T.2.2.1 k j := by
  show (if mt_vd S' k = true then (S'.2.2.1 k j).or _ else _) = _
  by_cases hv : mt_vd S' k = true
  · rw [if_pos hv, h]; rfl
  · rw [if_neg hv]
theorem mt_ovNL {S' T : mt_S} {k j : Nat} (h : S'.2.2.2.1 k j = none) : (mt_ov S' T).2.2.2.1 k j = T.2.2.2.1 k j := by
  show (if mt_vd S' k = true then (S'.2.2.2.1 k j).or _ else _) = _
  by_cases hv : mt_vd S' k = true
  · rw [if_pos hv, h]; rfl
  · rw [if_neg hv]
theorem mt_vdm {K : List Nat} {S' : mt_S} (h1 : S'.1 = 109) (hsh : S'.2.1 = mt_ks K) {k : Nat} (hk : k < 109) (hc : K.contains k = true) (h17 : (mt_shN k).1 < 17) : mt_vd S' k = true := by
  unfold mt_vd mt_kd
  rw [h1, hsh]
  unfold mt_ks
  rw [if_pos hc]
  simp [hk, h17]
theorem mt_stepC {f : mt_S → Option (Int32 × mt_S)} {w : Int32} (hov : ∀ S T S' : mt_S, ∀ r, mt_cp S T → f S = some (r, S') → f (mt_ov S T) = some (r, mt_ov S' T)) (hcl : mt_PL.all (mt_chC f w) = true) {T : mt_S} (hs : mt_st T) {x : mt_P} {l : List mt_P} (hx : x ∈ mt_PL) (hB : mt_blk T 9 (x, l)) : ∃ T', f T = some (mt_str1 w x, T') ∧ mt_blk T' 9 (mt_sty w x, l) ∧ mt_fr (fun k _ => decide (k = 10)) T T' := by
  have q := List.all_eq_true.mp hcl x hx
  unfold mt_chC at q
  cases e : f (mt_m [10] (mt_p10 x) (fun _ _ => none)) with
  | none => rw [e] at q; cases q
  | some z =>
    obtain ⟨r, S'⟩ := z
    rw [e] at q
    obtain ⟨q1, q2⟩ := (Bool.and_eq_true _ _).mp q
    have q1 := of_decide_eq_true q1
    subst q1
    have e3 := mt_str e (hov _ _ _ _ (mt_cp_self _) e)
    have hov2 := hov _ T _ _ (mt_cp_m hs) e
    have hT : mt_ov (mt_m [10] (mt_p10 x) (fun _ _ => none)) T = T := mt_ov_of (fun k j v h => by
      have h : mt_p10 x k j = some v := h
      unfold mt_p10 at h
      by_cases hk : k = 10
      · rw [if_pos hk] at h; subst hk; exact hB.1 j v h
      · rw [if_neg hk] at h; cases h) (fun _ _ _ h => by cases h)
    rw [hT] at hov2
    have hfr : mt_fr (fun k _ => decide (k = 10)) T (mt_ov S' T) := (mt_fr_ov (K := [10]) e3.2.1).mono (fun k j h => by
      have h := of_decide_eq_false h
      simp [h])
    have hvd : mt_vd S' 10 = true := mt_vdm e3.1 e3.2.1 (by decide) (by decide) (by decide)
    refine ⟨_, hov2, ⟨fun j v hj => ?_, (hfr.2 11 3 rfl).1.trans hB.2.1, fun m y hm => ?_⟩, hfr⟩
    · have hj' : (mt_cm (mt_sty w x))[j]? = some v := hj
      have hl : j < 5 := mt_lt_of hj'
      have := of_decide_eq_true (List.all_eq_true.mp q2 j (List.mem_range.mpr hl))
      exact mt_ovI hvd (this.trans hj')
    · obtain ⟨y1, y2, y3⟩ := hB.2.2 m y hm
      exact ⟨(hfr.2 12 m rfl).2.trans y1, (hfr.2 13 m rfl).1.trans y2, (hfr.2 14 m rfl).1.trans y3⟩
def mt_Ds (k j : Nat) : Bool := decide (k = 104) || (decide (k = 96) && ((decide (10 ≤ j) && decide (j ≤ 14)) || decide (39 ≤ j))) || (decide (k = 98) && (decide (j < 2) || decide (35 ≤ j)))
theorem mt_stepM {w : Int32} (hw : w ∈ ([108, 114, 117, 104] : List Int32)) {T : mt_S} (hs : mt_st T) {x : mt_P} {l : List mt_P} (hl : l.length ≤ 16) (hx : x ∈ mt_PL) (hR : mt_row T 98 0 (x, l)) : ∃ T', f_X11_steps 96 w T = some (mt_str1 w x, T') ∧ mt_row T' 98 0 (mt_sty w x, l) ∧ mt_fr mt_Ds T T' := by
  have q := mt_chMa hw hx
  unfold mt_chM at q
  cases e : f_X11_steps 96 w (mt_m [96, 98, 104] (mt_p98 x) (fun _ _ => none)) with
  | none => rw [e] at q; cases q
  | some z =>
    obtain ⟨r, S'⟩ := z
    rw [e] at q
    obtain ⟨q, q5⟩ := (Bool.and_eq_true _ _).mp q
    obtain ⟨q, q4⟩ := (Bool.and_eq_true _ _).mp q
    obtain ⟨q, q3⟩ := (Bool.and_eq_true _ _).mp q
    obtain ⟨q1, q2⟩ := (Bool.and_eq_true _ _).mp q
    have q1 := of_decide_eq_true q1
    have q2 := of_decide_eq_true q2
    have q3 := of_decide_eq_true q3
    subst q1
    have e3 := mt_str (f := f_X11_steps 96 w) e (ov_X11_steps (mt_cp_self _) e).1
    have hov2 := (ov_X11_steps (T := T) (mt_cp_m hs) e).1
    have hT : mt_ov (mt_m [96, 98, 104] (mt_p98 x) (fun _ _ => none)) T = T := mt_ov_of (fun k j v h => by
      have h : mt_p98 x k j = some v := h
      unfold mt_p98 at h
      by_cases hk : k = 98
      · rw [if_pos hk] at h; subst hk
        match j, h with
        | 0, h => exact hR.1.trans h
        | 1, h => exact hR.2.1.trans h
      · rw [if_neg hk] at h; cases h) (fun _ _ _ h => by cases h)
    rw [hT] at hov2
    have hfr0 := mt_fr_ov (T := T) (K := [96, 98, 104]) e3.2.1
    have h98 : ∀ j, 2 ≤ j → j < 35 → (mt_ov S' T).2.2.1 98 j = T.2.2.1 98 j := fun j h2 h35 => mt_ovN (by
      have := of_decide_eq_true (List.all_eq_true.mp q4 (j - 2) (List.mem_range.mpr (by omega)))
      rw [show j - 2 + 2 = j by omega] at this
      exact this)
    have hLn : ∀ j, j < 39 → (mt_ov S' T).2.2.2.1 96 j = T.2.2.2.1 96 j ∧ (mt_ov S' T).2.2.2.1 98 j = T.2.2.2.1 98 j := fun j hj => by
      obtain ⟨-, z⟩ := (Bool.and_eq_true _ _).mp (List.all_eq_true.mp q5 j (List.mem_range.mpr hj))
      obtain ⟨z1, z2⟩ := (Bool.and_eq_true _ _).mp z
      exact ⟨mt_ovNL (of_decide_eq_true z1), mt_ovNL (of_decide_eq_true z2)⟩
    have h96 : ∀ j, j < 39 → ¬ (10 ≤ j ∧ j ≤ 14) → (mt_ov S' T).2.2.1 96 j = T.2.2.1 96 j := fun j hj hn => mt_ovN (by
      obtain ⟨z, -⟩ := (Bool.and_eq_true _ _).mp (List.all_eq_true.mp q5 j (List.mem_range.mpr hj))
      rw [Bool.or_eq_true, Bool.and_eq_true] at z
      rcases z with ⟨z1, z2⟩ | z
      · exact absurd ⟨of_decide_eq_true z1, of_decide_eq_true z2⟩ hn
      · exact of_decide_eq_true z)
    have hvd : mt_vd S' 98 = true := mt_vdm e3.1 e3.2.1 (by decide) (by decide) (by decide)
    have y0 : (mt_ov S' T).2.2.1 98 0 = some (mt_sty w x).1 := mt_ovI hvd q2
    have y1 : (mt_ov S' T).2.2.1 98 1 = some (mt_sty w x).2.1 := mt_ovI hvd q3
    obtain ⟨r0, r1, r2, r3, r4⟩ := hR
    refine ⟨_, hov2, ⟨y0, y1, (h98 2 (by decide) (by decide)).trans r2, fun m y hm => ?_, fun j hj => ?_⟩, ⟨rfl, rfl, rfl⟩, fun k j hD => ?_⟩
    · have hm' : m < l.length := mt_lt_of hm
      obtain ⟨z1, z2⟩ := r3 m y hm
      exact ⟨(h98 _ (by omega) (by omega)).trans z1, (h98 _ (by omega) (by omega)).trans z2⟩
    · match j, hj with
      | 0, _ => exact ⟨_, y0⟩
      | 1, _ => exact ⟨_, y1⟩
      | j + 2, hj =>
        obtain ⟨v, hv⟩ := r4 (j + 2) hj
        rw [Nat.zero_add] at hv ⊢
        exact ⟨v, (h98 (j + 2) (by omega) hj).trans hv⟩
    · unfold mt_Ds at hD
      simp only [Bool.or_eq_false_iff, Bool.and_eq_false_iff, decide_eq_false_iff_not] at hD
      by_cases k1 : k = 96
      · subst k1
        exact ⟨h96 j (by omega) (by omega), (hLn j (by omega)).1⟩
      · by_cases k2 : k = 98
        · subst k2
          exact ⟨h98 j (by omega) (by omega), (hLn j (by omega)).2⟩
        · exact hfr0.2 k j (by
            have k3 : k ≠ 104 := by omega
            simp [k1, k2, k3])
