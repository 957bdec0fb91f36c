/-! frames by closed checks; closed runs -/
theorem mt_shN_big {k : Nat} (h : ¬ k < 109) : mt_shN k = (99, 0) := by
  unfold mt_shN
  rw [List.getD_eq_getElem?_getD, List.getElem?_eq_none (by
    have : mt_shT.length = 109 := by decide +kernel
    omega)]; rfl
/-- D keeps off the slots of the parts in P -/
def mt_spQ (D : Nat → Nat → Bool) (P : List Nat) : Bool := (List.range 109).all (fun k => (List.range (mt_shN k).2).all (fun j => !(P.contains (mt_pc k j)) || !(D k j)))
theorem mt_sp_of {D : Nat → Nat → Bool} {P : List Nat} {T T' : mt_S} (h : mt_fr D T T') (q : mt_spQ D P = true) {p : Nat} (hp : P.contains p = true) : mt_sp p T T' := by
  have key : ∀ k j, j < (mt_shN k).2 → mt_pc k j = p → D k j = false := by
    intro k j hj e
    by_cases hk : k < 109
    · have z := List.all_eq_true.mp (List.all_eq_true.mp q k (List.mem_range.mpr hk)) j (List.mem_range.mpr hj)
      rw [e, hp] at z
      simpa using z
    · rw [mt_shN_big hk] at hj
      exact absurd hj (Nat.not_lt_zero j)
  exact h.sp2 p key
/-- all that no later call asks for -/
def mt_Dz (k j : Nat) : Bool := decide ((mt_shN k).2 ≤ j) || decide (k = 0) || decide (k = 9) || (decide (4 ≤ k) && decide (k ≤ 8)) || (decide (k = 3) && decide (j ≠ 9)) || (decide (87 ≤ k) && decide (k ≤ 89)) || decide (k = 101) || decide (k = 102) || (decide (104 ≤ k) && decide (k ≤ 106)) || decide (k = 108) || (decide (k = 96) && (decide (j ≠ 2) && (decide (j ≠ 9) && (decide (j ≠ 30) && decide (j ≠ 33)))))
theorem mt_DzQ : mt_spQ mt_Dz [1, 2, 3, 4, 5, 6, 7] = true := by decide +kernel
theorem mt_Inv_z {T T' : mt_S} (hi : mt_Inv T) (hf : mt_fr mt_Dz T T') : mt_Inv T' := by
  obtain ⟨hs, ⟨c, h1⟩, ⟨nx, hh, h2⟩, h3, ⟨n4, h4⟩, ⟨n5, h5⟩, h6, h7⟩ := hi
  exact ⟨hf.st hs, ⟨c, mt_iCur_c (mt_sp_of hf mt_DzQ rfl) h1⟩, ⟨nx, hh, mt_iHist_c (mt_sp_of hf mt_DzQ rfl) h2⟩, mt_iIm_c (mt_sp_of hf mt_DzQ rfl) h3, ⟨n4, mt_iTape_c (mt_sp_of hf mt_DzQ rfl) h4⟩, ⟨n5, mt_iText_c (mt_sp_of hf mt_DzQ rfl) h5⟩, mt_iFault_c (mt_sp_of hf mt_DzQ rfl) h6, mt_iTab_c (mt_sp_of hf mt_DzQ rfl) h7⟩
/-- but for the text told -/
theorem mt_Inv_5 {D : Nat → Nat → Bool} {T T' : mt_S} (hi : mt_Inv T) (hf : mt_fr D T T') (q : mt_spQ D [1, 2, 3, 4, 6, 7] = true) (h5 : ∃ n, mt_iText T' n) : mt_Inv T' := by
  obtain ⟨hs, ⟨c, h1⟩, ⟨nx, hh, h2⟩, h3, ⟨n4, h4⟩, -, h6, h7⟩ := hi
  exact ⟨hf.st hs, ⟨c, mt_iCur_c (mt_sp_of hf q rfl) h1⟩, ⟨nx, hh, mt_iHist_c (mt_sp_of hf q rfl) h2⟩, mt_iIm_c (mt_sp_of hf q rfl) h3, ⟨n4, mt_iTape_c (mt_sp_of hf q rfl) h4⟩, h5, mt_iFault_c (mt_sp_of hf q rfl) h6, mt_iTab_c (mt_sp_of hf q rfl) h7⟩
/-- but for the table -/
theorem mt_Inv_7 {D : Nat → Nat → Bool} {T T' : mt_S} (hi : mt_Inv T) (hf : mt_fr D T T') (q : mt_spQ D [1, 2, 3, 4, 5, 6] = true) (h7 : mt_iTab T') : mt_Inv T' := by
  obtain ⟨hs, ⟨c, h1⟩, ⟨nx, hh, h2⟩, h3, ⟨n4, h4⟩, ⟨n5, h5⟩, h6, -⟩ := hi
  exact ⟨hf.st hs, ⟨c, mt_iCur_c (mt_sp_of hf q rfl) h1⟩, ⟨nx, hh, mt_iHist_c (mt_sp_of hf q rfl) h2⟩, mt_iIm_c (mt_sp_of hf q rfl) h3, ⟨n4, mt_iTape_c (mt_sp_of hf q rfl) h4⟩, ⟨n5, mt_iText_c (mt_sp_of hf q rfl) h5⟩, mt_iFault_c (mt_sp_of hf q rfl) h6, h7⟩
theorem mt_clR {α : Type} {f : mt_S → Option (α × mt_S)} (hov : ∀ (S T S' : mt_S) (r : α), mt_cp S T → f S = some (r, S') → f (mt_ov S T) = some (r, mt_ov S' T)) {K : List Nat} {i : Nat → Nat → Option Int32} {l : Nat → Nat → Option Int64} {T : mt_S} (hs : mt_st T) (hI : ∀ k j v, i k j = some v → T.2.2.1 k j = some v) (hL : ∀ k j v, l k j = some v → T.2.2.2.1 k j = some v) {r : α} {S' : mt_S} (e : f (mt_m K i l) = some (r, S')) : f T = some (r, mt_ov S' T) ∧ S'.1 = 109 ∧ S'.2.1 = mt_ks K := by
  have e3 := mt_str e (hov _ _ _ _ (mt_cp_self _) e)
  have h2 := hov _ T _ _ (mt_cp_m hs) e
  have hT : mt_ov (mt_m K i l) T = T := mt_ov_of hI hL
  rw [hT] at h2
  exact ⟨h2, e3.1, e3.2.1⟩
theorem mt_clV {f : mt_S → Option mt_S} (hov : ∀ (S T S' : mt_S), mt_cp S T → f S = some S' → f (mt_ov S T) = some (mt_ov S' T)) {K : List Nat} {i : Nat → Nat → Option Int32} {l : Nat → Nat → Option Int64} {T : mt_S} (hs : mt_st T) (hI : ∀ k j v, i k j = some v → T.2.2.1 k j = some v) (hL : ∀ k j v, l k j = some v → T.2.2.2.1 k j = some v) {S' : mt_S} (e : f (mt_m K i l) = some S') : f T = some (mt_ov S' T) ∧ S'.1 = 109 ∧ S'.2.1 = mt_ks K := by
  have e3 := mt_stv e (hov _ _ _ (mt_cp_self _) e)
  have h2 := hov _ T _ (mt_cp_m hs) e
  have hT : mt_ov (mt_m K i l) T = T := mt_ov_of hI hL
  rw [hT] at h2
  exact ⟨h2, e3.1, e3.2.1⟩
/-- outside D the closed run leaves its cells as they were -/
def mt_fq (K : List Nat) (D : Nat → Nat → Bool) (i : Nat → Nat → Option Int32) (l : Nat → Nat → Option Int64) (S' : mt_S) : Bool := K.all (fun k => (List.range (mt_shN k).2).all (fun j => D k j || (decide (S'.2.2.1 k j = i k j) && decide (S'.2.2.2.1 k j = l k j))))
theorem mt_fr_q {K : List Nat} {D : Nat → Nat → Bool} {i : Nat → Nat → Option Int32} {l : Nat → Nat → Option Int64} {T S' : mt_S} (hsh : S'.2.1 = mt_ks K) (hI : ∀ k j v, i k j = some v → T.2.2.1 k j = some v) (hL : ∀ k j v, l k j = some v → T.2.2.2.1 k j = some v) (q : mt_fq K D i l S' = true) : mt_fr (fun k j => decide ((mt_shN k).2 ≤ j) || (K.contains k && D k j)) T (mt_ov S' T) := by
  refine ⟨⟨rfl, rfl, rfl⟩, fun k j h => ?_⟩
  rw [Bool.or_eq_false_iff] at h
  have hj := of_decide_eq_false h.1
  have h2 : (K.contains k && D k j) = false := h.2
  cases hK : K.contains k with
  | false => exact (mt_fr_ov (T := T) hsh).2 k j hK
  | true =>
    rw [hK] at h2
    have hD : D k j = false := h2
    have z := List.all_eq_true.mp (List.all_eq_true.mp q k (List.contains_iff_mem.mp hK)) j (List.mem_range.mpr (by omega))
    rw [hD, Bool.false_or, Bool.and_eq_true] at z
    have z1 := of_decide_eq_true z.1
    have z2 := of_decide_eq_true z.2
    refine ⟨?_, ?_⟩
    · cases e : i k j with
      | none => exact mt_ovN (z1.trans e)
      | some v =>
        rw [hI k j v e]
        show (if mt_vd S' k = true then (S'.2.2.1 k j).or (T.2.2.1 k j) else T.2.2.1 k j) = _
        rw [z1, e, hI k j v e]
        by_cases hv : mt_vd S' k = true
        · rw [if_pos hv]; rfl
        · rw [if_neg hv]
    · cases e : l k j with
      | none => exact mt_ovNL (z2.trans e)
      | some v =>
        rw [hL k j v e]
        show (if mt_vd S' k = true then (S'.2.2.2.1 k j).or (T.2.2.2.1 k j) else T.2.2.2.1 k j) = _
        rw [z2, e, hL k j v e]
        by_cases hv : mt_vd S' k = true
        · rw [if_pos hv]; rfl
        · rw [if_neg hv]
theorem mt_ovL {S' T : mt_S} {k j : Nat} {v : Int64} (hv : mt_vd S' k = true) (h : S'.2.2.2.1 k j = some v) : (mt_ov S' T).2.2.2.1 k j = some v := by
  show (if mt_vd S' k = true then (S'.2.2.2.1 k j).or _ else _) = _
  rw [if_pos hv, h]; rfl
def mt_n2 : Nat → Nat → Option Int32 := fun _ _ => none
def mt_n6 : Nat → Nat → Option Int64 := fun _ _ => none
theorem mt_n2_h {T : mt_S} : ∀ k j v, mt_n2 k j = some v → T.2.2.1 k j = some v := fun _ _ _ h => by cases h
theorem mt_n6_h {T : mt_S} : ∀ k j v, mt_n6 k j = some v → T.2.2.2.1 k j = some v := fun _ _ _ h => by cases h
