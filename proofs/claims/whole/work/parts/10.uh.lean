/-! the uniform heap: cells by number (real address: the base and the number), their kinds and lengths, ints, longs, references by cell and slot -/
abbrev mt_S : Type := Nat × (Nat → Nat × Nat) × (Nat → Nat → Option Int32) × (Nat → Nat → Option Int64) × (Nat → Nat → Option Nat)
def mt_u2 {α : Type} (f : Nat → Nat → α) (k j : Nat) (v : α) : Nat → Nat → α := fun a b => if a = k then (if b = j then v else f a b) else f a b
def mt_kd (S : mt_S) (k : Nat) : Nat := (S.2.1 k).1
def mt_ln (S : mt_S) (k : Nat) : Nat := (S.2.1 k).2
def mt_gI (S : mt_S) (k j : Nat) : Option Int32 := S.2.2.1 k j
def mt_gL (S : mt_S) (k j : Nat) : Option Int64 := S.2.2.2.1 k j
def mt_gR (S : mt_S) (k j : Nat) : Option Nat := S.2.2.2.2 k j
def mt_pI (S : mt_S) (k j : Nat) (v : Int32) : mt_S := (S.1, S.2.1, mt_u2 S.2.2.1 k j (some v), S.2.2.2.1, S.2.2.2.2)
def mt_pL (S : mt_S) (k j : Nat) (v : Int64) : mt_S := (S.1, S.2.1, S.2.2.1, mt_u2 S.2.2.2.1 k j (some v), S.2.2.2.2)
def mt_pR (S : mt_S) (k j : Nat) (v : Option Nat) : mt_S := (S.1, S.2.1, S.2.2.1, S.2.2.2.1, mt_u2 S.2.2.2.2 k j v)
def mt_al (S : mt_S) (kd ln : Nat) : mt_S := (S.1 + 1, va_up S.2.1 S.1 (kd, ln), va_up S.2.2.1 S.1 (fun _ => some 0), va_up S.2.2.2.1 S.1 (fun _ => some 0), va_up S.2.2.2.2 S.1 (fun _ => none))
def mt_isK (S : mt_S) (k c : Nat) : Bool := decide (k < S.1) && decide (mt_kd S k = c)
/-- in a row of n: the index as a number is allowed -/
def mt_in (i : Int32) (n : Nat) : Bool := decide (¬ (i < 0 ∨ n ≤ i.toNatClampNeg))
/-- reads: a cell of kind c -/
def mt_rI (S : mt_S) (k c j : Nat) : Option Int32 := if mt_isK S k c = true then mt_gI S k j else none
def mt_rL (S : mt_S) (k c j : Nat) : Option Int64 := if mt_isK S k c = true then mt_gL S k j else none
def mt_rR (S : mt_S) (k c j : Nat) : Option Nat := if mt_isK S k c = true then mt_gR S k j else none
def mt_wI (S : mt_S) (k c j : Nat) (v : Int32) : Option mt_S := if mt_isK S k c = true then some (mt_pI S k j v) else none
def mt_wL (S : mt_S) (k c j : Nat) (v : Int64) : Option mt_S := if mt_isK S k c = true then some (mt_pL S k j v) else none
def mt_wR (S : mt_S) (k c j : Nat) (v : Option Nat) : Option mt_S := if mt_isK S k c = true then some (mt_pR S k j v) else none
/-- rows: of ints, bytes, booleans by their kind -/
def mt_aI (S : mt_S) (k c : Nat) (i : Int32) : Option Int32 := if mt_isK S k c = true then (if mt_in i (mt_ln S k) = true then mt_gI S k i.toNatClampNeg else none) else none
def mt_aL (S : mt_S) (k : Nat) (i : Int32) : Option Int64 := if mt_isK S k 14 = true then (if mt_in i (mt_ln S k) = true then mt_gL S k i.toNatClampNeg else none) else none
def mt_aR (S : mt_S) (k : Nat) (i : Int32) : Option Nat := if mt_isK S k 16 = true then (if mt_in i (mt_ln S k) = true then mt_gR S k i.toNatClampNeg else none) else none
def mt_sI (S : mt_S) (k c : Nat) (i : Int32) (v : Int32) : Option mt_S := if mt_isK S k c = true then (if mt_in i (mt_ln S k) = true then some (mt_pI S k i.toNatClampNeg v) else none) else none
def mt_sL (S : mt_S) (k : Nat) (i : Int32) (v : Int64) : Option mt_S := if mt_isK S k 14 = true then (if mt_in i (mt_ln S k) = true then some (mt_pL S k i.toNatClampNeg v) else none) else none
def mt_sR (S : mt_S) (k : Nat) (i : Int32) (v : Option Nat) : Option mt_S := if mt_isK S k 16 = true then (if mt_in i (mt_ln S k) = true then some (mt_pR S k i.toNatClampNeg v) else none) else none
/-- a call's answer and heap -/
def mt_b2 {α β : Type} (x : Option (α × mt_S)) (g : α → mt_S → Option β) : Option β := match x with
  | some (r, S) => g r S
  | none => none
theorem mt_ob {α β : Type} {x : Option α} {g : α → Option β} {y : β} (h : Option.bind x g = some y) : ∃ v, x = some v ∧ g v = some y := by
  cases x with
  | none => cases h
  | some v => exact ⟨v, rfl, h⟩
theorem mt_ob2 {α β : Type} {x : Option (α × mt_S)} {g : α → mt_S → Option β} {y : β} (h : mt_b2 x g = some y) : ∃ v S, x = some (v, S) ∧ g v S = some y := by
  cases x with
  | none => cases h
  | some v => exact ⟨v.1, v.2, rfl, h⟩
theorem mt_ip {c : Prop} [Decidable c] {α : Type} {a b : Option α} {y : α} (h : (if c then a else b) = some y) (hc : c) : a = some y := by rwa [if_pos hc] at h
theorem mt_in' {c : Prop} [Decidable c] {α : Type} {a b : Option α} {y : α} (h : (if c then a else b) = some y) (hc : ¬ c) : b = some y := by rwa [if_neg hc] at h
theorem mt_gd {c : Prop} [Decidable c] {α : Type} {a : Option α} {y : α} (h : (if c then a else none) = some y) : c ∧ a = some y := by
  by_cases hc : c
  · exact ⟨hc, by rwa [if_pos hc] at h⟩
  · rw [if_neg hc] at h; cases h
/-- which fields are ints (0), longs (1), references (2) -/
def mt_ft (c : Nat) : List Nat := match c with
  | 0 => [2, 2, 2, 2, 2, 0, 0, 0, 0, 0, 0]
  | 1 => [1, 1, 1, 1, 1, 0, 1]
  | 2 => [2, 0, 0]
  | 3 => [2, 2, 2, 0]
  | 4 => [0, 0, 0, 0, 0]
  | 5 => [2, 2]
  | 6 => [2, 2, 2, 2, 2, 0, 0]
  | 7 => [2, 0]
  | 8 => [2, 2, 0]
  | 9 => [1, 1, 1, 1]
  | 10 => [2, 2, 2, 2, 2, 2, 2, 2, 2, 2]
  | 11 => [0, 2, 0, 2, 2, 2, 2, 2, 2, 0, 0, 0, 0, 0, 0, 2, 2, 1, 1, 1, 1, 1, 1, 2, 0, 0, 1, 1, 1, 2, 0, 0, 0, 0, 0, 0, 0, 0, 0]
  | _ => []
def mt_fv (b : Nat) (S : mt_S) (k j t : Nat) : Value := if t = 0 then .int ((mt_gI S k j).getD 0) else if t = 1 then .long ((mt_gL S k j).getD 0) else va_rf ((mt_gR S k j).map (fun a => b + a))
def mt_oc (b : Nat) (S : mt_S) (k c : Nat) : List Value := (List.range (mt_ft c).length).map (fun j => mt_fv b S k j ((mt_ft c).getD j 0))
def mt_cell (cA : Nat → ClassId) (b : Nat) (S : mt_S) (k : Nat) : va_E :=
  if mt_kd S k < 12 then .inr (mt_kd S k, mt_oc b S k (mt_kd S k))
  else if mt_kd S k = 14 then .inl (cA 14, mt_ln S k, .inr (.inl (fun j => (mt_gL S k j).getD 0)))
  else if mt_kd S k = 16 then .inl (cA 16, mt_ln S k, .inr (.inr (.inr (.inr (fun j => (mt_gR S k j).map (fun a => b + a))))))
  else .inl (cA (mt_kd S k), mt_ln S k, .inl (fun j => (mt_gI S k j).getD 0))
def mt_W (cA : Nat → ClassId) (b : Nat) (S : mt_S) : va_W := (List.range S.1).map (fun k => (b + k, mt_cell cA b S k))
def mt_ty (cA : Nat → ClassId) : List (ClassId × FieldType) := [(cA 12, .byte), (cA 13, .int), (cA 14, .long), (cA 15, .boolean), (cA 16, .object "MarkovTree$State")]
theorem mt_isK_iff {S : mt_S} {k c : Nat} : mt_isK S k c = true ↔ k < S.1 ∧ mt_kd S k = c := by simp [mt_isK]
theorem mt_in_iff {i : Int32} {n : Nat} : mt_in i n = true ↔ vp_in i n := by simp [mt_in, vp_in]
theorem mt_W_get {cA : Nat → ClassId} {b : Nat} {S : mt_S} {k : Nat} (h : k < S.1) : (mt_W cA b S)[k]? = some (b + k, mt_cell cA b S k) := by
  simp [mt_W, h]
theorem mt_W_set {cA : Nat → ClassId} {b : Nat} {S S' : mt_S} {k : Nat} (hn : S'.1 = S.1) (hq : ∀ a, a ≠ k → mt_cell cA b S' a = mt_cell cA b S a) : (mt_W cA b S).set k (b + k, mt_cell cA b S' k) = mt_W cA b S' := by
  apply List.ext_getElem?
  intro i
  rw [List.getElem?_set]
  by_cases h : k = i
  · subst h
    by_cases hk : k < S.1
    · have : k < (mt_W cA b S).length := by simpa [mt_W] using hk
      rw [if_pos rfl, if_pos this, mt_W_get (by rw [hn]; exact hk)]
    · have h1 : ¬ k < (mt_W cA b S).length := by simpa [mt_W] using hk
      rw [if_pos rfl, if_neg h1]
      symm
      apply List.getElem?_eq_none
      simp only [mt_W, List.length_map, List.length_range, hn]
      omega
  · rw [if_neg h]
    by_cases hi : i < S.1
    · rw [mt_W_get hi, mt_W_get (by rw [hn]; exact hi), hq i (Ne.symm h)]
    · rw [List.getElem?_eq_none (by simp only [mt_W, List.length_map, List.length_range]; omega), List.getElem?_eq_none (by simp only [mt_W, List.length_map, List.length_range, hn]; omega)]
theorem mt_D (cA : Nat → ClassId) (b : Nat) (S : mt_S) : va_D (fun q => b ≤ q) (mt_W cA b S) := by
  refine ⟨fun i j p q hi hj hpq => ?_, fun k q hk => ?_⟩
  · by_cases h1 : i < S.1
    · by_cases h2 : j < S.1
      · rw [mt_W_get h1] at hi
        rw [mt_W_get h2] at hj
        cases hi; cases hj
        simp only at hpq
        omega
      · rw [List.getElem?_eq_none (by simp only [mt_W, List.length_map, List.length_range]; omega)] at hj
        cases hj
    · rw [List.getElem?_eq_none (by simp only [mt_W, List.length_map, List.length_range]; omega)] at hi
      cases hi
  · by_cases h1 : k < S.1
    · rw [mt_W_get h1] at hk
      cases hk
      show b ≤ b + k
      omega
    · rw [List.getElem?_eq_none (by simp only [mt_W, List.length_map, List.length_range]; omega)] at hk
      cases hk
theorem mt_oc_get {b : Nat} {S : mt_S} {k c j t : Nat} (h : (mt_ft c)[j]? = some t) : (mt_oc b S k c)[j]? = some (mt_fv b S k j t) := by
  have hl : j < (mt_ft c).length := (List.getElem?_eq_some_iff.mp h).1
  have e : (mt_ft c)[j] = t := (List.getElem?_eq_some_iff.mp h).2
  simp [mt_oc, hl, e]
theorem mt_oc_len {b : Nat} {S : mt_S} {k c : Nat} : (mt_oc b S k c).length = (mt_ft c).length := by simp [mt_oc]
theorem mt_oc_ext {b : Nat} {S S' : mt_S} {k c j t : Nat} (h : (mt_ft c)[j]? = some t) (hq : ∀ i, i ≠ j → ∀ t, mt_fv b S' k i t = mt_fv b S k i t) : (mt_oc b S k c).set j (mt_fv b S' k j t) = mt_oc b S' k c := by
  apply List.ext_getElem?
  intro i
  rw [List.getElem?_set]
  by_cases hij : j = i
  · subst hij
    have hl : j < (mt_ft c).length := (List.getElem?_eq_some_iff.mp h).1
    rw [if_pos rfl, if_pos (by rw [mt_oc_len]; exact hl), mt_oc_get h]
  · rw [if_neg hij]
    cases hi : (mt_ft c)[i]? with
    | none =>
      have hl : (mt_ft c).length ≤ i := List.getElem?_eq_none_iff.mp hi
      rw [List.getElem?_eq_none (by rw [mt_oc_len]; exact hl), List.getElem?_eq_none (by rw [mt_oc_len]; exact hl)]
    | some t' => rw [mt_oc_get hi, mt_oc_get hi, hq i (Ne.symm hij)]
theorem mt_pI_fv {b : Nat} {S : mt_S} {k j : Nat} {v : Int32} (a i t : Nat) (h : a ≠ k ∨ i ≠ j) : mt_fv b (mt_pI S k j v) a i t = mt_fv b S a i t := by
  simp only [mt_fv, mt_gI, mt_gL, mt_gR, mt_pI, mt_u2]
  rcases h with h | h <;> simp [h]
theorem mt_pL_fv {b : Nat} {S : mt_S} {k j : Nat} {v : Int64} (a i t : Nat) (h : a ≠ k ∨ i ≠ j) : mt_fv b (mt_pL S k j v) a i t = mt_fv b S a i t := by
  simp only [mt_fv, mt_gI, mt_gL, mt_gR, mt_pL, mt_u2]
  rcases h with h | h <;> simp [h]
theorem mt_pR_fv {b : Nat} {S : mt_S} {k j : Nat} {v : Option Nat} (a i t : Nat) (h : a ≠ k ∨ i ≠ j) : mt_fv b (mt_pR S k j v) a i t = mt_fv b S a i t := by
  simp only [mt_fv, mt_gI, mt_gL, mt_gR, mt_pR, mt_u2]
  rcases h with h | h <;> simp [h]
theorem mt_cell_ne {cA : Nat → ClassId} {b : Nat} {S S' : mt_S} {a : Nat} (h0 : S'.2.1 a = S.2.1 a) (h1 : S'.2.2.1 a = S.2.2.1 a) (h2 : S'.2.2.2.1 a = S.2.2.2.1 a) (h3 : S'.2.2.2.2 a = S.2.2.2.2 a) : mt_cell cA b S' a = mt_cell cA b S a := by
  have e : ∀ c, mt_oc b S' a c = mt_oc b S a c := fun c => by simp only [mt_oc, mt_fv, mt_gI, mt_gL, mt_gR, h1, h2, h3]
  have eI : ∀ j, mt_gI S' a j = mt_gI S a j := fun j => by simp only [mt_gI, h1]
  have eL : ∀ j, mt_gL S' a j = mt_gL S a j := fun j => by simp only [mt_gL, h2]
  have eR : ∀ j, mt_gR S' a j = mt_gR S a j := fun j => by simp only [mt_gR, h3]
  unfold mt_cell mt_kd mt_ln
  rw [h0]
  simp only [e, eR, eI, eL]
theorem mt_u2_ne {α : Type} {f : Nat → Nat → α} {k j a : Nat} {v : α} (h : a ≠ k) : mt_u2 f k j v a = f a := by funext i; simp [mt_u2, h]
theorem mt_cell_pI {cA : Nat → ClassId} {b : Nat} {S : mt_S} {k j a : Nat} {v : Int32} (h : a ≠ k) : mt_cell cA b (mt_pI S k j v) a = mt_cell cA b S a := mt_cell_ne rfl (mt_u2_ne h) rfl rfl
theorem mt_cell_pL {cA : Nat → ClassId} {b : Nat} {S : mt_S} {k j a : Nat} {v : Int64} (h : a ≠ k) : mt_cell cA b (mt_pL S k j v) a = mt_cell cA b S a := mt_cell_ne rfl rfl (mt_u2_ne h) rfl
theorem mt_cell_pR {cA : Nat → ClassId} {b : Nat} {S : mt_S} {k j a : Nat} {v : Option Nat} (h : a ≠ k) : mt_cell cA b (mt_pR S k j v) a = mt_cell cA b S a := mt_cell_ne rfl rfl rfl (mt_u2_ne h)
/-- an object's cell -/
theorem mt_cell_o {cA : Nat → ClassId} {b : Nat} {S : mt_S} {k c : Nat} (h : mt_isK S k c = true) (hc : c < 12) : mt_cell cA b S k = .inr (c, mt_oc b S k c) := by
  obtain ⟨-, h⟩ := mt_isK_iff.mp h
  rw [mt_cell, if_pos (by rw [h]; exact hc), h]
theorem mt_cell_i {cA : Nat → ClassId} {b : Nat} {S : mt_S} {k c : Nat} (h : mt_isK S k c = true) (hc : c = 12 ∨ c = 13 ∨ c = 15) : mt_cell cA b S k = .inl (cA c, mt_ln S k, .inl (fun j => (mt_gI S k j).getD 0)) := by
  obtain ⟨-, h⟩ := mt_isK_iff.mp h
  rcases hc with rfl | rfl | rfl <;> simp [mt_cell, h]
theorem mt_cell_l {cA : Nat → ClassId} {b : Nat} {S : mt_S} {k : Nat} (h : mt_isK S k 14 = true) : mt_cell cA b S k = .inl (cA 14, mt_ln S k, .inr (.inl (fun j => (mt_gL S k j).getD 0))) := by
  obtain ⟨-, h⟩ := mt_isK_iff.mp h
  simp [mt_cell, h]
theorem mt_cell_q {cA : Nat → ClassId} {b : Nat} {S : mt_S} {k : Nat} (h : mt_isK S k 16 = true) : mt_cell cA b S k = .inl (cA 16, mt_ln S k, .inr (.inr (.inr (.inr (fun j => (mt_gR S k j).map (fun a => b + a)))))) := by
  obtain ⟨-, h⟩ := mt_isK_iff.mp h
  simp [mt_cell, h]
theorem mt_at {cA : Nat → ClassId} {b : Nat} {S : mt_S} {k c : Nat} (h : mt_isK S k c = true) {e : va_E} (he : mt_cell cA b S k = e) : (mt_W cA b S)[k]? = some (b + k, e) := by
  rw [mt_W_get (mt_isK_iff.mp h).1, he]
/-- stores -/
theorem mt_set_I {cA : Nat → ClassId} {b : Nat} {S : mt_S} {k c j : Nat} {v : Int32} (h : mt_isK S k c = true) (hc : c < 12) (ht : (mt_ft c)[j]? = some 0) : (mt_W cA b S).set k (b + k, .inr (c, (mt_oc b S k c).set j (.int v))) = mt_W cA b (mt_pI S k j v) := by
  have h' : mt_isK (mt_pI S k j v) k c = true := h
  rw [← mt_W_set (S := S) (S' := mt_pI S k j v) (k := k) rfl (fun a ha => mt_cell_pI ha), mt_cell_o h' hc]
  have e : mt_fv b (mt_pI S k j v) k j 0 = .int v := by simp [mt_fv, mt_gI, mt_pI, mt_u2]
  rw [← mt_oc_ext (S := S) (S' := mt_pI S k j v) ht (fun i hi t => mt_pI_fv k i t (Or.inr hi)), e]
theorem mt_set_L {cA : Nat → ClassId} {b : Nat} {S : mt_S} {k c j : Nat} {v : Int64} (h : mt_isK S k c = true) (hc : c < 12) (ht : (mt_ft c)[j]? = some 1) : (mt_W cA b S).set k (b + k, .inr (c, (mt_oc b S k c).set j (.long v))) = mt_W cA b (mt_pL S k j v) := by
  have h' : mt_isK (mt_pL S k j v) k c = true := h
  rw [← mt_W_set (S := S) (S' := mt_pL S k j v) (k := k) rfl (fun a ha => mt_cell_pL ha), mt_cell_o h' hc]
  have e : mt_fv b (mt_pL S k j v) k j 1 = .long v := by simp [mt_fv, mt_gL, mt_pL, mt_u2]
  rw [← mt_oc_ext (S := S) (S' := mt_pL S k j v) ht (fun i hi t => mt_pL_fv k i t (Or.inr hi)), e]
theorem mt_set_R {cA : Nat → ClassId} {b : Nat} {S : mt_S} {k c j : Nat} {v : Option Nat} (h : mt_isK S k c = true) (hc : c < 12) (ht : (mt_ft c)[j]? = some 2) : (mt_W cA b S).set k (b + k, .inr (c, (mt_oc b S k c).set j (va_rf (v.map (fun a => b + a))))) = mt_W cA b (mt_pR S k j v) := by
  have h' : mt_isK (mt_pR S k j v) k c = true := h
  rw [← mt_W_set (S := S) (S' := mt_pR S k j v) (k := k) rfl (fun a ha => mt_cell_pR ha), mt_cell_o h' hc]
  have e : mt_fv b (mt_pR S k j v) k j 2 = va_rf (v.map (fun a => b + a)) := by simp [mt_fv, mt_gR, mt_pR, mt_u2]
  rw [← mt_oc_ext (S := S) (S' := mt_pR S k j v) ht (fun i hi t => mt_pR_fv k i t (Or.inr hi)), e]
theorem mt_set_aI {cA : Nat → ClassId} {b : Nat} {S : mt_S} {k c j : Nat} {v : Int32} (h : mt_isK S k c = true) (hc : c = 12 ∨ c = 13 ∨ c = 15) : (mt_W cA b S).set k (b + k, .inl (cA c, mt_ln S k, .inl (upd (fun j => (mt_gI S k j).getD 0) j v))) = mt_W cA b (mt_pI S k j v) := by
  have h' : mt_isK (mt_pI S k j v) k c = true := h
  rw [← mt_W_set (S := S) (S' := mt_pI S k j v) (k := k) rfl (fun a ha => mt_cell_pI ha), mt_cell_i h' hc]
  have e : (fun i => (mt_gI (mt_pI S k j v) k i).getD 0) = upd (fun i => (mt_gI S k i).getD 0) j v := by
    funext i
    by_cases hi : i = j <;> simp [mt_gI, mt_pI, mt_u2, upd, hi]
  rw [e]; rfl
theorem mt_set_aL {cA : Nat → ClassId} {b : Nat} {S : mt_S} {k j : Nat} {v : Int64} (h : mt_isK S k 14 = true) : (mt_W cA b S).set k (b + k, .inl (cA 14, mt_ln S k, .inr (.inl (vp_updL (fun j => (mt_gL S k j).getD 0) j v)))) = mt_W cA b (mt_pL S k j v) := by
  have h' : mt_isK (mt_pL S k j v) k 14 = true := h
  rw [← mt_W_set (S := S) (S' := mt_pL S k j v) (k := k) rfl (fun a ha => mt_cell_pL ha), mt_cell_l h']
  have e : (fun i => (mt_gL (mt_pL S k j v) k i).getD 0) = vp_updL (fun i => (mt_gL S k i).getD 0) j v := by
    funext i
    by_cases hi : i = j <;> simp [mt_gL, mt_pL, mt_u2, vp_updL, hi]
  rw [e]; rfl
theorem mt_in_clamp {i : Int32} {n : Nat} (h : mt_in i n = true) : i.toNatClampNeg < n := Nat.not_le.mp fun q => mt_in_iff.mp h (Or.inr q)
/-- a cell of S that counts -/
def mt_vd (S : mt_S) (k : Nat) : Bool := decide (k < S.1) && decide (mt_kd S k < 17)
/-- what is known of S, in the cells of S that count, laid over T -/
def mt_ov (S T : mt_S) : mt_S := (T.1, T.2.1, fun k j => if mt_vd S k = true then (S.2.2.1 k j).or (T.2.2.1 k j) else T.2.2.1 k j, fun k j => if mt_vd S k = true then (S.2.2.2.1 k j).or (T.2.2.2.1 k j) else T.2.2.2.1 k j, T.2.2.2.2)
/-- the cells of S that count are such cells in T too -/
def mt_cp (S T : mt_S) : Prop := ∀ k c, c < 17 → mt_isK S k c = true → mt_isK T k c = true ∧ mt_ln T k = mt_ln S k ∧ ∀ j v, mt_gR S k j = some v → mt_gR T k j = some v
theorem mt_vd_of {S : mt_S} {k c : Nat} (hc : c < 17) (h : mt_isK S k c = true) : mt_vd S k = true := by
  obtain ⟨h1, h2⟩ := mt_isK_iff.mp h
  simp [mt_vd, h1, h2, hc]
theorem mt_ov_pI {S : mt_S} (T : mt_S) {k : Nat} (hk : mt_vd S k = true) (j : Nat) (v : Int32) : mt_ov (mt_pI S k j v) T = mt_pI (mt_ov S T) k j v := by
  have e : (fun a b => if mt_vd S a = true then (mt_u2 S.2.2.1 k j (some v) a b).or (T.2.2.1 a b) else T.2.2.1 a b) = mt_u2 (fun a b => if mt_vd S a = true then (S.2.2.1 a b).or (T.2.2.1 a b) else T.2.2.1 a b) k j (some v) := by
    funext a b
    by_cases h1 : a = k
    · subst h1
      by_cases h2 : b = j <;> simp [mt_u2, h2, hk]
    · simp [mt_u2, h1]
  show (T.1, T.2.1, (fun a b => if mt_vd S a = true then (mt_u2 S.2.2.1 k j (some v) a b).or (T.2.2.1 a b) else T.2.2.1 a b), _, _) = _
  rw [e]; rfl
theorem mt_ov_pL {S : mt_S} (T : mt_S) {k : Nat} (hk : mt_vd S k = true) (j : Nat) (v : Int64) : mt_ov (mt_pL S k j v) T = mt_pL (mt_ov S T) k j v := by
  have e : (fun a b => if mt_vd S a = true then (mt_u2 S.2.2.2.1 k j (some v) a b).or (T.2.2.2.1 a b) else T.2.2.2.1 a b) = mt_u2 (fun a b => if mt_vd S a = true then (S.2.2.2.1 a b).or (T.2.2.2.1 a b) else T.2.2.2.1 a b) k j (some v) := by
    funext a b
    by_cases h1 : a = k
    · subst h1
      by_cases h2 : b = j <;> simp [mt_u2, h2, hk]
    · simp [mt_u2, h1]
  show (T.1, T.2.1, _, (fun a b => if mt_vd S a = true then (mt_u2 S.2.2.2.1 k j (some v) a b).or (T.2.2.2.1 a b) else T.2.2.2.1 a b), _) = _
  rw [e]; rfl
section mtOv
variable {S T S1 : mt_S} {k c j : Nat}
theorem ov_K (hp : mt_cp S T) (h : mt_isK S k c = true) (hc : c < 17 := by decide) : mt_isK (mt_ov S T) k c = true := (hp k c hc h).1
theorem ov_rI {v : Int32} (hp : mt_cp S T) (h : mt_rI S k c j = some v) (hc : c < 17 := by decide) : mt_rI (mt_ov S T) k c j = some v := by
  obtain ⟨hk, h⟩ := mt_gd h
  have h' : S.2.2.1 k j = some v := h
  rw [mt_rI, if_pos (ov_K hp hk hc)]
  show (if mt_vd S k = true then (S.2.2.1 k j).or _ else _) = _
  rw [if_pos (mt_vd_of hc hk), h']; rfl
theorem ov_rL {v : Int64} (hp : mt_cp S T) (h : mt_rL S k c j = some v) (hc : c < 17 := by decide) : mt_rL (mt_ov S T) k c j = some v := by
  obtain ⟨hk, h⟩ := mt_gd h
  have h' : S.2.2.2.1 k j = some v := h
  rw [mt_rL, if_pos (ov_K hp hk hc)]
  show (if mt_vd S k = true then (S.2.2.2.1 k j).or _ else _) = _
  rw [if_pos (mt_vd_of hc hk), h']; rfl
theorem ov_rR {v : Nat} (hp : mt_cp S T) (h : mt_rR S k c j = some v) (hc : c < 17 := by decide) : mt_rR (mt_ov S T) k c j = some v := by
  obtain ⟨hk, h⟩ := mt_gd h
  rw [mt_rR, if_pos (ov_K hp hk hc)]
  exact (hp k c hc hk).2.2 j v h
theorem ov_wI {v : Int32} (hp : mt_cp S T) (h : mt_wI S k c j v = some S1) (hc : c < 17 := by decide) : mt_wI (mt_ov S T) k c j v = some (mt_ov S1 T) ∧ mt_cp S1 T := by
  obtain ⟨hk, h⟩ := mt_gd h
  cases h
  rw [mt_wI, if_pos (ov_K hp hk hc), mt_ov_pI T (mt_vd_of hc hk)]
  exact ⟨rfl, hp⟩
theorem ov_wL {v : Int64} (hp : mt_cp S T) (h : mt_wL S k c j v = some S1) (hc : c < 17 := by decide) : mt_wL (mt_ov S T) k c j v = some (mt_ov S1 T) ∧ mt_cp S1 T := by
  obtain ⟨hk, h⟩ := mt_gd h
  cases h
  rw [mt_wL, if_pos (ov_K hp hk hc), mt_ov_pL T (mt_vd_of hc hk)]
  exact ⟨rfl, hp⟩
theorem ov_in (hp : mt_cp S T) (hk : mt_isK S k c = true) (hc : c < 17) {i : Int32} (hi : mt_in i (mt_ln S k) = true) : mt_in i (mt_ln (mt_ov S T) k) = true := by
  rw [show mt_ln (mt_ov S T) k = mt_ln T k from rfl, (hp k c hc hk).2.1]; exact hi
theorem ov_aI {i v : Int32} (hp : mt_cp S T) (h : mt_aI S k c i = some v) (hc : c < 17 := by decide) : mt_aI (mt_ov S T) k c i = some v := by
  obtain ⟨hk, h⟩ := mt_gd h
  obtain ⟨hi, h⟩ := mt_gd h
  have h' : S.2.2.1 k i.toNatClampNeg = some v := h
  rw [mt_aI, if_pos (ov_K hp hk hc), if_pos (ov_in hp hk hc hi)]
  show (if mt_vd S k = true then (S.2.2.1 k i.toNatClampNeg).or _ else _) = _
  rw [if_pos (mt_vd_of hc hk), h']; rfl
theorem ov_aL {i : Int32} {v : Int64} (hp : mt_cp S T) (h : mt_aL S k i = some v) : mt_aL (mt_ov S T) k i = some v := by
  obtain ⟨hk, h⟩ := mt_gd h
  obtain ⟨hi, h⟩ := mt_gd h
  have h' : S.2.2.2.1 k i.toNatClampNeg = some v := h
  rw [mt_aL, if_pos (ov_K hp hk), if_pos (ov_in hp hk (by decide) hi)]
  show (if mt_vd S k = true then (S.2.2.2.1 k i.toNatClampNeg).or _ else _) = _
  rw [if_pos (mt_vd_of (by decide) hk), h']; rfl
theorem ov_aR {i : Int32} {v : Nat} (hp : mt_cp S T) (h : mt_aR S k i = some v) : mt_aR (mt_ov S T) k i = some v := by
  obtain ⟨hk, h⟩ := mt_gd h
  obtain ⟨hi, h⟩ := mt_gd h
  rw [mt_aR, if_pos (ov_K hp hk), if_pos (ov_in hp hk (by decide) hi)]
  exact (hp k 16 (by decide) hk).2.2 _ v h
theorem ov_sI {i v : Int32} (hp : mt_cp S T) (h : mt_sI S k c i v = some S1) (hc : c < 17 := by decide) : mt_sI (mt_ov S T) k c i v = some (mt_ov S1 T) ∧ mt_cp S1 T := by
  obtain ⟨hk, h⟩ := mt_gd h
  obtain ⟨hi, h⟩ := mt_gd h
  cases h
  rw [mt_sI, if_pos (ov_K hp hk hc), if_pos (ov_in hp hk hc hi), mt_ov_pI T (mt_vd_of hc hk)]
  exact ⟨rfl, hp⟩
theorem ov_sL {i : Int32} {v : Int64} (hp : mt_cp S T) (h : mt_sL S k i v = some S1) : mt_sL (mt_ov S T) k i v = some (mt_ov S1 T) ∧ mt_cp S1 T := by
  obtain ⟨hk, h⟩ := mt_gd h
  obtain ⟨hi, h⟩ := mt_gd h
  cases h
  rw [mt_sL, if_pos (ov_K hp hk), if_pos (ov_in hp hk (by decide) hi), mt_ov_pL T (mt_vd_of (by decide) hk)]
  exact ⟨rfl, hp⟩
end mtOv
theorem ov_b {α β : Type} {x : Option α} {g : α → Option β} {v : α} {y : β} {P : Prop} (h : x = some v) (k : g v = some y ∧ P) : Option.bind x g = some y ∧ P := by rw [h]; exact k
theorem ov_b2 {α β : Type} {x : Option (α × mt_S)} {g : α → mt_S → Option β} {v : α} {S1 : mt_S} {y : β} {P : Prop} (h : x = some (v, S1)) (k : g v S1 = some y ∧ P) : mt_b2 x g = some y ∧ P := by rw [h]; exact k
theorem ov_t {c : Prop} [Decidable c] {α : Type} {a b : Option α} {y : α} {P : Prop} (hc : c) (h : a = some y ∧ P) : (if c then a else b) = some y ∧ P := by rw [if_pos hc]; exact h
theorem ov_f {c : Prop} [Decidable c] {α : Type} {a b : Option α} {y : α} {P : Prop} (hc : ¬ c) (h : b = some y ∧ P) : (if c then a else b) = some y ∧ P := by rw [if_neg hc]; exact h
theorem ov_ret {α : Type} {e r : α} {S S' T : mt_S} (hp : mt_cp S T) (h : some (e, S) = some (r, S')) : some (e, mt_ov S T) = some (r, mt_ov S' T) ∧ mt_cp S' T := by cases h; exact ⟨rfl, hp⟩
theorem ov_retv {S S' T : mt_S} (hp : mt_cp S T) (h : some S = some S') : some (mt_ov S T) = some (mt_ov S' T) ∧ mt_cp S' T := by cases h; exact ⟨rfl, hp⟩
/-- forward: what a function answers, step by step -/
theorem fw_b {α β : Type} {x : Option α} {g : α → Option β} {v : α} {y : Option β} (h : x = some v) (k : g v = y) : Option.bind x g = y := by rw [h]; exact k
theorem fw_b2 {α β : Type} {x : Option (α × mt_S)} {g : α → mt_S → Option β} {v : α} {S1 : mt_S} {y : Option β} (h : x = some (v, S1)) (k : g v S1 = y) : mt_b2 x g = y := by rw [h]; exact k
theorem fw_t {c : Prop} [Decidable c] {α : Type} {a b y : Option α} (hc : c) (h : a = y) : (if c then a else b) = y := by rw [if_pos hc]; exact h
theorem fw_f {c : Prop} [Decidable c] {α : Type} {a b y : Option α} (hc : ¬ c) (h : b = y) : (if c then a else b) = y := by rw [if_neg hc]; exact h
