/-! the heap as it stands between two calls -/
def uI (j : Nat) : Int32 := Int32.ofNat j
theorem uI_toInt {j : Nat} (h : j < 2147483648) : (uI j).toInt = (j : Int) := by
  unfold uI
  rw [Int32.toInt_ofNat_of_lt (by simpa using h)]
theorem uI_le {a b : Nat} (ha : a < 2147483648) (hb : b < 2147483648) : uI a ≤ uI b ↔ a ≤ b := by
  rw [Int32.le_iff_toInt_le, uI_toInt ha, uI_toInt hb]; omega
theorem uI_lt {a b : Nat} (ha : a < 2147483648) (hb : b < 2147483648) : uI a < uI b ↔ a < b := by
  rw [Int32.lt_iff_toInt_lt, uI_toInt ha, uI_toInt hb]; omega
theorem uI_eq {a b : Nat} (ha : a < 2147483648) (hb : b < 2147483648) : uI a = uI b ↔ a = b := by
  constructor
  · intro h
    have := congrArg Int32.toInt h
    rw [uI_toInt ha, uI_toInt hb] at this; omega
  · intro h; rw [h]
theorem uI_s (a : Nat) : uI a + 1 = uI (a + 1) := by
  unfold uI
  rw [Int32.ofNat_add]; rfl
theorem uI_p (a : Nat) : uI (a + 1) - 1 = uI a := by
  unfold uI
  rw [Int32.ofNat_add]
  exact Int32.add_sub_cancel _ _
theorem uI_m (a : Nat) : uI (a + 1) + (-1) = uI a := by
  rw [← uI_p a]; exact (Int32.sub_eq_add_neg _ _).symm
theorem uI_cl {j : Nat} (h : j < 2147483648) : (uI j).toNatClampNeg = j := by
  rw [Int32.toNatClampNeg, uI_toInt h]; rfl
theorem uI_nn {j : Nat} (h : j < 2147483648) : ¬ uI j < 0 := by
  rw [Int32.lt_iff_toInt_lt, uI_toInt h]
  show ¬ (j : Int) < 0
  omega
theorem uI_in {j n : Nat} (h : j < n) (hn : n < 2147483648) : mt_in (uI j) n = true := by
  have h1 : j < 2147483648 := by omega
  unfold mt_in
  rw [uI_cl h1]
  exact decide_eq_true (by
    intro hh
    rcases hh with hh | hh
    · exact uI_nn h1 hh
    · omega)
theorem uI_cs (x : Int32) : x < 0 ∨ ∃ j, j < 2147483648 ∧ x = uI j := by
  by_cases h : x < 0
  · exact Or.inl h
  · refine Or.inr ⟨x.toInt.toNat, ?_, ?_⟩
    · have := Int32.toInt_lt x
      omega
    · rw [Int32.lt_iff_toInt_lt] at h
      have h0 : (0 : Int32).toInt = 0 := rfl
      rw [h0] at h
      have h1 := Int32.toInt_lt x
      apply Int32.toInt_inj.mp
      rw [uI_toInt (by omega)]
      omega
section mtT
variable {T : mt_S} {k c j : Nat}
theorem T_K (hs : mt_st T) (hk : k < 109) (hc : (mt_shN k).1 = c) : mt_isK T k c = true := mt_isK_iff.mpr ⟨by rw [hs.1]; exact hk, by
  show (T.2.1 k).1 = c
  rw [hs.2.1 k hk]; exact hc⟩
theorem T_rI (hs : mt_st T) {v : Int32} (hk : k < 109) (hc : (mt_shN k).1 = c) (hv : T.2.2.1 k j = some v) : mt_rI T k c j = some v := by
  rw [mt_rI, if_pos (T_K hs hk hc)]; exact hv
theorem T_rL (hs : mt_st T) {v : Int64} (hk : k < 109) (hc : (mt_shN k).1 = c) (hv : T.2.2.2.1 k j = some v) : mt_rL T k c j = some v := by
  rw [mt_rL, if_pos (T_K hs hk hc)]; exact hv
theorem T_rR (hs : mt_st T) {v : Nat} (hk : k < 109) (hc : (mt_shN k).1 = c) (hv : mt_RN k j = some v) : mt_rR T k c j = some v := by
  rw [mt_rR, if_pos (T_K hs hk hc)]; exact hs.2.2 k hk j v hv
theorem T_wI (hs : mt_st T) (v : Int32) (hk : k < 109) (hc : (mt_shN k).1 = c) : mt_wI T k c j v = some (mt_pI T k j v) := by
  rw [mt_wI, if_pos (T_K hs hk hc)]
theorem T_wL (hs : mt_st T) (v : Int64) (hk : k < 109) (hc : (mt_shN k).1 = c) : mt_wL T k c j v = some (mt_pL T k j v) := by
  rw [mt_wL, if_pos (T_K hs hk hc)]
theorem T_ln (hs : mt_st T) (hk : k < 109) : mt_ln T k = (mt_shN k).2 := by
  show (T.2.1 k).2 = _
  rw [hs.2.1 k hk]
theorem T_aI (hs : mt_st T) {v : Int32} {n : Nat} (hk : k < 109) (hc : mt_shN k = (c, n)) (hj : j < n) (hn : n < 2147483648) (hv : T.2.2.1 k j = some v) : mt_aI T k c (uI j) = some v := by
  rw [mt_aI, if_pos (T_K hs hk (by rw [hc])), T_ln hs hk, hc, if_pos (uI_in hj hn), uI_cl (by omega)]; exact hv
theorem T_aL (hs : mt_st T) {v : Int64} {n : Nat} (hk : k < 109) (hc : mt_shN k = (14, n)) (hj : j < n) (hn : n < 2147483648) (hv : T.2.2.2.1 k j = some v) : mt_aL T k (uI j) = some v := by
  rw [mt_aL, if_pos (T_K hs hk (by rw [hc])), T_ln hs hk, hc, if_pos (uI_in hj hn), uI_cl (by omega)]; exact hv
theorem T_aR (hs : mt_st T) {v : Nat} {n : Nat} (hk : k < 109) (hc : mt_shN k = (16, n)) (hj : j < n) (hn : n < 2147483648) (hv : mt_RN k j = some v) : mt_aR T k (uI j) = some v := by
  rw [mt_aR, if_pos (T_K hs hk (by rw [hc])), T_ln hs hk, hc, if_pos (uI_in hj hn), uI_cl (by omega)]; exact hs.2.2 k hk j v hv
theorem T_sI (hs : mt_st T) {n : Nat} (v : Int32) (hk : k < 109) (hc : mt_shN k = (c, n)) (hj : j < n) (hn : n < 2147483648) : mt_sI T k c (uI j) v = some (mt_pI T k j v) := by
  rw [mt_sI, if_pos (T_K hs hk (by rw [hc])), T_ln hs hk, hc, if_pos (uI_in hj hn), uI_cl (by omega)]
theorem T_sL (hs : mt_st T) {n : Nat} (v : Int64) (hk : k < 109) (hc : mt_shN k = (14, n)) (hj : j < n) (hn : n < 2147483648) : mt_sL T k (uI j) v = some (mt_pL T k j v) := by
  rw [mt_sL, if_pos (T_K hs hk (by rw [hc])), T_ln hs hk, hc, if_pos (uI_in hj hn), uI_cl (by omega)]
end mtT
/-- the number of a place -/
def mt_num (x : mt_P) : Int64 := match f_X9_setTo 88 x.1 x.2.1 (mt_m [88] (fun _ _ => none) (fun _ _ => none)) with
  | some S => (S.2.2.2.1 88 1).getD 0
  | none => 0
abbrev mt_C : Type := mt_P × List mt_P
def mt_sor : List mt_P → Prop
  | [] => True
  | x :: l => (∀ y ∈ l, mt_num x ≤ mt_num y) ∧ mt_sor l
def mt_gC (c : mt_C) : Prop := c.1 ∈ mt_PL ∧ (∀ y ∈ c.2, y ∈ mt_PL) ∧ c.2.length ≤ 16 ∧ mt_sor c.2
/-- a block of the program's: at k the State -/
def mt_blk (T : mt_S) (k : Nat) (c : mt_C) : Prop := (∀ j v, [c.1.2.2.1, c.1.2.2.2.1, c.1.2.2.2.2.1, c.1.2.2.2.2.2.1, c.1.2.2.2.2.2.2][j]? = some v → T.2.2.1 (k + 1) j = some v) ∧ T.2.2.1 (k + 2) 3 = some (uI c.2.length) ∧
  ∀ m y, c.2[m]? = some y → T.2.2.2.1 (k + 3) m = some (mt_num y) ∧ T.2.2.1 (k + 4) m = some y.1 ∧ T.2.2.1 (k + 5) m = some y.2.1
/-- a row of the reference's: in the array a from o on -/
def mt_row (T : mt_S) (a o : Nat) (c : mt_C) : Prop := T.2.2.1 a o = some c.1.1 ∧ T.2.2.1 a (o + 1) = some c.1.2.1 ∧ T.2.2.1 a (o + 2) = some (uI c.2.length) ∧
  (∀ m y, c.2[m]? = some y → T.2.2.1 a (o + 3 + 2 * m) = some y.1 ∧ T.2.2.1 a (o + 4 + 2 * m) = some y.2.1) ∧ ∀ j, j < 35 → ∃ v, T.2.2.1 a (o + j) = some v
def mt_iCur (T : mt_S) (c : mt_C) : Prop := mt_gC c ∧ mt_blk T 9 c ∧ mt_row T 98 0 c
/-- the row of the ring that stands m acts back -/
def mt_rg (nx m : Nat) : Nat := 17 + 6 * ((nx + 8 - m) % 9)
def mt_iHist (T : mt_S) (nx : Nat) (h : List mt_C) : Prop := nx < 9 ∧ h.length ≤ 8 ∧ T.2.2.1 15 1 = some (uI nx) ∧ T.2.2.1 15 2 = some (uI h.length) ∧ T.2.2.1 96 9 = some (uI h.length) ∧
  ∀ m c, h[m]? = some c → mt_gC c ∧ mt_blk T (mt_rg nx m) c ∧ mt_row T 100 (35 * (h.length - 1 - m)) c
def mt_iIm (T : mt_S) : Prop := ∀ m, m < 2 → ∃ v, T.2.2.1 84 m = some v ∧ T.2.2.1 103 m = some v ∧ (v = 0 ∨ v = 1) ∧ (v = 1 → ∃ c, mt_gC c ∧ mt_blk T (72 + 6 * m) c ∧ mt_row T 99 (35 * m) c)
def mt_iTape (T : mt_S) (n : Nat) : Prop := n ≤ 240 ∧ T.2.2.1 1 1 = some (uI n) ∧ T.2.2.1 96 2 = some (uI n) ∧ ∀ m, m < n → ∃ b : Int32, T.2.2.1 2 m = some b ∧ T.2.2.1 97 m = some (b &&& 255)
def mt_iText (T : mt_S) (n : Nat) : Prop := n ≤ 44 ∧ T.2.2.1 85 2 = some (uI n) ∧ T.2.2.1 96 30 = some (uI n) ∧ ∀ m, m < n → ∃ b : Int32, T.2.2.1 86 m = some b ∧ T.2.2.1 107 m = some b
def mt_iFault (T : mt_S) : Prop := ∃ v, T.2.2.1 3 9 = some v ∧ T.2.2.1 96 33 = some v
