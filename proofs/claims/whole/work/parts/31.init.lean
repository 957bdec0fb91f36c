theorem mt_nw {β : Type} {S : mt_S} {kd ln : Nat} {g : Nat → mt_S → Option β} {y : β} (h : mt_new S kd ln g = some y) : ∃ k S1, k = S.1 ∧ S1 = mt_al S kd ln ∧ g k S1 = some y := ⟨_, _, rfl, rfl, h⟩
theorem mt_ov_self (S : mt_S) : mt_ov S S = S := by
  have e1 : (fun k j => if mt_vd S k = true then (S.2.2.1 k j).or (S.2.2.1 k j) else S.2.2.1 k j) = S.2.2.1 := by funext k j; simp
  have e2 : (fun k j => if mt_vd S k = true then (S.2.2.2.1 k j).or (S.2.2.2.1 k j) else S.2.2.2.1 k j) = S.2.2.2.1 := by funext k j; simp
  unfold mt_ov
  rw [e1, e2]
theorem mt_cp_self (S : mt_S) : mt_cp S S := fun _ _ _ h => ⟨h, rfl, fun _ _ h => h⟩
theorem mt_stv {f : mt_S → Option mt_S} {S S' : mt_S} (h : f S = some S') (ho : f (mt_ov S S) = some (mt_ov S' S)) : S'.1 = S.1 ∧ S'.2.1 = S.2.1 ∧ S'.2.2.2.2 = S.2.2.2.2 := by
  rw [mt_ov_self, h] at ho
  have e : S' = mt_ov S' S := Option.some.inj ho
  refine ⟨(?_ : S'.1 = (mt_ov S' S).1), (?_ : S'.2.1 = (mt_ov S' S).2.1), (?_ : S'.2.2.2.2 = (mt_ov S' S).2.2.2.2)⟩ <;> rw [← e]
theorem mt_str {α : Type} {f : mt_S → Option (α × mt_S)} {S S' : mt_S} {r : α} (h : f S = some (r, S')) (ho : f (mt_ov S S) = some (r, mt_ov S' S)) : S'.1 = S.1 ∧ S'.2.1 = S.2.1 ∧ S'.2.2.2.2 = S.2.2.2.2 := by
  rw [mt_ov_self, h] at ho
  have e : S' = mt_ov S' S := congrArg Prod.snd (Option.some.inj ho)
  refine ⟨(?_ : S'.1 = (mt_ov S' S).1), (?_ : S'.2.1 = (mt_ov S' S).2.1), (?_ : S'.2.2.2.2 = (mt_ov S' S).2.2.2.2)⟩ <;> rw [← e]
theorem st_X4_goHome {x0 : Nat} {S S' : mt_S} (h : f_X4_goHome x0 S = some S') : S'.1 = S.1 := (mt_stv (f := f_X4_goHome x0) h (ov_X4_goHome (mt_cp_self S) h).1).1
theorem st_X9_setTo {x0 : Nat} {x1 x2 : Int32} {S S' : mt_S} (h : f_X9_setTo x0 x1 x2 S = some S') : S'.1 = S.1 := (mt_stv (f := f_X9_setTo x0 x1 x2) h (ov_X9_setTo (mt_cp_self S) h).1).1
theorem st_X1_set {x0 : Nat} {x1 x3 : Int64} {S S' : mt_S} (h : f_X1_set x0 x1 x3 S = some S') : S'.1 = S.1 := (mt_stv (f := f_X1_set x0 x1 x3) h (ov_X1_set (mt_cp_self S) h).1).1
def f_X7_init (x0 : Nat) (S : mt_S) : Option mt_S :=
  if mt_isK S x0 7 = true then
   mt_new S 12 240 fun k1 S2 =>
   Option.bind (mt_wR S2 x0 7 0 (some k1)) fun S3 =>
   Option.bind (mt_wI S3 x0 7 1 0) fun S4 =>
   some S4
  else none
set_option maxHeartbeats 4000000 in
theorem n_X7_init {x0 : Nat} {S S' : mt_S} (h : f_X7_init x0 S = some S') : S'.1 = S.1 + 1 := by
  have nS : S.1 = S.1 + 0 := rfl
  unfold f_X7_init at h
  replace h := mt_gd h
  obtain ⟨-, h⟩ := h
  replace h := mt_nw h
  obtain ⟨k1, S2, qk1, qS2, h⟩ := h
  have nS2 : S2.1 = S.1 + 1 := by rw [qS2]; exact congrArg (fun z => z + 1) nS
  replace h := mt_ob h
  obtain ⟨S3, e3, h⟩ := h
  have nS3 : S3.1 = S.1 + 1 := (mt_wR_n e3).trans nS2
  replace h := mt_ob h
  obtain ⟨S4, e4, h⟩ := h
  have nS4 : S4.1 = S.1 + 1 := (mt_wI_n e4).trans nS3
  cases h
  exact nS4
set_option maxHeartbeats 4000000 in
set_option maxRecDepth 100000 in
theorem m_X7_init {B : mt_B} {x0 : Nat} {S S' : mt_S} (h : f_X7_init x0 S = some S') : mt_MB B yX7_init cX7_init 1 1 1 240 [mt_rf B x0] S S' := by
  unfold f_X7_init at h
  refine mt_MB.of (by decide) (Nat.le_of_ble_eq_true rfl) (fun E hC hN hX hA hE => ?_)
  have nS : S.1 = S.1 + 0 := rfl
  replace h := mt_gd h
  obtain ⟨hk0, h⟩ := h
  refine go_aload_n hC 0 dX7_init_0 rfl rfl ?_
  refine go_objInit hC mt_olX7_3 mt_oi mt_oc0 (by decide) (Nat.le_of_ble_eq_true rfl) dX7_init_1 ?_
  refine go_aload_n hC 0 dX7_init_4 rfl rfl ?_
  refine go_sipush (v := 240) hC dX7_init_5 (by decide) ?_
  replace h := mt_nw h
  obtain ⟨k1, S2, qk1, qS2, h⟩ := h
  have nS2 : S2.1 = S.1 + 1 := by rw [qS2]; exact congrArg (fun z => z + 1) nS
  refine go_newa_byte hC hX (cs1 := (1, 240)) mt_ac_byte (by decide) (N := 240) (by decide) (by decide) nS.symm rfl (by decide) dX7_init_8 ?_
  rw [← qS2, ← qk1]
  replace h := mt_ob h
  obtain ⟨S3, e3, h⟩ := h
  have nS3 : S3.1 = S.1 + 1 := (mt_wR_n e3).trans nS2
  refine go_putRF (C0 := "") hC hN mt_flX7_11 ⟨_, _, rfl⟩ ⟨rfl, rfl⟩ e3 dX7_init_10 ?_
  refine go_aload_n hC 0 dX7_init_13 rfl rfl ?_
  refine go_iconst (v := 0) hC dX7_init_14 (by decide) ?_
  replace h := mt_ob h
  obtain ⟨S4, e4, h⟩ := h
  have nS4 : S4.1 = S.1 + 1 := (mt_wI_n e4).trans nS3
  refine go_putI hC mt_flX7_15 e4 dX7_init_15 ?_
  exact go_vret hC (mt_rev h hE) dX7_init_18
def f_X0_init (x0 : Nat) (S : mt_S) : Option mt_S :=
  if mt_isK S x0 0 = true then
   mt_new S 13 200 fun k1 S2 =>
   Option.bind (mt_wR S2 x0 0 0 (some k1)) fun S3 =>
   mt_new S3 13 200 fun k4 S5 =>
   Option.bind (mt_wR S5 x0 0 1 (some k4)) fun S6 =>
   mt_new S6 13 200 fun k7 S8 =>
   Option.bind (mt_wR S8 x0 0 2 (some k7)) fun S9 =>
   mt_new S9 13 200 fun k10 S11 =>
   Option.bind (mt_wR S11 x0 0 3 (some k10)) fun S12 =>
   mt_new S12 13 3 fun k13 S14 =>
   Option.bind (mt_wR S14 x0 0 4 (some k13)) fun S15 =>
   some S15
  else none
set_option maxHeartbeats 4000000 in
theorem n_X0_init {x0 : Nat} {S S' : mt_S} (h : f_X0_init x0 S = some S') : S'.1 = S.1 + 5 := by
  have nS : S.1 = S.1 + 0 := rfl
  unfold f_X0_init at h
  replace h := mt_gd h
  obtain ⟨-, h⟩ := h
  replace h := mt_nw h
  obtain ⟨k1, S2, qk1, qS2, h⟩ := h
  have nS2 : S2.1 = S.1 + 1 := by rw [qS2]; exact congrArg (fun z => z + 1) nS
  replace h := mt_ob h
  obtain ⟨S3, e3, h⟩ := h
  have nS3 : S3.1 = S.1 + 1 := (mt_wR_n e3).trans nS2
  replace h := mt_nw h
  obtain ⟨k4, S5, qk4, qS5, h⟩ := h
  have nS5 : S5.1 = S.1 + 2 := by rw [qS5]; exact congrArg (fun z => z + 1) nS3
  replace h := mt_ob h
  obtain ⟨S6, e6, h⟩ := h
  have nS6 : S6.1 = S.1 + 2 := (mt_wR_n e6).trans nS5
  replace h := mt_nw h
  obtain ⟨k7, S8, qk7, qS8, h⟩ := h
  have nS8 : S8.1 = S.1 + 3 := by rw [qS8]; exact congrArg (fun z => z + 1) nS6
  replace h := mt_ob h
  obtain ⟨S9, e9, h⟩ := h
  have nS9 : S9.1 = S.1 + 3 := (mt_wR_n e9).trans nS8
  replace h := mt_nw h
  obtain ⟨k10, S11, qk10, qS11, h⟩ := h
  have nS11 : S11.1 = S.1 + 4 := by rw [qS11]; exact congrArg (fun z => z + 1) nS9
  replace h := mt_ob h
  obtain ⟨S12, e12, h⟩ := h
  have nS12 : S12.1 = S.1 + 4 := (mt_wR_n e12).trans nS11
  replace h := mt_nw h
  obtain ⟨k13, S14, qk13, qS14, h⟩ := h
  have nS14 : S14.1 = S.1 + 5 := by rw [qS14]; exact congrArg (fun z => z + 1) nS12
  replace h := mt_ob h
  obtain ⟨S15, e15, h⟩ := h
  have nS15 : S15.1 = S.1 + 5 := (mt_wR_n e15).trans nS14
  cases h
  exact nS15
set_option maxHeartbeats 4000000 in
set_option maxRecDepth 100000 in
theorem m_X0_init {B : mt_B} {x0 : Nat} {S S' : mt_S} (h : f_X0_init x0 S = some S') : mt_MB B yX0_init cX0_init 1 1 5 803 [mt_rf B x0] S S' := by
  unfold f_X0_init at h
  refine mt_MB.of (by decide) (Nat.le_of_ble_eq_true rfl) (fun E hC hN hX hA hE => ?_)
  have nS : S.1 = S.1 + 0 := rfl
  replace h := mt_gd h
  obtain ⟨hk0, h⟩ := h
  refine go_aload_n hC 0 dX0_init_0 rfl rfl ?_
  refine go_objInit hC mt_olX0_1 mt_oi mt_oc0 (by decide) (Nat.le_of_ble_eq_true rfl) dX0_init_1 ?_
  refine go_aload_n hC 0 dX0_init_4 rfl rfl ?_
  refine go_sipush (v := 200) hC dX0_init_5 (by decide) ?_
  replace h := mt_nw h
  obtain ⟨k1, S2, qk1, qS2, h⟩ := h
  have nS2 : S2.1 = S.1 + 1 := by rw [qS2]; exact congrArg (fun z => z + 1) nS
  refine go_newa_int hC hX (cs1 := (1, 200)) mt_ac_int (by decide) (N := 200) (by decide) (by decide) nS.symm rfl (by decide) dX0_init_8 ?_
  rw [← qS2, ← qk1]
  replace h := mt_ob h
  obtain ⟨S3, e3, h⟩ := h
  have nS3 : S3.1 = S.1 + 1 := (mt_wR_n e3).trans nS2
  refine go_putRF (C0 := "") hC hN mt_flX0_9 ⟨_, _, rfl⟩ ⟨rfl, rfl⟩ e3 dX0_init_10 ?_
  refine go_aload_n hC 0 dX0_init_13 rfl rfl ?_
  refine go_sipush (v := 200) hC dX0_init_14 (by decide) ?_
  replace h := mt_nw h
  obtain ⟨k4, S5, qk4, qS5, h⟩ := h
  have nS5 : S5.1 = S.1 + 2 := by rw [qS5]; exact congrArg (fun z => z + 1) nS3
  refine go_newa_int hC hX (cs1 := (2, 400)) mt_ac_int (by decide) (N := 200) (by decide) (by decide) nS3.symm rfl (by decide) dX0_init_17 ?_
  rw [← qS5, ← qk4]
  replace h := mt_ob h
  obtain ⟨S6, e6, h⟩ := h
  have nS6 : S6.1 = S.1 + 2 := (mt_wR_n e6).trans nS5
  refine go_putRF (C0 := "") hC hN mt_flX0_13 ⟨_, _, rfl⟩ ⟨rfl, rfl⟩ e6 dX0_init_19 ?_
  refine go_aload_n hC 0 dX0_init_22 rfl rfl ?_
  refine go_sipush (v := 200) hC dX0_init_23 (by decide) ?_
  replace h := mt_nw h
  obtain ⟨k7, S8, qk7, qS8, h⟩ := h
  have nS8 : S8.1 = S.1 + 3 := by rw [qS8]; exact congrArg (fun z => z + 1) nS6
  refine go_newa_int hC hX (cs1 := (3, 600)) mt_ac_int (by decide) (N := 200) (by decide) (by decide) nS6.symm rfl (by decide) dX0_init_26 ?_
  rw [← qS8, ← qk7]
  replace h := mt_ob h
  obtain ⟨S9, e9, h⟩ := h
  have nS9 : S9.1 = S.1 + 3 := (mt_wR_n e9).trans nS8
  refine go_putRF (C0 := "") hC hN mt_flX0_16 ⟨_, _, rfl⟩ ⟨rfl, rfl⟩ e9 dX0_init_28 ?_
  refine go_aload_n hC 0 dX0_init_31 rfl rfl ?_
  refine go_sipush (v := 200) hC dX0_init_32 (by decide) ?_
  replace h := mt_nw h
  obtain ⟨k10, S11, qk10, qS11, h⟩ := h
  have nS11 : S11.1 = S.1 + 4 := by rw [qS11]; exact congrArg (fun z => z + 1) nS9
  refine go_newa_int hC hX (cs1 := (4, 800)) mt_ac_int (by decide) (N := 200) (by decide) (by decide) nS9.symm rfl (by decide) dX0_init_35 ?_
  rw [← qS11, ← qk10]
  replace h := mt_ob h
  obtain ⟨S12, e12, h⟩ := h
  have nS12 : S12.1 = S.1 + 4 := (mt_wR_n e12).trans nS11
  refine go_putRF (C0 := "") hC hN mt_flX0_19 ⟨_, _, rfl⟩ ⟨rfl, rfl⟩ e12 dX0_init_37 ?_
  refine go_aload_n hC 0 dX0_init_40 rfl rfl ?_
  refine go_iconst (v := 3) hC dX0_init_41 (by decide) ?_
  replace h := mt_nw h
  obtain ⟨k13, S14, qk13, qS14, h⟩ := h
  have nS14 : S14.1 = S.1 + 5 := by rw [qS14]; exact congrArg (fun z => z + 1) nS12
  refine go_newa_int hC hX (cs1 := (5, 803)) mt_ac_int (by decide) (N := 3) (by decide) (by decide) nS12.symm rfl (by decide) dX0_init_42 ?_
  rw [← qS14, ← qk13]
  replace h := mt_ob h
  obtain ⟨S15, e15, h⟩ := h
  have nS15 : S15.1 = S.1 + 5 := (mt_wR_n e15).trans nS14
  refine go_putRF (C0 := "") hC hN mt_flX0_22 ⟨_, _, rfl⟩ ⟨rfl, rfl⟩ e15 dX0_init_44 ?_
  exact go_vret hC (mt_rev h hE) dX0_init_47
def f_X4_init (x0 : Nat) (S : mt_S) : Option mt_S :=
  if mt_isK S x0 4 = true then
   Option.bind (f_X4_goHome x0 S) fun S1 =>
   some S1
  else none
set_option maxHeartbeats 4000000 in
theorem n_X4_init {x0 : Nat} {S S' : mt_S} (h : f_X4_init x0 S = some S') : S'.1 = S.1 + 0 := by
  have nS : S.1 = S.1 + 0 := rfl
  unfold f_X4_init at h
  replace h := mt_gd h
  obtain ⟨-, h⟩ := h
  replace h := mt_ob h
  obtain ⟨S1, e1, h⟩ := h
  have nS1 : S1.1 = S.1 + 0 := (st_X4_goHome e1).trans nS
  cases h
  exact nS1
set_option maxHeartbeats 4000000 in
set_option maxRecDepth 100000 in
theorem m_X4_init {B : mt_B} {x0 : Nat} {S S' : mt_S} (h : f_X4_init x0 S = some S') : mt_MB B yX4_init cX4_init 1 2 0 0 [mt_rf B x0] S S' := by
  unfold f_X4_init at h
  refine mt_MB.of (by decide) (Nat.le_of_ble_eq_true rfl) (fun E hC hN hX hA hE => ?_)
  have nS : S.1 = S.1 + 0 := rfl
  replace h := mt_gd h
  obtain ⟨hk0, h⟩ := h
  refine go_aload_n hC 0 dX4_init_0 rfl rfl ?_
  refine go_objInit hC mt_olX4_3 mt_oi mt_oc0 (by decide) (Nat.le_of_ble_eq_true rfl) dX4_init_1 ?_
  refine go_aload_n hC 0 dX4_init_4 rfl rfl ?_
  replace h := mt_ob h
  obtain ⟨S1, e1, h⟩ := h
  have nS1 : S1.1 = S.1 + 0 := (st_X4_goHome e1).trans nS
  refine go_callVv hC [] [] (m_X4_goHome e1) mt_cvX4_9 (k_X4_goHome e1) dX4_init_5 rfl rfl (by decide) (Nat.le_of_ble_eq_true rfl) (by decide) ?_
  exact go_vret hC (mt_rev h hE) dX4_init_8
def f_X3_init (x0 : Nat) (S : mt_S) : Option mt_S :=
  if mt_isK S x0 3 = true then
   mt_new S 14 16 fun k1 S2 =>
   Option.bind (mt_wR S2 x0 3 0 (some k1)) fun S3 =>
   mt_new S3 13 16 fun k4 S5 =>
   Option.bind (mt_wR S5 x0 3 1 (some k4)) fun S6 =>
   mt_new S6 13 16 fun k7 S8 =>
   Option.bind (mt_wR S8 x0 3 2 (some k7)) fun S9 =>
   Option.bind (mt_wI S9 x0 3 3 0) fun S10 =>
   some S10
  else none
set_option maxHeartbeats 4000000 in
theorem n_X3_init {x0 : Nat} {S S' : mt_S} (h : f_X3_init x0 S = some S') : S'.1 = S.1 + 3 := by
  have nS : S.1 = S.1 + 0 := rfl
  unfold f_X3_init at h
  replace h := mt_gd h
  obtain ⟨-, h⟩ := h
  replace h := mt_nw h
  obtain ⟨k1, S2, qk1, qS2, h⟩ := h
  have nS2 : S2.1 = S.1 + 1 := by rw [qS2]; exact congrArg (fun z => z + 1) nS
  replace h := mt_ob h
  obtain ⟨S3, e3, h⟩ := h
  have nS3 : S3.1 = S.1 + 1 := (mt_wR_n e3).trans nS2
  replace h := mt_nw h
  obtain ⟨k4, S5, qk4, qS5, h⟩ := h
  have nS5 : S5.1 = S.1 + 2 := by rw [qS5]; exact congrArg (fun z => z + 1) nS3
  replace h := mt_ob h
  obtain ⟨S6, e6, h⟩ := h
  have nS6 : S6.1 = S.1 + 2 := (mt_wR_n e6).trans nS5
  replace h := mt_nw h
  obtain ⟨k7, S8, qk7, qS8, h⟩ := h
  have nS8 : S8.1 = S.1 + 3 := by rw [qS8]; exact congrArg (fun z => z + 1) nS6
  replace h := mt_ob h
  obtain ⟨S9, e9, h⟩ := h
  have nS9 : S9.1 = S.1 + 3 := (mt_wR_n e9).trans nS8
  replace h := mt_ob h
  obtain ⟨S10, e10, h⟩ := h
  have nS10 : S10.1 = S.1 + 3 := (mt_wI_n e10).trans nS9
  cases h
  exact nS10
set_option maxHeartbeats 4000000 in
set_option maxRecDepth 100000 in
theorem m_X3_init {B : mt_B} {x0 : Nat} {S S' : mt_S} (h : f_X3_init x0 S = some S') : mt_MB B yX3_init cX3_init 1 1 3 48 [mt_rf B x0] S S' := by
  unfold f_X3_init at h
  refine mt_MB.of (by decide) (Nat.le_of_ble_eq_true rfl) (fun E hC hN hX hA hE => ?_)
  have nS : S.1 = S.1 + 0 := rfl
  replace h := mt_gd h
  obtain ⟨hk0, h⟩ := h
  refine go_aload_n hC 0 dX3_init_0 rfl rfl ?_
  refine go_objInit hC mt_olX3_3 mt_oi mt_oc0 (by decide) (Nat.le_of_ble_eq_true rfl) dX3_init_1 ?_
  refine go_aload_n hC 0 dX3_init_4 rfl rfl ?_
  refine go_bipush (v := 16) hC dX3_init_5 (by decide) ?_
  replace h := mt_nw h
  obtain ⟨k1, S2, qk1, qS2, h⟩ := h
  have nS2 : S2.1 = S.1 + 1 := by rw [qS2]; exact congrArg (fun z => z + 1) nS
  refine go_newa_long hC hX (cs1 := (1, 16)) mt_ac_long (by decide) (N := 16) (by decide) (by decide) nS.symm rfl (by decide) dX3_init_7 ?_
  rw [← qS2, ← qk1]
  replace h := mt_ob h
  obtain ⟨S3, e3, h⟩ := h
  have nS3 : S3.1 = S.1 + 1 := (mt_wR_n e3).trans nS2
  refine go_putRF (C0 := "") hC hN mt_flX3_9 ⟨_, _, rfl⟩ ⟨rfl, rfl⟩ e3 dX3_init_9 ?_
  refine go_aload_n hC 0 dX3_init_12 rfl rfl ?_
  refine go_bipush (v := 16) hC dX3_init_13 (by decide) ?_
  replace h := mt_nw h
  obtain ⟨k4, S5, qk4, qS5, h⟩ := h
  have nS5 : S5.1 = S.1 + 2 := by rw [qS5]; exact congrArg (fun z => z + 1) nS3
  refine go_newa_int hC hX (cs1 := (2, 32)) mt_ac_int (by decide) (N := 16) (by decide) (by decide) nS3.symm rfl (by decide) dX3_init_15 ?_
  rw [← qS5, ← qk4]
  replace h := mt_ob h
  obtain ⟨S6, e6, h⟩ := h
  have nS6 : S6.1 = S.1 + 2 := (mt_wR_n e6).trans nS5
  refine go_putRF (C0 := "") hC hN mt_flX3_15 ⟨_, _, rfl⟩ ⟨rfl, rfl⟩ e6 dX3_init_17 ?_
  refine go_aload_n hC 0 dX3_init_20 rfl rfl ?_
  refine go_bipush (v := 16) hC dX3_init_21 (by decide) ?_
  replace h := mt_nw h
  obtain ⟨k7, S8, qk7, qS8, h⟩ := h
  have nS8 : S8.1 = S.1 + 3 := by rw [qS8]; exact congrArg (fun z => z + 1) nS6
  refine go_newa_int hC hX (cs1 := (3, 48)) mt_ac_int (by decide) (N := 16) (by decide) (by decide) nS6.symm rfl (by decide) dX3_init_23 ?_
  rw [← qS8, ← qk7]
  replace h := mt_ob h
  obtain ⟨S9, e9, h⟩ := h
  have nS9 : S9.1 = S.1 + 3 := (mt_wR_n e9).trans nS8
  refine go_putRF (C0 := "") hC hN mt_flX3_19 ⟨_, _, rfl⟩ ⟨rfl, rfl⟩ e9 dX3_init_25 ?_
  refine go_aload_n hC 0 dX3_init_28 rfl rfl ?_
  refine go_iconst (v := 0) hC dX3_init_29 (by decide) ?_
  replace h := mt_ob h
  obtain ⟨S10, e10, h⟩ := h
  have nS10 : S10.1 = S.1 + 3 := (mt_wI_n e10).trans nS9
  refine go_putI hC mt_flX3_22 e10 dX3_init_30 ?_
  exact go_vret hC (mt_rev h hE) dX3_init_33
def f_X5_init (x0 : Nat) (S : mt_S) : Option mt_S :=
  if mt_isK S x0 5 = true then
   mt_new S 4 5 fun k1 S2 =>
   Option.bind (f_X4_init k1 S2) fun S3 =>
   Option.bind (mt_wR S3 x0 5 0 (some k1)) fun S4 =>
   mt_new S4 3 4 fun k5 S6 =>
   Option.bind (f_X3_init k5 S6) fun S7 =>
   Option.bind (mt_wR S7 x0 5 1 (some k5)) fun S8 =>
   some S8
  else none
set_option maxHeartbeats 4000000 in
theorem n_X5_init {x0 : Nat} {S S' : mt_S} (h : f_X5_init x0 S = some S') : S'.1 = S.1 + 5 := by
  have nS : S.1 = S.1 + 0 := rfl
  unfold f_X5_init at h
  replace h := mt_gd h
  obtain ⟨-, h⟩ := h
  replace h := mt_nw h
  obtain ⟨k1, S2, qk1, qS2, h⟩ := h
  have nS2 : S2.1 = S.1 + 1 := by rw [qS2]; exact congrArg (fun z => z + 1) nS
  replace h := mt_ob h
  obtain ⟨S3, e3, h⟩ := h
  have nS3 : S3.1 = S.1 + 1 := (n_X4_init e3).trans (congrArg (fun z => z + 0) nS2)
  replace h := mt_ob h
  obtain ⟨S4, e4, h⟩ := h
  have nS4 : S4.1 = S.1 + 1 := (mt_wR_n e4).trans nS3
  replace h := mt_nw h
  obtain ⟨k5, S6, qk5, qS6, h⟩ := h
  have nS6 : S6.1 = S.1 + 2 := by rw [qS6]; exact congrArg (fun z => z + 1) nS4
  replace h := mt_ob h
  obtain ⟨S7, e7, h⟩ := h
  have nS7 : S7.1 = S.1 + 5 := (n_X3_init e7).trans (congrArg (fun z => z + 3) nS6)
  replace h := mt_ob h
  obtain ⟨S8, e8, h⟩ := h
  have nS8 : S8.1 = S.1 + 5 := (mt_wR_n e8).trans nS7
  cases h
  exact nS8
set_option maxHeartbeats 4000000 in
set_option maxRecDepth 100000 in
theorem m_X5_init {B : mt_B} {x0 : Nat} {S S' : mt_S} (h : f_X5_init x0 S = some S') : mt_MB B yX5_init cX5_init 1 3 5 57 [mt_rf B x0] S S' := by
  unfold f_X5_init at h
  refine mt_MB.of (by decide) (Nat.le_of_ble_eq_true rfl) (fun E hC hN hX hA hE => ?_)
  have nS : S.1 = S.1 + 0 := rfl
  replace h := mt_gd h
  obtain ⟨hk0, h⟩ := h
  refine go_aload_n hC 0 dX5_init_0 rfl rfl ?_
  refine go_objInit hC mt_olX5_3 mt_oi mt_oc0 (by decide) (Nat.le_of_ble_eq_true rfl) dX5_init_1 ?_
  refine go_aload_n hC 0 dX5_init_4 rfl rfl ?_
  replace h := mt_nw h
  obtain ⟨k1, S2, qk1, qS2, h⟩ := h
  have nS2 : S2.1 = S.1 + 1 := by rw [qS2]; exact congrArg (fun z => z + 1) nS
  refine go_new hC hX (cs1 := (1, 5)) mt_cf4 mt_dd4 mt_klX5_9 mt_in4 mt_ii4 nS.symm rfl (by decide) dX5_init_5 ?_
  rw [← qS2, ← qk1]
  refine go_dup hC dX5_init_8 rfl ?_
  replace h := mt_ob h
  obtain ⟨S3, e3, h⟩ := h
  have nS3 : S3.1 = S.1 + 1 := (n_X4_init e3).trans (congrArg (fun z => z + 0) nS2)
  refine go_callI hC hX hA (cs1 := (1, 5)) [] [mt_rf B k1, mt_rf B x0] (m_X4_init e3) mt_ciX5_11 dX5_init_9 rfl rfl (by decide) (Nat.le_of_ble_eq_true rfl) nS2.symm rfl (by decide) ?_
  replace h := mt_ob h
  obtain ⟨S4, e4, h⟩ := h
  have nS4 : S4.1 = S.1 + 1 := (mt_wR_n e4).trans nS3
  refine go_putRF (C0 := "") hC hN mt_flX5_12 ⟨_, _, rfl⟩ ⟨rfl, rfl⟩ e4 dX5_init_12 ?_
  refine go_aload_n hC 0 dX5_init_15 rfl rfl ?_
  replace h := mt_nw h
  obtain ⟨k5, S6, qk5, qS6, h⟩ := h
  have nS6 : S6.1 = S.1 + 2 := by rw [qS6]; exact congrArg (fun z => z + 1) nS4
  refine go_new hC hX (cs1 := (2, 9)) mt_cf3 mt_dd3 mt_klX5_18 mt_in3 mt_ii3 nS4.symm rfl (by decide) dX5_init_16 ?_
  rw [← qS6, ← qk5]
  refine go_dup hC dX5_init_19 rfl ?_
  replace h := mt_ob h
  obtain ⟨S7, e7, h⟩ := h
  have nS7 : S7.1 = S.1 + 5 := (n_X3_init e7).trans (congrArg (fun z => z + 3) nS6)
  refine go_callI hC hX hA (cs1 := (5, 57)) [] [mt_rf B k5, mt_rf B x0] (m_X3_init e7) mt_ciX5_20 dX5_init_20 rfl rfl (by decide) (Nat.le_of_ble_eq_true rfl) nS6.symm rfl (by decide) ?_
  replace h := mt_ob h
  obtain ⟨S8, e8, h⟩ := h
  have nS8 : S8.1 = S.1 + 5 := (mt_wR_n e8).trans nS7
  refine go_putRF (C0 := "") hC hN mt_flX5_21 ⟨_, _, rfl⟩ ⟨rfl, rfl⟩ e8 dX5_init_23 ?_
  exact go_vret hC (mt_rev h hE) dX5_init_26
