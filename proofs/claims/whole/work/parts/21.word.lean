def f_X1_set (x0 : Nat) (x1 : Int64) (x3 : Int64) (S : mt_S) : Option (mt_S) :=
  if mt_isK S x0 1 = true then
   if 1 ≤ x1 then
    if x1 = 0 then none else
    Option.bind (mt_wL S x0 1 0 x1) fun S1 =>
    Option.bind (mt_wL S1 x0 1 1 ((3 * x1) - (2 * x3))) fun S2 =>
    Option.bind (mt_wL S2 x0 1 2 ((((x3 * x3) + 1) / x1) - (3 * x3))) fun S3 =>
    Option.bind (mt_wL S3 x0 1 3 (((9 * x1) * x1) - 4)) fun S4 =>
    Option.bind (mt_wL S4 x0 1 4 ((3 * x1) - 1)) fun S5 =>
    some S5
   else
    some S
  else none
theorem k_X1_set {x0 : Nat} {x1 : Int64} {x3 : Int64} {S : mt_S} {S' : mt_S} (h : f_X1_set x0 x1 x3 S = some S') : mt_isK S x0 1 = true := by
  unfold f_X1_set at h
  exact (mt_gd h).1
set_option maxHeartbeats 4000000 in
set_option maxRecDepth 100000 in
theorem m_X1_set {B : mt_B}  {x0 : Nat} {x1 : Int64} {x3 : Int64} {S : mt_S} {S' : mt_S} (h : f_X1_set x0 x1 x3 S = some S') : mt_M B yX1_set cX1_set 7 none 1 [mt_rf B x0, .long x1, .long x3] S none S' := by
  unfold f_X1_set at h
  refine mt_M.of (by decide) (Nat.le_of_ble_eq_true rfl) (fun E hC hE => ?_)
  obtain ⟨hk0, h⟩ := mt_gd h
  refine go_lload_n hC 1 dX1_set_0 rfl rfl ?_
  refine go_lconst (v := 1) hC dX1_set_1 (by decide) ?_
  refine go_lcmp_ge hC (tgt := 7) dX1_set_2 dX1_set_3 (by decide) (fun hc => ?_) (fun hc => ?_)
  · have h := mt_ip h hc
    refine go_lload_n hC 2 dX1_set_7 rfl rfl ?_
    refine go_lload_n hC 2 dX1_set_8 rfl rfl ?_
    refine go_lmul hC dX1_set_9 ?_
    refine go_lconst (v := 1) hC dX1_set_10 (by decide) ?_
    refine go_ladd hC dX1_set_11 ?_
    refine go_lload_n hC 1 dX1_set_12 rfl rfl ?_
    have g6 : ¬ x1 = 0 := fun q => by rw [if_pos q] at h; cases h
    have h := mt_in' h g6
    refine go_ldiv hC dX1_set_13 g6 ?_
    refine go_lstore hC [1, 2, 3, 0] (lv1 := [(0, mt_rf B x0), (1, .long x1), (3, .long x3), (5, .long (((x3 * x3) + 1) / x1))]) dX1_set_14 (by decide) rfl ?_
    refine go_aload_n hC 0 dX1_set_16 rfl rfl ?_
    refine go_lload_n hC 1 dX1_set_17 rfl rfl ?_
    obtain ⟨S1, e1, h⟩ := mt_ob h
    refine go_putL hC mt_flX1_17 e1 dX1_set_18 ?_
    refine go_aload_n hC 0 dX1_set_21 rfl rfl ?_
    refine go_ldc2 hC dX1_set_22 mt_kX1_9 ?_
    refine go_lload_n hC 1 dX1_set_25 rfl rfl ?_
    refine go_lmul hC dX1_set_26 ?_
    refine go_ldc2 hC dX1_set_27 mt_kX1_21 ?_
    refine go_lload_n hC 2 dX1_set_30 rfl rfl ?_
    refine go_lmul hC dX1_set_31 ?_
    refine go_lsub hC dX1_set_32 ?_
    obtain ⟨S2, e2, h⟩ := mt_ob h
    refine go_putL hC mt_flX1_23 e2 dX1_set_33 ?_
    refine go_aload_n hC 0 dX1_set_36 rfl rfl ?_
    refine go_lload hC 3 dX1_set_37 rfl ?_
    refine go_ldc2 hC dX1_set_39 mt_kX1_9 ?_
    refine go_lload_n hC 2 dX1_set_42 rfl rfl ?_
    refine go_lmul hC dX1_set_43 ?_
    refine go_lsub hC dX1_set_44 ?_
    obtain ⟨S3, e3, h⟩ := mt_ob h
    refine go_putL hC mt_flX1_26 e3 dX1_set_45 ?_
    refine go_aload_n hC 0 dX1_set_48 rfl rfl ?_
    refine go_ldc2 hC dX1_set_49 mt_kX1_29 ?_
    refine go_lload_n hC 1 dX1_set_52 rfl rfl ?_
    refine go_lmul hC dX1_set_53 ?_
    refine go_lload_n hC 1 dX1_set_54 rfl rfl ?_
    refine go_lmul hC dX1_set_55 ?_
    refine go_ldc2 hC dX1_set_56 mt_kX1_31 ?_
    refine go_lsub hC dX1_set_59 ?_
    obtain ⟨S4, e4, h⟩ := mt_ob h
    refine go_putL hC mt_flX1_33 e4 dX1_set_60 ?_
    refine go_aload_n hC 0 dX1_set_63 rfl rfl ?_
    refine go_ldc2 hC dX1_set_64 mt_kX1_9 ?_
    refine go_lload_n hC 1 dX1_set_67 rfl rfl ?_
    refine go_lmul hC dX1_set_68 ?_
    refine go_lconst (v := 1) hC dX1_set_69 (by decide) ?_
    refine go_lsub hC dX1_set_70 ?_
    obtain ⟨S5, e5, h⟩ := mt_ob h
    refine go_putL hC mt_flX1_36 e5 dX1_set_71 ?_
    exact go_vret hC (mt_rev h hE) dX1_set_74
  · have h := mt_in' h hc
    exact go_vret hC (mt_rev h hE) dX1_set_6
set_option maxHeartbeats 4000000 in
set_option maxRecDepth 100000 in
theorem ov_X1_set {T : mt_S}  {x0 : Nat} {x1 : Int64} {x3 : Int64} {S : mt_S} {S' : mt_S} (hp : mt_cp S T) (h : f_X1_set x0 x1 x3 S = some S') : f_X1_set x0 x1 x3 (mt_ov S T) = some (mt_ov S' T) ∧ mt_cp S' T := by
  unfold f_X1_set at h ⊢
  obtain ⟨hg, h⟩ := mt_gd h
  refine ov_t (ov_K hp hg) ?_
  by_cases hc : 1 ≤ x1
  · have h := mt_ip h hc
    refine ov_t hc ?_
    have hz : ¬ x1 = 0 := fun q => by rw [if_pos q] at h; cases h
    have h := mt_in' h hz
    refine ov_f hz ?_
    obtain ⟨S1, e1, h⟩ := mt_ob h
    obtain ⟨o_, hp⟩ := ov_wL hp e1
    refine ov_b o_ ?_
    obtain ⟨S2, e2, h⟩ := mt_ob h
    obtain ⟨o_, hp⟩ := ov_wL hp e2
    refine ov_b o_ ?_
    obtain ⟨S3, e3, h⟩ := mt_ob h
    obtain ⟨o_, hp⟩ := ov_wL hp e3
    refine ov_b o_ ?_
    obtain ⟨S4, e4, h⟩ := mt_ob h
    obtain ⟨o_, hp⟩ := ov_wL hp e4
    refine ov_b o_ ?_
    obtain ⟨S5, e5, h⟩ := mt_ob h
    obtain ⟨o_, hp⟩ := ov_wL hp e5
    refine ov_b o_ ?_
    exact ov_retv hp h
  · have h := mt_in' h hc
    refine ov_f hc ?_
    exact ov_retv hp h
def f_X1_coefficient (x0 : Nat) (x1 : Int32) (S : mt_S) : Option (Int64 × mt_S) :=
  if mt_isK S x0 1 = true then
   if x1 = 0 then
    Option.bind (mt_rL S x0 1 0) fun v3 =>
    some (v3, S)
   else
   if x1 = 1 then
    Option.bind (mt_rL S x0 1 1) fun v2 =>
    some (v2, S)
   else
    Option.bind (mt_rL S x0 1 2) fun v1 =>
    some (v1, S)
  else none
theorem k_X1_coefficient {x0 : Nat} {x1 : Int32} {S : mt_S} {r : Int64} {S' : mt_S} (h : f_X1_coefficient x0 x1 S = some (r, S')) : mt_isK S x0 1 = true := by
  unfold f_X1_coefficient at h
  exact (mt_gd h).1
set_option maxHeartbeats 4000000 in
set_option maxRecDepth 100000 in
theorem m_X1_coefficient {B : mt_B}  {x0 : Nat} {x1 : Int32} {S : mt_S} {r : Int64} {S' : mt_S} (h : f_X1_coefficient x0 x1 S = some (r, S')) : mt_M B yX1_coefficient cX1_coefficient 2 (some .long) 1 [mt_rf B x0, .int x1] S (some (.long r)) S' := by
  unfold f_X1_coefficient at h
  refine mt_M.of (by decide) (Nat.le_of_ble_eq_true rfl) (fun E hC hE => ?_)
  obtain ⟨hk0, h⟩ := mt_gd h
  refine go_iload_n hC 1 dX1_coefficient_0 rfl rfl ?_
  refine go_if_ne hC (tgt := 9) dX1_coefficient_1 (by decide) (fun hc => ?_) (fun hc => ?_)
  · have h := mt_in' h hc
    refine go_iload_n hC 1 dX1_coefficient_9 rfl rfl ?_
    refine go_iconst (v := 1) hC dX1_coefficient_10 (by decide) ?_
    refine go_icmp_ne hC (tgt := 21) dX1_coefficient_11 (by decide) (fun hc => ?_) (fun hc => ?_)
    · have h := mt_in' h hc
      refine go_aload_n hC 0 dX1_coefficient_21 rfl rfl ?_
      obtain ⟨v1, e1, h⟩ := mt_ob h
      refine go_getL hC mt_flX1_26 e1 dX1_coefficient_22 ?_
      exact go_lret hC (mt_rel h hE) dX1_coefficient_25
    · have h := mt_ip h hc
      refine go_aload_n hC 0 dX1_coefficient_14 rfl rfl ?_
      obtain ⟨v2, e2, h⟩ := mt_ob h
      refine go_getL hC mt_flX1_23 e2 dX1_coefficient_15 ?_
      refine go_goto hC (tgt := 25) dX1_coefficient_18 (by decide) ?_
      exact go_lret hC (mt_rel h hE) dX1_coefficient_25
  · have h := mt_ip h hc
    refine go_aload_n hC 0 dX1_coefficient_4 rfl rfl ?_
    obtain ⟨v3, e3, h⟩ := mt_ob h
    refine go_getL hC mt_flX1_17 e3 dX1_coefficient_5 ?_
    exact go_lret hC (mt_rel h hE) dX1_coefficient_8
set_option maxHeartbeats 4000000 in
set_option maxRecDepth 100000 in
theorem ov_X1_coefficient {T : mt_S}  {x0 : Nat} {x1 : Int32} {S : mt_S} {r : Int64} {S' : mt_S} (hp : mt_cp S T) (h : f_X1_coefficient x0 x1 S = some (r, S')) : f_X1_coefficient x0 x1 (mt_ov S T) = some (r, mt_ov S' T) ∧ mt_cp S' T := by
  unfold f_X1_coefficient at h ⊢
  obtain ⟨hg, h⟩ := mt_gd h
  refine ov_t (ov_K hp hg) ?_
  by_cases hc : x1 = 0
  · have h := mt_ip h hc
    refine ov_t hc ?_
    obtain ⟨v3, e3, h⟩ := mt_ob h
    refine ov_b (ov_rL hp e3) ?_
    exact ov_ret hp h
  · have h := mt_in' h hc
    refine ov_f hc ?_
    by_cases hc : x1 = 1
    · have h := mt_ip h hc
      refine ov_t hc ?_
      obtain ⟨v2, e2, h⟩ := mt_ob h
      refine ov_b (ov_rL hp e2) ?_
      exact ov_ret hp h
    · have h := mt_in' h hc
      refine ov_f hc ?_
      obtain ⟨v1, e1, h⟩ := mt_ob h
      refine ov_b (ov_rL hp e1) ?_
      exact ov_ret hp h
def f_X1_valueAt (x0 : Nat) (x1 : Int64) (x3 : Int64) (S : mt_S) : Option (Int64 × mt_S) :=
  if mt_isK S x0 1 = true then
   Option.bind (mt_rL S x0 1 0) fun v1 =>
   Option.bind (mt_rL S x0 1 1) fun v2 =>
   Option.bind (mt_rL S x0 1 2) fun v3 =>
   some ((((v1 * x1) * x1) + ((v2 * x1) * x3)) + ((v3 * x3) * x3), S)
  else none
theorem k_X1_valueAt {x0 : Nat} {x1 : Int64} {x3 : Int64} {S : mt_S} {r : Int64} {S' : mt_S} (h : f_X1_valueAt x0 x1 x3 S = some (r, S')) : mt_isK S x0 1 = true := by
  unfold f_X1_valueAt at h
  exact (mt_gd h).1
set_option maxHeartbeats 4000000 in
set_option maxRecDepth 100000 in
theorem m_X1_valueAt {B : mt_B}  {x0 : Nat} {x1 : Int64} {x3 : Int64} {S : mt_S} {r : Int64} {S' : mt_S} (h : f_X1_valueAt x0 x1 x3 S = some (r, S')) : mt_M B yX1_valueAt cX1_valueAt 5 (some .long) 1 [mt_rf B x0, .long x1, .long x3] S (some (.long r)) S' := by
  unfold f_X1_valueAt at h
  refine mt_M.of (by decide) (Nat.le_of_ble_eq_true rfl) (fun E hC hE => ?_)
  obtain ⟨hk0, h⟩ := mt_gd h
  refine go_aload_n hC 0 dX1_valueAt_0 rfl rfl ?_
  obtain ⟨v1, e1, h⟩ := mt_ob h
  refine go_getL hC mt_flX1_17 e1 dX1_valueAt_1 ?_
  refine go_lload_n hC 1 dX1_valueAt_4 rfl rfl ?_
  refine go_lmul hC dX1_valueAt_5 ?_
  refine go_lload_n hC 1 dX1_valueAt_6 rfl rfl ?_
  refine go_lmul hC dX1_valueAt_7 ?_
  refine go_aload_n hC 0 dX1_valueAt_8 rfl rfl ?_
  obtain ⟨v2, e2, h⟩ := mt_ob h
  refine go_getL hC mt_flX1_23 e2 dX1_valueAt_9 ?_
  refine go_lload_n hC 1 dX1_valueAt_12 rfl rfl ?_
  refine go_lmul hC dX1_valueAt_13 ?_
  refine go_lload_n hC 2 dX1_valueAt_14 rfl rfl ?_
  refine go_lmul hC dX1_valueAt_15 ?_
  refine go_ladd hC dX1_valueAt_16 ?_
  refine go_aload_n hC 0 dX1_valueAt_17 rfl rfl ?_
  obtain ⟨v3, e3, h⟩ := mt_ob h
  refine go_getL hC mt_flX1_26 e3 dX1_valueAt_18 ?_
  refine go_lload_n hC 2 dX1_valueAt_21 rfl rfl ?_
  refine go_lmul hC dX1_valueAt_22 ?_
  refine go_lload_n hC 2 dX1_valueAt_23 rfl rfl ?_
  refine go_lmul hC dX1_valueAt_24 ?_
  refine go_ladd hC dX1_valueAt_25 ?_
  exact go_lret hC (mt_rel h hE) dX1_valueAt_26
set_option maxHeartbeats 4000000 in
set_option maxRecDepth 100000 in
theorem ov_X1_valueAt {T : mt_S}  {x0 : Nat} {x1 : Int64} {x3 : Int64} {S : mt_S} {r : Int64} {S' : mt_S} (hp : mt_cp S T) (h : f_X1_valueAt x0 x1 x3 S = some (r, S')) : f_X1_valueAt x0 x1 x3 (mt_ov S T) = some (r, mt_ov S' T) ∧ mt_cp S' T := by
  unfold f_X1_valueAt at h ⊢
  obtain ⟨hg, h⟩ := mt_gd h
  refine ov_t (ov_K hp hg) ?_
  obtain ⟨v1, e1, h⟩ := mt_ob h
  refine ov_b (ov_rL hp e1) ?_
  obtain ⟨v2, e2, h⟩ := mt_ob h
  refine ov_b (ov_rL hp e2) ?_
  obtain ⟨v3, e3, h⟩ := mt_ob h
  refine ov_b (ov_rL hp e3) ?_
  exact ov_ret hp h
def f_X1_roundSize (x0 : Nat) (S : mt_S) : Option (Int32 × mt_S) :=
  if mt_isK S x0 1 = true then
   Option.bind (mt_rI S x0 1 5) fun v1 =>
   some (v1, S)
  else none
theorem k_X1_roundSize {x0 : Nat} {S : mt_S} {r : Int32} {S' : mt_S} (h : f_X1_roundSize x0 S = some (r, S')) : mt_isK S x0 1 = true := by
  unfold f_X1_roundSize at h
  exact (mt_gd h).1
set_option maxHeartbeats 4000000 in
set_option maxRecDepth 100000 in
theorem m_X1_roundSize {B : mt_B}  {x0 : Nat} {S : mt_S} {r : Int32} {S' : mt_S} (h : f_X1_roundSize x0 S = some (r, S')) : mt_M B yX1_roundSize cX1_roundSize 1 (some .int) 1 [mt_rf B x0] S (some (.int r)) S' := by
  unfold f_X1_roundSize at h
  refine mt_M.of (by decide) (Nat.le_of_ble_eq_true rfl) (fun E hC hE => ?_)
  obtain ⟨hk0, h⟩ := mt_gd h
  refine go_aload_n hC 0 dX1_roundSize_0 rfl rfl ?_
  obtain ⟨v1, e1, h⟩ := mt_ob h
  refine go_getI hC mt_flX1_39 e1 dX1_roundSize_1 ?_
  exact go_iret hC (mt_rei h hE) dX1_roundSize_4
set_option maxHeartbeats 4000000 in
set_option maxRecDepth 100000 in
theorem ov_X1_roundSize {T : mt_S}  {x0 : Nat} {S : mt_S} {r : Int32} {S' : mt_S} (hp : mt_cp S T) (h : f_X1_roundSize x0 S = some (r, S')) : f_X1_roundSize x0 (mt_ov S T) = some (r, mt_ov S' T) ∧ mt_cp S' T := by
  unfold f_X1_roundSize at h ⊢
  obtain ⟨hg, h⟩ := mt_gd h
  refine ov_t (ov_K hp hg) ?_
  obtain ⟨v1, e1, h⟩ := mt_ob h
  refine ov_b (ov_rI hp e1) ?_
  exact ov_ret hp h
def f_X1_roundLeast (x0 : Nat) (S : mt_S) : Option (Int64 × mt_S) :=
  if mt_isK S x0 1 = true then
   Option.bind (mt_rL S x0 1 6) fun v1 =>
   some (v1, S)
  else none
theorem k_X1_roundLeast {x0 : Nat} {S : mt_S} {r : Int64} {S' : mt_S} (h : f_X1_roundLeast x0 S = some (r, S')) : mt_isK S x0 1 = true := by
  unfold f_X1_roundLeast at h
  exact (mt_gd h).1
set_option maxHeartbeats 4000000 in
set_option maxRecDepth 100000 in
theorem m_X1_roundLeast {B : mt_B}  {x0 : Nat} {S : mt_S} {r : Int64} {S' : mt_S} (h : f_X1_roundLeast x0 S = some (r, S')) : mt_M B yX1_roundLeast cX1_roundLeast 1 (some .long) 1 [mt_rf B x0] S (some (.long r)) S' := by
  unfold f_X1_roundLeast at h
  refine mt_M.of (by decide) (Nat.le_of_ble_eq_true rfl) (fun E hC hE => ?_)
  obtain ⟨hk0, h⟩ := mt_gd h
  refine go_aload_n hC 0 dX1_roundLeast_0 rfl rfl ?_
  obtain ⟨v1, e1, h⟩ := mt_ob h
  refine go_getL hC mt_flX1_43 e1 dX1_roundLeast_1 ?_
  exact go_lret hC (mt_rel h hE) dX1_roundLeast_4
set_option maxHeartbeats 4000000 in
set_option maxRecDepth 100000 in
theorem ov_X1_roundLeast {T : mt_S}  {x0 : Nat} {S : mt_S} {r : Int64} {S' : mt_S} (hp : mt_cp S T) (h : f_X1_roundLeast x0 S = some (r, S')) : f_X1_roundLeast x0 (mt_ov S T) = some (r, mt_ov S' T) ∧ mt_cp S' T := by
  unfold f_X1_roundLeast at h ⊢
  obtain ⟨hg, h⟩ := mt_gd h
  refine ov_t (ov_K hp hg) ?_
  obtain ⟨v1, e1, h⟩ := mt_ob h
  refine ov_b (ov_rL hp e1) ?_
  exact ov_ret hp h
def f_X1_goToNext (x0 : Nat) (S : mt_S) : Option (mt_S) :=
  if mt_isK S x0 1 = true then
   Option.bind (mt_rL S x0 1 2) fun v1 =>
   mt_b2 (f_J9_abs_067f4 v1 S) fun v3 S2 =>
   if (2 * v3) = 0 then
    some S2
   else
    Option.bind (mt_rL S2 x0 1 4) fun v4 =>
    Option.bind (mt_rL S2 x0 1 4) fun v5 =>
    Option.bind (mt_rL S2 x0 1 1) fun v6 =>
    mt_b2 (f_J9_floorMod_f86c9 (v5 + v6) (2 * v3) S2) fun v8 S7 =>
    Option.bind (mt_rL S7 x0 1 3) fun v9 =>
    Option.bind (mt_rL S7 x0 1 2) fun v10 =>
    if (4 * v10) = 0 then none else
    Option.bind (mt_rL S7 x0 1 2) fun v11 =>
    Option.bind (mt_wL S7 x0 1 0 v11) fun S12 =>
    Option.bind (mt_wL S12 x0 1 1 (v4 - v8)) fun S13 =>
    Option.bind (mt_wL S13 x0 1 2 ((((v4 - v8) * (v4 - v8)) - v9) / (4 * v10))) fun S14 =>
    some S14
  else none
theorem k_X1_goToNext {x0 : Nat} {S : mt_S} {S' : mt_S} (h : f_X1_goToNext x0 S = some S') : mt_isK S x0 1 = true := by
  unfold f_X1_goToNext at h
  exact (mt_gd h).1
set_option maxHeartbeats 4000000 in
set_option maxRecDepth 100000 in
theorem m_X1_goToNext {B : mt_B}  {x0 : Nat} {S : mt_S} {S' : mt_S} (h : f_X1_goToNext x0 S = some S') : mt_M B yX1_goToNext cX1_goToNext 7 none 2 [mt_rf B x0] S none S' := by
  unfold f_X1_goToNext at h
  refine mt_M.of (by decide) (Nat.le_of_ble_eq_true rfl) (fun E hC hE => ?_)
  obtain ⟨hk0, h⟩ := mt_gd h
  refine go_ldc2 hC dX1_goToNext_0 mt_kX1_21 ?_
  refine go_aload_n hC 0 dX1_goToNext_3 rfl rfl ?_
  obtain ⟨v1, e1, h⟩ := mt_ob h
  refine go_getL hC mt_flX1_26 e1 dX1_goToNext_4 ?_
  obtain ⟨v3, S2, e3, h⟩ := mt_ob2 h
  refine go_callSl hC [.long v1] [.long 2] (m_J9_abs_067f4 e3) mt_csX1_46 dX1_goToNext_7 rfl rfl (by decide) (Nat.le_of_ble_eq_true rfl) ⟨Nat.le_refl _, Nat.le_refl _⟩ ?_
  refine go_lmul hC dX1_goToNext_10 ?_
  refine go_lstore_n hC [1, 0] (lv1 := [(0, mt_rf B x0), (1, .long (2 * v3))]) dX1_goToNext_11 rfl (by decide) rfl ?_
  refine go_lload_n hC 1 dX1_goToNext_12 rfl rfl ?_
  refine go_lconst (v := 0) hC dX1_goToNext_13 (by decide) ?_
  refine go_lcmp_ne hC (tgt := 19) dX1_goToNext_14 dX1_goToNext_15 (by decide) (fun hc => ?_) (fun hc => ?_)
  · have h := mt_in' h hc
    refine go_aload_n hC 0 dX1_goToNext_19 rfl rfl ?_
    obtain ⟨v4, e4, h⟩ := mt_ob h
    refine go_getL hC mt_flX1_36 e4 dX1_goToNext_20 ?_
    refine go_aload_n hC 0 dX1_goToNext_23 rfl rfl ?_
    obtain ⟨v5, e5, h⟩ := mt_ob h
    refine go_getL hC mt_flX1_36 e5 dX1_goToNext_24 ?_
    refine go_aload_n hC 0 dX1_goToNext_27 rfl rfl ?_
    obtain ⟨v6, e6, h⟩ := mt_ob h
    refine go_getL hC mt_flX1_23 e6 dX1_goToNext_28 ?_
    refine go_ladd hC dX1_goToNext_31 ?_
    refine go_lload_n hC 1 dX1_goToNext_32 rfl rfl ?_
    obtain ⟨v8, S7, e8, h⟩ := mt_ob2 h
    refine go_callSl hC [.long (v5 + v6), .long (2 * v3)] [.long v4] (m_J9_floorMod_f86c9 e8) mt_csX1_60 dX1_goToNext_33 rfl rfl (by decide) (Nat.le_of_ble_eq_true rfl) ⟨Nat.le_refl _, Nat.le_refl _⟩ ?_
    refine go_lsub hC dX1_goToNext_36 ?_
    refine go_lstore_n hC [1, 2, 0] (lv1 := [(0, mt_rf B x0), (1, .long (2 * v3)), (3, .long (v4 - v8))]) dX1_goToNext_37 rfl (by decide) rfl ?_
    refine go_lload_n hC 2 dX1_goToNext_38 rfl rfl ?_
    refine go_lload_n hC 2 dX1_goToNext_39 rfl rfl ?_
    refine go_lmul hC dX1_goToNext_40 ?_
    refine go_aload_n hC 0 dX1_goToNext_41 rfl rfl ?_
    obtain ⟨v9, e9, h⟩ := mt_ob h
    refine go_getL hC mt_flX1_33 e9 dX1_goToNext_42 ?_
    refine go_lsub hC dX1_goToNext_45 ?_
    refine go_ldc2 hC dX1_goToNext_46 mt_kX1_31 ?_
    refine go_aload_n hC 0 dX1_goToNext_49 rfl rfl ?_
    obtain ⟨v10, e10, h⟩ := mt_ob h
    refine go_getL hC mt_flX1_26 e10 dX1_goToNext_50 ?_
    refine go_lmul hC dX1_goToNext_53 ?_
    have g15 : ¬ (4 * v10) = 0 := fun q => by rw [if_pos q] at h; cases h
    have h := mt_in' h g15
    refine go_ldiv hC dX1_goToNext_54 g15 ?_
    refine go_lstore hC [1, 2, 3, 0] (lv1 := [(0, mt_rf B x0), (1, .long (2 * v3)), (3, .long (v4 - v8)), (5, .long ((((v4 - v8) * (v4 - v8)) - v9) / (4 * v10)))]) dX1_goToNext_55 (by decide) rfl ?_
    refine go_aload_n hC 0 dX1_goToNext_57 rfl rfl ?_
    refine go_aload_n hC 0 dX1_goToNext_58 rfl rfl ?_
    obtain ⟨v11, e11, h⟩ := mt_ob h
    refine go_getL hC mt_flX1_26 e11 dX1_goToNext_59 ?_
    obtain ⟨S12, e12, h⟩ := mt_ob h
    refine go_putL hC mt_flX1_17 e12 dX1_goToNext_62 ?_
    refine go_aload_n hC 0 dX1_goToNext_65 rfl rfl ?_
    refine go_lload_n hC 2 dX1_goToNext_66 rfl rfl ?_
    obtain ⟨S13, e13, h⟩ := mt_ob h
    refine go_putL hC mt_flX1_23 e13 dX1_goToNext_67 ?_
    refine go_aload_n hC 0 dX1_goToNext_70 rfl rfl ?_
    refine go_lload hC 3 dX1_goToNext_71 rfl ?_
    obtain ⟨S14, e14, h⟩ := mt_ob h
    refine go_putL hC mt_flX1_26 e14 dX1_goToNext_73 ?_
    exact go_vret hC (mt_rev h hE) dX1_goToNext_76
  · have h := mt_ip h hc
    exact go_vret hC (mt_rev h hE) dX1_goToNext_18
set_option maxHeartbeats 4000000 in
set_option maxRecDepth 100000 in
theorem ov_X1_goToNext {T : mt_S}  {x0 : Nat} {S : mt_S} {S' : mt_S} (hp : mt_cp S T) (h : f_X1_goToNext x0 S = some S') : f_X1_goToNext x0 (mt_ov S T) = some (mt_ov S' T) ∧ mt_cp S' T := by
  unfold f_X1_goToNext at h ⊢
  obtain ⟨hg, h⟩ := mt_gd h
  refine ov_t (ov_K hp hg) ?_
  obtain ⟨v1, e1, h⟩ := mt_ob h
  refine ov_b (ov_rL hp e1) ?_
  obtain ⟨v3, S2, e3, h⟩ := mt_ob2 h
  obtain ⟨o_, hp⟩ := ov_J9_abs_067f4 hp e3
  refine ov_b2 o_ ?_
  by_cases hc : (2 * v3) = 0
  · have h := mt_ip h hc
    refine ov_t hc ?_
    exact ov_retv hp h
  · have h := mt_in' h hc
    refine ov_f hc ?_
    obtain ⟨v4, e4, h⟩ := mt_ob h
    refine ov_b (ov_rL hp e4) ?_
    obtain ⟨v5, e5, h⟩ := mt_ob h
    refine ov_b (ov_rL hp e5) ?_
    obtain ⟨v6, e6, h⟩ := mt_ob h
    refine ov_b (ov_rL hp e6) ?_
    obtain ⟨v8, S7, e8, h⟩ := mt_ob2 h
    obtain ⟨o_, hp⟩ := ov_J9_floorMod_f86c9 hp e8
    refine ov_b2 o_ ?_
    obtain ⟨v9, e9, h⟩ := mt_ob h
    refine ov_b (ov_rL hp e9) ?_
    obtain ⟨v10, e10, h⟩ := mt_ob h
    refine ov_b (ov_rL hp e10) ?_
    have hz : ¬ (4 * v10) = 0 := fun q => by rw [if_pos q] at h; cases h
    have h := mt_in' h hz
    refine ov_f hz ?_
    obtain ⟨v11, e11, h⟩ := mt_ob h
    refine ov_b (ov_rL hp e11) ?_
    obtain ⟨S12, e12, h⟩ := mt_ob h
    obtain ⟨o_, hp⟩ := ov_wL hp e12
    refine ov_b o_ ?_
    obtain ⟨S13, e13, h⟩ := mt_ob h
    obtain ⟨o_, hp⟩ := ov_wL hp e13
    refine ov_b o_ ?_
    obtain ⟨S14, e14, h⟩ := mt_ob h
    obtain ⟨o_, hp⟩ := ov_wL hp e14
    refine ov_b o_ ?_
    exact ov_retv hp h
def f_X1_goRound_L29s (rc : Nat → Int64 → Int64 → Int32 → mt_S → Option (mt_S)) (x0 : Nat) (x1 : Int64) (x3 : Int64) (x5 : Int32) (S : mt_S) : Option (mt_S) :=
  if 1000000 ≤ x5 then
   some S
  else
   Option.bind (mt_rL S x0 1 6) fun v8 =>
   Option.bind (mt_rL S x0 1 0) fun v9 =>
   mt_b2 (f_J9_abs_067f4 v9 S) fun v11 S10 =>
   mt_b2 (f_J9_min_f86c9 v8 v11 S10) fun v13 S12 =>
   Option.bind (mt_wL S12 x0 1 6 v13) fun S14 =>
   Option.bind (f_X1_goToNext x0 S14) fun S15 =>
   Option.bind (mt_rI S15 x0 1 5) fun v16 =>
   Option.bind (mt_wI S15 x0 1 5 (v16 + 1)) fun S17 =>
   Option.bind (mt_rL S17 x0 1 0) fun v18 =>
   if v18 = x1 then
    Option.bind (mt_rL S17 x0 1 1) fun v19 =>
    if v19 = x3 then
     some S17
    else
     rc x0 x1 x3 (x5 + 1) S17
   else
    rc x0 x1 x3 (x5 + 1) S17
def f_X1_goRound_L29 : Nat → Nat → Int64 → Int64 → Int32 → mt_S → Option (mt_S)
  | 0 => fun _ _ _ _ _ => none
  | n + 1 => f_X1_goRound_L29s (f_X1_goRound_L29 n)
set_option maxHeartbeats 4000000 in
set_option maxRecDepth 100000 in
theorem m_X1_goRound_L29 {B : mt_B} {E : mt_E} {S' : mt_S} (hC : mt_Cx B E cX1_goRound RX1 none 6 3 0 0) (hE : mt_End B E (0, 0) none S') : ∀ (n : Nat) (x0 : Nat) (x1 : Int64) (x3 : Int64) (x5 : Int32) (S : mt_S), f_X1_goRound_L29 n x0 x1 x3 x5 S = some S' → mt_Go B E (0, 0) S 29 [(0, mt_rf B x0), (1, .long x1), (3, .long x3), (5, .int x5)] [] := by
  intro n
  induction n with
  | zero =>
    intro x0 x1 x3 x5 S h
    cases h
  | succ n ih =>
    intro x0 x1 x3 x5 S h
    have h : f_X1_goRound_L29s (f_X1_goRound_L29 n) x0 x1 x3 x5 S = some S' := h
    unfold f_X1_goRound_L29s at h
    refine go_iload hC 3 dX1_goRound_29 rfl ?_
    refine go_ldc hC dX1_goRound_31 mt_kX1_52 ?_
    refine go_icmp_ge hC (tgt := 93) dX1_goRound_33 (by decide) (fun hc => ?_) (fun hc => ?_)
    · have h := mt_ip h hc
      exact go_vret hC (mt_rev h hE) dX1_goRound_93
    · have h := mt_in' h hc
      refine go_aload_n hC 0 dX1_goRound_36 rfl rfl ?_
      refine go_aload_n hC 0 dX1_goRound_37 rfl rfl ?_
      obtain ⟨v8, e8, h⟩ := mt_ob h
      refine go_getL hC mt_flX1_43 e8 dX1_goRound_38 ?_
      refine go_aload_n hC 0 dX1_goRound_41 rfl rfl ?_
      obtain ⟨v9, e9, h⟩ := mt_ob h
      refine go_getL hC mt_flX1_17 e9 dX1_goRound_42 ?_
      obtain ⟨v11, S10, e11, h⟩ := mt_ob2 h
      refine go_callSl hC [.long v9] [.long v8, mt_rf B x0] (m_J9_abs_067f4 e11) mt_csX1_46 dX1_goRound_45 rfl rfl (by decide) (Nat.le_of_ble_eq_true rfl) ⟨Nat.le_refl _, Nat.le_refl _⟩ ?_
      obtain ⟨v13, S12, e13, h⟩ := mt_ob2 h
      refine go_callSl hC [.long v8, .long v11] [mt_rf B x0] (m_J9_min_f86c9 e13) mt_csX1_53 dX1_goRound_48 rfl rfl (by decide) (Nat.le_of_ble_eq_true rfl) ⟨Nat.le_refl _, Nat.le_refl _⟩ ?_
      obtain ⟨S14, e14, h⟩ := mt_ob h
      refine go_putL hC mt_flX1_43 e14 dX1_goRound_51 ?_
      refine go_aload_n hC 0 dX1_goRound_54 rfl rfl ?_
      obtain ⟨S15, e15, h⟩ := mt_ob h
      refine go_callVv hC [] [] (m_X1_goToNext e15) mt_cvX1_57 (k_X1_goToNext e15) dX1_goRound_55 rfl rfl (by decide) (Nat.le_of_ble_eq_true rfl) ⟨Nat.le_refl _, Nat.le_refl _⟩ ?_
      refine go_aload_n hC 0 dX1_goRound_58 rfl rfl ?_
      refine go_dup hC dX1_goRound_59 rfl ?_
      obtain ⟨v16, e16, h⟩ := mt_ob h
      refine go_getI hC mt_flX1_39 e16 dX1_goRound_60 ?_
      refine go_iconst (v := 1) hC dX1_goRound_63 (by decide) ?_
      refine go_iadd hC dX1_goRound_64 ?_
      obtain ⟨S17, e17, h⟩ := mt_ob h
      refine go_putI hC mt_flX1_39 e17 dX1_goRound_65 ?_
      refine go_aload_n hC 0 dX1_goRound_68 rfl rfl ?_
      obtain ⟨v18, e18, h⟩ := mt_ob h
      refine go_getL hC mt_flX1_17 e18 dX1_goRound_69 ?_
      refine go_lload_n hC 1 dX1_goRound_72 rfl rfl ?_
      refine go_lcmp_ne hC (tgt := 87) dX1_goRound_73 dX1_goRound_74 (by decide) (fun hc => ?_) (fun hc => ?_)
      · have h := mt_in' h hc
        refine go_iinc hC 3 [1, 2, 3, 0] (v := x5 + 1) (lv1 := [(0, mt_rf B x0), (1, .long x1), (3, .long x3), (5, .int (x5 + 1))]) dX1_goRound_87 rfl rfl (by decide) rfl ?_
        refine go_goto hC (tgt := 29) dX1_goRound_90 (by decide) ?_
        exact ih _ _ _ _ _ h
      · have h := mt_ip h hc
        refine go_aload_n hC 0 dX1_goRound_77 rfl rfl ?_
        obtain ⟨v19, e19, h⟩ := mt_ob h
        refine go_getL hC mt_flX1_23 e19 dX1_goRound_78 ?_
        refine go_lload_n hC 2 dX1_goRound_81 rfl rfl ?_
        refine go_lcmp_ne hC (tgt := 87) dX1_goRound_82 dX1_goRound_83 (by decide) (fun hc => ?_) (fun hc => ?_)
        · have h := mt_in' h hc
          refine go_iinc hC 3 [1, 2, 3, 0] (v := x5 + 1) (lv1 := [(0, mt_rf B x0), (1, .long x1), (3, .long x3), (5, .int (x5 + 1))]) dX1_goRound_87 rfl rfl (by decide) rfl ?_
          refine go_goto hC (tgt := 29) dX1_goRound_90 (by decide) ?_
          exact ih _ _ _ _ _ h
        · have h := mt_ip h hc
          exact go_vret hC (mt_rev h hE) dX1_goRound_86
set_option maxHeartbeats 4000000 in
set_option maxRecDepth 100000 in
theorem ov_X1_goRound_L29 {T : mt_S} {S' : mt_S} : ∀ (n : Nat) (x0 : Nat) (x1 : Int64) (x3 : Int64) (x5 : Int32) (S : mt_S), mt_cp S T → f_X1_goRound_L29 n x0 x1 x3 x5 S = some S' → f_X1_goRound_L29 n x0 x1 x3 x5 (mt_ov S T) = some (mt_ov S' T) ∧ mt_cp S' T := by
  intro n
  induction n with
  | zero =>
    intro x0 x1 x3 x5 S hp h
    cases h
  | succ n ih =>
    intro x0 x1 x3 x5 S hp h
    have h : f_X1_goRound_L29s (f_X1_goRound_L29 n) x0 x1 x3 x5 S = some S' := h
    show f_X1_goRound_L29s (f_X1_goRound_L29 n) x0 x1 x3 x5 (mt_ov S T) = some (mt_ov S' T) ∧ mt_cp S' T
    unfold f_X1_goRound_L29s at h ⊢
    by_cases hc : 1000000 ≤ x5
    · have h := mt_ip h hc
      refine ov_t hc ?_
      exact ov_retv hp h
    · have h := mt_in' h hc
      refine ov_f hc ?_
      obtain ⟨v8, e8, h⟩ := mt_ob h
      refine ov_b (ov_rL hp e8) ?_
      obtain ⟨v9, e9, h⟩ := mt_ob h
      refine ov_b (ov_rL hp e9) ?_
      obtain ⟨v11, S10, e11, h⟩ := mt_ob2 h
      obtain ⟨o_, hp⟩ := ov_J9_abs_067f4 hp e11
      refine ov_b2 o_ ?_
      obtain ⟨v13, S12, e13, h⟩ := mt_ob2 h
      obtain ⟨o_, hp⟩ := ov_J9_min_f86c9 hp e13
      refine ov_b2 o_ ?_
      obtain ⟨S14, e14, h⟩ := mt_ob h
      obtain ⟨o_, hp⟩ := ov_wL hp e14
      refine ov_b o_ ?_
      obtain ⟨S15, e15, h⟩ := mt_ob h
      obtain ⟨o_, hp⟩ := ov_X1_goToNext hp e15
      refine ov_b o_ ?_
      obtain ⟨v16, e16, h⟩ := mt_ob h
      refine ov_b (ov_rI hp e16) ?_
      obtain ⟨S17, e17, h⟩ := mt_ob h
      obtain ⟨o_, hp⟩ := ov_wI hp e17
      refine ov_b o_ ?_
      obtain ⟨v18, e18, h⟩ := mt_ob h
      refine ov_b (ov_rL hp e18) ?_
      by_cases hc : v18 = x1
      · have h := mt_ip h hc
        refine ov_t hc ?_
        obtain ⟨v19, e19, h⟩ := mt_ob h
        refine ov_b (ov_rL hp e19) ?_
        by_cases hc : v19 = x3
        · have h := mt_ip h hc
          refine ov_t hc ?_
          exact ov_retv hp h
        · have h := mt_in' h hc
          refine ov_f hc ?_
          exact ih _ _ _ _ _ hp h
      · have h := mt_in' h hc
        refine ov_f hc ?_
        exact ih _ _ _ _ _ hp h
def f_X1_goRound (x0 : Nat) (S : mt_S) : Option (mt_S) :=
  if mt_isK S x0 1 = true then
   Option.bind (mt_rL S x0 1 0) fun v1 =>
   Option.bind (mt_rL S x0 1 1) fun v2 =>
   Option.bind (mt_wI S x0 1 5 0) fun S3 =>
   Option.bind (mt_rL S3 x0 1 0) fun v4 =>
   mt_b2 (f_J9_abs_067f4 v4 S3) fun v6 S5 =>
   Option.bind (mt_wL S5 x0 1 6 v6) fun S7 =>
   f_X1_goRound_L29 1000 x0 v1 v2 0 S7
  else none
theorem k_X1_goRound {x0 : Nat} {S : mt_S} {S' : mt_S} (h : f_X1_goRound x0 S = some S') : mt_isK S x0 1 = true := by
  unfold f_X1_goRound at h
  exact (mt_gd h).1
set_option maxHeartbeats 4000000 in
set_option maxRecDepth 100000 in
theorem m_X1_goRound {B : mt_B}  {x0 : Nat} {S : mt_S} {S' : mt_S} (h : f_X1_goRound x0 S = some S') : mt_M B yX1_goRound cX1_goRound 6 none 3 [mt_rf B x0] S none S' := by
  unfold f_X1_goRound at h
  refine mt_M.of (by decide) (Nat.le_of_ble_eq_true rfl) (fun E hC hE => ?_)
  obtain ⟨hk0, h⟩ := mt_gd h
  refine go_aload_n hC 0 dX1_goRound_0 rfl rfl ?_
  obtain ⟨v1, e1, h⟩ := mt_ob h
  refine go_getL hC mt_flX1_17 e1 dX1_goRound_1 ?_
  refine go_lstore_n hC [1, 0] (lv1 := [(0, mt_rf B x0), (1, .long v1)]) dX1_goRound_4 rfl (by decide) rfl ?_
  refine go_aload_n hC 0 dX1_goRound_5 rfl rfl ?_
  obtain ⟨v2, e2, h⟩ := mt_ob h
  refine go_getL hC mt_flX1_23 e2 dX1_goRound_6 ?_
  refine go_lstore_n hC [1, 2, 0] (lv1 := [(0, mt_rf B x0), (1, .long v1), (3, .long v2)]) dX1_goRound_9 rfl (by decide) rfl ?_
  refine go_aload_n hC 0 dX1_goRound_10 rfl rfl ?_
  refine go_iconst (v := 0) hC dX1_goRound_11 (by decide) ?_
  obtain ⟨S3, e3, h⟩ := mt_ob h
  refine go_putI hC mt_flX1_39 e3 dX1_goRound_12 ?_
  refine go_aload_n hC 0 dX1_goRound_15 rfl rfl ?_
  refine go_aload_n hC 0 dX1_goRound_16 rfl rfl ?_
  obtain ⟨v4, e4, h⟩ := mt_ob h
  refine go_getL hC mt_flX1_17 e4 dX1_goRound_17 ?_
  obtain ⟨v6, S5, e6, h⟩ := mt_ob2 h
  refine go_callSl hC [.long v4] [mt_rf B x0] (m_J9_abs_067f4 e6) mt_csX1_46 dX1_goRound_20 rfl rfl (by decide) (Nat.le_of_ble_eq_true rfl) ⟨Nat.le_refl _, Nat.le_refl _⟩ ?_
  obtain ⟨S7, e7, h⟩ := mt_ob h
  refine go_putL hC mt_flX1_43 e7 dX1_goRound_23 ?_
  refine go_iconst (v := 0) hC dX1_goRound_26 (by decide) ?_
  refine go_istore hC [1, 2, 3, 0] (lv1 := [(0, mt_rf B x0), (1, .long v1), (3, .long v2), (5, .int 0)]) dX1_goRound_27 (by decide) rfl ?_
  exact m_X1_goRound_L29 hC hE 1000 _ _ _ _ _ h
set_option maxHeartbeats 4000000 in
set_option maxRecDepth 100000 in
theorem ov_X1_goRound {T : mt_S}  {x0 : Nat} {S : mt_S} {S' : mt_S} (hp : mt_cp S T) (h : f_X1_goRound x0 S = some S') : f_X1_goRound x0 (mt_ov S T) = some (mt_ov S' T) ∧ mt_cp S' T := by
  unfold f_X1_goRound at h ⊢
  obtain ⟨hg, h⟩ := mt_gd h
  refine ov_t (ov_K hp hg) ?_
  obtain ⟨v1, e1, h⟩ := mt_ob h
  refine ov_b (ov_rL hp e1) ?_
  obtain ⟨v2, e2, h⟩ := mt_ob h
  refine ov_b (ov_rL hp e2) ?_
  obtain ⟨S3, e3, h⟩ := mt_ob h
  obtain ⟨o_, hp⟩ := ov_wI hp e3
  refine ov_b o_ ?_
  obtain ⟨v4, e4, h⟩ := mt_ob h
  refine ov_b (ov_rL hp e4) ?_
  obtain ⟨v6, S5, e6, h⟩ := mt_ob2 h
  obtain ⟨o_, hp⟩ := ov_J9_abs_067f4 hp e6
  refine ov_b2 o_ ?_
  obtain ⟨S7, e7, h⟩ := mt_ob h
  obtain ⟨o_, hp⟩ := ov_wL hp e7
  refine ov_b o_ ?_
  exact ov_X1_goRound_L29 1000 _ _ _ _ _ hp h
def f_X7_length (x0 : Nat) (S : mt_S) : Option (Int32 × mt_S) :=
  if mt_isK S x0 7 = true then
   Option.bind (mt_rI S x0 7 1) fun v1 =>
   some (v1, S)
  else none
theorem k_X7_length {x0 : Nat} {S : mt_S} {r : Int32} {S' : mt_S} (h : f_X7_length x0 S = some (r, S')) : mt_isK S x0 7 = true := by
  unfold f_X7_length at h
  exact (mt_gd h).1
set_option maxHeartbeats 4000000 in
set_option maxRecDepth 100000 in
theorem m_X7_length {B : mt_B}  {x0 : Nat} {S : mt_S} {r : Int32} {S' : mt_S} (h : f_X7_length x0 S = some (r, S')) : mt_M B yX7_length cX7_length 1 (some .int) 1 [mt_rf B x0] S (some (.int r)) S' := by
  unfold f_X7_length at h
  refine mt_M.of (by decide) (Nat.le_of_ble_eq_true rfl) (fun E hC hE => ?_)
  obtain ⟨hk0, h⟩ := mt_gd h
  refine go_aload_n hC 0 dX7_length_0 rfl rfl ?_
  obtain ⟨v1, e1, h⟩ := mt_ob h
  refine go_getI hC mt_flX7_15 e1 dX7_length_1 ?_
  exact go_iret hC (mt_rei h hE) dX7_length_4
set_option maxHeartbeats 4000000 in
set_option maxRecDepth 100000 in
theorem ov_X7_length {T : mt_S}  {x0 : Nat} {S : mt_S} {r : Int32} {S' : mt_S} (hp : mt_cp S T) (h : f_X7_length x0 S = some (r, S')) : f_X7_length x0 (mt_ov S T) = some (r, mt_ov S' T) ∧ mt_cp S' T := by
  unfold f_X7_length at h ⊢
  obtain ⟨hg, h⟩ := mt_gd h
  refine ov_t (ov_K hp hg) ?_
  obtain ⟨v1, e1, h⟩ := mt_ob h
  refine ov_b (ov_rI hp e1) ?_
  exact ov_ret hp h
def f_X7_hasRoom (x0 : Nat) (S : mt_S) : Option (Int32 × mt_S) :=
  if mt_isK S x0 7 = true then
   Option.bind (mt_rI S x0 7 1) fun v1 =>
   if 240 < (v1 + 20) then
    some (0, S)
   else
    some (1, S)
  else none
theorem k_X7_hasRoom {x0 : Nat} {S : mt_S} {r : Int32} {S' : mt_S} (h : f_X7_hasRoom x0 S = some (r, S')) : mt_isK S x0 7 = true := by
  unfold f_X7_hasRoom at h
  exact (mt_gd h).1
set_option maxHeartbeats 4000000 in
set_option maxRecDepth 100000 in
theorem m_X7_hasRoom {B : mt_B}  {x0 : Nat} {S : mt_S} {r : Int32} {S' : mt_S} (h : f_X7_hasRoom x0 S = some (r, S')) : mt_M B yX7_hasRoom cX7_hasRoom 1 (some .boolean) 1 [mt_rf B x0] S (some (.int r)) S' := by
  unfold f_X7_hasRoom at h
  refine mt_M.of (by decide) (Nat.le_of_ble_eq_true rfl) (fun E hC hE => ?_)
  obtain ⟨hk0, h⟩ := mt_gd h
  refine go_aload_n hC 0 dX7_hasRoom_0 rfl rfl ?_
  obtain ⟨v1, e1, h⟩ := mt_ob h
  refine go_getI hC mt_flX7_15 e1 dX7_hasRoom_1 ?_
  refine go_bipush (v := 20) hC dX7_hasRoom_4 (by decide) ?_
  refine go_iadd hC dX7_hasRoom_6 ?_
  refine go_sipush (v := 240) hC dX7_hasRoom_7 (by decide) ?_
  refine go_icmp_gt hC (tgt := 17) dX7_hasRoom_10 (by decide) (fun hc => ?_) (fun hc => ?_)
  · have h := mt_ip h hc
    refine go_iconst (v := 0) hC dX7_hasRoom_17 (by decide) ?_
    exact go_zret hC (mt_rei h hE) (Or.inl rfl) dX7_hasRoom_18
  · have h := mt_in' h hc
    refine go_iconst (v := 1) hC dX7_hasRoom_13 (by decide) ?_
    refine go_goto hC (tgt := 18) dX7_hasRoom_14 (by decide) ?_
    exact go_zret hC (mt_rei h hE) (Or.inr rfl) dX7_hasRoom_18
set_option maxHeartbeats 4000000 in
set_option maxRecDepth 100000 in
theorem ov_X7_hasRoom {T : mt_S}  {x0 : Nat} {S : mt_S} {r : Int32} {S' : mt_S} (hp : mt_cp S T) (h : f_X7_hasRoom x0 S = some (r, S')) : f_X7_hasRoom x0 (mt_ov S T) = some (r, mt_ov S' T) ∧ mt_cp S' T := by
  unfold f_X7_hasRoom at h ⊢
  obtain ⟨hg, h⟩ := mt_gd h
  refine ov_t (ov_K hp hg) ?_
  obtain ⟨v1, e1, h⟩ := mt_ob h
  refine ov_b (ov_rI hp e1) ?_
  by_cases hc : 240 < (v1 + 20)
  · have h := mt_ip h hc
    refine ov_t hc ?_
    exact ov_ret hp h
  · have h := mt_in' h hc
    refine ov_f hc ?_
    exact ov_ret hp h
def f_X7_putNumber_L3s (rc : Nat → Int32 → Int32 → mt_S → Option (mt_S)) (x0 : Nat) (x1 : Int32) (x2 : Int32) (S : mt_S) : Option (mt_S) :=
  if x2 < 0 then
   some S
  else
   Option.bind (mt_rI S x0 7 1) fun v1 =>
   if 240 ≤ v1 then
    some S
   else
    Option.bind (mt_rR S x0 7 0) fun v2 =>
    Option.bind (mt_rI S x0 7 1) fun v3 =>
    Option.bind (mt_sI S v2 12 v3 (vp_nar .byte (((x1.toUInt32 >>> (x2.toUInt32 &&& Int32.toUInt32 31)).toInt32).toInt8.toInt32))) fun S4 =>
    Option.bind (mt_rI S4 x0 7 1) fun v5 =>
    Option.bind (mt_wI S4 x0 7 1 (v5 + 1)) fun S6 =>
    rc x0 x1 (x2 + (-8)) S6
def f_X7_putNumber_L3 : Nat → Nat → Int32 → Int32 → mt_S → Option (mt_S)
  | 0 => fun _ _ _ _ => none
  | n + 1 => f_X7_putNumber_L3s (f_X7_putNumber_L3 n)
set_option maxHeartbeats 4000000 in
set_option maxRecDepth 100000 in
theorem m_X7_putNumber_L3 {B : mt_B} {E : mt_E} {S' : mt_S} (hC : mt_Cx B E cX7_putNumber RX7 none 3 1 0 0) (hE : mt_End B E (0, 0) none S') : ∀ (n : Nat) (x0 : Nat) (x1 : Int32) (x2 : Int32) (S : mt_S), f_X7_putNumber_L3 n x0 x1 x2 S = some S' → mt_Go B E (0, 0) S 3 [(0, mt_rf B x0), (1, .int x1), (2, .int x2)] [] := by
  intro n
  induction n with
  | zero =>
    intro x0 x1 x2 S h
    cases h
  | succ n ih =>
    intro x0 x1 x2 S h
    have h : f_X7_putNumber_L3s (f_X7_putNumber_L3 n) x0 x1 x2 S = some S' := h
    unfold f_X7_putNumber_L3s at h
    refine go_iload_n hC 2 dX7_putNumber_3 rfl rfl ?_
    refine go_if_lt hC (tgt := 46) dX7_putNumber_4 (by decide) (fun hc => ?_) (fun hc => ?_)
    · have h := mt_ip h hc
      exact go_vret hC (mt_rev h hE) dX7_putNumber_46
    · have h := mt_in' h hc
      refine go_aload_n hC 0 dX7_putNumber_7 rfl rfl ?_
      obtain ⟨v1, e1, h⟩ := mt_ob h
      refine go_getI hC mt_flX7_15 e1 dX7_putNumber_8 ?_
      refine go_sipush (v := 240) hC dX7_putNumber_11 (by decide) ?_
      refine go_icmp_ge hC (tgt := 46) dX7_putNumber_14 (by decide) (fun hc => ?_) (fun hc => ?_)
      · have h := mt_ip h hc
        exact go_vret hC (mt_rev h hE) dX7_putNumber_46
      · have h := mt_in' h hc
        refine go_aload_n hC 0 dX7_putNumber_17 rfl rfl ?_
        obtain ⟨v2, e2, h⟩ := mt_ob h
        refine go_getR hC mt_flX7_11 e2 dX7_putNumber_18 ?_
        refine go_aload_n hC 0 dX7_putNumber_21 rfl rfl ?_
        obtain ⟨v3, e3, h⟩ := mt_ob h
        refine go_getI hC mt_flX7_15 e3 dX7_putNumber_22 ?_
        refine go_iload_n hC 1 dX7_putNumber_25 rfl rfl ?_
        refine go_iload_n hC 2 dX7_putNumber_26 rfl rfl ?_
        refine go_iushr hC dX7_putNumber_27 ?_
        refine go_i2b hC dX7_putNumber_28 ?_
        obtain ⟨S4, e4, h⟩ := mt_ob h
        refine go_bast hC e4 dX7_putNumber_29 ?_
        refine go_aload_n hC 0 dX7_putNumber_30 rfl rfl ?_
        refine go_dup hC dX7_putNumber_31 rfl ?_
        obtain ⟨v5, e5, h⟩ := mt_ob h
        refine go_getI hC mt_flX7_15 e5 dX7_putNumber_32 ?_
        refine go_iconst (v := 1) hC dX7_putNumber_35 (by decide) ?_
        refine go_iadd hC dX7_putNumber_36 ?_
        obtain ⟨S6, e6, h⟩ := mt_ob h
        refine go_putI hC mt_flX7_15 e6 dX7_putNumber_37 ?_
        refine go_iinc hC 2 [1, 2, 0] (v := x2 + (-8)) (lv1 := [(0, mt_rf B x0), (1, .int x1), (2, .int (x2 + (-8)))]) dX7_putNumber_40 rfl rfl (by decide) rfl ?_
        refine go_goto hC (tgt := 3) dX7_putNumber_43 (by decide) ?_
        exact ih _ _ _ _ h
set_option maxHeartbeats 4000000 in
set_option maxRecDepth 100000 in
theorem ov_X7_putNumber_L3 {T : mt_S} {S' : mt_S} : ∀ (n : Nat) (x0 : Nat) (x1 : Int32) (x2 : Int32) (S : mt_S), mt_cp S T → f_X7_putNumber_L3 n x0 x1 x2 S = some S' → f_X7_putNumber_L3 n x0 x1 x2 (mt_ov S T) = some (mt_ov S' T) ∧ mt_cp S' T := by
  intro n
  induction n with
  | zero =>
    intro x0 x1 x2 S hp h
    cases h
  | succ n ih =>
    intro x0 x1 x2 S hp h
    have h : f_X7_putNumber_L3s (f_X7_putNumber_L3 n) x0 x1 x2 S = some S' := h
    show f_X7_putNumber_L3s (f_X7_putNumber_L3 n) x0 x1 x2 (mt_ov S T) = some (mt_ov S' T) ∧ mt_cp S' T
    unfold f_X7_putNumber_L3s at h ⊢
    by_cases hc : x2 < 0
    · have h := mt_ip h hc
      refine ov_t hc ?_
      exact ov_retv hp h
    · have h := mt_in' h hc
      refine ov_f hc ?_
      obtain ⟨v1, e1, h⟩ := mt_ob h
      refine ov_b (ov_rI hp e1) ?_
      by_cases hc : 240 ≤ v1
      · have h := mt_ip h hc
        refine ov_t hc ?_
        exact ov_retv hp h
      · have h := mt_in' h hc
        refine ov_f hc ?_
        obtain ⟨v2, e2, h⟩ := mt_ob h
        refine ov_b (ov_rR hp e2) ?_
        obtain ⟨v3, e3, h⟩ := mt_ob h
        refine ov_b (ov_rI hp e3) ?_
        obtain ⟨S4, e4, h⟩ := mt_ob h
        obtain ⟨o_, hp⟩ := ov_sI hp e4
        refine ov_b o_ ?_
        obtain ⟨v5, e5, h⟩ := mt_ob h
        refine ov_b (ov_rI hp e5) ?_
        obtain ⟨S6, e6, h⟩ := mt_ob h
        obtain ⟨o_, hp⟩ := ov_wI hp e6
        refine ov_b o_ ?_
        exact ih _ _ _ _ hp h
def f_X7_putNumber (x0 : Nat) (x1 : Int32) (S : mt_S) : Option (mt_S) :=
  if mt_isK S x0 7 = true then
   f_X7_putNumber_L3 1000 x0 x1 24 S
  else none
theorem k_X7_putNumber {x0 : Nat} {x1 : Int32} {S : mt_S} {S' : mt_S} (h : f_X7_putNumber x0 x1 S = some S') : mt_isK S x0 7 = true := by
  unfold f_X7_putNumber at h
  exact (mt_gd h).1
set_option maxHeartbeats 4000000 in
set_option maxRecDepth 100000 in
theorem m_X7_putNumber {B : mt_B}  {x0 : Nat} {x1 : Int32} {S : mt_S} {S' : mt_S} (h : f_X7_putNumber x0 x1 S = some S') : mt_M B yX7_putNumber cX7_putNumber 3 none 1 [mt_rf B x0, .int x1] S none S' := by
  unfold f_X7_putNumber at h
  refine mt_M.of (by decide) (Nat.le_of_ble_eq_true rfl) (fun E hC hE => ?_)
  obtain ⟨hk0, h⟩ := mt_gd h
  refine go_bipush (v := 24) hC dX7_putNumber_0 (by decide) ?_
  refine go_istore_n hC [1, 2, 0] (lv1 := [(0, mt_rf B x0), (1, .int x1), (2, .int 24)]) dX7_putNumber_2 rfl (by decide) rfl ?_
  exact m_X7_putNumber_L3 hC hE 1000 _ _ _ _ h
set_option maxHeartbeats 4000000 in
set_option maxRecDepth 100000 in
theorem ov_X7_putNumber {T : mt_S}  {x0 : Nat} {x1 : Int32} {S : mt_S} {S' : mt_S} (hp : mt_cp S T) (h : f_X7_putNumber x0 x1 S = some S') : f_X7_putNumber x0 x1 (mt_ov S T) = some (mt_ov S' T) ∧ mt_cp S' T := by
  unfold f_X7_putNumber at h ⊢
  obtain ⟨hg, h⟩ := mt_gd h
  refine ov_t (ov_K hp hg) ?_
  exact ov_X7_putNumber_L3 1000 _ _ _ _ hp h
def f_X7_cutTo (x0 : Nat) (x1 : Int32) (S : mt_S) : Option (Int32 × mt_S) :=
  if mt_isK S x0 7 = true then
   if x1 < 0 then
    some (0, S)
   else
    Option.bind (mt_rI S x0 7 1) fun v1 =>
    if x1 ≤ v1 then
     Option.bind (mt_wI S x0 7 1 x1) fun S2 =>
     some (1, S2)
    else
     some (0, S)
  else none
theorem k_X7_cutTo {x0 : Nat} {x1 : Int32} {S : mt_S} {r : Int32} {S' : mt_S} (h : f_X7_cutTo x0 x1 S = some (r, S')) : mt_isK S x0 7 = true := by
  unfold f_X7_cutTo at h
  exact (mt_gd h).1
set_option maxHeartbeats 4000000 in
set_option maxRecDepth 100000 in
theorem m_X7_cutTo {B : mt_B}  {x0 : Nat} {x1 : Int32} {S : mt_S} {r : Int32} {S' : mt_S} (h : f_X7_cutTo x0 x1 S = some (r, S')) : mt_M B yX7_cutTo cX7_cutTo 2 (some .boolean) 1 [mt_rf B x0, .int x1] S (some (.int r)) S' := by
  unfold f_X7_cutTo at h
  refine mt_M.of (by decide) (Nat.le_of_ble_eq_true rfl) (fun E hC hE => ?_)
  obtain ⟨hk0, h⟩ := mt_gd h
  refine go_iload_n hC 1 dX7_cutTo_0 rfl rfl ?_
  refine go_if_lt hC (tgt := 12) dX7_cutTo_1 (by decide) (fun hc => ?_) (fun hc => ?_)
  · have h := mt_ip h hc
    refine go_iconst (v := 0) hC dX7_cutTo_12 (by decide) ?_
    exact go_zret hC (mt_rei h hE) (Or.inl rfl) dX7_cutTo_13
  · have h := mt_in' h hc
    refine go_iload_n hC 1 dX7_cutTo_4 rfl rfl ?_
    refine go_aload_n hC 0 dX7_cutTo_5 rfl rfl ?_
    obtain ⟨v1, e1, h⟩ := mt_ob h
    refine go_getI hC mt_flX7_15 e1 dX7_cutTo_6 ?_
    refine go_icmp_le hC (tgt := 14) dX7_cutTo_9 (by decide) (fun hc => ?_) (fun hc => ?_)
    · have h := mt_ip h hc
      refine go_aload_n hC 0 dX7_cutTo_14 rfl rfl ?_
      refine go_iload_n hC 1 dX7_cutTo_15 rfl rfl ?_
      obtain ⟨S2, e2, h⟩ := mt_ob h
      refine go_putI hC mt_flX7_15 e2 dX7_cutTo_16 ?_
      refine go_iconst (v := 1) hC dX7_cutTo_19 (by decide) ?_
      exact go_zret hC (mt_rei h hE) (Or.inr rfl) dX7_cutTo_20
    · have h := mt_in' h hc
      refine go_iconst (v := 0) hC dX7_cutTo_12 (by decide) ?_
      exact go_zret hC (mt_rei h hE) (Or.inl rfl) dX7_cutTo_13
set_option maxHeartbeats 4000000 in
set_option maxRecDepth 100000 in
theorem ov_X7_cutTo {T : mt_S}  {x0 : Nat} {x1 : Int32} {S : mt_S} {r : Int32} {S' : mt_S} (hp : mt_cp S T) (h : f_X7_cutTo x0 x1 S = some (r, S')) : f_X7_cutTo x0 x1 (mt_ov S T) = some (r, mt_ov S' T) ∧ mt_cp S' T := by
  unfold f_X7_cutTo at h ⊢
  obtain ⟨hg, h⟩ := mt_gd h
  refine ov_t (ov_K hp hg) ?_
  by_cases hc : x1 < 0
  · have h := mt_ip h hc
    refine ov_t hc ?_
    exact ov_ret hp h
  · have h := mt_in' h hc
    refine ov_f hc ?_
    obtain ⟨v1, e1, h⟩ := mt_ob h
    refine ov_b (ov_rI hp e1) ?_
    by_cases hc : x1 ≤ v1
    · have h := mt_ip h hc
      refine ov_t hc ?_
      obtain ⟨S2, e2, h⟩ := mt_ob h
      obtain ⟨o_, hp⟩ := ov_wI hp e2
      refine ov_b o_ ?_
      exact ov_ret hp h
    · have h := mt_in' h hc
      refine ov_f hc ?_
      exact ov_ret hp h
def f_X7_at (x0 : Nat) (x1 : Int32) (S : mt_S) : Option (Int32 × mt_S) :=
  if mt_isK S x0 7 = true then
   if x1 < 0 then
    some ((-1), S)
   else
    Option.bind (mt_rI S x0 7 1) fun v1 =>
    if v1 ≤ x1 then
     some ((-1), S)
    else
     Option.bind (mt_rR S x0 7 0) fun v2 =>
     Option.bind (mt_aI S v2 12 x1) fun v3 =>
     some (v3 &&& 255, S)
  else none
theorem k_X7_at {x0 : Nat} {x1 : Int32} {S : mt_S} {r : Int32} {S' : mt_S} (h : f_X7_at x0 x1 S = some (r, S')) : mt_isK S x0 7 = true := by
  unfold f_X7_at at h
  exact (mt_gd h).1
set_option maxHeartbeats 4000000 in
set_option maxRecDepth 100000 in
theorem m_X7_at {B : mt_B}  {x0 : Nat} {x1 : Int32} {S : mt_S} {r : Int32} {S' : mt_S} (h : f_X7_at x0 x1 S = some (r, S')) : mt_M B yX7_at cX7_at 2 (some .int) 1 [mt_rf B x0, .int x1] S (some (.int r)) S' := by
  unfold f_X7_at at h
  refine mt_M.of (by decide) (Nat.le_of_ble_eq_true rfl) (fun E hC hE => ?_)
  obtain ⟨hk0, h⟩ := mt_gd h
  refine go_iload_n hC 1 dX7_at_0 rfl rfl ?_
  refine go_if_lt hC (tgt := 25) dX7_at_1 (by decide) (fun hc => ?_) (fun hc => ?_)
  · have h := mt_ip h hc
    refine go_iconst (v := (-1)) hC dX7_at_25 (by decide) ?_
    exact go_iret hC (mt_rei h hE) dX7_at_26
  · have h := mt_in' h hc
    refine go_iload_n hC 1 dX7_at_4 rfl rfl ?_
    refine go_aload_n hC 0 dX7_at_5 rfl rfl ?_
    obtain ⟨v1, e1, h⟩ := mt_ob h
    refine go_getI hC mt_flX7_15 e1 dX7_at_6 ?_
    refine go_icmp_ge hC (tgt := 25) dX7_at_9 (by decide) (fun hc => ?_) (fun hc => ?_)
    · have h := mt_ip h hc
      refine go_iconst (v := (-1)) hC dX7_at_25 (by decide) ?_
      exact go_iret hC (mt_rei h hE) dX7_at_26
    · have h := mt_in' h hc
      refine go_aload_n hC 0 dX7_at_12 rfl rfl ?_
      obtain ⟨v2, e2, h⟩ := mt_ob h
      refine go_getR hC mt_flX7_11 e2 dX7_at_13 ?_
      refine go_iload_n hC 1 dX7_at_16 rfl rfl ?_
      obtain ⟨v3, e3, h⟩ := mt_ob h
      refine go_bald hC e3 dX7_at_17 ?_
      refine go_sipush (v := 255) hC dX7_at_18 (by decide) ?_
      refine go_iand hC dX7_at_21 ?_
      refine go_goto hC (tgt := 26) dX7_at_22 (by decide) ?_
      exact go_iret hC (mt_rei h hE) dX7_at_26
set_option maxHeartbeats 4000000 in
set_option maxRecDepth 100000 in
theorem ov_X7_at {T : mt_S}  {x0 : Nat} {x1 : Int32} {S : mt_S} {r : Int32} {S' : mt_S} (hp : mt_cp S T) (h : f_X7_at x0 x1 S = some (r, S')) : f_X7_at x0 x1 (mt_ov S T) = some (r, mt_ov S' T) ∧ mt_cp S' T := by
  unfold f_X7_at at h ⊢
  obtain ⟨hg, h⟩ := mt_gd h
  refine ov_t (ov_K hp hg) ?_
  by_cases hc : x1 < 0
  · have h := mt_ip h hc
    refine ov_t hc ?_
    exact ov_ret hp h
  · have h := mt_in' h hc
    refine ov_f hc ?_
    obtain ⟨v1, e1, h⟩ := mt_ob h
    refine ov_b (ov_rI hp e1) ?_
    by_cases hc : v1 ≤ x1
    · have h := mt_ip h hc
      refine ov_t hc ?_
      exact ov_ret hp h
    · have h := mt_in' h hc
      refine ov_f hc ?_
      obtain ⟨v2, e2, h⟩ := mt_ob h
      refine ov_b (ov_rR hp e2) ?_
      obtain ⟨v3, e3, h⟩ := mt_ob h
      refine ov_b (ov_aI hp e3) ?_
      exact ov_ret hp h
def f_X9_letterIsA (x0 : Int32) (x1 : Int32) (x2 : Int32) (S : mt_S) : Option (Int32 × mt_S) :=
  if x0 = 0 then
   some (1, S)
  else
  if 1 ≤ (x0 + x1) then
   if (x0 + x1) = 0 then none else
   if (x0 + x1) = 0 then none else
   if ((x2 * x0) - (x2 * x0) / (x0 + x1) * (x0 + x1)) ≤ (((x2 - 1) * x0) - ((x2 - 1) * x0) / (x0 + x1) * (x0 + x1)) then
    some (0, S)
   else
    some (1, S)
  else
   some (1, S)
set_option maxHeartbeats 4000000 in
set_option maxRecDepth 100000 in
theorem m_X9_letterIsA {B : mt_B}  {x0 : Int32} {x1 : Int32} {x2 : Int32} {S : mt_S} {r : Int32} {S' : mt_S} (h : f_X9_letterIsA x0 x1 x2 S = some (r, S')) : mt_M B yX9_letterIsA cX9_letterIsA 4 (some .boolean) 1 [.int x0, .int x1, .int x2] S (some (.int r)) S' := by
  unfold f_X9_letterIsA at h
  refine mt_M.of (by decide) (Nat.le_of_ble_eq_true rfl) (fun E hC hE => ?_)
  refine go_iload_n hC 0 dX9_letterIsA_0 rfl rfl ?_
  refine go_iload_n hC 1 dX9_letterIsA_1 rfl rfl ?_
  refine go_iadd hC dX9_letterIsA_2 ?_
  refine go_istore_n hC [1, 2, 3, 0] (lv1 := [(0, .int x0), (1, .int x1), (2, .int x2), (3, .int (x0 + x1))]) dX9_letterIsA_3 rfl (by decide) rfl ?_
  refine go_iload_n hC 0 dX9_letterIsA_4 rfl rfl ?_
  refine go_if_eq hC (tgt := 13) dX9_letterIsA_5 (by decide) (fun hc => ?_) (fun hc => ?_)
  · have h := mt_ip h hc
    refine go_iconst (v := 1) hC dX9_letterIsA_13 (by decide) ?_
    exact go_zret hC (mt_rei h hE) (Or.inr rfl) dX9_letterIsA_14
  · have h := mt_in' h hc
    refine go_iload_n hC 3 dX9_letterIsA_8 rfl rfl ?_
    refine go_iconst (v := 1) hC dX9_letterIsA_9 (by decide) ?_
    refine go_icmp_ge hC (tgt := 15) dX9_letterIsA_10 (by decide) (fun hc => ?_) (fun hc => ?_)
    · have h := mt_ip h hc
      refine go_iload_n hC 2 dX9_letterIsA_15 rfl rfl ?_
      refine go_iload_n hC 0 dX9_letterIsA_16 rfl rfl ?_
      refine go_imul hC dX9_letterIsA_17 ?_
      refine go_iload_n hC 3 dX9_letterIsA_18 rfl rfl ?_
      have g2 : ¬ (x0 + x1) = 0 := fun q => by rw [if_pos q] at h; cases h
      have h := mt_in' h g2
      refine go_irem hC dX9_letterIsA_19 g2 ?_
      refine go_iload_n hC 2 dX9_letterIsA_20 rfl rfl ?_
      refine go_iconst (v := 1) hC dX9_letterIsA_21 (by decide) ?_
      refine go_isub hC dX9_letterIsA_22 ?_
      refine go_iload_n hC 0 dX9_letterIsA_23 rfl rfl ?_
      refine go_imul hC dX9_letterIsA_24 ?_
      refine go_iload_n hC 3 dX9_letterIsA_25 rfl rfl ?_
      have g1 : ¬ (x0 + x1) = 0 := fun q => by rw [if_pos q] at h; cases h
      have h := mt_in' h g1
      refine go_irem hC dX9_letterIsA_26 g1 ?_
      refine go_icmp_le hC (tgt := 34) dX9_letterIsA_27 (by decide) (fun hc => ?_) (fun hc => ?_)
      · have h := mt_ip h hc
        refine go_iconst (v := 0) hC dX9_letterIsA_34 (by decide) ?_
        exact go_zret hC (mt_rei h hE) (Or.inl rfl) dX9_letterIsA_35
      · have h := mt_in' h hc
        refine go_iconst (v := 1) hC dX9_letterIsA_30 (by decide) ?_
        refine go_goto hC (tgt := 35) dX9_letterIsA_31 (by decide) ?_
        exact go_zret hC (mt_rei h hE) (Or.inr rfl) dX9_letterIsA_35
    · have h := mt_in' h hc
      refine go_iconst (v := 1) hC dX9_letterIsA_13 (by decide) ?_
      exact go_zret hC (mt_rei h hE) (Or.inr rfl) dX9_letterIsA_14
set_option maxHeartbeats 4000000 in
set_option maxRecDepth 100000 in
theorem ov_X9_letterIsA {T : mt_S}  {x0 : Int32} {x1 : Int32} {x2 : Int32} {S : mt_S} {r : Int32} {S' : mt_S} (hp : mt_cp S T) (h : f_X9_letterIsA x0 x1 x2 S = some (r, S')) : f_X9_letterIsA x0 x1 x2 (mt_ov S T) = some (r, mt_ov S' T) ∧ mt_cp S' T := by
  unfold f_X9_letterIsA at h ⊢
  by_cases hc : x0 = 0
  · have h := mt_ip h hc
    refine ov_t hc ?_
    exact ov_ret hp h
  · have h := mt_in' h hc
    refine ov_f hc ?_
    by_cases hc : 1 ≤ (x0 + x1)
    · have h := mt_ip h hc
      refine ov_t hc ?_
      have hz : ¬ (x0 + x1) = 0 := fun q => by rw [if_pos q] at h; cases h
      have h := mt_in' h hz
      refine ov_f hz ?_
      have hz : ¬ (x0 + x1) = 0 := fun q => by rw [if_pos q] at h; cases h
      have h := mt_in' h hz
      refine ov_f hz ?_
      by_cases hc : ((x2 * x0) - (x2 * x0) / (x0 + x1) * (x0 + x1)) ≤ (((x2 - 1) * x0) - ((x2 - 1) * x0) / (x0 + x1) * (x0 + x1))
      · have h := mt_ip h hc
        refine ov_t hc ?_
        exact ov_ret hp h
      · have h := mt_in' h hc
        refine ov_f hc ?_
        exact ov_ret hp h
    · have h := mt_in' h hc
      refine ov_f hc ?_
      exact ov_ret hp h
def f_X9_multiply (x0 : Nat) (x1 : Int64) (x3 : Int64) (x5 : Int64) (S : mt_S) : Option (mt_S) :=
  if mt_isK S x0 9 = true then
   Option.bind (mt_rL S x0 9 0) fun v1 =>
   Option.bind (mt_rL S x0 9 2) fun v2 =>
   Option.bind (mt_rL S x0 9 1) fun v3 =>
   Option.bind (mt_wL S x0 9 0 ((v1 * x1) + (v3 * x3))) fun S4 =>
   Option.bind (mt_rL S4 x0 9 1) fun v5 =>
   Option.bind (mt_wL S4 x0 9 1 ((v1 * x3) + (v5 * x5))) fun S6 =>
   Option.bind (mt_rL S6 x0 9 3) fun v7 =>
   Option.bind (mt_wL S6 x0 9 2 ((v2 * x1) + (v7 * x3))) fun S8 =>
   Option.bind (mt_rL S8 x0 9 3) fun v9 =>
   Option.bind (mt_wL S8 x0 9 3 ((v2 * x3) + (v9 * x5))) fun S10 =>
   some S10
  else none
theorem k_X9_multiply {x0 : Nat} {x1 : Int64} {x3 : Int64} {x5 : Int64} {S : mt_S} {S' : mt_S} (h : f_X9_multiply x0 x1 x3 x5 S = some S') : mt_isK S x0 9 = true := by
  unfold f_X9_multiply at h
  exact (mt_gd h).1
set_option maxHeartbeats 4000000 in
set_option maxRecDepth 100000 in
theorem m_X9_multiply {B : mt_B}  {x0 : Nat} {x1 : Int64} {x3 : Int64} {x5 : Int64} {S : mt_S} {S' : mt_S} (h : f_X9_multiply x0 x1 x3 x5 S = some S') : mt_M B yX9_multiply cX9_multiply 11 none 1 [mt_rf B x0, .long x1, .long x3, .long x5] S none S' := by
  unfold f_X9_multiply at h
  refine mt_M.of (by decide) (Nat.le_of_ble_eq_true rfl) (fun E hC hE => ?_)
  obtain ⟨hk0, h⟩ := mt_gd h
  refine go_aload_n hC 0 dX9_multiply_0 rfl rfl ?_
  obtain ⟨v1, e1, h⟩ := mt_ob h
  refine go_getL hC mt_flX9_13 e1 dX9_multiply_1 ?_
  refine go_lstore hC [1, 2, 3, 4, 0] (lv1 := [(0, mt_rf B x0), (1, .long x1), (3, .long x3), (5, .long x5), (7, .long v1)]) dX9_multiply_4 (by decide) rfl ?_
  refine go_aload_n hC 0 dX9_multiply_6 rfl rfl ?_
  obtain ⟨v2, e2, h⟩ := mt_ob h
  refine go_getL hC mt_flX9_20 e2 dX9_multiply_7 ?_
  refine go_lstore hC [1, 2, 3, 4, 5, 0] (lv1 := [(0, mt_rf B x0), (1, .long x1), (3, .long x3), (5, .long x5), (7, .long v1), (9, .long v2)]) dX9_multiply_10 (by decide) rfl ?_
  refine go_aload_n hC 0 dX9_multiply_12 rfl rfl ?_
  refine go_lload hC 4 dX9_multiply_13 rfl ?_
  refine go_lload_n hC 1 dX9_multiply_15 rfl rfl ?_
  refine go_lmul hC dX9_multiply_16 ?_
  refine go_aload_n hC 0 dX9_multiply_17 rfl rfl ?_
  obtain ⟨v3, e3, h⟩ := mt_ob h
  refine go_getL hC mt_flX9_17 e3 dX9_multiply_18 ?_
  refine go_lload_n hC 2 dX9_multiply_21 rfl rfl ?_
  refine go_lmul hC dX9_multiply_22 ?_
  refine go_ladd hC dX9_multiply_23 ?_
  obtain ⟨S4, e4, h⟩ := mt_ob h
  refine go_putL hC mt_flX9_13 e4 dX9_multiply_24 ?_
  refine go_aload_n hC 0 dX9_multiply_27 rfl rfl ?_
  refine go_lload hC 4 dX9_multiply_28 rfl ?_
  refine go_lload_n hC 2 dX9_multiply_30 rfl rfl ?_
  refine go_lmul hC dX9_multiply_31 ?_
  refine go_aload_n hC 0 dX9_multiply_32 rfl rfl ?_
  obtain ⟨v5, e5, h⟩ := mt_ob h
  refine go_getL hC mt_flX9_17 e5 dX9_multiply_33 ?_
  refine go_lload hC 3 dX9_multiply_36 rfl ?_
  refine go_lmul hC dX9_multiply_38 ?_
  refine go_ladd hC dX9_multiply_39 ?_
  obtain ⟨S6, e6, h⟩ := mt_ob h
  refine go_putL hC mt_flX9_17 e6 dX9_multiply_40 ?_
  refine go_aload_n hC 0 dX9_multiply_43 rfl rfl ?_
  refine go_lload hC 5 dX9_multiply_44 rfl ?_
  refine go_lload_n hC 1 dX9_multiply_46 rfl rfl ?_
  refine go_lmul hC dX9_multiply_47 ?_
  refine go_aload_n hC 0 dX9_multiply_48 rfl rfl ?_
  obtain ⟨v7, e7, h⟩ := mt_ob h
  refine go_getL hC mt_flX9_23 e7 dX9_multiply_49 ?_
  refine go_lload_n hC 2 dX9_multiply_52 rfl rfl ?_
  refine go_lmul hC dX9_multiply_53 ?_
  refine go_ladd hC dX9_multiply_54 ?_
  obtain ⟨S8, e8, h⟩ := mt_ob h
  refine go_putL hC mt_flX9_20 e8 dX9_multiply_55 ?_
  refine go_aload_n hC 0 dX9_multiply_58 rfl rfl ?_
  refine go_lload hC 5 dX9_multiply_59 rfl ?_
  refine go_lload_n hC 2 dX9_multiply_61 rfl rfl ?_
  refine go_lmul hC dX9_multiply_62 ?_
  refine go_aload_n hC 0 dX9_multiply_63 rfl rfl ?_
  obtain ⟨v9, e9, h⟩ := mt_ob h
  refine go_getL hC mt_flX9_23 e9 dX9_multiply_64 ?_
  refine go_lload hC 3 dX9_multiply_67 rfl ?_
  refine go_lmul hC dX9_multiply_69 ?_
  refine go_ladd hC dX9_multiply_70 ?_
  obtain ⟨S10, e10, h⟩ := mt_ob h
  refine go_putL hC mt_flX9_23 e10 dX9_multiply_71 ?_
  exact go_vret hC (mt_rev h hE) dX9_multiply_74
set_option maxHeartbeats 4000000 in
set_option maxRecDepth 100000 in
theorem ov_X9_multiply {T : mt_S}  {x0 : Nat} {x1 : Int64} {x3 : Int64} {x5 : Int64} {S : mt_S} {S' : mt_S} (hp : mt_cp S T) (h : f_X9_multiply x0 x1 x3 x5 S = some S') : f_X9_multiply x0 x1 x3 x5 (mt_ov S T) = some (mt_ov S' T) ∧ mt_cp S' T := by
  unfold f_X9_multiply at h ⊢
  obtain ⟨hg, h⟩ := mt_gd h
  refine ov_t (ov_K hp hg) ?_
  obtain ⟨v1, e1, h⟩ := mt_ob h
  refine ov_b (ov_rL hp e1) ?_
  obtain ⟨v2, e2, h⟩ := mt_ob h
  refine ov_b (ov_rL hp e2) ?_
  obtain ⟨v3, e3, h⟩ := mt_ob h
  refine ov_b (ov_rL hp e3) ?_
  obtain ⟨S4, e4, h⟩ := mt_ob h
  obtain ⟨o_, hp⟩ := ov_wL hp e4
  refine ov_b o_ ?_
  obtain ⟨v5, e5, h⟩ := mt_ob h
  refine ov_b (ov_rL hp e5) ?_
  obtain ⟨S6, e6, h⟩ := mt_ob h
  obtain ⟨o_, hp⟩ := ov_wL hp e6
  refine ov_b o_ ?_
  obtain ⟨v7, e7, h⟩ := mt_ob h
  refine ov_b (ov_rL hp e7) ?_
  obtain ⟨S8, e8, h⟩ := mt_ob h
  obtain ⟨o_, hp⟩ := ov_wL hp e8
  refine ov_b o_ ?_
  obtain ⟨v9, e9, h⟩ := mt_ob h
  refine ov_b (ov_rL hp e9) ?_
  obtain ⟨S10, e10, h⟩ := mt_ob h
  obtain ⟨o_, hp⟩ := ov_wL hp e10
  refine ov_b o_ ?_
  exact ov_retv hp h
def f_X9_setTo_L22s (rc : Nat → Int32 → Int32 → Int32 → mt_S → Option (mt_S)) (x0 : Nat) (x1 : Int32) (x2 : Int32) (x3 : Int32) (S : mt_S) : Option (mt_S) :=
  if (x1 + x2) < x3 then
   some S
  else
   mt_b2 (f_X9_letterIsA x1 x2 x3 S) fun v6 S5 =>
   if v6 = 0 then
    Option.bind (f_X9_multiply x0 5 2 1 S5) fun S7 =>
    rc x0 x1 x2 (x3 + 1) S7
   else
    Option.bind (f_X9_multiply x0 2 1 1 S5) fun S8 =>
    rc x0 x1 x2 (x3 + 1) S8
def f_X9_setTo_L22 : Nat → Nat → Int32 → Int32 → Int32 → mt_S → Option (mt_S)
  | 0 => fun _ _ _ _ _ => none
  | n + 1 => f_X9_setTo_L22s (f_X9_setTo_L22 n)
set_option maxHeartbeats 4000000 in
set_option maxRecDepth 100000 in
theorem m_X9_setTo_L22 {B : mt_B} {E : mt_E} {S' : mt_S} (hC : mt_Cx B E cX9_setTo RX9 none 4 2 0 0) (hE : mt_End B E (0, 0) none S') : ∀ (n : Nat) (x0 : Nat) (x1 : Int32) (x2 : Int32) (x3 : Int32) (S : mt_S), f_X9_setTo_L22 n x0 x1 x2 x3 S = some S' → mt_Go B E (0, 0) S 22 [(0, mt_rf B x0), (1, .int x1), (2, .int x2), (3, .int x3)] [] := by
  intro n
  induction n with
  | zero =>
    intro x0 x1 x2 x3 S h
    cases h
  | succ n ih =>
    intro x0 x1 x2 x3 S h
    have h : f_X9_setTo_L22s (f_X9_setTo_L22 n) x0 x1 x2 x3 S = some S' := h
    unfold f_X9_setTo_L22s at h
    refine go_iload_n hC 3 dX9_setTo_22 rfl rfl ?_
    refine go_iload_n hC 1 dX9_setTo_23 rfl rfl ?_
    refine go_iload_n hC 2 dX9_setTo_24 rfl rfl ?_
    refine go_iadd hC dX9_setTo_25 ?_
    refine go_icmp_gt hC (tgt := 67) dX9_setTo_26 (by decide) (fun hc => ?_) (fun hc => ?_)
    · have h := mt_ip h hc
      exact go_vret hC (mt_rev h hE) dX9_setTo_67
    · have h := mt_in' h hc
      refine go_iload_n hC 1 dX9_setTo_29 rfl rfl ?_
      refine go_iload_n hC 2 dX9_setTo_30 rfl rfl ?_
      refine go_iload_n hC 3 dX9_setTo_31 rfl rfl ?_
      obtain ⟨v6, S5, e6, h⟩ := mt_ob2 h
      refine go_callSi hC [.int x1, .int x2, .int x3] [] (m_X9_letterIsA e6) mt_csX9_26 dX9_setTo_32 rfl rfl (by decide) (Nat.le_of_ble_eq_true rfl) ⟨Nat.le_refl _, Nat.le_refl _⟩ ?_
      refine go_if_eq hC (tgt := 50) dX9_setTo_35 (by decide) (fun hc => ?_) (fun hc => ?_)
      · have h := mt_ip h hc
        refine go_aload_n hC 0 dX9_setTo_50 rfl rfl ?_
        refine go_ldc2 hC dX9_setTo_51 mt_kX9_36 ?_
        refine go_ldc2 hC dX9_setTo_54 mt_kX9_30 ?_
        refine go_lconst (v := 1) hC dX9_setTo_57 (by decide) ?_
        obtain ⟨S7, e7, h⟩ := mt_ob h
        refine go_callVv hC [.long 5, .long 2, .long 1] [] (m_X9_multiply e7) mt_cvX9_32 (k_X9_multiply e7) dX9_setTo_58 rfl rfl (by decide) (Nat.le_of_ble_eq_true rfl) ⟨Nat.le_refl _, Nat.le_refl _⟩ ?_
        refine go_iinc hC 3 [1, 2, 3, 0] (v := x3 + 1) (lv1 := [(0, mt_rf B x0), (1, .int x1), (2, .int x2), (3, .int (x3 + 1))]) dX9_setTo_61 rfl rfl (by decide) rfl ?_
        refine go_goto hC (tgt := 22) dX9_setTo_64 (by decide) ?_
        exact ih _ _ _ _ _ h
      · have h := mt_in' h hc
        refine go_aload_n hC 0 dX9_setTo_38 rfl rfl ?_
        refine go_ldc2 hC dX9_setTo_39 mt_kX9_30 ?_
        refine go_lconst (v := 1) hC dX9_setTo_42 (by decide) ?_
        refine go_lconst (v := 1) hC dX9_setTo_43 (by decide) ?_
        obtain ⟨S8, e8, h⟩ := mt_ob h
        refine go_callVv hC [.long 2, .long 1, .long 1] [] (m_X9_multiply e8) mt_cvX9_32 (k_X9_multiply e8) dX9_setTo_44 rfl rfl (by decide) (Nat.le_of_ble_eq_true rfl) ⟨Nat.le_refl _, Nat.le_refl _⟩ ?_
        refine go_goto hC (tgt := 61) dX9_setTo_47 (by decide) ?_
        refine go_iinc hC 3 [1, 2, 3, 0] (v := x3 + 1) (lv1 := [(0, mt_rf B x0), (1, .int x1), (2, .int x2), (3, .int (x3 + 1))]) dX9_setTo_61 rfl rfl (by decide) rfl ?_
        refine go_goto hC (tgt := 22) dX9_setTo_64 (by decide) ?_
        exact ih _ _ _ _ _ h
set_option maxHeartbeats 4000000 in
set_option maxRecDepth 100000 in
theorem ov_X9_setTo_L22 {T : mt_S} {S' : mt_S} : ∀ (n : Nat) (x0 : Nat) (x1 : Int32) (x2 : Int32) (x3 : Int32) (S : mt_S), mt_cp S T → f_X9_setTo_L22 n x0 x1 x2 x3 S = some S' → f_X9_setTo_L22 n x0 x1 x2 x3 (mt_ov S T) = some (mt_ov S' T) ∧ mt_cp S' T := by
  intro n
  induction n with
  | zero =>
    intro x0 x1 x2 x3 S hp h
    cases h
  | succ n ih =>
    intro x0 x1 x2 x3 S hp h
    have h : f_X9_setTo_L22s (f_X9_setTo_L22 n) x0 x1 x2 x3 S = some S' := h
    show f_X9_setTo_L22s (f_X9_setTo_L22 n) x0 x1 x2 x3 (mt_ov S T) = some (mt_ov S' T) ∧ mt_cp S' T
    unfold f_X9_setTo_L22s at h ⊢
    by_cases hc : (x1 + x2) < x3
    · have h := mt_ip h hc
      refine ov_t hc ?_
      exact ov_retv hp h
    · have h := mt_in' h hc
      refine ov_f hc ?_
      obtain ⟨v6, S5, e6, h⟩ := mt_ob2 h
      obtain ⟨o_, hp⟩ := ov_X9_letterIsA hp e6
      refine ov_b2 o_ ?_
      by_cases hc : v6 = 0
      · have h := mt_ip h hc
        refine ov_t hc ?_
        obtain ⟨S7, e7, h⟩ := mt_ob h
        obtain ⟨o_, hp⟩ := ov_X9_multiply hp e7
        refine ov_b o_ ?_
        exact ih _ _ _ _ _ hp h
      · have h := mt_in' h hc
        refine ov_f hc ?_
        obtain ⟨S8, e8, h⟩ := mt_ob h
        obtain ⟨o_, hp⟩ := ov_X9_multiply hp e8
        refine ov_b o_ ?_
        exact ih _ _ _ _ _ hp h
def f_X9_setTo (x0 : Nat) (x1 : Int32) (x2 : Int32) (S : mt_S) : Option (mt_S) :=
  if mt_isK S x0 9 = true then
   Option.bind (mt_wL S x0 9 0 1) fun S1 =>
   Option.bind (mt_wL S1 x0 9 1 0) fun S2 =>
   Option.bind (mt_wL S2 x0 9 2 0) fun S3 =>
   Option.bind (mt_wL S3 x0 9 3 1) fun S4 =>
   f_X9_setTo_L22 1000 x0 x1 x2 1 S4
  else none
theorem k_X9_setTo {x0 : Nat} {x1 : Int32} {x2 : Int32} {S : mt_S} {S' : mt_S} (h : f_X9_setTo x0 x1 x2 S = some S') : mt_isK S x0 9 = true := by
  unfold f_X9_setTo at h
  exact (mt_gd h).1
set_option maxHeartbeats 4000000 in
set_option maxRecDepth 100000 in
theorem m_X9_setTo {B : mt_B}  {x0 : Nat} {x1 : Int32} {x2 : Int32} {S : mt_S} {S' : mt_S} (h : f_X9_setTo x0 x1 x2 S = some S') : mt_M B yX9_setTo cX9_setTo 4 none 2 [mt_rf B x0, .int x1, .int x2] S none S' := by
  unfold f_X9_setTo at h
  refine mt_M.of (by decide) (Nat.le_of_ble_eq_true rfl) (fun E hC hE => ?_)
  obtain ⟨hk0, h⟩ := mt_gd h
  refine go_aload_n hC 0 dX9_setTo_0 rfl rfl ?_
  refine go_lconst (v := 1) hC dX9_setTo_1 (by decide) ?_
  obtain ⟨S1, e1, h⟩ := mt_ob h
  refine go_putL hC mt_flX9_13 e1 dX9_setTo_2 ?_
  refine go_aload_n hC 0 dX9_setTo_5 rfl rfl ?_
  refine go_lconst (v := 0) hC dX9_setTo_6 (by decide) ?_
  obtain ⟨S2, e2, h⟩ := mt_ob h
  refine go_putL hC mt_flX9_17 e2 dX9_setTo_7 ?_
  refine go_aload_n hC 0 dX9_setTo_10 rfl rfl ?_
  refine go_lconst (v := 0) hC dX9_setTo_11 (by decide) ?_
  obtain ⟨S3, e3, h⟩ := mt_ob h
  refine go_putL hC mt_flX9_20 e3 dX9_setTo_12 ?_
  refine go_aload_n hC 0 dX9_setTo_15 rfl rfl ?_
  refine go_lconst (v := 1) hC dX9_setTo_16 (by decide) ?_
  obtain ⟨S4, e4, h⟩ := mt_ob h
  refine go_putL hC mt_flX9_23 e4 dX9_setTo_17 ?_
  refine go_iconst (v := 1) hC dX9_setTo_20 (by decide) ?_
  refine go_istore_n hC [1, 2, 3, 0] (lv1 := [(0, mt_rf B x0), (1, .int x1), (2, .int x2), (3, .int 1)]) dX9_setTo_21 rfl (by decide) rfl ?_
  exact m_X9_setTo_L22 hC hE 1000 _ _ _ _ _ h
set_option maxHeartbeats 4000000 in
set_option maxRecDepth 100000 in
theorem ov_X9_setTo {T : mt_S}  {x0 : Nat} {x1 : Int32} {x2 : Int32} {S : mt_S} {S' : mt_S} (hp : mt_cp S T) (h : f_X9_setTo x0 x1 x2 S = some S') : f_X9_setTo x0 x1 x2 (mt_ov S T) = some (mt_ov S' T) ∧ mt_cp S' T := by
  unfold f_X9_setTo at h ⊢
  obtain ⟨hg, h⟩ := mt_gd h
  refine ov_t (ov_K hp hg) ?_
  obtain ⟨S1, e1, h⟩ := mt_ob h
  obtain ⟨o_, hp⟩ := ov_wL hp e1
  refine ov_b o_ ?_
  obtain ⟨S2, e2, h⟩ := mt_ob h
  obtain ⟨o_, hp⟩ := ov_wL hp e2
  refine ov_b o_ ?_
  obtain ⟨S3, e3, h⟩ := mt_ob h
  obtain ⟨o_, hp⟩ := ov_wL hp e3
  refine ov_b o_ ?_
  obtain ⟨S4, e4, h⟩ := mt_ob h
  obtain ⟨o_, hp⟩ := ov_wL hp e4
  refine ov_b o_ ?_
  exact ov_X9_setTo_L22 1000 _ _ _ _ _ hp h
def f_X9_entry (x0 : Nat) (x1 : Int32) (x2 : Int32) (S : mt_S) : Option (Int64 × mt_S) :=
  if mt_isK S x0 9 = true then
   if x1 = 0 then
    if x2 = 0 then
     Option.bind (mt_rL S x0 9 0) fun v4 =>
     some (v4, S)
    else
     Option.bind (mt_rL S x0 9 1) fun v3 =>
     some (v3, S)
   else
   if x2 = 0 then
    Option.bind (mt_rL S x0 9 2) fun v2 =>
    some (v2, S)
   else
    Option.bind (mt_rL S x0 9 3) fun v1 =>
    some (v1, S)
  else none
theorem k_X9_entry {x0 : Nat} {x1 : Int32} {x2 : Int32} {S : mt_S} {r : Int64} {S' : mt_S} (h : f_X9_entry x0 x1 x2 S = some (r, S')) : mt_isK S x0 9 = true := by
  unfold f_X9_entry at h
  exact (mt_gd h).1
set_option maxHeartbeats 4000000 in
set_option maxRecDepth 100000 in
theorem m_X9_entry {B : mt_B}  {x0 : Nat} {x1 : Int32} {x2 : Int32} {S : mt_S} {r : Int64} {S' : mt_S} (h : f_X9_entry x0 x1 x2 S = some (r, S')) : mt_M B yX9_entry cX9_entry 3 (some .long) 1 [mt_rf B x0, .int x1, .int x2] S (some (.long r)) S' := by
  unfold f_X9_entry at h
  refine mt_M.of (by decide) (Nat.le_of_ble_eq_true rfl) (fun E hC hE => ?_)
  obtain ⟨hk0, h⟩ := mt_gd h
  refine go_iload_n hC 1 dX9_entry_0 rfl rfl ?_
  refine go_if_ne hC (tgt := 20) dX9_entry_1 (by decide) (fun hc => ?_) (fun hc => ?_)
  · have h := mt_in' h hc
    refine go_iload_n hC 2 dX9_entry_20 rfl rfl ?_
    refine go_if_ne hC (tgt := 31) dX9_entry_21 (by decide) (fun hc => ?_) (fun hc => ?_)
    · have h := mt_in' h hc
      refine go_aload_n hC 0 dX9_entry_31 rfl rfl ?_
      obtain ⟨v1, e1, h⟩ := mt_ob h
      refine go_getL hC mt_flX9_23 e1 dX9_entry_32 ?_
      exact go_lret hC (mt_rel h hE) dX9_entry_35
    · have h := mt_ip h hc
      refine go_aload_n hC 0 dX9_entry_24 rfl rfl ?_
      obtain ⟨v2, e2, h⟩ := mt_ob h
      refine go_getL hC mt_flX9_20 e2 dX9_entry_25 ?_
      refine go_goto hC (tgt := 35) dX9_entry_28 (by decide) ?_
      exact go_lret hC (mt_rel h hE) dX9_entry_35
  · have h := mt_ip h hc
    refine go_iload_n hC 2 dX9_entry_4 rfl rfl ?_
    refine go_if_ne hC (tgt := 15) dX9_entry_5 (by decide) (fun hc => ?_) (fun hc => ?_)
    · have h := mt_in' h hc
      refine go_aload_n hC 0 dX9_entry_15 rfl rfl ?_
      obtain ⟨v3, e3, h⟩ := mt_ob h
      refine go_getL hC mt_flX9_17 e3 dX9_entry_16 ?_
      exact go_lret hC (mt_rel h hE) dX9_entry_19
    · have h := mt_ip h hc
      refine go_aload_n hC 0 dX9_entry_8 rfl rfl ?_
      obtain ⟨v4, e4, h⟩ := mt_ob h
      refine go_getL hC mt_flX9_13 e4 dX9_entry_9 ?_
      refine go_goto hC (tgt := 19) dX9_entry_12 (by decide) ?_
      exact go_lret hC (mt_rel h hE) dX9_entry_19
set_option maxHeartbeats 4000000 in
set_option maxRecDepth 100000 in
theorem ov_X9_entry {T : mt_S}  {x0 : Nat} {x1 : Int32} {x2 : Int32} {S : mt_S} {r : Int64} {S' : mt_S} (hp : mt_cp S T) (h : f_X9_entry x0 x1 x2 S = some (r, S')) : f_X9_entry x0 x1 x2 (mt_ov S T) = some (r, mt_ov S' T) ∧ mt_cp S' T := by
  unfold f_X9_entry at h ⊢
  obtain ⟨hg, h⟩ := mt_gd h
  refine ov_t (ov_K hp hg) ?_
  by_cases hc : x1 = 0
  · have h := mt_ip h hc
    refine ov_t hc ?_
    by_cases hc : x2 = 0
    · have h := mt_ip h hc
      refine ov_t hc ?_
      obtain ⟨v4, e4, h⟩ := mt_ob h
      refine ov_b (ov_rL hp e4) ?_
      exact ov_ret hp h
    · have h := mt_in' h hc
      refine ov_f hc ?_
      obtain ⟨v3, e3, h⟩ := mt_ob h
      refine ov_b (ov_rL hp e3) ?_
      exact ov_ret hp h
  · have h := mt_in' h hc
    refine ov_f hc ?_
    by_cases hc : x2 = 0
    · have h := mt_ip h hc
      refine ov_t hc ?_
      obtain ⟨v2, e2, h⟩ := mt_ob h
      refine ov_b (ov_rL hp e2) ?_
      exact ov_ret hp h
    · have h := mt_in' h hc
      refine ov_f hc ?_
      obtain ⟨v1, e1, h⟩ := mt_ob h
      refine ov_b (ov_rL hp e1) ?_
      exact ov_ret hp h
