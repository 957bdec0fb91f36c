def f_X2_init (x0 : Nat) (S : mt_S) : Option mt_S :=
  if mt_isK S x0 2 = true then
   mt_new S 16 9 fun k1 S2 =>
   Option.bind (mt_wR S2 x0 2 0 (some k1)) fun S3 =>
   Option.bind (mt_rR S3 x0 2 0) fun v4 =>
   mt_new S3 5 2 fun k5 S6 =>
   Option.bind (f_X5_init k5 S6) fun S7 =>
   if mt_isK S7 k5 5 = true then
    Option.bind (mt_sR S7 v4 0 (some k5)) fun S8 =>
    Option.bind (mt_rR S8 x0 2 0) fun v9 =>
    mt_new S8 5 2 fun k10 S11 =>
    Option.bind (f_X5_init k10 S11) fun S12 =>
    if mt_isK S12 k10 5 = true then
     Option.bind (mt_sR S12 v9 1 (some k10)) fun S13 =>
     Option.bind (mt_rR S13 x0 2 0) fun v14 =>
     mt_new S13 5 2 fun k15 S16 =>
     Option.bind (f_X5_init k15 S16) fun S17 =>
     if mt_isK S17 k15 5 = true then
      Option.bind (mt_sR S17 v14 2 (some k15)) fun S18 =>
      Option.bind (mt_rR S18 x0 2 0) fun v19 =>
      mt_new S18 5 2 fun k20 S21 =>
      Option.bind (f_X5_init k20 S21) fun S22 =>
      if mt_isK S22 k20 5 = true then
       Option.bind (mt_sR S22 v19 3 (some k20)) fun S23 =>
       Option.bind (mt_rR S23 x0 2 0) fun v24 =>
       mt_new S23 5 2 fun k25 S26 =>
       Option.bind (f_X5_init k25 S26) fun S27 =>
       if mt_isK S27 k25 5 = true then
        Option.bind (mt_sR S27 v24 4 (some k25)) fun S28 =>
        Option.bind (mt_rR S28 x0 2 0) fun v29 =>
        mt_new S28 5 2 fun k30 S31 =>
        Option.bind (f_X5_init k30 S31) fun S32 =>
        if mt_isK S32 k30 5 = true then
         Option.bind (mt_sR S32 v29 5 (some k30)) fun S33 =>
         Option.bind (mt_rR S33 x0 2 0) fun v34 =>
         mt_new S33 5 2 fun k35 S36 =>
         Option.bind (f_X5_init k35 S36) fun S37 =>
         if mt_isK S37 k35 5 = true then
          Option.bind (mt_sR S37 v34 6 (some k35)) fun S38 =>
          Option.bind (mt_rR S38 x0 2 0) fun v39 =>
          mt_new S38 5 2 fun k40 S41 =>
          Option.bind (f_X5_init k40 S41) fun S42 =>
          if mt_isK S42 k40 5 = true then
           Option.bind (mt_sR S42 v39 7 (some k40)) fun S43 =>
           Option.bind (mt_rR S43 x0 2 0) fun v44 =>
           mt_new S43 5 2 fun k45 S46 =>
           Option.bind (f_X5_init k45 S46) fun S47 =>
           if mt_isK S47 k45 5 = true then
            Option.bind (mt_sR S47 v44 8 (some k45)) fun S48 =>
            Option.bind (mt_wI S48 x0 2 1 0) fun S49 =>
            Option.bind (mt_wI S49 x0 2 2 0) fun S50 =>
            some S50
           else none
          else none
         else none
        else none
       else none
      else none
     else none
    else none
   else none
  else none
set_option maxHeartbeats 4000000 in
theorem n_X2_init {x0 : Nat} {S S' : mt_S} (h : f_X2_init x0 S = some S') : S'.1 = S.1 + 55 := by
  have nS : S.1 = S.1 + 0 := rfl
  unfold f_X2_init at h
  replace h := mt_gd h
  obtain ⟨-, h⟩ := h
  replace h := mt_nw h
  obtain ⟨k1, S2, qk1, qS2, h⟩ := h
  have nS2 : S2.1 = S.1 + 1 := by rw [qS2]; exact congrArg (fun z => z + 1) nS
  replace h := mt_ob h
  obtain ⟨S3, e3, h⟩ := h
  have nS3 : S3.1 = S.1 + 1 := (mt_wR_n e3).trans nS2
  replace h := mt_ob h
  obtain ⟨v4, e4, h⟩ := h
  replace h := mt_nw h
  obtain ⟨k5, S6, qk5, qS6, h⟩ := h
  have nS6 : S6.1 = S.1 + 2 := by rw [qS6]; exact congrArg (fun z => z + 1) nS3
  replace h := mt_ob h
  obtain ⟨S7, e7, h⟩ := h
  have nS7 : S7.1 = S.1 + 7 := (n_X5_init e7).trans (congrArg (fun z => z + 5) nS6)
  replace h := mt_gd h
  obtain ⟨-, h⟩ := h
  replace h := mt_ob h
  obtain ⟨S8, e8, h⟩ := h
  have nS8 : S8.1 = S.1 + 7 := (mt_sR_n e8).trans nS7
  replace h := mt_ob h
  obtain ⟨v9, e9, h⟩ := h
  replace h := mt_nw h
  obtain ⟨k10, S11, qk10, qS11, h⟩ := h
  have nS11 : S11.1 = S.1 + 8 := by rw [qS11]; exact congrArg (fun z => z + 1) nS8
  replace h := mt_ob h
  obtain ⟨S12, e12, h⟩ := h
  have nS12 : S12.1 = S.1 + 13 := (n_X5_init e12).trans (congrArg (fun z => z + 5) nS11)
  replace h := mt_gd h
  obtain ⟨-, h⟩ := h
  replace h := mt_ob h
  obtain ⟨S13, e13, h⟩ := h
  have nS13 : S13.1 = S.1 + 13 := (mt_sR_n e13).trans nS12
  replace h := mt_ob h
  obtain ⟨v14, e14, h⟩ := h
  replace h := mt_nw h
  obtain ⟨k15, S16, qk15, qS16, h⟩ := h
  have nS16 : S16.1 = S.1 + 14 := by rw [qS16]; exact congrArg (fun z => z + 1) nS13
  replace h := mt_ob h
  obtain ⟨S17, e17, h⟩ := h
  have nS17 : S17.1 = S.1 + 19 := (n_X5_init e17).trans (congrArg (fun z => z + 5) nS16)
  replace h := mt_gd h
  obtain ⟨-, h⟩ := h
  replace h := mt_ob h
  obtain ⟨S18, e18, h⟩ := h
  have nS18 : S18.1 = S.1 + 19 := (mt_sR_n e18).trans nS17
  replace h := mt_ob h
  obtain ⟨v19, e19, h⟩ := h
  replace h := mt_nw h
  obtain ⟨k20, S21, qk20, qS21, h⟩ := h
  have nS21 : S21.1 = S.1 + 20 := by rw [qS21]; exact congrArg (fun z => z + 1) nS18
  replace h := mt_ob h
  obtain ⟨S22, e22, h⟩ := h
  have nS22 : S22.1 = S.1 + 25 := (n_X5_init e22).trans (congrArg (fun z => z + 5) nS21)
  replace h := mt_gd h
  obtain ⟨-, h⟩ := h
  replace h := mt_ob h
  obtain ⟨S23, e23, h⟩ := h
  have nS23 : S23.1 = S.1 + 25 := (mt_sR_n e23).trans nS22
  replace h := mt_ob h
  obtain ⟨v24, e24, h⟩ := h
  replace h := mt_nw h
  obtain ⟨k25, S26, qk25, qS26, h⟩ := h
  have nS26 : S26.1 = S.1 + 26 := by rw [qS26]; exact congrArg (fun z => z + 1) nS23
  replace h := mt_ob h
  obtain ⟨S27, e27, h⟩ := h
  have nS27 : S27.1 = S.1 + 31 := (n_X5_init e27).trans (congrArg (fun z => z + 5) nS26)
  replace h := mt_gd h
  obtain ⟨-, h⟩ := h
  replace h := mt_ob h
  obtain ⟨S28, e28, h⟩ := h
  have nS28 : S28.1 = S.1 + 31 := (mt_sR_n e28).trans nS27
  replace h := mt_ob h
  obtain ⟨v29, e29, h⟩ := h
  replace h := mt_nw h
  obtain ⟨k30, S31, qk30, qS31, h⟩ := h
  have nS31 : S31.1 = S.1 + 32 := by rw [qS31]; exact congrArg (fun z => z + 1) nS28
  replace h := mt_ob h
  obtain ⟨S32, e32, h⟩ := h
  have nS32 : S32.1 = S.1 + 37 := (n_X5_init e32).trans (congrArg (fun z => z + 5) nS31)
  replace h := mt_gd h
  obtain ⟨-, h⟩ := h
  replace h := mt_ob h
  obtain ⟨S33, e33, h⟩ := h
  have nS33 : S33.1 = S.1 + 37 := (mt_sR_n e33).trans nS32
  replace h := mt_ob h
  obtain ⟨v34, e34, h⟩ := h
  replace h := mt_nw h
  obtain ⟨k35, S36, qk35, qS36, h⟩ := h
  have nS36 : S36.1 = S.1 + 38 := by rw [qS36]; exact congrArg (fun z => z + 1) nS33
  replace h := mt_ob h
  obtain ⟨S37, e37, h⟩ := h
  have nS37 : S37.1 = S.1 + 43 := (n_X5_init e37).trans (congrArg (fun z => z + 5) nS36)
  replace h := mt_gd h
  obtain ⟨-, h⟩ := h
  replace h := mt_ob h
  obtain ⟨S38, e38, h⟩ := h
  have nS38 : S38.1 = S.1 + 43 := (mt_sR_n e38).trans nS37
  replace h := mt_ob h
  obtain ⟨v39, e39, h⟩ := h
  replace h := mt_nw h
  obtain ⟨k40, S41, qk40, qS41, h⟩ := h
  have nS41 : S41.1 = S.1 + 44 := by rw [qS41]; exact congrArg (fun z => z + 1) nS38
  replace h := mt_ob h
  obtain ⟨S42, e42, h⟩ := h
  have nS42 : S42.1 = S.1 + 49 := (n_X5_init e42).trans (congrArg (fun z => z + 5) nS41)
  replace h := mt_gd h
  obtain ⟨-, h⟩ := h
  replace h := mt_ob h
  obtain ⟨S43, e43, h⟩ := h
  have nS43 : S43.1 = S.1 + 49 := (mt_sR_n e43).trans nS42
  replace h := mt_ob h
  obtain ⟨v44, e44, h⟩ := h
  replace h := mt_nw h
  obtain ⟨k45, S46, qk45, qS46, h⟩ := h
  have nS46 : S46.1 = S.1 + 50 := by rw [qS46]; exact congrArg (fun z => z + 1) nS43
  replace h := mt_ob h
  obtain ⟨S47, e47, h⟩ := h
  have nS47 : S47.1 = S.1 + 55 := (n_X5_init e47).trans (congrArg (fun z => z + 5) nS46)
  replace h := mt_gd h
  obtain ⟨-, h⟩ := h
  replace h := mt_ob h
  obtain ⟨S48, e48, h⟩ := h
  have nS48 : S48.1 = S.1 + 55 := (mt_sR_n e48).trans nS47
  replace h := mt_ob h
  obtain ⟨S49, e49, h⟩ := h
  have nS49 : S49.1 = S.1 + 55 := (mt_wI_n e49).trans nS48
  replace h := mt_ob h
  obtain ⟨S50, e50, h⟩ := h
  have nS50 : S50.1 = S.1 + 55 := (mt_wI_n e50).trans nS49
  cases h
  exact nS50
set_option maxHeartbeats 4000000 in
set_option maxRecDepth 100000 in
theorem m_X2_init {B : mt_B} {x0 : Nat} {S S' : mt_S} (h : f_X2_init x0 S = some S') : mt_MB B yX2_init cX2_init 2 4 55 540 [mt_rf B x0] S S' := by
  unfold f_X2_init at h
  refine mt_MB.of (by decide) (Nat.le_of_ble_eq_true rfl) (fun E hC hN hX hA hE => ?_)
  have nS : S.1 = S.1 + 0 := rfl
  replace h := mt_gd h
  obtain ⟨hk0, h⟩ := h
  refine go_aload_n hC 0 dX2_init_0 rfl rfl ?_
  refine go_objInit hC mt_olX2_3 mt_oi mt_oc0 (by decide) (Nat.le_of_ble_eq_true rfl) dX2_init_1 ?_
  refine go_aload_n hC 0 dX2_init_4 rfl rfl ?_
  refine go_bipush (v := 9) hC dX2_init_5 (by decide) ?_
  replace h := mt_nw h
  obtain ⟨k1, S2, qk1, qS2, h⟩ := h
  have nS2 : S2.1 = S.1 + 1 := by rw [qS2]; exact congrArg (fun z => z + 1) nS
  refine go_anew hC hX hA (cs1 := (1, 9)) (N := 9) mt_klX2_11 (by decide) (by decide) (by decide) nS.symm rfl (by decide) dX2_init_7 ?_
  rw [← qS2, ← qk1]
  replace h := mt_ob h
  obtain ⟨S3, e3, h⟩ := h
  have nS3 : S3.1 = S.1 + 1 := (mt_wR_n e3).trans nS2
  refine go_putRF (C0 := "") hC hN mt_flX2_13 ⟨_, _, rfl⟩ ⟨rfl, rfl⟩ e3 dX2_init_10 ?_
  refine go_iconst (v := 0) hC dX2_init_13 (by decide) ?_
  refine go_istore_n hC [1, 0] (lv1 := [(0, mt_rf B x0), (1, .int 0)]) dX2_init_14 rfl (by decide) rfl ?_
  refine go_iload_n hC 1 dX2_init_15 rfl rfl ?_
  refine go_bipush (v := 9) hC dX2_init_16 (by decide) ?_
  refine go_icmp_ge hC (tgt := 40) dX2_init_18 (by decide) (fun hc => absurd hc (by decide)) (fun hc => ?_)
  refine go_aload_n hC 0 dX2_init_21 rfl rfl ?_
  replace h := mt_ob h
  obtain ⟨v4, e4, h⟩ := h
  refine go_getR hC mt_flX2_13 e4 dX2_init_22 ?_
  refine go_iload_n hC 1 dX2_init_25 rfl rfl ?_
  replace h := mt_nw h
  obtain ⟨k5, S6, qk5, qS6, h⟩ := h
  have nS6 : S6.1 = S.1 + 2 := by rw [qS6]; exact congrArg (fun z => z + 1) nS3
  refine go_new hC hX (cs1 := (2, 11)) mt_cf5 mt_dd5 mt_klX2_11 mt_in5 mt_ii5 nS3.symm rfl (by decide) dX2_init_26 ?_
  rw [← qS6, ← qk5]
  refine go_dup hC dX2_init_29 rfl ?_
  replace h := mt_ob h
  obtain ⟨S7, e7, h⟩ := h
  have nS7 : S7.1 = S.1 + 7 := (n_X5_init e7).trans (congrArg (fun z => z + 5) nS6)
  refine go_callI hC hX hA (cs1 := (7, 68)) [] [mt_rf B k5, .int 0, mt_rf B v4] (m_X5_init e7) mt_ciX2_17 dX2_init_30 rfl rfl (by decide) (Nat.le_of_ble_eq_true rfl) nS6.symm rfl (by decide) ?_
  replace h := mt_gd h
  obtain ⟨g59, h⟩ := h
  replace h := mt_ob h
  obtain ⟨S8, e8, h⟩ := h
  have nS8 : S8.1 = S.1 + 7 := (mt_sR_n e8).trans nS7
  refine go_aast hC g59 e8 dX2_init_33 ?_
  refine go_iinc hC 1 [1, 0] (v := 1) (lv1 := [(0, mt_rf B x0), (1, .int 1)]) dX2_init_34 rfl (by decide) (by decide) rfl ?_
  refine go_goto hC (tgt := 15) dX2_init_37 (by decide) ?_
  refine go_iload_n hC 1 dX2_init_15 rfl rfl ?_
  refine go_bipush (v := 9) hC dX2_init_16 (by decide) ?_
  refine go_icmp_ge hC (tgt := 40) dX2_init_18 (by decide) (fun hc => absurd hc (by decide)) (fun hc => ?_)
  refine go_aload_n hC 0 dX2_init_21 rfl rfl ?_
  replace h := mt_ob h
  obtain ⟨v9, e9, h⟩ := h
  refine go_getR hC mt_flX2_13 e9 dX2_init_22 ?_
  refine go_iload_n hC 1 dX2_init_25 rfl rfl ?_
  replace h := mt_nw h
  obtain ⟨k10, S11, qk10, qS11, h⟩ := h
  have nS11 : S11.1 = S.1 + 8 := by rw [qS11]; exact congrArg (fun z => z + 1) nS8
  refine go_new hC hX (cs1 := (8, 70)) mt_cf5 mt_dd5 mt_klX2_11 mt_in5 mt_ii5 nS8.symm rfl (by decide) dX2_init_26 ?_
  rw [← qS11, ← qk10]
  refine go_dup hC dX2_init_29 rfl ?_
  replace h := mt_ob h
  obtain ⟨S12, e12, h⟩ := h
  have nS12 : S12.1 = S.1 + 13 := (n_X5_init e12).trans (congrArg (fun z => z + 5) nS11)
  refine go_callI hC hX hA (cs1 := (13, 127)) [] [mt_rf B k10, .int 1, mt_rf B v9] (m_X5_init e12) mt_ciX2_17 dX2_init_30 rfl rfl (by decide) (Nat.le_of_ble_eq_true rfl) nS11.symm rfl (by decide) ?_
  replace h := mt_gd h
  obtain ⟨g58, h⟩ := h
  replace h := mt_ob h
  obtain ⟨S13, e13, h⟩ := h
  have nS13 : S13.1 = S.1 + 13 := (mt_sR_n e13).trans nS12
  refine go_aast hC g58 e13 dX2_init_33 ?_
  refine go_iinc hC 1 [1, 0] (v := 2) (lv1 := [(0, mt_rf B x0), (1, .int 2)]) dX2_init_34 rfl (by decide) (by decide) rfl ?_
  refine go_goto hC (tgt := 15) dX2_init_37 (by decide) ?_
  refine go_iload_n hC 1 dX2_init_15 rfl rfl ?_
  refine go_bipush (v := 9) hC dX2_init_16 (by decide) ?_
  refine go_icmp_ge hC (tgt := 40) dX2_init_18 (by decide) (fun hc => absurd hc (by decide)) (fun hc => ?_)
  refine go_aload_n hC 0 dX2_init_21 rfl rfl ?_
  replace h := mt_ob h
  obtain ⟨v14, e14, h⟩ := h
  refine go_getR hC mt_flX2_13 e14 dX2_init_22 ?_
  refine go_iload_n hC 1 dX2_init_25 rfl rfl ?_
  replace h := mt_nw h
  obtain ⟨k15, S16, qk15, qS16, h⟩ := h
  have nS16 : S16.1 = S.1 + 14 := by rw [qS16]; exact congrArg (fun z => z + 1) nS13
  refine go_new hC hX (cs1 := (14, 129)) mt_cf5 mt_dd5 mt_klX2_11 mt_in5 mt_ii5 nS13.symm rfl (by decide) dX2_init_26 ?_
  rw [← qS16, ← qk15]
  refine go_dup hC dX2_init_29 rfl ?_
  replace h := mt_ob h
  obtain ⟨S17, e17, h⟩ := h
  have nS17 : S17.1 = S.1 + 19 := (n_X5_init e17).trans (congrArg (fun z => z + 5) nS16)
  refine go_callI hC hX hA (cs1 := (19, 186)) [] [mt_rf B k15, .int 2, mt_rf B v14] (m_X5_init e17) mt_ciX2_17 dX2_init_30 rfl rfl (by decide) (Nat.le_of_ble_eq_true rfl) nS16.symm rfl (by decide) ?_
  replace h := mt_gd h
  obtain ⟨g57, h⟩ := h
  replace h := mt_ob h
  obtain ⟨S18, e18, h⟩ := h
  have nS18 : S18.1 = S.1 + 19 := (mt_sR_n e18).trans nS17
  refine go_aast hC g57 e18 dX2_init_33 ?_
  refine go_iinc hC 1 [1, 0] (v := 3) (lv1 := [(0, mt_rf B x0), (1, .int 3)]) dX2_init_34 rfl (by decide) (by decide) rfl ?_
  refine go_goto hC (tgt := 15) dX2_init_37 (by decide) ?_
  refine go_iload_n hC 1 dX2_init_15 rfl rfl ?_
  refine go_bipush (v := 9) hC dX2_init_16 (by decide) ?_
  refine go_icmp_ge hC (tgt := 40) dX2_init_18 (by decide) (fun hc => absurd hc (by decide)) (fun hc => ?_)
  refine go_aload_n hC 0 dX2_init_21 rfl rfl ?_
  replace h := mt_ob h
  obtain ⟨v19, e19, h⟩ := h
  refine go_getR hC mt_flX2_13 e19 dX2_init_22 ?_
  refine go_iload_n hC 1 dX2_init_25 rfl rfl ?_
  replace h := mt_nw h
  obtain ⟨k20, S21, qk20, qS21, h⟩ := h
  have nS21 : S21.1 = S.1 + 20 := by rw [qS21]; exact congrArg (fun z => z + 1) nS18
  refine go_new hC hX (cs1 := (20, 188)) mt_cf5 mt_dd5 mt_klX2_11 mt_in5 mt_ii5 nS18.symm rfl (by decide) dX2_init_26 ?_
  rw [← qS21, ← qk20]
  refine go_dup hC dX2_init_29 rfl ?_
  replace h := mt_ob h
  obtain ⟨S22, e22, h⟩ := h
  have nS22 : S22.1 = S.1 + 25 := (n_X5_init e22).trans (congrArg (fun z => z + 5) nS21)
  refine go_callI hC hX hA (cs1 := (25, 245)) [] [mt_rf B k20, .int 3, mt_rf B v19] (m_X5_init e22) mt_ciX2_17 dX2_init_30 rfl rfl (by decide) (Nat.le_of_ble_eq_true rfl) nS21.symm rfl (by decide) ?_
  replace h := mt_gd h
  obtain ⟨g56, h⟩ := h
  replace h := mt_ob h
  obtain ⟨S23, e23, h⟩ := h
  have nS23 : S23.1 = S.1 + 25 := (mt_sR_n e23).trans nS22
  refine go_aast hC g56 e23 dX2_init_33 ?_
  refine go_iinc hC 1 [1, 0] (v := 4) (lv1 := [(0, mt_rf B x0), (1, .int 4)]) dX2_init_34 rfl (by decide) (by decide) rfl ?_
  refine go_goto hC (tgt := 15) dX2_init_37 (by decide) ?_
  refine go_iload_n hC 1 dX2_init_15 rfl rfl ?_
  refine go_bipush (v := 9) hC dX2_init_16 (by decide) ?_
  refine go_icmp_ge hC (tgt := 40) dX2_init_18 (by decide) (fun hc => absurd hc (by decide)) (fun hc => ?_)
  refine go_aload_n hC 0 dX2_init_21 rfl rfl ?_
  replace h := mt_ob h
  obtain ⟨v24, e24, h⟩ := h
  refine go_getR hC mt_flX2_13 e24 dX2_init_22 ?_
  refine go_iload_n hC 1 dX2_init_25 rfl rfl ?_
  replace h := mt_nw h
  obtain ⟨k25, S26, qk25, qS26, h⟩ := h
  have nS26 : S26.1 = S.1 + 26 := by rw [qS26]; exact congrArg (fun z => z + 1) nS23
  refine go_new hC hX (cs1 := (26, 247)) mt_cf5 mt_dd5 mt_klX2_11 mt_in5 mt_ii5 nS23.symm rfl (by decide) dX2_init_26 ?_
  rw [← qS26, ← qk25]
  refine go_dup hC dX2_init_29 rfl ?_
  replace h := mt_ob h
  obtain ⟨S27, e27, h⟩ := h
  have nS27 : S27.1 = S.1 + 31 := (n_X5_init e27).trans (congrArg (fun z => z + 5) nS26)
  refine go_callI hC hX hA (cs1 := (31, 304)) [] [mt_rf B k25, .int 4, mt_rf B v24] (m_X5_init e27) mt_ciX2_17 dX2_init_30 rfl rfl (by decide) (Nat.le_of_ble_eq_true rfl) nS26.symm rfl (by decide) ?_
  replace h := mt_gd h
  obtain ⟨g55, h⟩ := h
  replace h := mt_ob h
  obtain ⟨S28, e28, h⟩ := h
  have nS28 : S28.1 = S.1 + 31 := (mt_sR_n e28).trans nS27
  refine go_aast hC g55 e28 dX2_init_33 ?_
  refine go_iinc hC 1 [1, 0] (v := 5) (lv1 := [(0, mt_rf B x0), (1, .int 5)]) dX2_init_34 rfl (by decide) (by decide) rfl ?_
  refine go_goto hC (tgt := 15) dX2_init_37 (by decide) ?_
  refine go_iload_n hC 1 dX2_init_15 rfl rfl ?_
  refine go_bipush (v := 9) hC dX2_init_16 (by decide) ?_
  refine go_icmp_ge hC (tgt := 40) dX2_init_18 (by decide) (fun hc => absurd hc (by decide)) (fun hc => ?_)
  refine go_aload_n hC 0 dX2_init_21 rfl rfl ?_
  replace h := mt_ob h
  obtain ⟨v29, e29, h⟩ := h
  refine go_getR hC mt_flX2_13 e29 dX2_init_22 ?_
  refine go_iload_n hC 1 dX2_init_25 rfl rfl ?_
  replace h := mt_nw h
  obtain ⟨k30, S31, qk30, qS31, h⟩ := h
  have nS31 : S31.1 = S.1 + 32 := by rw [qS31]; exact congrArg (fun z => z + 1) nS28
  refine go_new hC hX (cs1 := (32, 306)) mt_cf5 mt_dd5 mt_klX2_11 mt_in5 mt_ii5 nS28.symm rfl (by decide) dX2_init_26 ?_
  rw [← qS31, ← qk30]
  refine go_dup hC dX2_init_29 rfl ?_
  replace h := mt_ob h
  obtain ⟨S32, e32, h⟩ := h
  have nS32 : S32.1 = S.1 + 37 := (n_X5_init e32).trans (congrArg (fun z => z + 5) nS31)
  refine go_callI hC hX hA (cs1 := (37, 363)) [] [mt_rf B k30, .int 5, mt_rf B v29] (m_X5_init e32) mt_ciX2_17 dX2_init_30 rfl rfl (by decide) (Nat.le_of_ble_eq_true rfl) nS31.symm rfl (by decide) ?_
  replace h := mt_gd h
  obtain ⟨g54, h⟩ := h
  replace h := mt_ob h
  obtain ⟨S33, e33, h⟩ := h
  have nS33 : S33.1 = S.1 + 37 := (mt_sR_n e33).trans nS32
  refine go_aast hC g54 e33 dX2_init_33 ?_
  refine go_iinc hC 1 [1, 0] (v := 6) (lv1 := [(0, mt_rf B x0), (1, .int 6)]) dX2_init_34 rfl (by decide) (by decide) rfl ?_
  refine go_goto hC (tgt := 15) dX2_init_37 (by decide) ?_
  refine go_iload_n hC 1 dX2_init_15 rfl rfl ?_
  refine go_bipush (v := 9) hC dX2_init_16 (by decide) ?_
  refine go_icmp_ge hC (tgt := 40) dX2_init_18 (by decide) (fun hc => absurd hc (by decide)) (fun hc => ?_)
  refine go_aload_n hC 0 dX2_init_21 rfl rfl ?_
  replace h := mt_ob h
  obtain ⟨v34, e34, h⟩ := h
  refine go_getR hC mt_flX2_13 e34 dX2_init_22 ?_
  refine go_iload_n hC 1 dX2_init_25 rfl rfl ?_
  replace h := mt_nw h
  obtain ⟨k35, S36, qk35, qS36, h⟩ := h
  have nS36 : S36.1 = S.1 + 38 := by rw [qS36]; exact congrArg (fun z => z + 1) nS33
  refine go_new hC hX (cs1 := (38, 365)) mt_cf5 mt_dd5 mt_klX2_11 mt_in5 mt_ii5 nS33.symm rfl (by decide) dX2_init_26 ?_
  rw [← qS36, ← qk35]
  refine go_dup hC dX2_init_29 rfl ?_
  replace h := mt_ob h
  obtain ⟨S37, e37, h⟩ := h
  have nS37 : S37.1 = S.1 + 43 := (n_X5_init e37).trans (congrArg (fun z => z + 5) nS36)
  refine go_callI hC hX hA (cs1 := (43, 422)) [] [mt_rf B k35, .int 6, mt_rf B v34] (m_X5_init e37) mt_ciX2_17 dX2_init_30 rfl rfl (by decide) (Nat.le_of_ble_eq_true rfl) nS36.symm rfl (by decide) ?_
  replace h := mt_gd h
  obtain ⟨g53, h⟩ := h
  replace h := mt_ob h
  obtain ⟨S38, e38, h⟩ := h
  have nS38 : S38.1 = S.1 + 43 := (mt_sR_n e38).trans nS37
  refine go_aast hC g53 e38 dX2_init_33 ?_
  refine go_iinc hC 1 [1, 0] (v := 7) (lv1 := [(0, mt_rf B x0), (1, .int 7)]) dX2_init_34 rfl (by decide) (by decide) rfl ?_
  refine go_goto hC (tgt := 15) dX2_init_37 (by decide) ?_
  refine go_iload_n hC 1 dX2_init_15 rfl rfl ?_
  refine go_bipush (v := 9) hC dX2_init_16 (by decide) ?_
  refine go_icmp_ge hC (tgt := 40) dX2_init_18 (by decide) (fun hc => absurd hc (by decide)) (fun hc => ?_)
  refine go_aload_n hC 0 dX2_init_21 rfl rfl ?_
  replace h := mt_ob h
  obtain ⟨v39, e39, h⟩ := h
  refine go_getR hC mt_flX2_13 e39 dX2_init_22 ?_
  refine go_iload_n hC 1 dX2_init_25 rfl rfl ?_
  replace h := mt_nw h
  obtain ⟨k40, S41, qk40, qS41, h⟩ := h
  have nS41 : S41.1 = S.1 + 44 := by rw [qS41]; exact congrArg (fun z => z + 1) nS38
  refine go_new hC hX (cs1 := (44, 424)) mt_cf5 mt_dd5 mt_klX2_11 mt_in5 mt_ii5 nS38.symm rfl (by decide) dX2_init_26 ?_
  rw [← qS41, ← qk40]
  refine go_dup hC dX2_init_29 rfl ?_
  replace h := mt_ob h
  obtain ⟨S42, e42, h⟩ := h
  have nS42 : S42.1 = S.1 + 49 := (n_X5_init e42).trans (congrArg (fun z => z + 5) nS41)
  refine go_callI hC hX hA (cs1 := (49, 481)) [] [mt_rf B k40, .int 7, mt_rf B v39] (m_X5_init e42) mt_ciX2_17 dX2_init_30 rfl rfl (by decide) (Nat.le_of_ble_eq_true rfl) nS41.symm rfl (by decide) ?_
  replace h := mt_gd h
  obtain ⟨g52, h⟩ := h
  replace h := mt_ob h
  obtain ⟨S43, e43, h⟩ := h
  have nS43 : S43.1 = S.1 + 49 := (mt_sR_n e43).trans nS42
  refine go_aast hC g52 e43 dX2_init_33 ?_
  refine go_iinc hC 1 [1, 0] (v := 8) (lv1 := [(0, mt_rf B x0), (1, .int 8)]) dX2_init_34 rfl (by decide) (by decide) rfl ?_
  refine go_goto hC (tgt := 15) dX2_init_37 (by decide) ?_
  refine go_iload_n hC 1 dX2_init_15 rfl rfl ?_
  refine go_bipush (v := 9) hC dX2_init_16 (by decide) ?_
  refine go_icmp_ge hC (tgt := 40) dX2_init_18 (by decide) (fun hc => absurd hc (by decide)) (fun hc => ?_)
  refine go_aload_n hC 0 dX2_init_21 rfl rfl ?_
  replace h := mt_ob h
  obtain ⟨v44, e44, h⟩ := h
  refine go_getR hC mt_flX2_13 e44 dX2_init_22 ?_
  refine go_iload_n hC 1 dX2_init_25 rfl rfl ?_
  replace h := mt_nw h
  obtain ⟨k45, S46, qk45, qS46, h⟩ := h
  have nS46 : S46.1 = S.1 + 50 := by rw [qS46]; exact congrArg (fun z => z + 1) nS43
  refine go_new hC hX (cs1 := (50, 483)) mt_cf5 mt_dd5 mt_klX2_11 mt_in5 mt_ii5 nS43.symm rfl (by decide) dX2_init_26 ?_
  rw [← qS46, ← qk45]
  refine go_dup hC dX2_init_29 rfl ?_
  replace h := mt_ob h
  obtain ⟨S47, e47, h⟩ := h
  have nS47 : S47.1 = S.1 + 55 := (n_X5_init e47).trans (congrArg (fun z => z + 5) nS46)
  refine go_callI hC hX hA (cs1 := (55, 540)) [] [mt_rf B k45, .int 8, mt_rf B v44] (m_X5_init e47) mt_ciX2_17 dX2_init_30 rfl rfl (by decide) (Nat.le_of_ble_eq_true rfl) nS46.symm rfl (by decide) ?_
  replace h := mt_gd h
  obtain ⟨g51, h⟩ := h
  replace h := mt_ob h
  obtain ⟨S48, e48, h⟩ := h
  have nS48 : S48.1 = S.1 + 55 := (mt_sR_n e48).trans nS47
  refine go_aast hC g51 e48 dX2_init_33 ?_
  refine go_iinc hC 1 [1, 0] (v := 9) (lv1 := [(0, mt_rf B x0), (1, .int 9)]) dX2_init_34 rfl (by decide) (by decide) rfl ?_
  refine go_goto hC (tgt := 15) dX2_init_37 (by decide) ?_
  refine go_iload_n hC 1 dX2_init_15 rfl rfl ?_
  refine go_bipush (v := 9) hC dX2_init_16 (by decide) ?_
  refine go_icmp_ge hC (tgt := 40) dX2_init_18 (by decide) (fun hc => ?_) (fun hc => absurd (by decide) hc)
  refine go_aload_n hC 0 dX2_init_40 rfl rfl ?_
  refine go_iconst (v := 0) hC dX2_init_41 (by decide) ?_
  replace h := mt_ob h
  obtain ⟨S49, e49, h⟩ := h
  have nS49 : S49.1 = S.1 + 55 := (mt_wI_n e49).trans nS48
  refine go_putI hC mt_flX2_18 e49 dX2_init_42 ?_
  refine go_aload_n hC 0 dX2_init_45 rfl rfl ?_
  refine go_iconst (v := 0) hC dX2_init_46 (by decide) ?_
  replace h := mt_ob h
  obtain ⟨S50, e50, h⟩ := h
  have nS50 : S50.1 = S.1 + 55 := (mt_wI_n e50).trans nS49
  refine go_putI hC mt_flX2_22 e50 dX2_init_47 ?_
  exact go_vret hC (mt_rev h hE) dX2_init_50
def f_X8_init (x0 : Nat) (S : mt_S) : Option mt_S :=
  if mt_isK S x0 8 = true then
   mt_new S 12 44 fun k1 S2 =>
   Option.bind (mt_wR S2 x0 8 0 (some k1)) fun S3 =>
   mt_new S3 4 5 fun k4 S5 =>
   Option.bind (f_X4_init k4 S5) fun S6 =>
   Option.bind (mt_wR S6 x0 8 1 (some k4)) fun S7 =>
   Option.bind (mt_wI S7 x0 8 2 0) fun S8 =>
   some S8
  else none
set_option maxHeartbeats 4000000 in
theorem n_X8_init {x0 : Nat} {S S' : mt_S} (h : f_X8_init x0 S = some S') : S'.1 = S.1 + 2 := by
  have nS : S.1 = S.1 + 0 := rfl
  unfold f_X8_init at h
  replace h := mt_gd h
  obtain ⟨-, h⟩ := h
  replace h := mt_nw h
  obtain ⟨k1, S2, qk1, qS2, h⟩ := h
  have nS2 : S2.1 = S.1 + 1 := by rw [qS2]; exact congrArg (fun z => z + 1) nS
  replace h := mt_ob h
  obtain ⟨S3, e3, h⟩ := h
  have nS3 : S3.1 = S.1 + 1 := (mt_wR_n e3).trans nS2
  replace h := mt_nw h
  obtain ⟨k4, S5, qk4, qS5, h⟩ := h
  have nS5 : S5.1 = S.1 + 2 := by rw [qS5]; exact congrArg (fun z => z + 1) nS3
  replace h := mt_ob h
  obtain ⟨S6, e6, h⟩ := h
  have nS6 : S6.1 = S.1 + 2 := (n_X4_init e6).trans (congrArg (fun z => z + 0) nS5)
  replace h := mt_ob h
  obtain ⟨S7, e7, h⟩ := h
  have nS7 : S7.1 = S.1 + 2 := (mt_wR_n e7).trans nS6
  replace h := mt_ob h
  obtain ⟨S8, e8, h⟩ := h
  have nS8 : S8.1 = S.1 + 2 := (mt_wI_n e8).trans nS7
  cases h
  exact nS8
set_option maxHeartbeats 4000000 in
set_option maxRecDepth 100000 in
theorem m_X8_init {B : mt_B} {x0 : Nat} {S S' : mt_S} (h : f_X8_init x0 S = some S') : mt_MB B yX8_init cX8_init 1 3 2 49 [mt_rf B x0] S S' := by
  unfold f_X8_init at h
  refine mt_MB.of (by decide) (Nat.le_of_ble_eq_true rfl) (fun E hC hN hX hA hE => ?_)
  have nS : S.1 = S.1 + 0 := rfl
  replace h := mt_gd h
  obtain ⟨hk0, h⟩ := h
  refine go_aload_n hC 0 dX8_init_0 rfl rfl ?_
  refine go_objInit hC mt_olX8_3 mt_oi mt_oc0 (by decide) (Nat.le_of_ble_eq_true rfl) dX8_init_1 ?_
  refine go_aload_n hC 0 dX8_init_4 rfl rfl ?_
  refine go_bipush (v := 44) hC dX8_init_5 (by decide) ?_
  replace h := mt_nw h
  obtain ⟨k1, S2, qk1, qS2, h⟩ := h
  have nS2 : S2.1 = S.1 + 1 := by rw [qS2]; exact congrArg (fun z => z + 1) nS
  refine go_newa_byte hC hX (cs1 := (1, 44)) mt_ac_byte (by decide) (N := 44) (by decide) (by decide) nS.symm rfl (by decide) dX8_init_7 ?_
  rw [← qS2, ← qk1]
  replace h := mt_ob h
  obtain ⟨S3, e3, h⟩ := h
  have nS3 : S3.1 = S.1 + 1 := (mt_wR_n e3).trans nS2
  refine go_putRF (C0 := "") hC hN mt_flX8_11 ⟨_, _, rfl⟩ ⟨rfl, rfl⟩ e3 dX8_init_9 ?_
  refine go_aload_n hC 0 dX8_init_12 rfl rfl ?_
  replace h := mt_nw h
  obtain ⟨k4, S5, qk4, qS5, h⟩ := h
  have nS5 : S5.1 = S.1 + 2 := by rw [qS5]; exact congrArg (fun z => z + 1) nS3
  refine go_new hC hX (cs1 := (2, 49)) mt_cf4 mt_dd4 mt_klX8_15 mt_in4 mt_ii4 nS3.symm rfl (by decide) dX8_init_13 ?_
  rw [← qS5, ← qk4]
  refine go_dup hC dX8_init_16 rfl ?_
  replace h := mt_ob h
  obtain ⟨S6, e6, h⟩ := h
  have nS6 : S6.1 = S.1 + 2 := (n_X4_init e6).trans (congrArg (fun z => z + 0) nS5)
  refine go_callI hC hX hA (cs1 := (2, 49)) [] [mt_rf B k4, mt_rf B x0] (m_X4_init e6) mt_ciX8_17 dX8_init_17 rfl rfl (by decide) (Nat.le_of_ble_eq_true rfl) nS5.symm rfl (by decide) ?_
  replace h := mt_ob h
  obtain ⟨S7, e7, h⟩ := h
  have nS7 : S7.1 = S.1 + 2 := (mt_wR_n e7).trans nS6
  refine go_putRF (C0 := "") hC hN mt_flX8_18 ⟨_, _, rfl⟩ ⟨rfl, rfl⟩ e7 dX8_init_20 ?_
  refine go_aload_n hC 0 dX8_init_23 rfl rfl ?_
  refine go_iconst (v := 0) hC dX8_init_24 (by decide) ?_
  replace h := mt_ob h
  obtain ⟨S8, e8, h⟩ := h
  have nS8 : S8.1 = S.1 + 2 := (mt_wI_n e8).trans nS7
  refine go_putI hC mt_flX8_22 e8 dX8_init_25 ?_
  exact go_vret hC (mt_rev h hE) dX8_init_28
def f_X9_init (x0 : Nat) (S : mt_S) : Option mt_S :=
  if mt_isK S x0 9 = true then
   Option.bind (f_X9_setTo x0 0 1 S) fun S1 =>
   some S1
  else none
set_option maxHeartbeats 4000000 in
theorem n_X9_init {x0 : Nat} {S S' : mt_S} (h : f_X9_init x0 S = some S') : S'.1 = S.1 + 0 := by
  have nS : S.1 = S.1 + 0 := rfl
  unfold f_X9_init at h
  replace h := mt_gd h
  obtain ⟨-, h⟩ := h
  replace h := mt_ob h
  obtain ⟨S1, e1, h⟩ := h
  have nS1 : S1.1 = S.1 + 0 := (st_X9_setTo e1).trans nS
  cases h
  exact nS1
set_option maxHeartbeats 4000000 in
set_option maxRecDepth 100000 in
theorem m_X9_init {B : mt_B} {x0 : Nat} {S S' : mt_S} (h : f_X9_init x0 S = some S') : mt_MB B yX9_init cX9_init 1 3 0 0 [mt_rf B x0] S S' := by
  unfold f_X9_init at h
  refine mt_MB.of (by decide) (Nat.le_of_ble_eq_true rfl) (fun E hC hN hX hA hE => ?_)
  have nS : S.1 = S.1 + 0 := rfl
  replace h := mt_gd h
  obtain ⟨hk0, h⟩ := h
  refine go_aload_n hC 0 dX9_init_0 rfl rfl ?_
  refine go_objInit hC mt_olX9_1 mt_oi mt_oc0 (by decide) (Nat.le_of_ble_eq_true rfl) dX9_init_1 ?_
  refine go_aload_n hC 0 dX9_init_4 rfl rfl ?_
  refine go_iconst (v := 0) hC dX9_init_5 (by decide) ?_
  refine go_iconst (v := 1) hC dX9_init_6 (by decide) ?_
  replace h := mt_ob h
  obtain ⟨S1, e1, h⟩ := h
  have nS1 : S1.1 = S.1 + 0 := (st_X9_setTo e1).trans nS
  refine go_callVv hC [.int 0, .int 1] [] (m_X9_setTo e1) mt_cvX9_7 (k_X9_setTo e1) dX9_init_7 rfl rfl (by decide) (Nat.le_of_ble_eq_true rfl) (by decide) ?_
  exact go_vret hC (mt_rev h hE) dX9_init_10
def f_X1_init (x0 : Nat) (S : mt_S) : Option mt_S :=
  if mt_isK S x0 1 = true then
   Option.bind (f_X1_set x0 5 3 S) fun S1 =>
   some S1
  else none
set_option maxHeartbeats 4000000 in
theorem n_X1_init {x0 : Nat} {S S' : mt_S} (h : f_X1_init x0 S = some S') : S'.1 = S.1 + 0 := by
  have nS : S.1 = S.1 + 0 := rfl
  unfold f_X1_init at h
  replace h := mt_gd h
  obtain ⟨-, h⟩ := h
  replace h := mt_ob h
  obtain ⟨S1, e1, h⟩ := h
  have nS1 : S1.1 = S.1 + 0 := (st_X1_set e1).trans nS
  cases h
  exact nS1
set_option maxHeartbeats 4000000 in
set_option maxRecDepth 100000 in
theorem m_X1_init {B : mt_B} {x0 : Nat} {S S' : mt_S} (h : f_X1_init x0 S = some S') : mt_MB B yX1_init cX1_init 1 2 0 0 [mt_rf B x0] S S' := by
  unfold f_X1_init at h
  refine mt_MB.of (by decide) (Nat.le_of_ble_eq_true rfl) (fun E hC hN hX hA hE => ?_)
  have nS : S.1 = S.1 + 0 := rfl
  replace h := mt_gd h
  obtain ⟨hk0, h⟩ := h
  refine go_aload_n hC 0 dX1_init_0 rfl rfl ?_
  refine go_objInit hC mt_olX1_1 mt_oi mt_oc0 (by decide) (Nat.le_of_ble_eq_true rfl) dX1_init_1 ?_
  refine go_aload_n hC 0 dX1_init_4 rfl rfl ?_
  refine go_ldc2 hC dX1_init_5 mt_kX1_7 ?_
  refine go_ldc2 hC dX1_init_8 mt_kX1_9 ?_
  replace h := mt_ob h
  obtain ⟨S1, e1, h⟩ := h
  have nS1 : S1.1 = S.1 + 0 := (st_X1_set e1).trans nS
  refine go_callVv hC [.long 5, .long 3] [] (m_X1_set e1) mt_cvX1_11 (k_X1_set e1) dX1_init_11 rfl rfl (by decide) (Nat.le_of_ble_eq_true rfl) (by decide) ?_
  exact go_vret hC (mt_rev h hE) dX1_init_14
def f_X6_init (x0 : Nat) (S : mt_S) : Option mt_S :=
  if mt_isK S x0 6 = true then
   mt_new S 14 160 fun k1 S2 =>
   Option.bind (mt_wR S2 x0 6 0 (some k1)) fun S3 =>
   mt_new S3 14 160 fun k4 S5 =>
   Option.bind (mt_wR S5 x0 6 1 (some k4)) fun S6 =>
   mt_new S6 14 160 fun k7 S8 =>
   Option.bind (mt_wR S8 x0 6 2 (some k7)) fun S9 =>
   mt_new S9 13 160 fun k10 S11 =>
   Option.bind (mt_wR S11 x0 6 3 (some k10)) fun S12 =>
   mt_new S12 14 160 fun k13 S14 =>
   Option.bind (mt_wR S14 x0 6 4 (some k13)) fun S15 =>
   Option.bind (mt_wI S15 x0 6 5 0) fun S16 =>
   Option.bind (mt_wI S16 x0 6 6 0) fun S17 =>
   some S17
  else none
set_option maxHeartbeats 4000000 in
theorem n_X6_init {x0 : Nat} {S S' : mt_S} (h : f_X6_init x0 S = some S') : S'.1 = S.1 + 5 := by
  have nS : S.1 = S.1 + 0 := rfl
  unfold f_X6_init at h
  replace h := mt_gd h
  obtain ⟨-, h⟩ := h
  replace h := mt_nw h
  obtain ⟨k1, S2, qk1, qS2, h⟩ := h
  have nS2 : S2.1 = S.1 + 1 := by rw [qS2]; exact congrArg (fun z => z + 1) nS
  replace h := mt_ob h
  obtain ⟨S3, e3, h⟩ := h
  have nS3 : S3.1 = S.1 + 1 := (mt_wR_n e3).trans nS2
  replace h := mt_nw h
  obtain ⟨k4, S5, qk4, qS5, h⟩ := h
  have nS5 : S5.1 = S.1 + 2 := by rw [qS5]; exact congrArg (fun z => z + 1) nS3
  replace h := mt_ob h
  obtain ⟨S6, e6, h⟩ := h
  have nS6 : S6.1 = S.1 + 2 := (mt_wR_n e6).trans nS5
  replace h := mt_nw h
  obtain ⟨k7, S8, qk7, qS8, h⟩ := h
  have nS8 : S8.1 = S.1 + 3 := by rw [qS8]; exact congrArg (fun z => z + 1) nS6
  replace h := mt_ob h
  obtain ⟨S9, e9, h⟩ := h
  have nS9 : S9.1 = S.1 + 3 := (mt_wR_n e9).trans nS8
  replace h := mt_nw h
  obtain ⟨k10, S11, qk10, qS11, h⟩ := h
  have nS11 : S11.1 = S.1 + 4 := by rw [qS11]; exact congrArg (fun z => z + 1) nS9
  replace h := mt_ob h
  obtain ⟨S12, e12, h⟩ := h
  have nS12 : S12.1 = S.1 + 4 := (mt_wR_n e12).trans nS11
  replace h := mt_nw h
  obtain ⟨k13, S14, qk13, qS14, h⟩ := h
  have nS14 : S14.1 = S.1 + 5 := by rw [qS14]; exact congrArg (fun z => z + 1) nS12
  replace h := mt_ob h
  obtain ⟨S15, e15, h⟩ := h
  have nS15 : S15.1 = S.1 + 5 := (mt_wR_n e15).trans nS14
  replace h := mt_ob h
  obtain ⟨S16, e16, h⟩ := h
  have nS16 : S16.1 = S.1 + 5 := (mt_wI_n e16).trans nS15
  replace h := mt_ob h
  obtain ⟨S17, e17, h⟩ := h
  have nS17 : S17.1 = S.1 + 5 := (mt_wI_n e17).trans nS16
  cases h
  exact nS17
set_option maxHeartbeats 4000000 in
set_option maxRecDepth 100000 in
theorem m_X6_init {B : mt_B} {x0 : Nat} {S S' : mt_S} (h : f_X6_init x0 S = some S') : mt_MB B yX6_init cX6_init 1 1 5 800 [mt_rf B x0] S S' := by
  unfold f_X6_init at h
  refine mt_MB.of (by decide) (Nat.le_of_ble_eq_true rfl) (fun E hC hN hX hA hE => ?_)
  have nS : S.1 = S.1 + 0 := rfl
  replace h := mt_gd h
  obtain ⟨hk0, h⟩ := h
  refine go_aload_n hC 0 dX6_init_0 rfl rfl ?_
  refine go_objInit hC mt_olX6_3 mt_oi mt_oc0 (by decide) (Nat.le_of_ble_eq_true rfl) dX6_init_1 ?_
  refine go_aload_n hC 0 dX6_init_4 rfl rfl ?_
  refine go_sipush (v := 160) hC dX6_init_5 (by decide) ?_
  replace h := mt_nw h
  obtain ⟨k1, S2, qk1, qS2, h⟩ := h
  have nS2 : S2.1 = S.1 + 1 := by rw [qS2]; exact congrArg (fun z => z + 1) nS
  refine go_newa_long hC hX (cs1 := (1, 160)) mt_ac_long (by decide) (N := 160) (by decide) (by decide) nS.symm rfl (by decide) dX6_init_8 ?_
  rw [← qS2, ← qk1]
  replace h := mt_ob h
  obtain ⟨S3, e3, h⟩ := h
  have nS3 : S3.1 = S.1 + 1 := (mt_wR_n e3).trans nS2
  refine go_putRF (C0 := "") hC hN mt_flX6_11 ⟨_, _, rfl⟩ ⟨rfl, rfl⟩ e3 dX6_init_10 ?_
  refine go_aload_n hC 0 dX6_init_13 rfl rfl ?_
  refine go_sipush (v := 160) hC dX6_init_14 (by decide) ?_
  replace h := mt_nw h
  obtain ⟨k4, S5, qk4, qS5, h⟩ := h
  have nS5 : S5.1 = S.1 + 2 := by rw [qS5]; exact congrArg (fun z => z + 1) nS3
  refine go_newa_long hC hX (cs1 := (2, 320)) mt_ac_long (by decide) (N := 160) (by decide) (by decide) nS3.symm rfl (by decide) dX6_init_17 ?_
  rw [← qS5, ← qk4]
  replace h := mt_ob h
  obtain ⟨S6, e6, h⟩ := h
  have nS6 : S6.1 = S.1 + 2 := (mt_wR_n e6).trans nS5
  refine go_putRF (C0 := "") hC hN mt_flX6_15 ⟨_, _, rfl⟩ ⟨rfl, rfl⟩ e6 dX6_init_19 ?_
  refine go_aload_n hC 0 dX6_init_22 rfl rfl ?_
  refine go_sipush (v := 160) hC dX6_init_23 (by decide) ?_
  replace h := mt_nw h
  obtain ⟨k7, S8, qk7, qS8, h⟩ := h
  have nS8 : S8.1 = S.1 + 3 := by rw [qS8]; exact congrArg (fun z => z + 1) nS6
  refine go_newa_long hC hX (cs1 := (3, 480)) mt_ac_long (by decide) (N := 160) (by decide) (by decide) nS6.symm rfl (by decide) dX6_init_26 ?_
  rw [← qS8, ← qk7]
  replace h := mt_ob h
  obtain ⟨S9, e9, h⟩ := h
  have nS9 : S9.1 = S.1 + 3 := (mt_wR_n e9).trans nS8
  refine go_putRF (C0 := "") hC hN mt_flX6_18 ⟨_, _, rfl⟩ ⟨rfl, rfl⟩ e9 dX6_init_28 ?_
  refine go_aload_n hC 0 dX6_init_31 rfl rfl ?_
  refine go_sipush (v := 160) hC dX6_init_32 (by decide) ?_
  replace h := mt_nw h
  obtain ⟨k10, S11, qk10, qS11, h⟩ := h
  have nS11 : S11.1 = S.1 + 4 := by rw [qS11]; exact congrArg (fun z => z + 1) nS9
  refine go_newa_int hC hX (cs1 := (4, 640)) mt_ac_int (by decide) (N := 160) (by decide) (by decide) nS9.symm rfl (by decide) dX6_init_35 ?_
  rw [← qS11, ← qk10]
  replace h := mt_ob h
  obtain ⟨S12, e12, h⟩ := h
  have nS12 : S12.1 = S.1 + 4 := (mt_wR_n e12).trans nS11
  refine go_putRF (C0 := "") hC hN mt_flX6_21 ⟨_, _, rfl⟩ ⟨rfl, rfl⟩ e12 dX6_init_37 ?_
  refine go_aload_n hC 0 dX6_init_40 rfl rfl ?_
  refine go_sipush (v := 160) hC dX6_init_41 (by decide) ?_
  replace h := mt_nw h
  obtain ⟨k13, S14, qk13, qS14, h⟩ := h
  have nS14 : S14.1 = S.1 + 5 := by rw [qS14]; exact congrArg (fun z => z + 1) nS12
  refine go_newa_long hC hX (cs1 := (5, 800)) mt_ac_long (by decide) (N := 160) (by decide) (by decide) nS12.symm rfl (by decide) dX6_init_44 ?_
  rw [← qS14, ← qk13]
  replace h := mt_ob h
  obtain ⟨S15, e15, h⟩ := h
  have nS15 : S15.1 = S.1 + 5 := (mt_wR_n e15).trans nS14
  refine go_putRF (C0 := "") hC hN mt_flX6_25 ⟨_, _, rfl⟩ ⟨rfl, rfl⟩ e15 dX6_init_46 ?_
  refine go_aload_n hC 0 dX6_init_49 rfl rfl ?_
  refine go_iconst (v := 0) hC dX6_init_50 (by decide) ?_
  replace h := mt_ob h
  obtain ⟨S16, e16, h⟩ := h
  have nS16 : S16.1 = S.1 + 5 := (mt_wI_n e16).trans nS15
  refine go_putI hC mt_flX6_28 e16 dX6_init_51 ?_
  refine go_aload_n hC 0 dX6_init_54 rfl rfl ?_
  refine go_iconst (v := 0) hC dX6_init_55 (by decide) ?_
  replace h := mt_ob h
  obtain ⟨S17, e17, h⟩ := h
  have nS17 : S17.1 = S.1 + 5 := (mt_wI_n e17).trans nS16
  refine go_putI hC mt_flX6_32 e17 dX6_init_56 ?_
  exact go_vret hC (mt_rev h hE) dX6_init_59
def f_X10_init (x0 : Nat) (S : mt_S) : Option mt_S :=
  if mt_isK S x0 10 = true then
   mt_new S 7 2 fun k1 S2 =>
   Option.bind (f_X7_init k1 S2) fun S3 =>
   Option.bind (mt_wR S3 x0 10 0 (some k1)) fun S4 =>
   mt_new S4 0 11 fun k5 S6 =>
   Option.bind (f_X0_init k5 S6) fun S7 =>
   Option.bind (mt_wR S7 x0 10 1 (some k5)) fun S8 =>
   mt_new S8 5 2 fun k9 S10 =>
   Option.bind (f_X5_init k9 S10) fun S11 =>
   Option.bind (mt_wR S11 x0 10 2 (some k9)) fun S12 =>
   mt_new S12 2 3 fun k13 S14 =>
   Option.bind (f_X2_init k13 S14) fun S15 =>
   Option.bind (mt_wR S15 x0 10 3 (some k13)) fun S16 =>
   mt_new S16 16 2 fun k17 S18 =>
   Option.bind (mt_wR S18 x0 10 4 (some k17)) fun S19 =>
   Option.bind (mt_rR S19 x0 10 4) fun v20 =>
   mt_new S19 5 2 fun k21 S22 =>
   Option.bind (f_X5_init k21 S22) fun S23 =>
   if mt_isK S23 k21 5 = true then
    Option.bind (mt_sR S23 v20 0 (some k21)) fun S24 =>
    Option.bind (mt_rR S24 x0 10 4) fun v25 =>
    mt_new S24 5 2 fun k26 S27 =>
    Option.bind (f_X5_init k26 S27) fun S28 =>
    if mt_isK S28 k26 5 = true then
     Option.bind (mt_sR S28 v25 1 (some k26)) fun S29 =>
     mt_new S29 15 2 fun k30 S31 =>
     Option.bind (mt_wR S31 x0 10 5 (some k30)) fun S32 =>
     mt_new S32 8 3 fun k33 S34 =>
     Option.bind (f_X8_init k33 S34) fun S35 =>
     Option.bind (mt_wR S35 x0 10 6 (some k33)) fun S36 =>
     mt_new S36 9 4 fun k37 S38 =>
     Option.bind (f_X9_init k37 S38) fun S39 =>
     Option.bind (mt_wR S39 x0 10 7 (some k37)) fun S40 =>
     mt_new S40 1 7 fun k41 S42 =>
     Option.bind (f_X1_init k41 S42) fun S43 =>
     Option.bind (mt_wR S43 x0 10 8 (some k41)) fun S44 =>
     mt_new S44 6 7 fun k45 S46 =>
     Option.bind (f_X6_init k45 S46) fun S47 =>
     Option.bind (mt_wR S47 x0 10 9 (some k45)) fun S48 =>
     some S48
    else none
   else none
  else none
set_option maxHeartbeats 4000000 in
theorem n_X10_init {x0 : Nat} {S S' : mt_S} (h : f_X10_init x0 S = some S') : S'.1 = S.1 + 95 := by
  have nS : S.1 = S.1 + 0 := rfl
  unfold f_X10_init at h
  replace h := mt_gd h
  obtain ⟨-, h⟩ := h
  replace h := mt_nw h
  obtain ⟨k1, S2, qk1, qS2, h⟩ := h
  have nS2 : S2.1 = S.1 + 1 := by rw [qS2]; exact congrArg (fun z => z + 1) nS
  replace h := mt_ob h
  obtain ⟨S3, e3, h⟩ := h
  have nS3 : S3.1 = S.1 + 2 := (n_X7_init e3).trans (congrArg (fun z => z + 1) nS2)
  replace h := mt_ob h
  obtain ⟨S4, e4, h⟩ := h
  have nS4 : S4.1 = S.1 + 2 := (mt_wR_n e4).trans nS3
  replace h := mt_nw h
  obtain ⟨k5, S6, qk5, qS6, h⟩ := h
  have nS6 : S6.1 = S.1 + 3 := by rw [qS6]; exact congrArg (fun z => z + 1) nS4
  replace h := mt_ob h
  obtain ⟨S7, e7, h⟩ := h
  have nS7 : S7.1 = S.1 + 8 := (n_X0_init e7).trans (congrArg (fun z => z + 5) nS6)
  replace h := mt_ob h
  obtain ⟨S8, e8, h⟩ := h
  have nS8 : S8.1 = S.1 + 8 := (mt_wR_n e8).trans nS7
  replace h := mt_nw h
  obtain ⟨k9, S10, qk9, qS10, h⟩ := h
  have nS10 : S10.1 = S.1 + 9 := by rw [qS10]; exact congrArg (fun z => z + 1) nS8
  replace h := mt_ob h
  obtain ⟨S11, e11, h⟩ := h
  have nS11 : S11.1 = S.1 + 14 := (n_X5_init e11).trans (congrArg (fun z => z + 5) nS10)
  replace h := mt_ob h
  obtain ⟨S12, e12, h⟩ := h
  have nS12 : S12.1 = S.1 + 14 := (mt_wR_n e12).trans nS11
  replace h := mt_nw h
  obtain ⟨k13, S14, qk13, qS14, h⟩ := h
  have nS14 : S14.1 = S.1 + 15 := by rw [qS14]; exact congrArg (fun z => z + 1) nS12
  replace h := mt_ob h
  obtain ⟨S15, e15, h⟩ := h
  have nS15 : S15.1 = S.1 + 70 := (n_X2_init e15).trans (congrArg (fun z => z + 55) nS14)
  replace h := mt_ob h
  obtain ⟨S16, e16, h⟩ := h
  have nS16 : S16.1 = S.1 + 70 := (mt_wR_n e16).trans nS15
  replace h := mt_nw h
  obtain ⟨k17, S18, qk17, qS18, h⟩ := h
  have nS18 : S18.1 = S.1 + 71 := by rw [qS18]; exact congrArg (fun z => z + 1) nS16
  replace h := mt_ob h
  obtain ⟨S19, e19, h⟩ := h
  have nS19 : S19.1 = S.1 + 71 := (mt_wR_n e19).trans nS18
  replace h := mt_ob h
  obtain ⟨v20, e20, h⟩ := h
  replace h := mt_nw h
  obtain ⟨k21, S22, qk21, qS22, h⟩ := h
  have nS22 : S22.1 = S.1 + 72 := by rw [qS22]; exact congrArg (fun z => z + 1) nS19
  replace h := mt_ob h
  obtain ⟨S23, e23, h⟩ := h
  have nS23 : S23.1 = S.1 + 77 := (n_X5_init e23).trans (congrArg (fun z => z + 5) nS22)
  replace h := mt_gd h
  obtain ⟨-, h⟩ := h
  replace h := mt_ob h
  obtain ⟨S24, e24, h⟩ := h
  have nS24 : S24.1 = S.1 + 77 := (mt_sR_n e24).trans nS23
  replace h := mt_ob h
  obtain ⟨v25, e25, h⟩ := h
  replace h := mt_nw h
  obtain ⟨k26, S27, qk26, qS27, h⟩ := h
  have nS27 : S27.1 = S.1 + 78 := by rw [qS27]; exact congrArg (fun z => z + 1) nS24
  replace h := mt_ob h
  obtain ⟨S28, e28, h⟩ := h
  have nS28 : S28.1 = S.1 + 83 := (n_X5_init e28).trans (congrArg (fun z => z + 5) nS27)
  replace h := mt_gd h
  obtain ⟨-, h⟩ := h
  replace h := mt_ob h
  obtain ⟨S29, e29, h⟩ := h
  have nS29 : S29.1 = S.1 + 83 := (mt_sR_n e29).trans nS28
  replace h := mt_nw h
  obtain ⟨k30, S31, qk30, qS31, h⟩ := h
  have nS31 : S31.1 = S.1 + 84 := by rw [qS31]; exact congrArg (fun z => z + 1) nS29
  replace h := mt_ob h
  obtain ⟨S32, e32, h⟩ := h
  have nS32 : S32.1 = S.1 + 84 := (mt_wR_n e32).trans nS31
  replace h := mt_nw h
  obtain ⟨k33, S34, qk33, qS34, h⟩ := h
  have nS34 : S34.1 = S.1 + 85 := by rw [qS34]; exact congrArg (fun z => z + 1) nS32
  replace h := mt_ob h
  obtain ⟨S35, e35, h⟩ := h
  have nS35 : S35.1 = S.1 + 87 := (n_X8_init e35).trans (congrArg (fun z => z + 2) nS34)
  replace h := mt_ob h
  obtain ⟨S36, e36, h⟩ := h
  have nS36 : S36.1 = S.1 + 87 := (mt_wR_n e36).trans nS35
  replace h := mt_nw h
  obtain ⟨k37, S38, qk37, qS38, h⟩ := h
  have nS38 : S38.1 = S.1 + 88 := by rw [qS38]; exact congrArg (fun z => z + 1) nS36
  replace h := mt_ob h
  obtain ⟨S39, e39, h⟩ := h
  have nS39 : S39.1 = S.1 + 88 := (n_X9_init e39).trans (congrArg (fun z => z + 0) nS38)
  replace h := mt_ob h
  obtain ⟨S40, e40, h⟩ := h
  have nS40 : S40.1 = S.1 + 88 := (mt_wR_n e40).trans nS39
  replace h := mt_nw h
  obtain ⟨k41, S42, qk41, qS42, h⟩ := h
  have nS42 : S42.1 = S.1 + 89 := by rw [qS42]; exact congrArg (fun z => z + 1) nS40
  replace h := mt_ob h
  obtain ⟨S43, e43, h⟩ := h
  have nS43 : S43.1 = S.1 + 89 := (n_X1_init e43).trans (congrArg (fun z => z + 0) nS42)
  replace h := mt_ob h
  obtain ⟨S44, e44, h⟩ := h
  have nS44 : S44.1 = S.1 + 89 := (mt_wR_n e44).trans nS43
  replace h := mt_nw h
  obtain ⟨k45, S46, qk45, qS46, h⟩ := h
  have nS46 : S46.1 = S.1 + 90 := by rw [qS46]; exact congrArg (fun z => z + 1) nS44
  replace h := mt_ob h
  obtain ⟨S47, e47, h⟩ := h
  have nS47 : S47.1 = S.1 + 95 := (n_X6_init e47).trans (congrArg (fun z => z + 5) nS46)
  replace h := mt_ob h
  obtain ⟨S48, e48, h⟩ := h
  have nS48 : S48.1 = S.1 + 95 := (mt_wR_n e48).trans nS47
  cases h
  exact nS48
set_option maxHeartbeats 4000000 in
set_option maxRecDepth 100000 in
theorem m_X10_init {B : mt_B} {x0 : Nat} {S S' : mt_S} (h : f_X10_init x0 S = some S') : mt_MB B yX10_init cX10_init 2 5 95 2650 [mt_rf B x0] S S' := by
  unfold f_X10_init at h
  refine mt_MB.of (by decide) (Nat.le_of_ble_eq_true rfl) (fun E hC hN hX hA hE => ?_)
  have nS : S.1 = S.1 + 0 := rfl
  replace h := mt_gd h
  obtain ⟨hk0, h⟩ := h
  refine go_aload_n hC 0 dX10_init_0 rfl rfl ?_
  refine go_objInit hC mt_olX10_1 mt_oi mt_oc0 (by decide) (Nat.le_of_ble_eq_true rfl) dX10_init_1 ?_
  refine go_aload_n hC 0 dX10_init_4 rfl rfl ?_
  replace h := mt_nw h
  obtain ⟨k1, S2, qk1, qS2, h⟩ := h
  have nS2 : S2.1 = S.1 + 1 := by rw [qS2]; exact congrArg (fun z => z + 1) nS
  refine go_new hC hX (cs1 := (1, 2)) mt_cf7 mt_dd7 mt_klX10_7 mt_in7 mt_ii7 nS.symm rfl (by decide) dX10_init_5 ?_
  rw [← qS2, ← qk1]
  refine go_dup hC dX10_init_8 rfl ?_
  replace h := mt_ob h
  obtain ⟨S3, e3, h⟩ := h
  have nS3 : S3.1 = S.1 + 2 := (n_X7_init e3).trans (congrArg (fun z => z + 1) nS2)
  refine go_callI hC hX hA (cs1 := (2, 242)) [] [mt_rf B k1, mt_rf B x0] (m_X7_init e3) mt_ciX10_9 dX10_init_9 rfl rfl (by decide) (Nat.le_of_ble_eq_true rfl) nS2.symm rfl (by decide) ?_
  replace h := mt_ob h
  obtain ⟨S4, e4, h⟩ := h
  have nS4 : S4.1 = S.1 + 2 := (mt_wR_n e4).trans nS3
  refine go_putRF (C0 := "") hC hN mt_flX10_10 ⟨_, _, rfl⟩ ⟨rfl, rfl⟩ e4 dX10_init_12 ?_
  refine go_aload_n hC 0 dX10_init_15 rfl rfl ?_
  replace h := mt_nw h
  obtain ⟨k5, S6, qk5, qS6, h⟩ := h
  have nS6 : S6.1 = S.1 + 3 := by rw [qS6]; exact congrArg (fun z => z + 1) nS4
  refine go_new hC hX (cs1 := (3, 253)) mt_cf0 mt_dd0 mt_klX10_16 mt_in0 mt_ii0 nS4.symm rfl (by decide) dX10_init_16 ?_
  rw [← qS6, ← qk5]
  refine go_dup hC dX10_init_19 rfl ?_
  replace h := mt_ob h
  obtain ⟨S7, e7, h⟩ := h
  have nS7 : S7.1 = S.1 + 8 := (n_X0_init e7).trans (congrArg (fun z => z + 5) nS6)
  refine go_callI hC hX hA (cs1 := (8, 1056)) [] [mt_rf B k5, mt_rf B x0] (m_X0_init e7) mt_ciX10_18 dX10_init_20 rfl rfl (by decide) (Nat.le_of_ble_eq_true rfl) nS6.symm rfl (by decide) ?_
  replace h := mt_ob h
  obtain ⟨S8, e8, h⟩ := h
  have nS8 : S8.1 = S.1 + 8 := (mt_wR_n e8).trans nS7
  refine go_putRF (C0 := "") hC hN mt_flX10_19 ⟨_, _, rfl⟩ ⟨rfl, rfl⟩ e8 dX10_init_23 ?_
  refine go_aload_n hC 0 dX10_init_26 rfl rfl ?_
  replace h := mt_nw h
  obtain ⟨k9, S10, qk9, qS10, h⟩ := h
  have nS10 : S10.1 = S.1 + 9 := by rw [qS10]; exact congrArg (fun z => z + 1) nS8
  refine go_new hC hX (cs1 := (9, 1058)) mt_cf5 mt_dd5 mt_klX10_23 mt_in5 mt_ii5 nS8.symm rfl (by decide) dX10_init_27 ?_
  rw [← qS10, ← qk9]
  refine go_dup hC dX10_init_30 rfl ?_
  replace h := mt_ob h
  obtain ⟨S11, e11, h⟩ := h
  have nS11 : S11.1 = S.1 + 14 := (n_X5_init e11).trans (congrArg (fun z => z + 5) nS10)
  refine go_callI hC hX hA (cs1 := (14, 1115)) [] [mt_rf B k9, mt_rf B x0] (m_X5_init e11) mt_ciX10_25 dX10_init_31 rfl rfl (by decide) (Nat.le_of_ble_eq_true rfl) nS10.symm rfl (by decide) ?_
  replace h := mt_ob h
  obtain ⟨S12, e12, h⟩ := h
  have nS12 : S12.1 = S.1 + 14 := (mt_wR_n e12).trans nS11
  refine go_putRF (C0 := "") hC hN mt_flX10_26 ⟨_, _, rfl⟩ ⟨rfl, rfl⟩ e12 dX10_init_34 ?_
  refine go_aload_n hC 0 dX10_init_37 rfl rfl ?_
  replace h := mt_nw h
  obtain ⟨k13, S14, qk13, qS14, h⟩ := h
  have nS14 : S14.1 = S.1 + 15 := by rw [qS14]; exact congrArg (fun z => z + 1) nS12
  refine go_new hC hX (cs1 := (15, 1118)) mt_cf2 mt_dd2 mt_klX10_30 mt_in2 mt_ii2 nS12.symm rfl (by decide) dX10_init_38 ?_
  rw [← qS14, ← qk13]
  refine go_dup hC dX10_init_41 rfl ?_
  replace h := mt_ob h
  obtain ⟨S15, e15, h⟩ := h
  have nS15 : S15.1 = S.1 + 70 := (n_X2_init e15).trans (congrArg (fun z => z + 55) nS14)
  refine go_callI hC hX hA (cs1 := (70, 1658)) [] [mt_rf B k13, mt_rf B x0] (m_X2_init e15) mt_ciX10_32 dX10_init_42 rfl rfl (by decide) (Nat.le_of_ble_eq_true rfl) nS14.symm rfl (by decide) ?_
  replace h := mt_ob h
  obtain ⟨S16, e16, h⟩ := h
  have nS16 : S16.1 = S.1 + 70 := (mt_wR_n e16).trans nS15
  refine go_putRF (C0 := "") hC hN mt_flX10_33 ⟨_, _, rfl⟩ ⟨rfl, rfl⟩ e16 dX10_init_45 ?_
  refine go_aload_n hC 0 dX10_init_48 rfl rfl ?_
  refine go_iconst (v := 2) hC dX10_init_49 (by decide) ?_
  replace h := mt_nw h
  obtain ⟨k17, S18, qk17, qS18, h⟩ := h
  have nS18 : S18.1 = S.1 + 71 := by rw [qS18]; exact congrArg (fun z => z + 1) nS16
  refine go_anew hC hX hA (cs1 := (71, 1660)) (N := 2) mt_klX10_23 (by decide) (by decide) (by decide) nS16.symm rfl (by decide) dX10_init_50 ?_
  rw [← qS18, ← qk17]
  replace h := mt_ob h
  obtain ⟨S19, e19, h⟩ := h
  have nS19 : S19.1 = S.1 + 71 := (mt_wR_n e19).trans nS18
  refine go_putRF (C0 := "") hC hN mt_flX10_37 ⟨_, _, rfl⟩ ⟨rfl, rfl⟩ e19 dX10_init_53 ?_
  refine go_iconst (v := 0) hC dX10_init_56 (by decide) ?_
  refine go_istore_n hC [1, 0] (lv1 := [(0, mt_rf B x0), (1, .int 0)]) dX10_init_57 rfl (by decide) rfl ?_
  refine go_iload_n hC 1 dX10_init_58 rfl rfl ?_
  refine go_iconst (v := 2) hC dX10_init_59 (by decide) ?_
  refine go_icmp_ge hC (tgt := 82) dX10_init_60 (by decide) (fun hc => absurd hc (by decide)) (fun hc => ?_)
  refine go_aload_n hC 0 dX10_init_63 rfl rfl ?_
  replace h := mt_ob h
  obtain ⟨v20, e20, h⟩ := h
  refine go_getR hC mt_flX10_37 e20 dX10_init_64 ?_
  refine go_iload_n hC 1 dX10_init_67 rfl rfl ?_
  replace h := mt_nw h
  obtain ⟨k21, S22, qk21, qS22, h⟩ := h
  have nS22 : S22.1 = S.1 + 72 := by rw [qS22]; exact congrArg (fun z => z + 1) nS19
  refine go_new hC hX (cs1 := (72, 1662)) mt_cf5 mt_dd5 mt_klX10_23 mt_in5 mt_ii5 nS19.symm rfl (by decide) dX10_init_68 ?_
  rw [← qS22, ← qk21]
  refine go_dup hC dX10_init_71 rfl ?_
  replace h := mt_ob h
  obtain ⟨S23, e23, h⟩ := h
  have nS23 : S23.1 = S.1 + 77 := (n_X5_init e23).trans (congrArg (fun z => z + 5) nS22)
  refine go_callI hC hX hA (cs1 := (77, 1719)) [] [mt_rf B k21, .int 0, mt_rf B v20] (m_X5_init e23) mt_ciX10_25 dX10_init_72 rfl rfl (by decide) (Nat.le_of_ble_eq_true rfl) nS22.symm rfl (by decide) ?_
  replace h := mt_gd h
  obtain ⟨g50, h⟩ := h
  replace h := mt_ob h
  obtain ⟨S24, e24, h⟩ := h
  have nS24 : S24.1 = S.1 + 77 := (mt_sR_n e24).trans nS23
  refine go_aast hC g50 e24 dX10_init_75 ?_
  refine go_iinc hC 1 [1, 0] (v := 1) (lv1 := [(0, mt_rf B x0), (1, .int 1)]) dX10_init_76 rfl (by decide) (by decide) rfl ?_
  refine go_goto hC (tgt := 58) dX10_init_79 (by decide) ?_
  refine go_iload_n hC 1 dX10_init_58 rfl rfl ?_
  refine go_iconst (v := 2) hC dX10_init_59 (by decide) ?_
  refine go_icmp_ge hC (tgt := 82) dX10_init_60 (by decide) (fun hc => absurd hc (by decide)) (fun hc => ?_)
  refine go_aload_n hC 0 dX10_init_63 rfl rfl ?_
  replace h := mt_ob h
  obtain ⟨v25, e25, h⟩ := h
  refine go_getR hC mt_flX10_37 e25 dX10_init_64 ?_
  refine go_iload_n hC 1 dX10_init_67 rfl rfl ?_
  replace h := mt_nw h
  obtain ⟨k26, S27, qk26, qS27, h⟩ := h
  have nS27 : S27.1 = S.1 + 78 := by rw [qS27]; exact congrArg (fun z => z + 1) nS24
  refine go_new hC hX (cs1 := (78, 1721)) mt_cf5 mt_dd5 mt_klX10_23 mt_in5 mt_ii5 nS24.symm rfl (by decide) dX10_init_68 ?_
  rw [← qS27, ← qk26]
  refine go_dup hC dX10_init_71 rfl ?_
  replace h := mt_ob h
  obtain ⟨S28, e28, h⟩ := h
  have nS28 : S28.1 = S.1 + 83 := (n_X5_init e28).trans (congrArg (fun z => z + 5) nS27)
  refine go_callI hC hX hA (cs1 := (83, 1778)) [] [mt_rf B k26, .int 1, mt_rf B v25] (m_X5_init e28) mt_ciX10_25 dX10_init_72 rfl rfl (by decide) (Nat.le_of_ble_eq_true rfl) nS27.symm rfl (by decide) ?_
  replace h := mt_gd h
  obtain ⟨g49, h⟩ := h
  replace h := mt_ob h
  obtain ⟨S29, e29, h⟩ := h
  have nS29 : S29.1 = S.1 + 83 := (mt_sR_n e29).trans nS28
  refine go_aast hC g49 e29 dX10_init_75 ?_
  refine go_iinc hC 1 [1, 0] (v := 2) (lv1 := [(0, mt_rf B x0), (1, .int 2)]) dX10_init_76 rfl (by decide) (by decide) rfl ?_
  refine go_goto hC (tgt := 58) dX10_init_79 (by decide) ?_
  refine go_iload_n hC 1 dX10_init_58 rfl rfl ?_
  refine go_iconst (v := 2) hC dX10_init_59 (by decide) ?_
  refine go_icmp_ge hC (tgt := 82) dX10_init_60 (by decide) (fun hc => ?_) (fun hc => absurd (by decide) hc)
  refine go_aload_n hC 0 dX10_init_82 rfl rfl ?_
  refine go_iconst (v := 2) hC dX10_init_83 (by decide) ?_
  replace h := mt_nw h
  obtain ⟨k30, S31, qk30, qS31, h⟩ := h
  have nS31 : S31.1 = S.1 + 84 := by rw [qS31]; exact congrArg (fun z => z + 1) nS29
  refine go_newa_boolean hC hX (cs1 := (84, 1780)) mt_ac_boolean (by decide) (N := 2) (by decide) (by decide) nS29.symm rfl (by decide) dX10_init_84 ?_
  rw [← qS31, ← qk30]
  replace h := mt_ob h
  obtain ⟨S32, e32, h⟩ := h
  have nS32 : S32.1 = S.1 + 84 := (mt_wR_n e32).trans nS31
  refine go_putRF (C0 := "") hC hN mt_flX10_41 ⟨_, _, rfl⟩ ⟨rfl, rfl⟩ e32 dX10_init_86 ?_
  refine go_aload_n hC 0 dX10_init_89 rfl rfl ?_
  replace h := mt_nw h
  obtain ⟨k33, S34, qk33, qS34, h⟩ := h
  have nS34 : S34.1 = S.1 + 85 := by rw [qS34]; exact congrArg (fun z => z + 1) nS32
  refine go_new hC hX (cs1 := (85, 1783)) mt_cf8 mt_dd8 mt_klX10_45 mt_in8 mt_ii8 nS32.symm rfl (by decide) dX10_init_90 ?_
  rw [← qS34, ← qk33]
  refine go_dup hC dX10_init_93 rfl ?_
  replace h := mt_ob h
  obtain ⟨S35, e35, h⟩ := h
  have nS35 : S35.1 = S.1 + 87 := (n_X8_init e35).trans (congrArg (fun z => z + 2) nS34)
  refine go_callI hC hX hA (cs1 := (87, 1832)) [] [mt_rf B k33, mt_rf B x0] (m_X8_init e35) mt_ciX10_47 dX10_init_94 rfl rfl (by decide) (Nat.le_of_ble_eq_true rfl) nS34.symm rfl (by decide) ?_
  replace h := mt_ob h
  obtain ⟨S36, e36, h⟩ := h
  have nS36 : S36.1 = S.1 + 87 := (mt_wR_n e36).trans nS35
  refine go_putRF (C0 := "") hC hN mt_flX10_48 ⟨_, _, rfl⟩ ⟨rfl, rfl⟩ e36 dX10_init_97 ?_
  refine go_aload_n hC 0 dX10_init_100 rfl rfl ?_
  replace h := mt_nw h
  obtain ⟨k37, S38, qk37, qS38, h⟩ := h
  have nS38 : S38.1 = S.1 + 88 := by rw [qS38]; exact congrArg (fun z => z + 1) nS36
  refine go_new hC hX (cs1 := (88, 1836)) mt_cf9 mt_dd9 mt_klX10_52 mt_in9 mt_ii9 nS36.symm rfl (by decide) dX10_init_101 ?_
  rw [← qS38, ← qk37]
  refine go_dup hC dX10_init_104 rfl ?_
  replace h := mt_ob h
  obtain ⟨S39, e39, h⟩ := h
  have nS39 : S39.1 = S.1 + 88 := (n_X9_init e39).trans (congrArg (fun z => z + 0) nS38)
  refine go_callI hC hX hA (cs1 := (88, 1836)) [] [mt_rf B k37, mt_rf B x0] (m_X9_init e39) mt_ciX10_54 dX10_init_105 rfl rfl (by decide) (Nat.le_of_ble_eq_true rfl) nS38.symm rfl (by decide) ?_
  replace h := mt_ob h
  obtain ⟨S40, e40, h⟩ := h
  have nS40 : S40.1 = S.1 + 88 := (mt_wR_n e40).trans nS39
  refine go_putRF (C0 := "") hC hN mt_flX10_55 ⟨_, _, rfl⟩ ⟨rfl, rfl⟩ e40 dX10_init_108 ?_
  refine go_aload_n hC 0 dX10_init_111 rfl rfl ?_
  replace h := mt_nw h
  obtain ⟨k41, S42, qk41, qS42, h⟩ := h
  have nS42 : S42.1 = S.1 + 89 := by rw [qS42]; exact congrArg (fun z => z + 1) nS40
  refine go_new hC hX (cs1 := (89, 1843)) mt_cf1 mt_dd1 mt_klX10_59 mt_in1 mt_ii1 nS40.symm rfl (by decide) dX10_init_112 ?_
  rw [← qS42, ← qk41]
  refine go_dup hC dX10_init_115 rfl ?_
  replace h := mt_ob h
  obtain ⟨S43, e43, h⟩ := h
  have nS43 : S43.1 = S.1 + 89 := (n_X1_init e43).trans (congrArg (fun z => z + 0) nS42)
  refine go_callI hC hX hA (cs1 := (89, 1843)) [] [mt_rf B k41, mt_rf B x0] (m_X1_init e43) mt_ciX10_61 dX10_init_116 rfl rfl (by decide) (Nat.le_of_ble_eq_true rfl) nS42.symm rfl (by decide) ?_
  replace h := mt_ob h
  obtain ⟨S44, e44, h⟩ := h
  have nS44 : S44.1 = S.1 + 89 := (mt_wR_n e44).trans nS43
  refine go_putRF (C0 := "") hC hN mt_flX10_62 ⟨_, _, rfl⟩ ⟨rfl, rfl⟩ e44 dX10_init_119 ?_
  refine go_aload_n hC 0 dX10_init_122 rfl rfl ?_
  replace h := mt_nw h
  obtain ⟨k45, S46, qk45, qS46, h⟩ := h
  have nS46 : S46.1 = S.1 + 90 := by rw [qS46]; exact congrArg (fun z => z + 1) nS44
  refine go_new hC hX (cs1 := (90, 1850)) mt_cf6 mt_dd6 mt_klX10_66 mt_in6 mt_ii6 nS44.symm rfl (by decide) dX10_init_123 ?_
  rw [← qS46, ← qk45]
  refine go_dup hC dX10_init_126 rfl ?_
  replace h := mt_ob h
  obtain ⟨S47, e47, h⟩ := h
  have nS47 : S47.1 = S.1 + 95 := (n_X6_init e47).trans (congrArg (fun z => z + 5) nS46)
  refine go_callI hC hX hA (cs1 := (95, 2650)) [] [mt_rf B k45, mt_rf B x0] (m_X6_init e47) mt_ciX10_68 dX10_init_127 rfl rfl (by decide) (Nat.le_of_ble_eq_true rfl) nS46.symm rfl (by decide) ?_
  replace h := mt_ob h
  obtain ⟨S48, e48, h⟩ := h
  have nS48 : S48.1 = S.1 + 95 := (mt_wR_n e48).trans nS47
  refine go_putRF (C0 := "") hC hN mt_flX10_69 ⟨_, _, rfl⟩ ⟨rfl, rfl⟩ e48 dX10_init_130 ?_
  exact go_vret hC (mt_rev h hE) dX10_init_133
def f_X11_init (x0 : Nat) (S : mt_S) : Option mt_S :=
  if mt_isK S x0 11 = true then
   mt_new S 13 240 fun k1 S2 =>
   Option.bind (mt_wR S2 x0 11 1 (some k1)) fun S3 =>
   mt_new S3 13 35 fun k4 S5 =>
   Option.bind (mt_wR S5 x0 11 3 (some k4)) fun S6 =>
   mt_new S6 13 70 fun k7 S8 =>
   Option.bind (mt_wR S8 x0 11 4 (some k7)) fun S9 =>
   mt_new S9 13 280 fun k10 S11 =>
   Option.bind (mt_wR S11 x0 11 5 (some k10)) fun S12 =>
   mt_new S12 13 35 fun k13 S14 =>
   Option.bind (mt_wR S14 x0 11 6 (some k13)) fun S15 =>
   mt_new S15 13 35 fun k16 S17 =>
   Option.bind (mt_wR S17 x0 11 7 (some k16)) fun S18 =>
   mt_new S18 15 2 fun k19 S20 =>
   Option.bind (mt_wR S20 x0 11 8 (some k19)) fun S21 =>
   mt_new S21 13 22 fun k22 S23 =>
   Option.bind (mt_wR S23 x0 11 15 (some k22)) fun S24 =>
   mt_new S24 14 4 fun k25 S26 =>
   Option.bind (mt_wR S26 x0 11 16 (some k25)) fun S27 =>
   mt_new S27 14 400 fun k28 S29 =>
   Option.bind (mt_wR S29 x0 11 23 (some k28)) fun S30 =>
   mt_new S30 13 48 fun k31 S32 =>
   Option.bind (mt_wR S32 x0 11 29 (some k31)) fun S33 =>
   Option.bind (mt_rR S33 x0 11 3) fun v34 =>
   Option.bind (mt_sI S33 v34 13 0 1) fun S35 =>
   Option.bind (mt_rR S35 x0 11 3) fun v36 =>
   Option.bind (mt_sI S35 v36 13 1 1) fun S37 =>
   some S37
  else none
set_option maxHeartbeats 4000000 in
theorem n_X11_init {x0 : Nat} {S S' : mt_S} (h : f_X11_init x0 S = some S') : S'.1 = S.1 + 11 := by
  have nS : S.1 = S.1 + 0 := rfl
  unfold f_X11_init at h
  replace h := mt_gd h
  obtain ⟨-, h⟩ := h
  replace h := mt_nw h
  obtain ⟨k1, S2, qk1, qS2, h⟩ := h
  have nS2 : S2.1 = S.1 + 1 := by rw [qS2]; exact congrArg (fun z => z + 1) nS
  replace h := mt_ob h
  obtain ⟨S3, e3, h⟩ := h
  have nS3 : S3.1 = S.1 + 1 := (mt_wR_n e3).trans nS2
  replace h := mt_nw h
  obtain ⟨k4, S5, qk4, qS5, h⟩ := h
  have nS5 : S5.1 = S.1 + 2 := by rw [qS5]; exact congrArg (fun z => z + 1) nS3
  replace h := mt_ob h
  obtain ⟨S6, e6, h⟩ := h
  have nS6 : S6.1 = S.1 + 2 := (mt_wR_n e6).trans nS5
  replace h := mt_nw h
  obtain ⟨k7, S8, qk7, qS8, h⟩ := h
  have nS8 : S8.1 = S.1 + 3 := by rw [qS8]; exact congrArg (fun z => z + 1) nS6
  replace h := mt_ob h
  obtain ⟨S9, e9, h⟩ := h
  have nS9 : S9.1 = S.1 + 3 := (mt_wR_n e9).trans nS8
  replace h := mt_nw h
  obtain ⟨k10, S11, qk10, qS11, h⟩ := h
  have nS11 : S11.1 = S.1 + 4 := by rw [qS11]; exact congrArg (fun z => z + 1) nS9
  replace h := mt_ob h
  obtain ⟨S12, e12, h⟩ := h
  have nS12 : S12.1 = S.1 + 4 := (mt_wR_n e12).trans nS11
  replace h := mt_nw h
  obtain ⟨k13, S14, qk13, qS14, h⟩ := h
  have nS14 : S14.1 = S.1 + 5 := by rw [qS14]; exact congrArg (fun z => z + 1) nS12
  replace h := mt_ob h
  obtain ⟨S15, e15, h⟩ := h
  have nS15 : S15.1 = S.1 + 5 := (mt_wR_n e15).trans nS14
  replace h := mt_nw h
  obtain ⟨k16, S17, qk16, qS17, h⟩ := h
  have nS17 : S17.1 = S.1 + 6 := by rw [qS17]; exact congrArg (fun z => z + 1) nS15
  replace h := mt_ob h
  obtain ⟨S18, e18, h⟩ := h
  have nS18 : S18.1 = S.1 + 6 := (mt_wR_n e18).trans nS17
  replace h := mt_nw h
  obtain ⟨k19, S20, qk19, qS20, h⟩ := h
  have nS20 : S20.1 = S.1 + 7 := by rw [qS20]; exact congrArg (fun z => z + 1) nS18
  replace h := mt_ob h
  obtain ⟨S21, e21, h⟩ := h
  have nS21 : S21.1 = S.1 + 7 := (mt_wR_n e21).trans nS20
  replace h := mt_nw h
  obtain ⟨k22, S23, qk22, qS23, h⟩ := h
  have nS23 : S23.1 = S.1 + 8 := by rw [qS23]; exact congrArg (fun z => z + 1) nS21
  replace h := mt_ob h
  obtain ⟨S24, e24, h⟩ := h
  have nS24 : S24.1 = S.1 + 8 := (mt_wR_n e24).trans nS23
  replace h := mt_nw h
  obtain ⟨k25, S26, qk25, qS26, h⟩ := h
  have nS26 : S26.1 = S.1 + 9 := by rw [qS26]; exact congrArg (fun z => z + 1) nS24
  replace h := mt_ob h
  obtain ⟨S27, e27, h⟩ := h
  have nS27 : S27.1 = S.1 + 9 := (mt_wR_n e27).trans nS26
  replace h := mt_nw h
  obtain ⟨k28, S29, qk28, qS29, h⟩ := h
  have nS29 : S29.1 = S.1 + 10 := by rw [qS29]; exact congrArg (fun z => z + 1) nS27
  replace h := mt_ob h
  obtain ⟨S30, e30, h⟩ := h
  have nS30 : S30.1 = S.1 + 10 := (mt_wR_n e30).trans nS29
  replace h := mt_nw h
  obtain ⟨k31, S32, qk31, qS32, h⟩ := h
  have nS32 : S32.1 = S.1 + 11 := by rw [qS32]; exact congrArg (fun z => z + 1) nS30
  replace h := mt_ob h
  obtain ⟨S33, e33, h⟩ := h
  have nS33 : S33.1 = S.1 + 11 := (mt_wR_n e33).trans nS32
  replace h := mt_ob h
  obtain ⟨v34, e34, h⟩ := h
  replace h := mt_ob h
  obtain ⟨S35, e35, h⟩ := h
  have nS35 : S35.1 = S.1 + 11 := (mt_sI_n e35).trans nS33
  replace h := mt_ob h
  obtain ⟨v36, e36, h⟩ := h
  replace h := mt_ob h
  obtain ⟨S37, e37, h⟩ := h
  have nS37 : S37.1 = S.1 + 11 := (mt_sI_n e37).trans nS35
  cases h
  exact nS37
set_option maxHeartbeats 4000000 in
set_option maxRecDepth 100000 in
theorem m_X11_init {B : mt_B} {x0 : Nat} {S S' : mt_S} (h : f_X11_init x0 S = some S') : mt_MB B yX11_init cX11_init 1 1 11 1171 [mt_rf B x0] S S' := by
  unfold f_X11_init at h
  refine mt_MB.of (by decide) (Nat.le_of_ble_eq_true rfl) (fun E hC hN hX hA hE => ?_)
  have nS : S.1 = S.1 + 0 := rfl
  replace h := mt_gd h
  obtain ⟨hk0, h⟩ := h
  refine go_aload_n hC 0 dX11_init_0 rfl rfl ?_
  refine go_objInit hC mt_olX11_18 mt_oi mt_oc0 (by decide) (Nat.le_of_ble_eq_true rfl) dX11_init_1 ?_
  refine go_aload_n hC 0 dX11_init_4 rfl rfl ?_
  refine go_sipush (v := 240) hC dX11_init_5 (by decide) ?_
  replace h := mt_nw h
  obtain ⟨k1, S2, qk1, qS2, h⟩ := h
  have nS2 : S2.1 = S.1 + 1 := by rw [qS2]; exact congrArg (fun z => z + 1) nS
  refine go_newa_int hC hX (cs1 := (1, 240)) mt_ac_int (by decide) (N := 240) (by decide) (by decide) nS.symm rfl (by decide) dX11_init_8 ?_
  rw [← qS2, ← qk1]
  replace h := mt_ob h
  obtain ⟨S3, e3, h⟩ := h
  have nS3 : S3.1 = S.1 + 1 := (mt_wR_n e3).trans nS2
  refine go_putRF (C0 := "") hC hN mt_flX11_7 ⟨_, _, rfl⟩ ⟨rfl, rfl⟩ e3 dX11_init_10 ?_
  refine go_aload_n hC 0 dX11_init_13 rfl rfl ?_
  refine go_bipush (v := 35) hC dX11_init_14 (by decide) ?_
  replace h := mt_nw h
  obtain ⟨k4, S5, qk4, qS5, h⟩ := h
  have nS5 : S5.1 = S.1 + 2 := by rw [qS5]; exact congrArg (fun z => z + 1) nS3
  refine go_newa_int hC hX (cs1 := (2, 275)) mt_ac_int (by decide) (N := 35) (by decide) (by decide) nS3.symm rfl (by decide) dX11_init_16 ?_
  rw [← qS5, ← qk4]
  replace h := mt_ob h
  obtain ⟨S6, e6, h⟩ := h
  have nS6 : S6.1 = S.1 + 2 := (mt_wR_n e6).trans nS5
  refine go_putRF (C0 := "") hC hN mt_flX11_24 ⟨_, _, rfl⟩ ⟨rfl, rfl⟩ e6 dX11_init_18 ?_
  refine go_aload_n hC 0 dX11_init_21 rfl rfl ?_
  refine go_bipush (v := 70) hC dX11_init_22 (by decide) ?_
  replace h := mt_nw h
  obtain ⟨k7, S8, qk7, qS8, h⟩ := h
  have nS8 : S8.1 = S.1 + 3 := by rw [qS8]; exact congrArg (fun z => z + 1) nS6
  refine go_newa_int hC hX (cs1 := (3, 345)) mt_ac_int (by decide) (N := 70) (by decide) (by decide) nS6.symm rfl (by decide) dX11_init_24 ?_
  rw [← qS8, ← qk7]
  replace h := mt_ob h
  obtain ⟨S9, e9, h⟩ := h
  have nS9 : S9.1 = S.1 + 3 := (mt_wR_n e9).trans nS8
  refine go_putRF (C0 := "") hC hN mt_flX11_27 ⟨_, _, rfl⟩ ⟨rfl, rfl⟩ e9 dX11_init_26 ?_
  refine go_aload_n hC 0 dX11_init_29 rfl rfl ?_
  refine go_sipush (v := 280) hC dX11_init_30 (by decide) ?_
  replace h := mt_nw h
  obtain ⟨k10, S11, qk10, qS11, h⟩ := h
  have nS11 : S11.1 = S.1 + 4 := by rw [qS11]; exact congrArg (fun z => z + 1) nS9
  refine go_newa_int hC hX (cs1 := (4, 625)) mt_ac_int (by decide) (N := 280) (by decide) (by decide) nS9.symm rfl (by decide) dX11_init_33 ?_
  rw [← qS11, ← qk10]
  replace h := mt_ob h
  obtain ⟨S12, e12, h⟩ := h
  have nS12 : S12.1 = S.1 + 4 := (mt_wR_n e12).trans nS11
  refine go_putRF (C0 := "") hC hN mt_flX11_30 ⟨_, _, rfl⟩ ⟨rfl, rfl⟩ e12 dX11_init_35 ?_
  refine go_aload_n hC 0 dX11_init_38 rfl rfl ?_
  refine go_bipush (v := 35) hC dX11_init_39 (by decide) ?_
  replace h := mt_nw h
  obtain ⟨k13, S14, qk13, qS14, h⟩ := h
  have nS14 : S14.1 = S.1 + 5 := by rw [qS14]; exact congrArg (fun z => z + 1) nS12
  refine go_newa_int hC hX (cs1 := (5, 660)) mt_ac_int (by decide) (N := 35) (by decide) (by decide) nS12.symm rfl (by decide) dX11_init_41 ?_
  rw [← qS14, ← qk13]
  replace h := mt_ob h
  obtain ⟨S15, e15, h⟩ := h
  have nS15 : S15.1 = S.1 + 5 := (mt_wR_n e15).trans nS14
  refine go_putRF (C0 := "") hC hN mt_flX11_33 ⟨_, _, rfl⟩ ⟨rfl, rfl⟩ e15 dX11_init_43 ?_
  refine go_aload_n hC 0 dX11_init_46 rfl rfl ?_
  refine go_bipush (v := 35) hC dX11_init_47 (by decide) ?_
  replace h := mt_nw h
  obtain ⟨k16, S17, qk16, qS17, h⟩ := h
  have nS17 : S17.1 = S.1 + 6 := by rw [qS17]; exact congrArg (fun z => z + 1) nS15
  refine go_newa_int hC hX (cs1 := (6, 695)) mt_ac_int (by decide) (N := 35) (by decide) (by decide) nS15.symm rfl (by decide) dX11_init_49 ?_
  rw [← qS17, ← qk16]
  replace h := mt_ob h
  obtain ⟨S18, e18, h⟩ := h
  have nS18 : S18.1 = S.1 + 6 := (mt_wR_n e18).trans nS17
  refine go_putRF (C0 := "") hC hN mt_flX11_36 ⟨_, _, rfl⟩ ⟨rfl, rfl⟩ e18 dX11_init_51 ?_
  refine go_aload_n hC 0 dX11_init_54 rfl rfl ?_
  refine go_iconst (v := 2) hC dX11_init_55 (by decide) ?_
  replace h := mt_nw h
  obtain ⟨k19, S20, qk19, qS20, h⟩ := h
  have nS20 : S20.1 = S.1 + 7 := by rw [qS20]; exact congrArg (fun z => z + 1) nS18
  refine go_newa_boolean hC hX (cs1 := (7, 697)) mt_ac_boolean (by decide) (N := 2) (by decide) (by decide) nS18.symm rfl (by decide) dX11_init_56 ?_
  rw [← qS20, ← qk19]
  replace h := mt_ob h
  obtain ⟨S21, e21, h⟩ := h
  have nS21 : S21.1 = S.1 + 7 := (mt_wR_n e21).trans nS20
  refine go_putRF (C0 := "") hC hN mt_flX11_39 ⟨_, _, rfl⟩ ⟨rfl, rfl⟩ e21 dX11_init_58 ?_
  refine go_aload_n hC 0 dX11_init_61 rfl rfl ?_
  refine go_bipush (v := 22) hC dX11_init_62 (by decide) ?_
  replace h := mt_nw h
  obtain ⟨k22, S23, qk22, qS23, h⟩ := h
  have nS23 : S23.1 = S.1 + 8 := by rw [qS23]; exact congrArg (fun z => z + 1) nS21
  refine go_newa_int hC hX (cs1 := (8, 719)) mt_ac_int (by decide) (N := 22) (by decide) (by decide) nS21.symm rfl (by decide) dX11_init_64 ?_
  rw [← qS23, ← qk22]
  replace h := mt_ob h
  obtain ⟨S24, e24, h⟩ := h
  have nS24 : S24.1 = S.1 + 8 := (mt_wR_n e24).trans nS23
  refine go_putRF (C0 := "") hC hN mt_flX11_43 ⟨_, _, rfl⟩ ⟨rfl, rfl⟩ e24 dX11_init_66 ?_
  refine go_aload_n hC 0 dX11_init_69 rfl rfl ?_
  refine go_iconst (v := 4) hC dX11_init_70 (by decide) ?_
  replace h := mt_nw h
  obtain ⟨k25, S26, qk25, qS26, h⟩ := h
  have nS26 : S26.1 = S.1 + 9 := by rw [qS26]; exact congrArg (fun z => z + 1) nS24
  refine go_newa_long hC hX (cs1 := (9, 723)) mt_ac_long (by decide) (N := 4) (by decide) (by decide) nS24.symm rfl (by decide) dX11_init_71 ?_
  rw [← qS26, ← qk25]
  replace h := mt_ob h
  obtain ⟨S27, e27, h⟩ := h
  have nS27 : S27.1 = S.1 + 9 := (mt_wR_n e27).trans nS26
  refine go_putRF (C0 := "") hC hN mt_flX11_46 ⟨_, _, rfl⟩ ⟨rfl, rfl⟩ e27 dX11_init_73 ?_
  refine go_aload_n hC 0 dX11_init_76 rfl rfl ?_
  refine go_sipush (v := 400) hC dX11_init_77 (by decide) ?_
  replace h := mt_nw h
  obtain ⟨k28, S29, qk28, qS29, h⟩ := h
  have nS29 : S29.1 = S.1 + 10 := by rw [qS29]; exact congrArg (fun z => z + 1) nS27
  refine go_newa_long hC hX (cs1 := (10, 1123)) mt_ac_long (by decide) (N := 400) (by decide) (by decide) nS27.symm rfl (by decide) dX11_init_80 ?_
  rw [← qS29, ← qk28]
  replace h := mt_ob h
  obtain ⟨S30, e30, h⟩ := h
  have nS30 : S30.1 = S.1 + 10 := (mt_wR_n e30).trans nS29
  refine go_putRF (C0 := "") hC hN mt_flX11_50 ⟨_, _, rfl⟩ ⟨rfl, rfl⟩ e30 dX11_init_82 ?_
  refine go_aload_n hC 0 dX11_init_85 rfl rfl ?_
  refine go_bipush (v := 48) hC dX11_init_86 (by decide) ?_
  replace h := mt_nw h
  obtain ⟨k31, S32, qk31, qS32, h⟩ := h
  have nS32 : S32.1 = S.1 + 11 := by rw [qS32]; exact congrArg (fun z => z + 1) nS30
  refine go_newa_int hC hX (cs1 := (11, 1171)) mt_ac_int (by decide) (N := 48) (by decide) (by decide) nS30.symm rfl (by decide) dX11_init_88 ?_
  rw [← qS32, ← qk31]
  replace h := mt_ob h
  obtain ⟨S33, e33, h⟩ := h
  have nS33 : S33.1 = S.1 + 11 := (mt_wR_n e33).trans nS32
  refine go_putRF (C0 := "") hC hN mt_flX11_53 ⟨_, _, rfl⟩ ⟨rfl, rfl⟩ e33 dX11_init_90 ?_
  refine go_aload_n hC 0 dX11_init_93 rfl rfl ?_
  replace h := mt_ob h
  obtain ⟨v34, e34, h⟩ := h
  refine go_getR hC mt_flX11_24 e34 dX11_init_94 ?_
  refine go_iconst (v := 0) hC dX11_init_97 (by decide) ?_
  refine go_iconst (v := 1) hC dX11_init_98 (by decide) ?_
  replace h := mt_ob h
  obtain ⟨S35, e35, h⟩ := h
  have nS35 : S35.1 = S.1 + 11 := (mt_sI_n e35).trans nS33
  refine go_iast hC e35 dX11_init_99 ?_
  refine go_aload_n hC 0 dX11_init_100 rfl rfl ?_
  replace h := mt_ob h
  obtain ⟨v36, e36, h⟩ := h
  refine go_getR hC mt_flX11_24 e36 dX11_init_101 ?_
  refine go_iconst (v := 1) hC dX11_init_104 (by decide) ?_
  refine go_iconst (v := 1) hC dX11_init_105 (by decide) ?_
  replace h := mt_ob h
  obtain ⟨S37, e37, h⟩ := h
  have nS37 : S37.1 = S.1 + 11 := (mt_sI_n e37).trans nS35
  refine go_iast hC e37 dX11_init_106 ?_
  exact go_vret hC (mt_rev h hE) dX11_init_107
