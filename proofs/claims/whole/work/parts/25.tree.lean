def f_X10_feed (x0 : Nat) (x1 : Int32) (x2 : Int32) (x3 : Int32) (x4 : Int32) (x5 : Int32) (S : mt_S) : Option (Int32 × mt_S) :=
  if mt_isK S x0 10 = true then
   Option.bind (mt_rR S x0 10 0) fun v1 =>
   mt_b2 (f_X7_hasRoom v1 S) fun v3 S2 =>
   if v3 = 0 then
    some ((-1), S2)
   else
    Option.bind (mt_rR S2 x0 10 0) fun v4 =>
    Option.bind (f_X7_putNumber v4 x1 S2) fun S5 =>
    Option.bind (mt_rR S5 x0 10 0) fun v6 =>
    Option.bind (f_X7_putNumber v6 x2 S5) fun S7 =>
    Option.bind (mt_rR S7 x0 10 0) fun v8 =>
    Option.bind (f_X7_putNumber v8 x3 S7) fun S9 =>
    Option.bind (mt_rR S9 x0 10 0) fun v10 =>
    Option.bind (f_X7_putNumber v10 x4 S9) fun S11 =>
    Option.bind (mt_rR S11 x0 10 0) fun v12 =>
    Option.bind (f_X7_putNumber v12 x5 S11) fun S13 =>
    Option.bind (mt_rR S13 x0 10 0) fun v14 =>
    mt_b2 (f_X7_length v14 S13) fun v16 S15 =>
    some (v16, S15)
  else none
theorem k_X10_feed {x0 : Nat} {x1 : Int32} {x2 : Int32} {x3 : Int32} {x4 : Int32} {x5 : Int32} {S : mt_S} {r : Int32} {S' : mt_S} (h : f_X10_feed x0 x1 x2 x3 x4 x5 S = some (r, S')) : mt_isK S x0 10 = true := by
  unfold f_X10_feed at h
  exact (mt_gd h).1
set_option maxHeartbeats 4000000 in
set_option maxRecDepth 100000 in
theorem m_X10_feed {B : mt_B}  {x0 : Nat} {x1 : Int32} {x2 : Int32} {x3 : Int32} {x4 : Int32} {x5 : Int32} {S : mt_S} {r : Int32} {S' : mt_S} (h : f_X10_feed x0 x1 x2 x3 x4 x5 S = some (r, S')) : mt_M B yX10_feed cX10_feed 6 (some .int) 2 [mt_rf B x0, .int x1, .int x2, .int x3, .int x4, .int x5] S (some (.int r)) S' := by
  unfold f_X10_feed at h
  refine mt_M.of (by decide) (Nat.le_of_ble_eq_true rfl) (fun E hC hE => ?_)
  obtain ⟨hk0, h⟩ := mt_gd h
  refine go_aload_n hC 0 dX10_feed_0 rfl rfl ?_
  obtain ⟨v1, e1, h⟩ := mt_ob h
  refine go_getR hC mt_flX10_10 e1 dX10_feed_1 ?_
  obtain ⟨v3, S2, e3, h⟩ := mt_ob2 h
  refine go_callVi hC [] [] (m_X7_hasRoom e3) mt_cvX10_73 (k_X7_hasRoom e3) dX10_feed_4 rfl rfl (by decide) (Nat.le_of_ble_eq_true rfl) ⟨Nat.le_refl _, Nat.le_refl _⟩ ?_
  refine go_if_ne hC (tgt := 12) dX10_feed_7 (by decide) (fun hc => ?_) (fun hc => ?_)
  · have h := mt_in' h hc
    refine go_aload_n hC 0 dX10_feed_12 rfl rfl ?_
    obtain ⟨v4, e4, h⟩ := mt_ob h
    refine go_getR hC mt_flX10_10 e4 dX10_feed_13 ?_
    refine go_iload_n hC 1 dX10_feed_16 rfl rfl ?_
    obtain ⟨S5, e5, h⟩ := mt_ob h
    refine go_callVv hC [.int x1] [] (m_X7_putNumber e5) mt_cvX10_77 (k_X7_putNumber e5) dX10_feed_17 rfl rfl (by decide) (Nat.le_of_ble_eq_true rfl) ⟨Nat.le_refl _, Nat.le_refl _⟩ ?_
    refine go_aload_n hC 0 dX10_feed_20 rfl rfl ?_
    obtain ⟨v6, e6, h⟩ := mt_ob h
    refine go_getR hC mt_flX10_10 e6 dX10_feed_21 ?_
    refine go_iload_n hC 2 dX10_feed_24 rfl rfl ?_
    obtain ⟨S7, e7, h⟩ := mt_ob h
    refine go_callVv hC [.int x2] [] (m_X7_putNumber e7) mt_cvX10_77 (k_X7_putNumber e7) dX10_feed_25 rfl rfl (by decide) (Nat.le_of_ble_eq_true rfl) ⟨Nat.le_refl _, Nat.le_refl _⟩ ?_
    refine go_aload_n hC 0 dX10_feed_28 rfl rfl ?_
    obtain ⟨v8, e8, h⟩ := mt_ob h
    refine go_getR hC mt_flX10_10 e8 dX10_feed_29 ?_
    refine go_iload_n hC 3 dX10_feed_32 rfl rfl ?_
    obtain ⟨S9, e9, h⟩ := mt_ob h
    refine go_callVv hC [.int x3] [] (m_X7_putNumber e9) mt_cvX10_77 (k_X7_putNumber e9) dX10_feed_33 rfl rfl (by decide) (Nat.le_of_ble_eq_true rfl) ⟨Nat.le_refl _, Nat.le_refl _⟩ ?_
    refine go_aload_n hC 0 dX10_feed_36 rfl rfl ?_
    obtain ⟨v10, e10, h⟩ := mt_ob h
    refine go_getR hC mt_flX10_10 e10 dX10_feed_37 ?_
    refine go_iload hC 4 dX10_feed_40 rfl ?_
    obtain ⟨S11, e11, h⟩ := mt_ob h
    refine go_callVv hC [.int x4] [] (m_X7_putNumber e11) mt_cvX10_77 (k_X7_putNumber e11) dX10_feed_42 rfl rfl (by decide) (Nat.le_of_ble_eq_true rfl) ⟨Nat.le_refl _, Nat.le_refl _⟩ ?_
    refine go_aload_n hC 0 dX10_feed_45 rfl rfl ?_
    obtain ⟨v12, e12, h⟩ := mt_ob h
    refine go_getR hC mt_flX10_10 e12 dX10_feed_46 ?_
    refine go_iload hC 5 dX10_feed_49 rfl ?_
    obtain ⟨S13, e13, h⟩ := mt_ob h
    refine go_callVv hC [.int x5] [] (m_X7_putNumber e13) mt_cvX10_77 (k_X7_putNumber e13) dX10_feed_51 rfl rfl (by decide) (Nat.le_of_ble_eq_true rfl) ⟨Nat.le_refl _, Nat.le_refl _⟩ ?_
    refine go_aload_n hC 0 dX10_feed_54 rfl rfl ?_
    obtain ⟨v14, e14, h⟩ := mt_ob h
    refine go_getR hC mt_flX10_10 e14 dX10_feed_55 ?_
    obtain ⟨v16, S15, e16, h⟩ := mt_ob2 h
    refine go_callVi hC [] [] (m_X7_length e16) mt_cvX10_81 (k_X7_length e16) dX10_feed_58 rfl rfl (by decide) (Nat.le_of_ble_eq_true rfl) ⟨Nat.le_refl _, Nat.le_refl _⟩ ?_
    exact go_iret hC (mt_rei h hE) dX10_feed_61
  · have h := mt_ip h hc
    refine go_iconst (v := (-1)) hC dX10_feed_10 (by decide) ?_
    exact go_iret hC (mt_rei h hE) dX10_feed_11
set_option maxHeartbeats 4000000 in
set_option maxRecDepth 100000 in
theorem ov_X10_feed {T : mt_S}  {x0 : Nat} {x1 : Int32} {x2 : Int32} {x3 : Int32} {x4 : Int32} {x5 : Int32} {S : mt_S} {r : Int32} {S' : mt_S} (hp : mt_cp S T) (h : f_X10_feed x0 x1 x2 x3 x4 x5 S = some (r, S')) : f_X10_feed x0 x1 x2 x3 x4 x5 (mt_ov S T) = some (r, mt_ov S' T) ∧ mt_cp S' T := by
  unfold f_X10_feed at h ⊢
  obtain ⟨hg, h⟩ := mt_gd h
  refine ov_t (ov_K hp hg) ?_
  obtain ⟨v1, e1, h⟩ := mt_ob h
  refine ov_b (ov_rR hp e1) ?_
  obtain ⟨v3, S2, e3, h⟩ := mt_ob2 h
  obtain ⟨o_, hp⟩ := ov_X7_hasRoom hp e3
  refine ov_b2 o_ ?_
  by_cases hc : v3 = 0
  · have h := mt_ip h hc
    refine ov_t hc ?_
    exact ov_ret hp h
  · have h := mt_in' h hc
    refine ov_f hc ?_
    obtain ⟨v4, e4, h⟩ := mt_ob h
    refine ov_b (ov_rR hp e4) ?_
    obtain ⟨S5, e5, h⟩ := mt_ob h
    obtain ⟨o_, hp⟩ := ov_X7_putNumber hp e5
    refine ov_b o_ ?_
    obtain ⟨v6, e6, h⟩ := mt_ob h
    refine ov_b (ov_rR hp e6) ?_
    obtain ⟨S7, e7, h⟩ := mt_ob h
    obtain ⟨o_, hp⟩ := ov_X7_putNumber hp e7
    refine ov_b o_ ?_
    obtain ⟨v8, e8, h⟩ := mt_ob h
    refine ov_b (ov_rR hp e8) ?_
    obtain ⟨S9, e9, h⟩ := mt_ob h
    obtain ⟨o_, hp⟩ := ov_X7_putNumber hp e9
    refine ov_b o_ ?_
    obtain ⟨v10, e10, h⟩ := mt_ob h
    refine ov_b (ov_rR hp e10) ?_
    obtain ⟨S11, e11, h⟩ := mt_ob h
    obtain ⟨o_, hp⟩ := ov_X7_putNumber hp e11
    refine ov_b o_ ?_
    obtain ⟨v12, e12, h⟩ := mt_ob h
    refine ov_b (ov_rR hp e12) ?_
    obtain ⟨S13, e13, h⟩ := mt_ob h
    obtain ⟨o_, hp⟩ := ov_X7_putNumber hp e13
    refine ov_b o_ ?_
    obtain ⟨v14, e14, h⟩ := mt_ob h
    refine ov_b (ov_rR hp e14) ?_
    obtain ⟨v16, S15, e16, h⟩ := mt_ob2 h
    obtain ⟨o_, hp⟩ := ov_X7_length hp e16
    refine ov_b2 o_ ?_
    exact ov_ret hp h
def f_X10_end (x0 : Nat) (x1 : Int32) (S : mt_S) : Option (Int32 × mt_S) :=
  if mt_isK S x0 10 = true then
   Option.bind (mt_rR S x0 10 0) fun v1 =>
   mt_b2 (f_X7_cutTo v1 x1 S) fun v3 S2 =>
   if v3 = 0 ∨ v3 = 1 then
    some (v3, S2)
   else none
  else none
theorem k_X10_end {x0 : Nat} {x1 : Int32} {S : mt_S} {r : Int32} {S' : mt_S} (h : f_X10_end x0 x1 S = some (r, S')) : mt_isK S x0 10 = true := by
  unfold f_X10_end at h
  exact (mt_gd h).1
set_option maxHeartbeats 4000000 in
set_option maxRecDepth 100000 in
theorem m_X10_end {B : mt_B}  {x0 : Nat} {x1 : Int32} {S : mt_S} {r : Int32} {S' : mt_S} (h : f_X10_end x0 x1 S = some (r, S')) : mt_M B yX10_end cX10_end 2 (some .boolean) 2 [mt_rf B x0, .int x1] S (some (.int r)) S' := by
  unfold f_X10_end at h
  refine mt_M.of (by decide) (Nat.le_of_ble_eq_true rfl) (fun E hC hE => ?_)
  obtain ⟨hk0, h⟩ := mt_gd h
  refine go_aload_n hC 0 dX10_end_0 rfl rfl ?_
  obtain ⟨v1, e1, h⟩ := mt_ob h
  refine go_getR hC mt_flX10_10 e1 dX10_end_1 ?_
  refine go_iload_n hC 1 dX10_end_4 rfl rfl ?_
  obtain ⟨v3, S2, e3, h⟩ := mt_ob2 h
  refine go_callVi hC [.int x1] [] (m_X7_cutTo e3) mt_cvX10_85 (k_X7_cutTo e3) dX10_end_5 rfl rfl (by decide) (Nat.le_of_ble_eq_true rfl) ⟨Nat.le_refl _, Nat.le_refl _⟩ ?_
  obtain ⟨g4, h⟩ := mt_gd h
  exact go_zret hC (mt_rei h hE) g4 dX10_end_8
set_option maxHeartbeats 4000000 in
set_option maxRecDepth 100000 in
theorem ov_X10_end {T : mt_S}  {x0 : Nat} {x1 : Int32} {S : mt_S} {r : Int32} {S' : mt_S} (hp : mt_cp S T) (h : f_X10_end x0 x1 S = some (r, S')) : f_X10_end x0 x1 (mt_ov S T) = some (r, mt_ov S' T) ∧ mt_cp S' T := by
  unfold f_X10_end at h ⊢
  obtain ⟨hg, h⟩ := mt_gd h
  refine ov_t (ov_K hp hg) ?_
  obtain ⟨v1, e1, h⟩ := mt_ob h
  refine ov_b (ov_rR hp e1) ?_
  obtain ⟨v3, S2, e3, h⟩ := mt_ob2 h
  obtain ⟨o_, hp⟩ := ov_X7_cutTo hp e3
  refine ov_b2 o_ ?_
  obtain ⟨hg, h⟩ := mt_gd h
  refine ov_t hg ?_
  exact ov_ret hp h
def f_X10_path (x0 : Nat) (S : mt_S) : Option (Int32 × mt_S) :=
  if mt_isK S x0 10 = true then
   Option.bind (mt_rR S x0 10 1) fun v1 =>
   Option.bind (mt_rR S x0 10 0) fun v2 =>
   Option.bind (f_X0_read v1 v2 S) fun S3 =>
   Option.bind (mt_rR S3 x0 10 0) fun v4 =>
   mt_b2 (f_X7_cutTo v4 0 S3) fun v6 S5 =>
   Option.bind (mt_rR S5 x0 10 1) fun v7 =>
   mt_b2 (f_X0_faultKind v7 S5) fun v9 S8 =>
   if v9 = 0 then
    Option.bind (mt_rR S8 x0 10 3) fun v10 =>
    Option.bind (mt_rR S8 x0 10 2) fun v11 =>
    Option.bind (f_X2_note v10 v11 S8) fun S12 =>
    Option.bind (mt_rR S12 x0 10 1) fun v13 =>
    Option.bind (mt_rR S12 x0 10 2) fun v14 =>
    mt_b2 (f_X5_place v14 S12) fun v16 S15 =>
    mt_b2 (f_X0_run v13 v16 S15) fun v18 S17 =>
    if v18 ≤ 0 then
     some (v18, S17)
    else
     Option.bind (mt_rR S17 x0 10 3) fun v19 =>
     Option.bind (f_X2_keep v19 S17) fun S20 =>
     some (v18, S20)
   else
    Option.bind (mt_rR S8 x0 10 1) fun v21 =>
    mt_b2 (f_X0_faultPlace v21 S8) fun v23 S22 =>
    some ((-1000) - v23, S22)
  else none
theorem k_X10_path {x0 : Nat} {S : mt_S} {r : Int32} {S' : mt_S} (h : f_X10_path x0 S = some (r, S')) : mt_isK S x0 10 = true := by
  unfold f_X10_path at h
  exact (mt_gd h).1
set_option maxHeartbeats 4000000 in
set_option maxRecDepth 100000 in
theorem m_X10_path {B : mt_B}  {x0 : Nat} {S : mt_S} {r : Int32} {S' : mt_S} (h : f_X10_path x0 S = some (r, S')) : mt_M B yX10_path cX10_path 2 (some .int) 7 [mt_rf B x0] S (some (.int r)) S' := by
  unfold f_X10_path at h
  refine mt_M.of (by decide) (Nat.le_of_ble_eq_true rfl) (fun E hC hE => ?_)
  obtain ⟨hk0, h⟩ := mt_gd h
  refine go_aload_n hC 0 dX10_path_0 rfl rfl ?_
  obtain ⟨v1, e1, h⟩ := mt_ob h
  refine go_getR hC mt_flX10_19 e1 dX10_path_1 ?_
  refine go_aload_n hC 0 dX10_path_4 rfl rfl ?_
  obtain ⟨v2, e2, h⟩ := mt_ob h
  refine go_getR hC mt_flX10_10 e2 dX10_path_5 ?_
  obtain ⟨S3, e3, h⟩ := mt_ob h
  refine go_callVv hC [mt_rf B v2] [] (m_X0_read e3) mt_cvX10_89 (k_X0_read e3) dX10_path_8 rfl rfl (by decide) (Nat.le_of_ble_eq_true rfl) ⟨Nat.le_refl _, Nat.le_refl _⟩ ?_
  refine go_aload_n hC 0 dX10_path_11 rfl rfl ?_
  obtain ⟨v4, e4, h⟩ := mt_ob h
  refine go_getR hC mt_flX10_10 e4 dX10_path_12 ?_
  refine go_iconst (v := 0) hC dX10_path_15 (by decide) ?_
  obtain ⟨v6, S5, e6, h⟩ := mt_ob2 h
  refine go_callVi hC [.int 0] [] (m_X7_cutTo e6) mt_cvX10_85 (k_X7_cutTo e6) dX10_path_16 rfl rfl (by decide) (Nat.le_of_ble_eq_true rfl) ⟨Nat.le_refl _, Nat.le_refl _⟩ ?_
  refine go_pop hC dX10_path_19 rfl ?_
  refine go_aload_n hC 0 dX10_path_20 rfl rfl ?_
  obtain ⟨v7, e7, h⟩ := mt_ob h
  refine go_getR hC mt_flX10_19 e7 dX10_path_21 ?_
  obtain ⟨v9, S8, e9, h⟩ := mt_ob2 h
  refine go_callVi hC [] [] (m_X0_faultKind e9) mt_cvX10_93 (k_X0_faultKind e9) dX10_path_24 rfl rfl (by decide) (Nat.le_of_ble_eq_true rfl) ⟨Nat.le_refl _, Nat.le_refl _⟩ ?_
  refine go_if_eq hC (tgt := 42) dX10_path_27 (by decide) (fun hc => ?_) (fun hc => ?_)
  · have h := mt_ip h hc
    refine go_aload_n hC 0 dX10_path_42 rfl rfl ?_
    obtain ⟨v10, e10, h⟩ := mt_ob h
    refine go_getR hC mt_flX10_33 e10 dX10_path_43 ?_
    refine go_aload_n hC 0 dX10_path_46 rfl rfl ?_
    obtain ⟨v11, e11, h⟩ := mt_ob h
    refine go_getR hC mt_flX10_26 e11 dX10_path_47 ?_
    obtain ⟨S12, e12, h⟩ := mt_ob h
    refine go_callVv hC [mt_rf B v11] [] (m_X2_note e12) mt_cvX10_99 (k_X2_note e12) dX10_path_50 rfl rfl (by decide) (Nat.le_of_ble_eq_true rfl) ⟨Nat.le_refl _, Nat.le_refl _⟩ ?_
    refine go_aload_n hC 0 dX10_path_53 rfl rfl ?_
    obtain ⟨v13, e13, h⟩ := mt_ob h
    refine go_getR hC mt_flX10_19 e13 dX10_path_54 ?_
    refine go_aload_n hC 0 dX10_path_57 rfl rfl ?_
    obtain ⟨v14, e14, h⟩ := mt_ob h
    refine go_getR hC mt_flX10_26 e14 dX10_path_58 ?_
    obtain ⟨v16, S15, e16, h⟩ := mt_ob2 h
    refine go_callVr hC [] [mt_rf B v13] (m_X5_place e16) mt_cvX10_103 (k_X5_place e16) dX10_path_61 rfl rfl (by decide) (Nat.le_of_ble_eq_true rfl) ⟨Nat.le_refl _, Nat.le_refl _⟩ ?_
    obtain ⟨v18, S17, e18, h⟩ := mt_ob2 h
    refine go_callVi hC [mt_rf B v16] [] (m_X0_run e18) mt_cvX10_107 (k_X0_run e18) dX10_path_64 rfl rfl (by decide) (Nat.le_of_ble_eq_true rfl) ⟨Nat.le_refl _, Nat.le_refl _⟩ ?_
    refine go_istore_n hC [1, 0] (lv1 := [(0, mt_rf B x0), (1, .int v18)]) dX10_path_67 rfl (by decide) rfl ?_
    refine go_iload_n hC 1 dX10_path_68 rfl rfl ?_
    refine go_if_le hC (tgt := 79) dX10_path_69 (by decide) (fun hc => ?_) (fun hc => ?_)
    · have h := mt_ip h hc
      refine go_iload_n hC 1 dX10_path_79 rfl rfl ?_
      exact go_iret hC (mt_rei h hE) dX10_path_80
    · have h := mt_in' h hc
      refine go_aload_n hC 0 dX10_path_72 rfl rfl ?_
      obtain ⟨v19, e19, h⟩ := mt_ob h
      refine go_getR hC mt_flX10_33 e19 dX10_path_73 ?_
      obtain ⟨S20, e20, h⟩ := mt_ob h
      refine go_callVv hC [] [] (m_X2_keep e20) mt_cvX10_111 (k_X2_keep e20) dX10_path_76 rfl rfl (by decide) (Nat.le_of_ble_eq_true rfl) ⟨Nat.le_refl _, Nat.le_refl _⟩ ?_
      refine go_iload_n hC 1 dX10_path_79 rfl rfl ?_
      exact go_iret hC (mt_rei h hE) dX10_path_80
  · have h := mt_in' h hc
    refine go_sipush (v := (-1000)) hC dX10_path_30 (by decide) ?_
    refine go_aload_n hC 0 dX10_path_33 rfl rfl ?_
    obtain ⟨v21, e21, h⟩ := mt_ob h
    refine go_getR hC mt_flX10_19 e21 dX10_path_34 ?_
    obtain ⟨v23, S22, e23, h⟩ := mt_ob2 h
    refine go_callVi hC [] [.int (-1000)] (m_X0_faultPlace e23) mt_cvX10_96 (k_X0_faultPlace e23) dX10_path_37 rfl rfl (by decide) (Nat.le_of_ble_eq_true rfl) ⟨Nat.le_refl _, Nat.le_refl _⟩ ?_
    refine go_isub hC dX10_path_40 ?_
    exact go_iret hC (mt_rei h hE) dX10_path_41
set_option maxHeartbeats 4000000 in
set_option maxRecDepth 100000 in
theorem ov_X10_path {T : mt_S}  {x0 : Nat} {S : mt_S} {r : Int32} {S' : mt_S} (hp : mt_cp S T) (h : f_X10_path x0 S = some (r, S')) : f_X10_path x0 (mt_ov S T) = some (r, mt_ov S' T) ∧ mt_cp S' T := by
  unfold f_X10_path at h ⊢
  obtain ⟨hg, h⟩ := mt_gd h
  refine ov_t (ov_K hp hg) ?_
  obtain ⟨v1, e1, h⟩ := mt_ob h
  refine ov_b (ov_rR hp e1) ?_
  obtain ⟨v2, e2, h⟩ := mt_ob h
  refine ov_b (ov_rR hp e2) ?_
  obtain ⟨S3, e3, h⟩ := mt_ob h
  obtain ⟨o_, hp⟩ := ov_X0_read hp e3
  refine ov_b o_ ?_
  obtain ⟨v4, e4, h⟩ := mt_ob h
  refine ov_b (ov_rR hp e4) ?_
  obtain ⟨v6, S5, e6, h⟩ := mt_ob2 h
  obtain ⟨o_, hp⟩ := ov_X7_cutTo hp e6
  refine ov_b2 o_ ?_
  obtain ⟨v7, e7, h⟩ := mt_ob h
  refine ov_b (ov_rR hp e7) ?_
  obtain ⟨v9, S8, e9, h⟩ := mt_ob2 h
  obtain ⟨o_, hp⟩ := ov_X0_faultKind hp e9
  refine ov_b2 o_ ?_
  by_cases hc : v9 = 0
  · have h := mt_ip h hc
    refine ov_t hc ?_
    obtain ⟨v10, e10, h⟩ := mt_ob h
    refine ov_b (ov_rR hp e10) ?_
    obtain ⟨v11, e11, h⟩ := mt_ob h
    refine ov_b (ov_rR hp e11) ?_
    obtain ⟨S12, e12, h⟩ := mt_ob h
    obtain ⟨o_, hp⟩ := ov_X2_note hp e12
    refine ov_b o_ ?_
    obtain ⟨v13, e13, h⟩ := mt_ob h
    refine ov_b (ov_rR hp e13) ?_
    obtain ⟨v14, e14, h⟩ := mt_ob h
    refine ov_b (ov_rR hp e14) ?_
    obtain ⟨v16, S15, e16, h⟩ := mt_ob2 h
    obtain ⟨o_, hp⟩ := ov_X5_place hp e16
    refine ov_b2 o_ ?_
    obtain ⟨v18, S17, e18, h⟩ := mt_ob2 h
    obtain ⟨o_, hp⟩ := ov_X0_run hp e18
    refine ov_b2 o_ ?_
    by_cases hc : v18 ≤ 0
    · have h := mt_ip h hc
      refine ov_t hc ?_
      exact ov_ret hp h
    · have h := mt_in' h hc
      refine ov_f hc ?_
      obtain ⟨v19, e19, h⟩ := mt_ob h
      refine ov_b (ov_rR hp e19) ?_
      obtain ⟨S20, e20, h⟩ := mt_ob h
      obtain ⟨o_, hp⟩ := ov_X2_keep hp e20
      refine ov_b o_ ?_
      exact ov_ret hp h
  · have h := mt_in' h hc
    refine ov_f hc ?_
    obtain ⟨v21, e21, h⟩ := mt_ob h
    refine ov_b (ov_rR hp e21) ?_
    obtain ⟨v23, S22, e23, h⟩ := mt_ob2 h
    obtain ⟨o_, hp⟩ := ov_X0_faultPlace hp e23
    refine ov_b2 o_ ?_
    exact ov_ret hp h
def f_X10_fault (x0 : Nat) (S : mt_S) : Option (Int32 × mt_S) :=
  if mt_isK S x0 10 = true then
   Option.bind (mt_rR S x0 10 1) fun v1 =>
   mt_b2 (f_X0_faultKind v1 S) fun v3 S2 =>
   some (v3, S2)
  else none
theorem k_X10_fault {x0 : Nat} {S : mt_S} {r : Int32} {S' : mt_S} (h : f_X10_fault x0 S = some (r, S')) : mt_isK S x0 10 = true := by
  unfold f_X10_fault at h
  exact (mt_gd h).1
set_option maxHeartbeats 4000000 in
set_option maxRecDepth 100000 in
theorem m_X10_fault {B : mt_B}  {x0 : Nat} {S : mt_S} {r : Int32} {S' : mt_S} (h : f_X10_fault x0 S = some (r, S')) : mt_M B yX10_fault cX10_fault 1 (some .int) 2 [mt_rf B x0] S (some (.int r)) S' := by
  unfold f_X10_fault at h
  refine mt_M.of (by decide) (Nat.le_of_ble_eq_true rfl) (fun E hC hE => ?_)
  obtain ⟨hk0, h⟩ := mt_gd h
  refine go_aload_n hC 0 dX10_fault_0 rfl rfl ?_
  obtain ⟨v1, e1, h⟩ := mt_ob h
  refine go_getR hC mt_flX10_19 e1 dX10_fault_1 ?_
  obtain ⟨v3, S2, e3, h⟩ := mt_ob2 h
  refine go_callVi hC [] [] (m_X0_faultKind e3) mt_cvX10_93 (k_X0_faultKind e3) dX10_fault_4 rfl rfl (by decide) (Nat.le_of_ble_eq_true rfl) ⟨Nat.le_refl _, Nat.le_refl _⟩ ?_
  exact go_iret hC (mt_rei h hE) dX10_fault_7
set_option maxHeartbeats 4000000 in
set_option maxRecDepth 100000 in
theorem ov_X10_fault {T : mt_S}  {x0 : Nat} {S : mt_S} {r : Int32} {S' : mt_S} (hp : mt_cp S T) (h : f_X10_fault x0 S = some (r, S')) : f_X10_fault x0 (mt_ov S T) = some (r, mt_ov S' T) ∧ mt_cp S' T := by
  unfold f_X10_fault at h ⊢
  obtain ⟨hg, h⟩ := mt_gd h
  refine ov_t (ov_K hp hg) ?_
  obtain ⟨v1, e1, h⟩ := mt_ob h
  refine ov_b (ov_rR hp e1) ?_
  obtain ⟨v3, S2, e3, h⟩ := mt_ob2 h
  obtain ⟨o_, hp⟩ := ov_X0_faultKind hp e3
  refine ov_b2 o_ ?_
  exact ov_ret hp h
def f_X10_now (x0 : Nat) (x1 : Int32) (S : mt_S) : Option (Int32 × mt_S) :=
  if mt_isK S x0 10 = true then
   Option.bind (mt_rR S x0 10 2) fun v1 =>
   mt_b2 (f_X5_place v1 S) fun v3 S2 =>
   if x1 = 0 then
    mt_b2 (f_X4_p v3 S2) fun v5 S4 =>
    some (v5, S4)
   else
   if x1 = 1 then
    mt_b2 (f_X4_q v3 S2) fun v7 S6 =>
    some (v7, S6)
   else
   if x1 = 2 then
    mt_b2 (f_X4_lowP v3 S2) fun v9 S8 =>
    some (v9, S8)
   else
   if x1 = 3 then
    mt_b2 (f_X4_lowQ v3 S2) fun v11 S10 =>
    some (v11, S10)
   else
   if x1 = 4 then
    mt_b2 (f_X4_highP v3 S2) fun v13 S12 =>
    some (v13, S12)
   else
   if x1 = 5 then
    mt_b2 (f_X4_highQ v3 S2) fun v15 S14 =>
    some (v15, S14)
   else
   if x1 = 6 then
    mt_b2 (f_X4_steps v3 S2) fun v17 S16 =>
    some (v17, S16)
   else
   if x1 = 7 then
    Option.bind (mt_rR S2 x0 10 2) fun v18 =>
    mt_b2 (f_X5_marks v18 S2) fun v20 S19 =>
    mt_b2 (f_X3_size v20 S19) fun v22 S21 =>
    some (v22, S21)
   else
   if x1 = 8 then
    Option.bind (mt_rR S2 x0 10 3) fun v23 =>
    mt_b2 (f_X2_size v23 S2) fun v25 S24 =>
    some (v25, S24)
   else
   if x1 = 9 then
    Option.bind (mt_rR S2 x0 10 0) fun v26 =>
    mt_b2 (f_X7_length v26 S2) fun v28 S27 =>
    some (v28, S27)
   else
    some ((-1), S2)
  else none
theorem k_X10_now {x0 : Nat} {x1 : Int32} {S : mt_S} {r : Int32} {S' : mt_S} (h : f_X10_now x0 x1 S = some (r, S')) : mt_isK S x0 10 = true := by
  unfold f_X10_now at h
  exact (mt_gd h).1
set_option maxHeartbeats 4000000 in
set_option maxRecDepth 100000 in
theorem m_X10_now {B : mt_B}  {x0 : Nat} {x1 : Int32} {S : mt_S} {r : Int32} {S' : mt_S} (h : f_X10_now x0 x1 S = some (r, S')) : mt_M B yX10_now cX10_now 3 (some .int) 2 [mt_rf B x0, .int x1] S (some (.int r)) S' := by
  unfold f_X10_now at h
  refine mt_M.of (by decide) (Nat.le_of_ble_eq_true rfl) (fun E hC hE => ?_)
  obtain ⟨hk0, h⟩ := mt_gd h
  refine go_aload_n hC 0 dX10_now_0 rfl rfl ?_
  obtain ⟨v1, e1, h⟩ := mt_ob h
  refine go_getR hC mt_flX10_26 e1 dX10_now_1 ?_
  obtain ⟨v3, S2, e3, h⟩ := mt_ob2 h
  refine go_callVr hC [] [] (m_X5_place e3) mt_cvX10_103 (k_X5_place e3) dX10_now_4 rfl rfl (by decide) (Nat.le_of_ble_eq_true rfl) ⟨Nat.le_refl _, Nat.le_refl _⟩ ?_
  refine go_astore_n hC [1, 2, 0] (lv1 := [(0, mt_rf B x0), (1, .int x1), (2, mt_rf B v3)]) dX10_now_7 rfl (by decide) rfl ?_
  refine go_iload_n hC 1 dX10_now_8 rfl rfl ?_
  by_cases hc0 : x1 = 0
  · have h := mt_ip h hc0
    refine go_tabIn hC (v := 0) (off := 55) (tgt := 64) dX10_now_9 hc0 (by decide) (by decide) (by decide +kernel) (by decide) ?_
    refine go_aload_n hC 2 dX10_now_64 rfl rfl ?_
    obtain ⟨v5, S4, e5, h⟩ := mt_ob2 h
    refine go_callVi hC [] [] (m_X4_p e5) mt_cvX10_114 (k_X4_p e5) dX10_now_65 rfl rfl (by decide) (Nat.le_of_ble_eq_true rfl) ⟨Nat.le_refl _, Nat.le_refl _⟩ ?_
    exact go_iret hC (mt_rei h hE) dX10_now_68
  · have h := mt_in' h hc0
    by_cases hc1 : x1 = 1
    · have h := mt_ip h hc1
      refine go_tabIn hC (v := 1) (off := 60) (tgt := 69) dX10_now_9 hc1 (by decide) (by decide) (by decide +kernel) (by decide) ?_
      refine go_aload_n hC 2 dX10_now_69 rfl rfl ?_
      obtain ⟨v7, S6, e7, h⟩ := mt_ob2 h
      refine go_callVi hC [] [] (m_X4_q e7) mt_cvX10_119 (k_X4_q e7) dX10_now_70 rfl rfl (by decide) (Nat.le_of_ble_eq_true rfl) ⟨Nat.le_refl _, Nat.le_refl _⟩ ?_
      exact go_iret hC (mt_rei h hE) dX10_now_73
    · have h := mt_in' h hc1
      by_cases hc2 : x1 = 2
      · have h := mt_ip h hc2
        refine go_tabIn hC (v := 2) (off := 65) (tgt := 74) dX10_now_9 hc2 (by decide) (by decide) (by decide +kernel) (by decide) ?_
        refine go_aload_n hC 2 dX10_now_74 rfl rfl ?_
        obtain ⟨v9, S8, e9, h⟩ := mt_ob2 h
        refine go_callVi hC [] [] (m_X4_lowP e9) mt_cvX10_122 (k_X4_lowP e9) dX10_now_75 rfl rfl (by decide) (Nat.le_of_ble_eq_true rfl) ⟨Nat.le_refl _, Nat.le_refl _⟩ ?_
        exact go_iret hC (mt_rei h hE) dX10_now_78
      · have h := mt_in' h hc2
        by_cases hc3 : x1 = 3
        · have h := mt_ip h hc3
          refine go_tabIn hC (v := 3) (off := 70) (tgt := 79) dX10_now_9 hc3 (by decide) (by decide) (by decide +kernel) (by decide) ?_
          refine go_aload_n hC 2 dX10_now_79 rfl rfl ?_
          obtain ⟨v11, S10, e11, h⟩ := mt_ob2 h
          refine go_callVi hC [] [] (m_X4_lowQ e11) mt_cvX10_125 (k_X4_lowQ e11) dX10_now_80 rfl rfl (by decide) (Nat.le_of_ble_eq_true rfl) ⟨Nat.le_refl _, Nat.le_refl _⟩ ?_
          exact go_iret hC (mt_rei h hE) dX10_now_83
        · have h := mt_in' h hc3
          by_cases hc4 : x1 = 4
          · have h := mt_ip h hc4
            refine go_tabIn hC (v := 4) (off := 75) (tgt := 84) dX10_now_9 hc4 (by decide) (by decide) (by decide +kernel) (by decide) ?_
            refine go_aload_n hC 2 dX10_now_84 rfl rfl ?_
            obtain ⟨v13, S12, e13, h⟩ := mt_ob2 h
            refine go_callVi hC [] [] (m_X4_highP e13) mt_cvX10_128 (k_X4_highP e13) dX10_now_85 rfl rfl (by decide) (Nat.le_of_ble_eq_true rfl) ⟨Nat.le_refl _, Nat.le_refl _⟩ ?_
            exact go_iret hC (mt_rei h hE) dX10_now_88
          · have h := mt_in' h hc4
            by_cases hc5 : x1 = 5
            · have h := mt_ip h hc5
              refine go_tabIn hC (v := 5) (off := 80) (tgt := 89) dX10_now_9 hc5 (by decide) (by decide) (by decide +kernel) (by decide) ?_
              refine go_aload_n hC 2 dX10_now_89 rfl rfl ?_
              obtain ⟨v15, S14, e15, h⟩ := mt_ob2 h
              refine go_callVi hC [] [] (m_X4_highQ e15) mt_cvX10_131 (k_X4_highQ e15) dX10_now_90 rfl rfl (by decide) (Nat.le_of_ble_eq_true rfl) ⟨Nat.le_refl _, Nat.le_refl _⟩ ?_
              exact go_iret hC (mt_rei h hE) dX10_now_93
            · have h := mt_in' h hc5
              by_cases hc6 : x1 = 6
              · have h := mt_ip h hc6
                refine go_tabIn hC (v := 6) (off := 85) (tgt := 94) dX10_now_9 hc6 (by decide) (by decide) (by decide +kernel) (by decide) ?_
                refine go_aload_n hC 2 dX10_now_94 rfl rfl ?_
                obtain ⟨v17, S16, e17, h⟩ := mt_ob2 h
                refine go_callVi hC [] [] (m_X4_steps e17) mt_cvX10_134 (k_X4_steps e17) dX10_now_95 rfl rfl (by decide) (Nat.le_of_ble_eq_true rfl) ⟨Nat.le_refl _, Nat.le_refl _⟩ ?_
                exact go_iret hC (mt_rei h hE) dX10_now_98
              · have h := mt_in' h hc6
                by_cases hc7 : x1 = 7
                · have h := mt_ip h hc7
                  refine go_tabIn hC (v := 7) (off := 90) (tgt := 99) dX10_now_9 hc7 (by decide) (by decide) (by decide +kernel) (by decide) ?_
                  refine go_aload_n hC 0 dX10_now_99 rfl rfl ?_
                  obtain ⟨v18, e18, h⟩ := mt_ob h
                  refine go_getR hC mt_flX10_26 e18 dX10_now_100 ?_
                  obtain ⟨v20, S19, e20, h⟩ := mt_ob2 h
                  refine go_callVr hC [] [] (m_X5_marks e20) mt_cvX10_137 (k_X5_marks e20) dX10_now_103 rfl rfl (by decide) (Nat.le_of_ble_eq_true rfl) ⟨Nat.le_refl _, Nat.le_refl _⟩ ?_
                  obtain ⟨v22, S21, e22, h⟩ := mt_ob2 h
                  refine go_callVi hC [] [] (m_X3_size e22) mt_cvX10_141 (k_X3_size e22) dX10_now_106 rfl rfl (by decide) (Nat.le_of_ble_eq_true rfl) ⟨Nat.le_refl _, Nat.le_refl _⟩ ?_
                  exact go_iret hC (mt_rei h hE) dX10_now_109
                · have h := mt_in' h hc7
                  by_cases hc8 : x1 = 8
                  · have h := mt_ip h hc8
                    refine go_tabIn hC (v := 8) (off := 101) (tgt := 110) dX10_now_9 hc8 (by decide) (by decide) (by decide +kernel) (by decide) ?_
                    refine go_aload_n hC 0 dX10_now_110 rfl rfl ?_
                    obtain ⟨v23, e23, h⟩ := mt_ob h
                    refine go_getR hC mt_flX10_33 e23 dX10_now_111 ?_
                    obtain ⟨v25, S24, e25, h⟩ := mt_ob2 h
                    refine go_callVi hC [] [] (m_X2_size e25) mt_cvX10_146 (k_X2_size e25) dX10_now_114 rfl rfl (by decide) (Nat.le_of_ble_eq_true rfl) ⟨Nat.le_refl _, Nat.le_refl _⟩ ?_
                    exact go_iret hC (mt_rei h hE) dX10_now_117
                  · have h := mt_in' h hc8
                    by_cases hc9 : x1 = 9
                    · have h := mt_ip h hc9
                      refine go_tabIn hC (v := 9) (off := 109) (tgt := 118) dX10_now_9 hc9 (by decide) (by decide) (by decide +kernel) (by decide) ?_
                      refine go_aload_n hC 0 dX10_now_118 rfl rfl ?_
                      obtain ⟨v26, e26, h⟩ := mt_ob h
                      refine go_getR hC mt_flX10_10 e26 dX10_now_119 ?_
                      obtain ⟨v28, S27, e28, h⟩ := mt_ob2 h
                      refine go_callVi hC [] [] (m_X7_length e28) mt_cvX10_81 (k_X7_length e28) dX10_now_122 rfl rfl (by decide) (Nat.le_of_ble_eq_true rfl) ⟨Nat.le_refl _, Nat.le_refl _⟩ ?_
                      exact go_iret hC (mt_rei h hE) dX10_now_125
                    · have h := mt_in' h hc9
                      have t0 := lv_neT hc0 (a := 0) rfl
                      have t1 := lv_neT hc1 (a := 1) rfl
                      have t2 := lv_neT hc2 (a := 2) rfl
                      have t3 := lv_neT hc3 (a := 3) rfl
                      have t4 := lv_neT hc4 (a := 4) rfl
                      have t5 := lv_neT hc5 (a := 5) rfl
                      have t6 := lv_neT hc6 (a := 6) rfl
                      have t7 := lv_neT hc7 (a := 7) rfl
                      have t8 := lv_neT hc8 (a := 8) rfl
                      have t9 := lv_neT hc9 (a := 9) rfl
                      refine go_tabOut hC (tgt := 126) dX10_now_9 (by omega) (by decide) ?_
                      refine go_iconst (v := (-1)) hC dX10_now_126 (by decide) ?_
                      exact go_iret hC (mt_rei h hE) dX10_now_127
set_option maxHeartbeats 4000000 in
set_option maxRecDepth 100000 in
theorem ov_X10_now {T : mt_S}  {x0 : Nat} {x1 : Int32} {S : mt_S} {r : Int32} {S' : mt_S} (hp : mt_cp S T) (h : f_X10_now x0 x1 S = some (r, S')) : f_X10_now x0 x1 (mt_ov S T) = some (r, mt_ov S' T) ∧ mt_cp S' T := by
  unfold f_X10_now at h ⊢
  obtain ⟨hg, h⟩ := mt_gd h
  refine ov_t (ov_K hp hg) ?_
  obtain ⟨v1, e1, h⟩ := mt_ob h
  refine ov_b (ov_rR hp e1) ?_
  obtain ⟨v3, S2, e3, h⟩ := mt_ob2 h
  obtain ⟨o_, hp⟩ := ov_X5_place hp e3
  refine ov_b2 o_ ?_
  by_cases hc : x1 = 0
  · have h := mt_ip h hc
    refine ov_t hc ?_
    obtain ⟨v5, S4, e5, h⟩ := mt_ob2 h
    obtain ⟨o_, hp⟩ := ov_X4_p hp e5
    refine ov_b2 o_ ?_
    exact ov_ret hp h
  · have h := mt_in' h hc
    refine ov_f hc ?_
    by_cases hc : x1 = 1
    · have h := mt_ip h hc
      refine ov_t hc ?_
      obtain ⟨v7, S6, e7, h⟩ := mt_ob2 h
      obtain ⟨o_, hp⟩ := ov_X4_q hp e7
      refine ov_b2 o_ ?_
      exact ov_ret hp h
    · have h := mt_in' h hc
      refine ov_f hc ?_
      by_cases hc : x1 = 2
      · have h := mt_ip h hc
        refine ov_t hc ?_
        obtain ⟨v9, S8, e9, h⟩ := mt_ob2 h
        obtain ⟨o_, hp⟩ := ov_X4_lowP hp e9
        refine ov_b2 o_ ?_
        exact ov_ret hp h
      · have h := mt_in' h hc
        refine ov_f hc ?_
        by_cases hc : x1 = 3
        · have h := mt_ip h hc
          refine ov_t hc ?_
          obtain ⟨v11, S10, e11, h⟩ := mt_ob2 h
          obtain ⟨o_, hp⟩ := ov_X4_lowQ hp e11
          refine ov_b2 o_ ?_
          exact ov_ret hp h
        · have h := mt_in' h hc
          refine ov_f hc ?_
          by_cases hc : x1 = 4
          · have h := mt_ip h hc
            refine ov_t hc ?_
            obtain ⟨v13, S12, e13, h⟩ := mt_ob2 h
            obtain ⟨o_, hp⟩ := ov_X4_highP hp e13
            refine ov_b2 o_ ?_
            exact ov_ret hp h
          · have h := mt_in' h hc
            refine ov_f hc ?_
            by_cases hc : x1 = 5
            · have h := mt_ip h hc
              refine ov_t hc ?_
              obtain ⟨v15, S14, e15, h⟩ := mt_ob2 h
              obtain ⟨o_, hp⟩ := ov_X4_highQ hp e15
              refine ov_b2 o_ ?_
              exact ov_ret hp h
            · have h := mt_in' h hc
              refine ov_f hc ?_
              by_cases hc : x1 = 6
              · have h := mt_ip h hc
                refine ov_t hc ?_
                obtain ⟨v17, S16, e17, h⟩ := mt_ob2 h
                obtain ⟨o_, hp⟩ := ov_X4_steps hp e17
                refine ov_b2 o_ ?_
                exact ov_ret hp h
              · have h := mt_in' h hc
                refine ov_f hc ?_
                by_cases hc : x1 = 7
                · have h := mt_ip h hc
                  refine ov_t hc ?_
                  obtain ⟨v18, e18, h⟩ := mt_ob h
                  refine ov_b (ov_rR hp e18) ?_
                  obtain ⟨v20, S19, e20, h⟩ := mt_ob2 h
                  obtain ⟨o_, hp⟩ := ov_X5_marks hp e20
                  refine ov_b2 o_ ?_
                  obtain ⟨v22, S21, e22, h⟩ := mt_ob2 h
                  obtain ⟨o_, hp⟩ := ov_X3_size hp e22
                  refine ov_b2 o_ ?_
                  exact ov_ret hp h
                · have h := mt_in' h hc
                  refine ov_f hc ?_
                  by_cases hc : x1 = 8
                  · have h := mt_ip h hc
                    refine ov_t hc ?_
                    obtain ⟨v23, e23, h⟩ := mt_ob h
                    refine ov_b (ov_rR hp e23) ?_
                    obtain ⟨v25, S24, e25, h⟩ := mt_ob2 h
                    obtain ⟨o_, hp⟩ := ov_X2_size hp e25
                    refine ov_b2 o_ ?_
                    exact ov_ret hp h
                  · have h := mt_in' h hc
                    refine ov_f hc ?_
                    by_cases hc : x1 = 9
                    · have h := mt_ip h hc
                      refine ov_t hc ?_
                      obtain ⟨v26, e26, h⟩ := mt_ob h
                      refine ov_b (ov_rR hp e26) ?_
                      obtain ⟨v28, S27, e28, h⟩ := mt_ob2 h
                      obtain ⟨o_, hp⟩ := ov_X7_length hp e28
                      refine ov_b2 o_ ?_
                      exact ov_ret hp h
                    · have h := mt_in' h hc
                      refine ov_f hc ?_
                      exact ov_ret hp h
def f_X10_stepped (x0 : Nat) (x1 : Int32) (S : mt_S) : Option (Int32 × mt_S) :=
  if mt_isK S x0 10 = true then
   if x1 = 0 then
    some ((-1), S)
   else
    Option.bind (mt_rR S x0 10 3) fun v1 =>
    Option.bind (f_X2_keep v1 S) fun S2 =>
    Option.bind (mt_rR S2 x0 10 2) fun v3 =>
    mt_b2 (f_X5_place v3 S2) fun v5 S4 =>
    mt_b2 (f_X4_together v5 S4) fun v7 S6 =>
    some (v7, S6)
  else none
theorem k_X10_stepped {x0 : Nat} {x1 : Int32} {S : mt_S} {r : Int32} {S' : mt_S} (h : f_X10_stepped x0 x1 S = some (r, S')) : mt_isK S x0 10 = true := by
  unfold f_X10_stepped at h
  exact (mt_gd h).1
set_option maxHeartbeats 4000000 in
set_option maxRecDepth 100000 in
theorem m_X10_stepped {B : mt_B}  {x0 : Nat} {x1 : Int32} {S : mt_S} {r : Int32} {S' : mt_S} (h : f_X10_stepped x0 x1 S = some (r, S')) : mt_M B yX10_stepped cX10_stepped 2 (some .int) 3 [mt_rf B x0, .int x1] S (some (.int r)) S' := by
  unfold f_X10_stepped at h
  refine mt_M.of (by decide) (Nat.le_of_ble_eq_true rfl) (fun E hC hE => ?_)
  obtain ⟨hk0, h⟩ := mt_gd h
  refine go_iload_n hC 1 dX10_stepped_0 rfl rfl ?_
  refine go_if_ne hC (tgt := 6) dX10_stepped_1 (by decide) (fun hc => ?_) (fun hc => ?_)
  · have h := mt_in' h hc
    refine go_aload_n hC 0 dX10_stepped_6 rfl rfl ?_
    obtain ⟨v1, e1, h⟩ := mt_ob h
    refine go_getR hC mt_flX10_33 e1 dX10_stepped_7 ?_
    obtain ⟨S2, e2, h⟩ := mt_ob h
    refine go_callVv hC [] [] (m_X2_keep e2) mt_cvX10_111 (k_X2_keep e2) dX10_stepped_10 rfl rfl (by decide) (Nat.le_of_ble_eq_true rfl) ⟨Nat.le_refl _, Nat.le_refl _⟩ ?_
    refine go_aload_n hC 0 dX10_stepped_13 rfl rfl ?_
    obtain ⟨v3, e3, h⟩ := mt_ob h
    refine go_getR hC mt_flX10_26 e3 dX10_stepped_14 ?_
    obtain ⟨v5, S4, e5, h⟩ := mt_ob2 h
    refine go_callVr hC [] [] (m_X5_place e5) mt_cvX10_103 (k_X5_place e5) dX10_stepped_17 rfl rfl (by decide) (Nat.le_of_ble_eq_true rfl) ⟨Nat.le_refl _, Nat.le_refl _⟩ ?_
    obtain ⟨v7, S6, e7, h⟩ := mt_ob2 h
    refine go_callVi hC [] [] (m_X4_together e7) mt_cvX10_168 (k_X4_together e7) dX10_stepped_20 rfl rfl (by decide) (Nat.le_of_ble_eq_true rfl) ⟨Nat.le_refl _, Nat.le_refl _⟩ ?_
    exact go_iret hC (mt_rei h hE) dX10_stepped_23
  · have h := mt_ip h hc
    refine go_iconst (v := (-1)) hC dX10_stepped_4 (by decide) ?_
    exact go_iret hC (mt_rei h hE) dX10_stepped_5
set_option maxHeartbeats 4000000 in
set_option maxRecDepth 100000 in
theorem ov_X10_stepped {T : mt_S}  {x0 : Nat} {x1 : Int32} {S : mt_S} {r : Int32} {S' : mt_S} (hp : mt_cp S T) (h : f_X10_stepped x0 x1 S = some (r, S')) : f_X10_stepped x0 x1 (mt_ov S T) = some (r, mt_ov S' T) ∧ mt_cp S' T := by
  unfold f_X10_stepped at h ⊢
  obtain ⟨hg, h⟩ := mt_gd h
  refine ov_t (ov_K hp hg) ?_
  by_cases hc : x1 = 0
  · have h := mt_ip h hc
    refine ov_t hc ?_
    exact ov_ret hp h
  · have h := mt_in' h hc
    refine ov_f hc ?_
    obtain ⟨v1, e1, h⟩ := mt_ob h
    refine ov_b (ov_rR hp e1) ?_
    obtain ⟨S2, e2, h⟩ := mt_ob h
    obtain ⟨o_, hp⟩ := ov_X2_keep hp e2
    refine ov_b o_ ?_
    obtain ⟨v3, e3, h⟩ := mt_ob h
    refine ov_b (ov_rR hp e3) ?_
    obtain ⟨v5, S4, e5, h⟩ := mt_ob2 h
    obtain ⟨o_, hp⟩ := ov_X5_place hp e5
    refine ov_b2 o_ ?_
    obtain ⟨v7, S6, e7, h⟩ := mt_ob2 h
    obtain ⟨o_, hp⟩ := ov_X4_together hp e7
    refine ov_b2 o_ ?_
    exact ov_ret hp h
def f_X10_left (x0 : Nat) (S : mt_S) : Option (Int32 × mt_S) :=
  if mt_isK S x0 10 = true then
   Option.bind (mt_rR S x0 10 3) fun v1 =>
   Option.bind (mt_rR S x0 10 2) fun v2 =>
   Option.bind (f_X2_note v1 v2 S) fun S3 =>
   Option.bind (mt_rR S3 x0 10 2) fun v4 =>
   mt_b2 (f_X5_place v4 S3) fun v6 S5 =>
   mt_b2 (f_X4_stepLeft v6 S5) fun v8 S7 =>
   mt_b2 (f_X10_stepped x0 v8 S7) fun v10 S9 =>
   some (v10, S9)
  else none
theorem k_X10_left {x0 : Nat} {S : mt_S} {r : Int32} {S' : mt_S} (h : f_X10_left x0 S = some (r, S')) : mt_isK S x0 10 = true := by
  unfold f_X10_left at h
  exact (mt_gd h).1
set_option maxHeartbeats 4000000 in
set_option maxRecDepth 100000 in
theorem m_X10_left {B : mt_B}  {x0 : Nat} {S : mt_S} {r : Int32} {S' : mt_S} (h : f_X10_left x0 S = some (r, S')) : mt_M B yX10_left cX10_left 1 (some .int) 5 [mt_rf B x0] S (some (.int r)) S' := by
  unfold f_X10_left at h
  refine mt_M.of (by decide) (Nat.le_of_ble_eq_true rfl) (fun E hC hE => ?_)
  obtain ⟨hk0, h⟩ := mt_gd h
  refine go_aload_n hC 0 dX10_left_0 rfl rfl ?_
  obtain ⟨v1, e1, h⟩ := mt_ob h
  refine go_getR hC mt_flX10_33 e1 dX10_left_1 ?_
  refine go_aload_n hC 0 dX10_left_4 rfl rfl ?_
  obtain ⟨v2, e2, h⟩ := mt_ob h
  refine go_getR hC mt_flX10_26 e2 dX10_left_5 ?_
  obtain ⟨S3, e3, h⟩ := mt_ob h
  refine go_callVv hC [mt_rf B v2] [] (m_X2_note e3) mt_cvX10_99 (k_X2_note e3) dX10_left_8 rfl rfl (by decide) (Nat.le_of_ble_eq_true rfl) ⟨Nat.le_refl _, Nat.le_refl _⟩ ?_
  refine go_aload_n hC 0 dX10_left_11 rfl rfl ?_
  refine go_aload_n hC 0 dX10_left_12 rfl rfl ?_
  obtain ⟨v4, e4, h⟩ := mt_ob h
  refine go_getR hC mt_flX10_26 e4 dX10_left_13 ?_
  obtain ⟨v6, S5, e6, h⟩ := mt_ob2 h
  refine go_callVr hC [] [mt_rf B x0] (m_X5_place e6) mt_cvX10_103 (k_X5_place e6) dX10_left_16 rfl rfl (by decide) (Nat.le_of_ble_eq_true rfl) ⟨Nat.le_refl _, Nat.le_refl _⟩ ?_
  obtain ⟨v8, S7, e8, h⟩ := mt_ob2 h
  refine go_callVi hC [] [mt_rf B x0] (m_X4_stepLeft e8) mt_cvX10_147 (k_X4_stepLeft e8) dX10_left_19 rfl rfl (by decide) (Nat.le_of_ble_eq_true rfl) ⟨Nat.le_refl _, Nat.le_refl _⟩ ?_
  obtain ⟨v10, S9, e10, h⟩ := mt_ob2 h
  refine go_callVi hC [.int v8] [] (m_X10_stepped e10) mt_cvX10_150 (k_X10_stepped e10) dX10_left_22 rfl rfl (by decide) (Nat.le_of_ble_eq_true rfl) ⟨Nat.le_refl _, Nat.le_refl _⟩ ?_
  exact go_iret hC (mt_rei h hE) dX10_left_25
set_option maxHeartbeats 4000000 in
set_option maxRecDepth 100000 in
theorem ov_X10_left {T : mt_S}  {x0 : Nat} {S : mt_S} {r : Int32} {S' : mt_S} (hp : mt_cp S T) (h : f_X10_left x0 S = some (r, S')) : f_X10_left x0 (mt_ov S T) = some (r, mt_ov S' T) ∧ mt_cp S' T := by
  unfold f_X10_left at h ⊢
  obtain ⟨hg, h⟩ := mt_gd h
  refine ov_t (ov_K hp hg) ?_
  obtain ⟨v1, e1, h⟩ := mt_ob h
  refine ov_b (ov_rR hp e1) ?_
  obtain ⟨v2, e2, h⟩ := mt_ob h
  refine ov_b (ov_rR hp e2) ?_
  obtain ⟨S3, e3, h⟩ := mt_ob h
  obtain ⟨o_, hp⟩ := ov_X2_note hp e3
  refine ov_b o_ ?_
  obtain ⟨v4, e4, h⟩ := mt_ob h
  refine ov_b (ov_rR hp e4) ?_
  obtain ⟨v6, S5, e6, h⟩ := mt_ob2 h
  obtain ⟨o_, hp⟩ := ov_X5_place hp e6
  refine ov_b2 o_ ?_
  obtain ⟨v8, S7, e8, h⟩ := mt_ob2 h
  obtain ⟨o_, hp⟩ := ov_X4_stepLeft hp e8
  refine ov_b2 o_ ?_
  obtain ⟨v10, S9, e10, h⟩ := mt_ob2 h
  obtain ⟨o_, hp⟩ := ov_X10_stepped hp e10
  refine ov_b2 o_ ?_
  exact ov_ret hp h
def f_X10_right (x0 : Nat) (S : mt_S) : Option (Int32 × mt_S) :=
  if mt_isK S x0 10 = true then
   Option.bind (mt_rR S x0 10 3) fun v1 =>
   Option.bind (mt_rR S x0 10 2) fun v2 =>
   Option.bind (f_X2_note v1 v2 S) fun S3 =>
   Option.bind (mt_rR S3 x0 10 2) fun v4 =>
   mt_b2 (f_X5_place v4 S3) fun v6 S5 =>
   mt_b2 (f_X4_stepRight v6 S5) fun v8 S7 =>
   mt_b2 (f_X10_stepped x0 v8 S7) fun v10 S9 =>
   some (v10, S9)
  else none
theorem k_X10_right {x0 : Nat} {S : mt_S} {r : Int32} {S' : mt_S} (h : f_X10_right x0 S = some (r, S')) : mt_isK S x0 10 = true := by
  unfold f_X10_right at h
  exact (mt_gd h).1
set_option maxHeartbeats 4000000 in
set_option maxRecDepth 100000 in
theorem m_X10_right {B : mt_B}  {x0 : Nat} {S : mt_S} {r : Int32} {S' : mt_S} (h : f_X10_right x0 S = some (r, S')) : mt_M B yX10_right cX10_right 1 (some .int) 5 [mt_rf B x0] S (some (.int r)) S' := by
  unfold f_X10_right at h
  refine mt_M.of (by decide) (Nat.le_of_ble_eq_true rfl) (fun E hC hE => ?_)
  obtain ⟨hk0, h⟩ := mt_gd h
  refine go_aload_n hC 0 dX10_right_0 rfl rfl ?_
  obtain ⟨v1, e1, h⟩ := mt_ob h
  refine go_getR hC mt_flX10_33 e1 dX10_right_1 ?_
  refine go_aload_n hC 0 dX10_right_4 rfl rfl ?_
  obtain ⟨v2, e2, h⟩ := mt_ob h
  refine go_getR hC mt_flX10_26 e2 dX10_right_5 ?_
  obtain ⟨S3, e3, h⟩ := mt_ob h
  refine go_callVv hC [mt_rf B v2] [] (m_X2_note e3) mt_cvX10_99 (k_X2_note e3) dX10_right_8 rfl rfl (by decide) (Nat.le_of_ble_eq_true rfl) ⟨Nat.le_refl _, Nat.le_refl _⟩ ?_
  refine go_aload_n hC 0 dX10_right_11 rfl rfl ?_
  refine go_aload_n hC 0 dX10_right_12 rfl rfl ?_
  obtain ⟨v4, e4, h⟩ := mt_ob h
  refine go_getR hC mt_flX10_26 e4 dX10_right_13 ?_
  obtain ⟨v6, S5, e6, h⟩ := mt_ob2 h
  refine go_callVr hC [] [mt_rf B x0] (m_X5_place e6) mt_cvX10_103 (k_X5_place e6) dX10_right_16 rfl rfl (by decide) (Nat.le_of_ble_eq_true rfl) ⟨Nat.le_refl _, Nat.le_refl _⟩ ?_
  obtain ⟨v8, S7, e8, h⟩ := mt_ob2 h
  refine go_callVi hC [] [mt_rf B x0] (m_X4_stepRight e8) mt_cvX10_154 (k_X4_stepRight e8) dX10_right_19 rfl rfl (by decide) (Nat.le_of_ble_eq_true rfl) ⟨Nat.le_refl _, Nat.le_refl _⟩ ?_
  obtain ⟨v10, S9, e10, h⟩ := mt_ob2 h
  refine go_callVi hC [.int v8] [] (m_X10_stepped e10) mt_cvX10_150 (k_X10_stepped e10) dX10_right_22 rfl rfl (by decide) (Nat.le_of_ble_eq_true rfl) ⟨Nat.le_refl _, Nat.le_refl _⟩ ?_
  exact go_iret hC (mt_rei h hE) dX10_right_25
set_option maxHeartbeats 4000000 in
set_option maxRecDepth 100000 in
theorem ov_X10_right {T : mt_S}  {x0 : Nat} {S : mt_S} {r : Int32} {S' : mt_S} (hp : mt_cp S T) (h : f_X10_right x0 S = some (r, S')) : f_X10_right x0 (mt_ov S T) = some (r, mt_ov S' T) ∧ mt_cp S' T := by
  unfold f_X10_right at h ⊢
  obtain ⟨hg, h⟩ := mt_gd h
  refine ov_t (ov_K hp hg) ?_
  obtain ⟨v1, e1, h⟩ := mt_ob h
  refine ov_b (ov_rR hp e1) ?_
  obtain ⟨v2, e2, h⟩ := mt_ob h
  refine ov_b (ov_rR hp e2) ?_
  obtain ⟨S3, e3, h⟩ := mt_ob h
  obtain ⟨o_, hp⟩ := ov_X2_note hp e3
  refine ov_b o_ ?_
  obtain ⟨v4, e4, h⟩ := mt_ob h
  refine ov_b (ov_rR hp e4) ?_
  obtain ⟨v6, S5, e6, h⟩ := mt_ob2 h
  obtain ⟨o_, hp⟩ := ov_X5_place hp e6
  refine ov_b2 o_ ?_
  obtain ⟨v8, S7, e8, h⟩ := mt_ob2 h
  obtain ⟨o_, hp⟩ := ov_X4_stepRight hp e8
  refine ov_b2 o_ ?_
  obtain ⟨v10, S9, e10, h⟩ := mt_ob2 h
  obtain ⟨o_, hp⟩ := ov_X10_stepped hp e10
  refine ov_b2 o_ ?_
  exact ov_ret hp h
def f_X10_up (x0 : Nat) (S : mt_S) : Option (Int32 × mt_S) :=
  if mt_isK S x0 10 = true then
   Option.bind (mt_rR S x0 10 3) fun v1 =>
   Option.bind (mt_rR S x0 10 2) fun v2 =>
   Option.bind (f_X2_note v1 v2 S) fun S3 =>
   Option.bind (mt_rR S3 x0 10 2) fun v4 =>
   mt_b2 (f_X5_place v4 S3) fun v6 S5 =>
   mt_b2 (f_X4_stepUp v6 S5) fun v8 S7 =>
   mt_b2 (f_X10_stepped x0 v8 S7) fun v10 S9 =>
   some (v10, S9)
  else none
theorem k_X10_up {x0 : Nat} {S : mt_S} {r : Int32} {S' : mt_S} (h : f_X10_up x0 S = some (r, S')) : mt_isK S x0 10 = true := by
  unfold f_X10_up at h
  exact (mt_gd h).1
set_option maxHeartbeats 4000000 in
set_option maxRecDepth 100000 in
theorem m_X10_up {B : mt_B}  {x0 : Nat} {S : mt_S} {r : Int32} {S' : mt_S} (h : f_X10_up x0 S = some (r, S')) : mt_M B yX10_up cX10_up 1 (some .int) 5 [mt_rf B x0] S (some (.int r)) S' := by
  unfold f_X10_up at h
  refine mt_M.of (by decide) (Nat.le_of_ble_eq_true rfl) (fun E hC hE => ?_)
  obtain ⟨hk0, h⟩ := mt_gd h
  refine go_aload_n hC 0 dX10_up_0 rfl rfl ?_
  obtain ⟨v1, e1, h⟩ := mt_ob h
  refine go_getR hC mt_flX10_33 e1 dX10_up_1 ?_
  refine go_aload_n hC 0 dX10_up_4 rfl rfl ?_
  obtain ⟨v2, e2, h⟩ := mt_ob h
  refine go_getR hC mt_flX10_26 e2 dX10_up_5 ?_
  obtain ⟨S3, e3, h⟩ := mt_ob h
  refine go_callVv hC [mt_rf B v2] [] (m_X2_note e3) mt_cvX10_99 (k_X2_note e3) dX10_up_8 rfl rfl (by decide) (Nat.le_of_ble_eq_true rfl) ⟨Nat.le_refl _, Nat.le_refl _⟩ ?_
  refine go_aload_n hC 0 dX10_up_11 rfl rfl ?_
  refine go_aload_n hC 0 dX10_up_12 rfl rfl ?_
  obtain ⟨v4, e4, h⟩ := mt_ob h
  refine go_getR hC mt_flX10_26 e4 dX10_up_13 ?_
  obtain ⟨v6, S5, e6, h⟩ := mt_ob2 h
  refine go_callVr hC [] [mt_rf B x0] (m_X5_place e6) mt_cvX10_103 (k_X5_place e6) dX10_up_16 rfl rfl (by decide) (Nat.le_of_ble_eq_true rfl) ⟨Nat.le_refl _, Nat.le_refl _⟩ ?_
  obtain ⟨v8, S7, e8, h⟩ := mt_ob2 h
  refine go_callVi hC [] [mt_rf B x0] (m_X4_stepUp e8) mt_cvX10_157 (k_X4_stepUp e8) dX10_up_19 rfl rfl (by decide) (Nat.le_of_ble_eq_true rfl) ⟨Nat.le_refl _, Nat.le_refl _⟩ ?_
  obtain ⟨v10, S9, e10, h⟩ := mt_ob2 h
  refine go_callVi hC [.int v8] [] (m_X10_stepped e10) mt_cvX10_150 (k_X10_stepped e10) dX10_up_22 rfl rfl (by decide) (Nat.le_of_ble_eq_true rfl) ⟨Nat.le_refl _, Nat.le_refl _⟩ ?_
  exact go_iret hC (mt_rei h hE) dX10_up_25
set_option maxHeartbeats 4000000 in
set_option maxRecDepth 100000 in
theorem ov_X10_up {T : mt_S}  {x0 : Nat} {S : mt_S} {r : Int32} {S' : mt_S} (hp : mt_cp S T) (h : f_X10_up x0 S = some (r, S')) : f_X10_up x0 (mt_ov S T) = some (r, mt_ov S' T) ∧ mt_cp S' T := by
  unfold f_X10_up at h ⊢
  obtain ⟨hg, h⟩ := mt_gd h
  refine ov_t (ov_K hp hg) ?_
  obtain ⟨v1, e1, h⟩ := mt_ob h
  refine ov_b (ov_rR hp e1) ?_
  obtain ⟨v2, e2, h⟩ := mt_ob h
  refine ov_b (ov_rR hp e2) ?_
  obtain ⟨S3, e3, h⟩ := mt_ob h
  obtain ⟨o_, hp⟩ := ov_X2_note hp e3
  refine ov_b o_ ?_
  obtain ⟨v4, e4, h⟩ := mt_ob h
  refine ov_b (ov_rR hp e4) ?_
  obtain ⟨v6, S5, e6, h⟩ := mt_ob2 h
  obtain ⟨o_, hp⟩ := ov_X5_place hp e6
  refine ov_b2 o_ ?_
  obtain ⟨v8, S7, e8, h⟩ := mt_ob2 h
  obtain ⟨o_, hp⟩ := ov_X4_stepUp hp e8
  refine ov_b2 o_ ?_
  obtain ⟨v10, S9, e10, h⟩ := mt_ob2 h
  obtain ⟨o_, hp⟩ := ov_X10_stepped hp e10
  refine ov_b2 o_ ?_
  exact ov_ret hp h
def f_X10_commonPart_L7s (rc : Int32 → Int32 → Int32 → mt_S → Option (Int32 × mt_S)) (x2 : Int32) (x3 : Int32) (x4 : Int32) (S : mt_S) : Option (Int32 × mt_S) :=
  if 22 ≤ x4 then
   some (x2, S)
  else
  if x3 = 0 then
   some (x2, S)
  else
   if x3 = 0 then none else
   rc x3 (x2 - x2 / x3 * x3) (x4 + 1) S
def f_X10_commonPart_L7 : Nat → Int32 → Int32 → Int32 → mt_S → Option (Int32 × mt_S)
  | 0 => fun _ _ _ _ => none
  | n + 1 => f_X10_commonPart_L7s (f_X10_commonPart_L7 n)
set_option maxHeartbeats 4000000 in
set_option maxRecDepth 100000 in
theorem m_X10_commonPart_L7 {B : mt_B} {E : mt_E} {r : Int32} {S' : mt_S} (hC : mt_Cx B E cX10_commonPart RX10 (some .int) 6 1 0 0) (hE : mt_End B E (0, 0) (some (.int r)) S') : ∀ (n : Nat) (x2 : Int32) (x3 : Int32) (x4 : Int32) (S : mt_S), f_X10_commonPart_L7 n x2 x3 x4 S = some (r, S') → mt_Go B E (0, 0) S 7 [(2, .int x2), (3, .int x3), (4, .int x4)] [] := by
  intro n
  induction n with
  | zero =>
    intro x2 x3 x4 S h
    cases h
  | succ n ih =>
    intro x2 x3 x4 S h
    have h : f_X10_commonPart_L7s (f_X10_commonPart_L7 n) x2 x3 x4 S = some (r, S') := h
    unfold f_X10_commonPart_L7s at h
    refine go_iload hC 2 dX10_commonPart_7 rfl ?_
    refine go_bipush (v := 22) hC dX10_commonPart_9 (by decide) ?_
    refine go_icmp_ge hC (tgt := 34) dX10_commonPart_11 (by decide) (fun hc => ?_) (fun hc => ?_)
    · have h := mt_ip h hc
      refine go_iload_n hC 0 dX10_commonPart_34 rfl rfl ?_
      exact go_iret hC (mt_rei h hE) dX10_commonPart_35
    · have h := mt_in' h hc
      refine go_iload_n hC 1 dX10_commonPart_14 rfl rfl ?_
      refine go_if_eq hC (tgt := 34) dX10_commonPart_15 (by decide) (fun hc => ?_) (fun hc => ?_)
      · have h := mt_ip h hc
        refine go_iload_n hC 0 dX10_commonPart_34 rfl rfl ?_
        exact go_iret hC (mt_rei h hE) dX10_commonPart_35
      · have h := mt_in' h hc
        refine go_iload_n hC 0 dX10_commonPart_18 rfl rfl ?_
        refine go_iload_n hC 1 dX10_commonPart_19 rfl rfl ?_
        have g1 : ¬ x3 = 0 := fun q => by rw [if_pos q] at h; cases h
        have h := mt_in' h g1
        refine go_irem hC dX10_commonPart_20 g1 ?_
        refine go_istore hC [1, 2, 3, 0] (lv1 := [(2, .int x2), (3, .int x3), (4, .int x4), (5, .int (x2 - x2 / x3 * x3))]) dX10_commonPart_21 (by decide) rfl ?_
        refine go_iload_n hC 1 dX10_commonPart_23 rfl rfl ?_
        refine go_istore_n hC [0, 1, 2, 3] (lv1 := [(2, .int x3), (3, .int x3), (4, .int x4), (5, .int (x2 - x2 / x3 * x3))]) dX10_commonPart_24 rfl (by decide) rfl ?_
        refine go_iload hC 3 dX10_commonPart_25 rfl ?_
        refine go_istore_n hC [1, 0, 2, 3] (lv1 := [(2, .int x3), (3, .int (x2 - x2 / x3 * x3)), (4, .int x4), (5, .int (x2 - x2 / x3 * x3))]) dX10_commonPart_27 rfl (by decide) rfl ?_
        refine go_iinc hC 2 [1, 2, 0, 3] (v := x4 + 1) (lv1 := [(2, .int x3), (3, .int (x2 - x2 / x3 * x3)), (4, .int (x4 + 1)), (5, .int (x2 - x2 / x3 * x3))]) dX10_commonPart_28 rfl rfl (by decide) rfl ?_
        refine go_goto hC (tgt := 7) dX10_commonPart_31 (by decide) ?_
        refine go_sub [0, 1, 2] (lv1 := [(2, .int x3), (3, .int (x2 - x2 / x3 * x3)), (4, .int (x4 + 1))]) rfl ?_
        exact ih _ _ _ _ h
set_option maxHeartbeats 4000000 in
set_option maxRecDepth 100000 in
theorem ov_X10_commonPart_L7 {T : mt_S} {r : Int32} {S' : mt_S} : ∀ (n : Nat) (x2 : Int32) (x3 : Int32) (x4 : Int32) (S : mt_S), mt_cp S T → f_X10_commonPart_L7 n x2 x3 x4 S = some (r, S') → f_X10_commonPart_L7 n x2 x3 x4 (mt_ov S T) = some (r, mt_ov S' T) ∧ mt_cp S' T := by
  intro n
  induction n with
  | zero =>
    intro x2 x3 x4 S hp h
    cases h
  | succ n ih =>
    intro x2 x3 x4 S hp h
    have h : f_X10_commonPart_L7s (f_X10_commonPart_L7 n) x2 x3 x4 S = some (r, S') := h
    show f_X10_commonPart_L7s (f_X10_commonPart_L7 n) x2 x3 x4 (mt_ov S T) = some (r, mt_ov S' T) ∧ mt_cp S' T
    unfold f_X10_commonPart_L7s at h ⊢
    by_cases hc : 22 ≤ x4
    · have h := mt_ip h hc
      refine ov_t hc ?_
      exact ov_ret hp h
    · have h := mt_in' h hc
      refine ov_f hc ?_
      by_cases hc : x3 = 0
      · have h := mt_ip h hc
        refine ov_t hc ?_
        exact ov_ret hp h
      · have h := mt_in' h hc
        refine ov_f hc ?_
        have hz : ¬ x3 = 0 := fun q => by rw [if_pos q] at h; cases h
        have h := mt_in' h hz
        refine ov_f hz ?_
        exact ih _ _ _ _ hp h
def f_X10_commonPart (x0 : Int32) (x1 : Int32) (S : mt_S) : Option (Int32 × mt_S) :=
  f_X10_commonPart_L7 1000 x0 x1 0 S
set_option maxHeartbeats 4000000 in
set_option maxRecDepth 100000 in
theorem m_X10_commonPart {B : mt_B}  {x0 : Int32} {x1 : Int32} {S : mt_S} {r : Int32} {S' : mt_S} (h : f_X10_commonPart x0 x1 S = some (r, S')) : mt_M B yX10_commonPart cX10_commonPart 6 (some .int) 1 [.int x0, .int x1] S (some (.int r)) S' := by
  unfold f_X10_commonPart at h
  refine mt_M.of (by decide) (Nat.le_of_ble_eq_true rfl) (fun E hC hE => ?_)
  refine go_iload_n hC 0 dX10_commonPart_0 rfl rfl ?_
  refine go_istore_n hC [1, 2, 0] (lv1 := [(0, .int x0), (1, .int x1), (2, .int x0)]) dX10_commonPart_1 rfl (by decide) rfl ?_
  refine go_iload_n hC 1 dX10_commonPart_2 rfl rfl ?_
  refine go_istore_n hC [1, 2, 3, 0] (lv1 := [(0, .int x0), (1, .int x1), (2, .int x0), (3, .int x1)]) dX10_commonPart_3 rfl (by decide) rfl ?_
  refine go_iconst (v := 0) hC dX10_commonPart_4 (by decide) ?_
  refine go_istore hC [1, 2, 3, 4, 0] (lv1 := [(0, .int x0), (1, .int x1), (2, .int x0), (3, .int x1), (4, .int 0)]) dX10_commonPart_5 (by decide) rfl ?_
  refine go_sub [2, 3, 4] (lv1 := [(2, .int x0), (3, .int x1), (4, .int 0)]) rfl ?_
  exact m_X10_commonPart_L7 hC hE 1000 _ _ _ _ h
set_option maxHeartbeats 4000000 in
set_option maxRecDepth 100000 in
theorem ov_X10_commonPart {T : mt_S}  {x0 : Int32} {x1 : Int32} {S : mt_S} {r : Int32} {S' : mt_S} (hp : mt_cp S T) (h : f_X10_commonPart x0 x1 S = some (r, S')) : f_X10_commonPart x0 x1 (mt_ov S T) = some (r, mt_ov S' T) ∧ mt_cp S' T := by
  unfold f_X10_commonPart at h ⊢
  exact ov_X10_commonPart_L7 1000 _ _ _ _ hp h
def f_X10_isPlace (x0 : Int32) (x1 : Int32) (S : mt_S) : Option (Int32 × mt_S) :=
  if x0 < 1 then
   if (0 : Int32) = 0 then
    some (0, S)
   else
    mt_b2 (f_X10_commonPart x0 x1 S) fun v2 S1 =>
    if v2 = 1 then
     some (1, S1)
    else
     some (0, S1)
  else
  if x1 < 1 then
   if (0 : Int32) = 0 then
    some (0, S)
   else
    mt_b2 (f_X10_commonPart x0 x1 S) fun v4 S3 =>
    if v4 = 1 then
     some (1, S3)
    else
     some (0, S3)
  else
  if 22 ≤ x0 then
   if (0 : Int32) = 0 then
    some (0, S)
   else
    mt_b2 (f_X10_commonPart x0 x1 S) fun v6 S5 =>
    if v6 = 1 then
     some (1, S5)
    else
     some (0, S5)
  else
  if (22 - x0) < x1 then
   if (0 : Int32) = 0 then
    some (0, S)
   else
    mt_b2 (f_X10_commonPart x0 x1 S) fun v8 S7 =>
    if v8 = 1 then
     some (1, S7)
    else
     some (0, S7)
  else
  if (1 : Int32) = 0 then
   some (0, S)
  else
   mt_b2 (f_X10_commonPart x0 x1 S) fun v10 S9 =>
   if v10 = 1 then
    some (1, S9)
   else
    some (0, S9)
set_option maxHeartbeats 4000000 in
set_option maxRecDepth 100000 in
theorem m_X10_isPlace {B : mt_B}  {x0 : Int32} {x1 : Int32} {S : mt_S} {r : Int32} {S' : mt_S} (h : f_X10_isPlace x0 x1 S = some (r, S')) : mt_M B yX10_isPlace cX10_isPlace 3 (some .boolean) 2 [.int x0, .int x1] S (some (.int r)) S' := by
  unfold f_X10_isPlace at h
  refine mt_M.of (by decide) (Nat.le_of_ble_eq_true rfl) (fun E hC hE => ?_)
  refine go_iload_n hC 0 dX10_isPlace_0 rfl rfl ?_
  refine go_iconst (v := 1) hC dX10_isPlace_1 (by decide) ?_
  refine go_icmp_lt hC (tgt := 28) dX10_isPlace_2 (by decide) (fun hc => ?_) (fun hc => ?_)
  · have h := mt_ip h hc
    refine go_iconst (v := 0) hC dX10_isPlace_28 (by decide) ?_
    refine go_istore_n hC [1, 2, 0] (lv1 := [(0, .int x0), (1, .int x1), (2, .int 0)]) dX10_isPlace_29 rfl (by decide) rfl ?_
    refine go_iload_n hC 2 dX10_isPlace_30 rfl rfl ?_
    refine go_if_eq hC (tgt := 47) dX10_isPlace_31 (by decide) (fun hc => ?_) (fun hc => ?_)
    · have h := mt_ip h hc
      refine go_iconst (v := 0) hC dX10_isPlace_47 (by decide) ?_
      exact go_zret hC (mt_rei h hE) (Or.inl rfl) dX10_isPlace_48
    · have h := mt_in' h hc
      refine go_iload_n hC 0 dX10_isPlace_34 rfl rfl ?_
      refine go_iload_n hC 1 dX10_isPlace_35 rfl rfl ?_
      obtain ⟨v2, S1, e2, h⟩ := mt_ob2 h
      refine go_callSi hC [.int x0, .int x1] [] (m_X10_commonPart e2) mt_csX10_178 dX10_isPlace_36 rfl rfl (by decide) (Nat.le_of_ble_eq_true rfl) ⟨Nat.le_refl _, Nat.le_refl _⟩ ?_
      refine go_iconst (v := 1) hC dX10_isPlace_39 (by decide) ?_
      refine go_icmp_ne hC (tgt := 47) dX10_isPlace_40 (by decide) (fun hc => ?_) (fun hc => ?_)
      · have h := mt_in' h hc
        refine go_iconst (v := 0) hC dX10_isPlace_47 (by decide) ?_
        exact go_zret hC (mt_rei h hE) (Or.inl rfl) dX10_isPlace_48
      · have h := mt_ip h hc
        refine go_iconst (v := 1) hC dX10_isPlace_43 (by decide) ?_
        refine go_goto hC (tgt := 48) dX10_isPlace_44 (by decide) ?_
        exact go_zret hC (mt_rei h hE) (Or.inr rfl) dX10_isPlace_48
  · have h := mt_in' h hc
    refine go_iload_n hC 1 dX10_isPlace_5 rfl rfl ?_
    refine go_iconst (v := 1) hC dX10_isPlace_6 (by decide) ?_
    refine go_icmp_lt hC (tgt := 28) dX10_isPlace_7 (by decide) (fun hc => ?_) (fun hc => ?_)
    · have h := mt_ip h hc
      refine go_iconst (v := 0) hC dX10_isPlace_28 (by decide) ?_
      refine go_istore_n hC [1, 2, 0] (lv1 := [(0, .int x0), (1, .int x1), (2, .int 0)]) dX10_isPlace_29 rfl (by decide) rfl ?_
      refine go_iload_n hC 2 dX10_isPlace_30 rfl rfl ?_
      refine go_if_eq hC (tgt := 47) dX10_isPlace_31 (by decide) (fun hc => ?_) (fun hc => ?_)
      · have h := mt_ip h hc
        refine go_iconst (v := 0) hC dX10_isPlace_47 (by decide) ?_
        exact go_zret hC (mt_rei h hE) (Or.inl rfl) dX10_isPlace_48
      · have h := mt_in' h hc
        refine go_iload_n hC 0 dX10_isPlace_34 rfl rfl ?_
        refine go_iload_n hC 1 dX10_isPlace_35 rfl rfl ?_
        obtain ⟨v4, S3, e4, h⟩ := mt_ob2 h
        refine go_callSi hC [.int x0, .int x1] [] (m_X10_commonPart e4) mt_csX10_178 dX10_isPlace_36 rfl rfl (by decide) (Nat.le_of_ble_eq_true rfl) ⟨Nat.le_refl _, Nat.le_refl _⟩ ?_
        refine go_iconst (v := 1) hC dX10_isPlace_39 (by decide) ?_
        refine go_icmp_ne hC (tgt := 47) dX10_isPlace_40 (by decide) (fun hc => ?_) (fun hc => ?_)
        · have h := mt_in' h hc
          refine go_iconst (v := 0) hC dX10_isPlace_47 (by decide) ?_
          exact go_zret hC (mt_rei h hE) (Or.inl rfl) dX10_isPlace_48
        · have h := mt_ip h hc
          refine go_iconst (v := 1) hC dX10_isPlace_43 (by decide) ?_
          refine go_goto hC (tgt := 48) dX10_isPlace_44 (by decide) ?_
          exact go_zret hC (mt_rei h hE) (Or.inr rfl) dX10_isPlace_48
    · have h := mt_in' h hc
      refine go_iload_n hC 0 dX10_isPlace_10 rfl rfl ?_
      refine go_bipush (v := 22) hC dX10_isPlace_11 (by decide) ?_
      refine go_icmp_ge hC (tgt := 28) dX10_isPlace_13 (by decide) (fun hc => ?_) (fun hc => ?_)
      · have h := mt_ip h hc
        refine go_iconst (v := 0) hC dX10_isPlace_28 (by decide) ?_
        refine go_istore_n hC [1, 2, 0] (lv1 := [(0, .int x0), (1, .int x1), (2, .int 0)]) dX10_isPlace_29 rfl (by decide) rfl ?_
        refine go_iload_n hC 2 dX10_isPlace_30 rfl rfl ?_
        refine go_if_eq hC (tgt := 47) dX10_isPlace_31 (by decide) (fun hc => ?_) (fun hc => ?_)
        · have h := mt_ip h hc
          refine go_iconst (v := 0) hC dX10_isPlace_47 (by decide) ?_
          exact go_zret hC (mt_rei h hE) (Or.inl rfl) dX10_isPlace_48
        · have h := mt_in' h hc
          refine go_iload_n hC 0 dX10_isPlace_34 rfl rfl ?_
          refine go_iload_n hC 1 dX10_isPlace_35 rfl rfl ?_
          obtain ⟨v6, S5, e6, h⟩ := mt_ob2 h
          refine go_callSi hC [.int x0, .int x1] [] (m_X10_commonPart e6) mt_csX10_178 dX10_isPlace_36 rfl rfl (by decide) (Nat.le_of_ble_eq_true rfl) ⟨Nat.le_refl _, Nat.le_refl _⟩ ?_
          refine go_iconst (v := 1) hC dX10_isPlace_39 (by decide) ?_
          refine go_icmp_ne hC (tgt := 47) dX10_isPlace_40 (by decide) (fun hc => ?_) (fun hc => ?_)
          · have h := mt_in' h hc
            refine go_iconst (v := 0) hC dX10_isPlace_47 (by decide) ?_
            exact go_zret hC (mt_rei h hE) (Or.inl rfl) dX10_isPlace_48
          · have h := mt_ip h hc
            refine go_iconst (v := 1) hC dX10_isPlace_43 (by decide) ?_
            refine go_goto hC (tgt := 48) dX10_isPlace_44 (by decide) ?_
            exact go_zret hC (mt_rei h hE) (Or.inr rfl) dX10_isPlace_48
      · have h := mt_in' h hc
        refine go_iload_n hC 1 dX10_isPlace_16 rfl rfl ?_
        refine go_bipush (v := 22) hC dX10_isPlace_17 (by decide) ?_
        refine go_iload_n hC 0 dX10_isPlace_19 rfl rfl ?_
        refine go_isub hC dX10_isPlace_20 ?_
        refine go_icmp_gt hC (tgt := 28) dX10_isPlace_21 (by decide) (fun hc => ?_) (fun hc => ?_)
        · have h := mt_ip h hc
          refine go_iconst (v := 0) hC dX10_isPlace_28 (by decide) ?_
          refine go_istore_n hC [1, 2, 0] (lv1 := [(0, .int x0), (1, .int x1), (2, .int 0)]) dX10_isPlace_29 rfl (by decide) rfl ?_
          refine go_iload_n hC 2 dX10_isPlace_30 rfl rfl ?_
          refine go_if_eq hC (tgt := 47) dX10_isPlace_31 (by decide) (fun hc => ?_) (fun hc => ?_)
          · have h := mt_ip h hc
            refine go_iconst (v := 0) hC dX10_isPlace_47 (by decide) ?_
            exact go_zret hC (mt_rei h hE) (Or.inl rfl) dX10_isPlace_48
          · have h := mt_in' h hc
            refine go_iload_n hC 0 dX10_isPlace_34 rfl rfl ?_
            refine go_iload_n hC 1 dX10_isPlace_35 rfl rfl ?_
            obtain ⟨v8, S7, e8, h⟩ := mt_ob2 h
            refine go_callSi hC [.int x0, .int x1] [] (m_X10_commonPart e8) mt_csX10_178 dX10_isPlace_36 rfl rfl (by decide) (Nat.le_of_ble_eq_true rfl) ⟨Nat.le_refl _, Nat.le_refl _⟩ ?_
            refine go_iconst (v := 1) hC dX10_isPlace_39 (by decide) ?_
            refine go_icmp_ne hC (tgt := 47) dX10_isPlace_40 (by decide) (fun hc => ?_) (fun hc => ?_)
            · have h := mt_in' h hc
              refine go_iconst (v := 0) hC dX10_isPlace_47 (by decide) ?_
              exact go_zret hC (mt_rei h hE) (Or.inl rfl) dX10_isPlace_48
            · have h := mt_ip h hc
              refine go_iconst (v := 1) hC dX10_isPlace_43 (by decide) ?_
              refine go_goto hC (tgt := 48) dX10_isPlace_44 (by decide) ?_
              exact go_zret hC (mt_rei h hE) (Or.inr rfl) dX10_isPlace_48
        · have h := mt_in' h hc
          refine go_iconst (v := 1) hC dX10_isPlace_24 (by decide) ?_
          refine go_goto hC (tgt := 29) dX10_isPlace_25 (by decide) ?_
          refine go_istore_n hC [1, 2, 0] (lv1 := [(0, .int x0), (1, .int x1), (2, .int 1)]) dX10_isPlace_29 rfl (by decide) rfl ?_
          refine go_iload_n hC 2 dX10_isPlace_30 rfl rfl ?_
          refine go_if_eq hC (tgt := 47) dX10_isPlace_31 (by decide) (fun hc => ?_) (fun hc => ?_)
          · have h := mt_ip h hc
            refine go_iconst (v := 0) hC dX10_isPlace_47 (by decide) ?_
            exact go_zret hC (mt_rei h hE) (Or.inl rfl) dX10_isPlace_48
          · have h := mt_in' h hc
            refine go_iload_n hC 0 dX10_isPlace_34 rfl rfl ?_
            refine go_iload_n hC 1 dX10_isPlace_35 rfl rfl ?_
            obtain ⟨v10, S9, e10, h⟩ := mt_ob2 h
            refine go_callSi hC [.int x0, .int x1] [] (m_X10_commonPart e10) mt_csX10_178 dX10_isPlace_36 rfl rfl (by decide) (Nat.le_of_ble_eq_true rfl) ⟨Nat.le_refl _, Nat.le_refl _⟩ ?_
            refine go_iconst (v := 1) hC dX10_isPlace_39 (by decide) ?_
            refine go_icmp_ne hC (tgt := 47) dX10_isPlace_40 (by decide) (fun hc => ?_) (fun hc => ?_)
            · have h := mt_in' h hc
              refine go_iconst (v := 0) hC dX10_isPlace_47 (by decide) ?_
              exact go_zret hC (mt_rei h hE) (Or.inl rfl) dX10_isPlace_48
            · have h := mt_ip h hc
              refine go_iconst (v := 1) hC dX10_isPlace_43 (by decide) ?_
              refine go_goto hC (tgt := 48) dX10_isPlace_44 (by decide) ?_
              exact go_zret hC (mt_rei h hE) (Or.inr rfl) dX10_isPlace_48
set_option maxHeartbeats 4000000 in
set_option maxRecDepth 100000 in
theorem ov_X10_isPlace {T : mt_S}  {x0 : Int32} {x1 : Int32} {S : mt_S} {r : Int32} {S' : mt_S} (hp : mt_cp S T) (h : f_X10_isPlace x0 x1 S = some (r, S')) : f_X10_isPlace x0 x1 (mt_ov S T) = some (r, mt_ov S' T) ∧ mt_cp S' T := by
  unfold f_X10_isPlace at h ⊢
  by_cases hc : x0 < 1
  · have h := mt_ip h hc
    refine ov_t hc ?_
    by_cases hc : (0 : Int32) = 0
    · have h := mt_ip h hc
      refine ov_t hc ?_
      exact ov_ret hp h
    · have h := mt_in' h hc
      refine ov_f hc ?_
      obtain ⟨v2, S1, e2, h⟩ := mt_ob2 h
      obtain ⟨o_, hp⟩ := ov_X10_commonPart hp e2
      refine ov_b2 o_ ?_
      by_cases hc : v2 = 1
      · have h := mt_ip h hc
        refine ov_t hc ?_
        exact ov_ret hp h
      · have h := mt_in' h hc
        refine ov_f hc ?_
        exact ov_ret hp h
  · have h := mt_in' h hc
    refine ov_f hc ?_
    by_cases hc : x1 < 1
    · have h := mt_ip h hc
      refine ov_t hc ?_
      by_cases hc : (0 : Int32) = 0
      · have h := mt_ip h hc
        refine ov_t hc ?_
        exact ov_ret hp h
      · have h := mt_in' h hc
        refine ov_f hc ?_
        obtain ⟨v4, S3, e4, h⟩ := mt_ob2 h
        obtain ⟨o_, hp⟩ := ov_X10_commonPart hp e4
        refine ov_b2 o_ ?_
        by_cases hc : v4 = 1
        · have h := mt_ip h hc
          refine ov_t hc ?_
          exact ov_ret hp h
        · have h := mt_in' h hc
          refine ov_f hc ?_
          exact ov_ret hp h
    · have h := mt_in' h hc
      refine ov_f hc ?_
      by_cases hc : 22 ≤ x0
      · have h := mt_ip h hc
        refine ov_t hc ?_
        by_cases hc : (0 : Int32) = 0
        · have h := mt_ip h hc
          refine ov_t hc ?_
          exact ov_ret hp h
        · have h := mt_in' h hc
          refine ov_f hc ?_
          obtain ⟨v6, S5, e6, h⟩ := mt_ob2 h
          obtain ⟨o_, hp⟩ := ov_X10_commonPart hp e6
          refine ov_b2 o_ ?_
          by_cases hc : v6 = 1
          · have h := mt_ip h hc
            refine ov_t hc ?_
            exact ov_ret hp h
          · have h := mt_in' h hc
            refine ov_f hc ?_
            exact ov_ret hp h
      · have h := mt_in' h hc
        refine ov_f hc ?_
        by_cases hc : (22 - x0) < x1
        · have h := mt_ip h hc
          refine ov_t hc ?_
          by_cases hc : (0 : Int32) = 0
          · have h := mt_ip h hc
            refine ov_t hc ?_
            exact ov_ret hp h
          · have h := mt_in' h hc
            refine ov_f hc ?_
            obtain ⟨v8, S7, e8, h⟩ := mt_ob2 h
            obtain ⟨o_, hp⟩ := ov_X10_commonPart hp e8
            refine ov_b2 o_ ?_
            by_cases hc : v8 = 1
            · have h := mt_ip h hc
              refine ov_t hc ?_
              exact ov_ret hp h
            · have h := mt_in' h hc
              refine ov_f hc ?_
              exact ov_ret hp h
        · have h := mt_in' h hc
          refine ov_f hc ?_
          by_cases hc : (1 : Int32) = 0
          · have h := mt_ip h hc
            refine ov_t hc ?_
            exact ov_ret hp h
          · have h := mt_in' h hc
            refine ov_f hc ?_
            obtain ⟨v10, S9, e10, h⟩ := mt_ob2 h
            obtain ⟨o_, hp⟩ := ov_X10_commonPart hp e10
            refine ov_b2 o_ ?_
            by_cases hc : v10 = 1
            · have h := mt_ip h hc
              refine ov_t hc ?_
              exact ov_ret hp h
            · have h := mt_in' h hc
              refine ov_f hc ?_
              exact ov_ret hp h
def f_X10_moveTo (x0 : Nat) (x1 : Int32) (x2 : Int32) (S : mt_S) : Option (Int32 × mt_S) :=
  if mt_isK S x0 10 = true then
   Option.bind (mt_rR S x0 10 2) fun v1 =>
   mt_b2 (f_X5_place v1 S) fun v3 S2 =>
   mt_b2 (f_X4_isAt v3 x1 x2 S2) fun v5 S4 =>
   if v5 = 0 then
    Option.bind (mt_rR S4 x0 10 3) fun v6 =>
    Option.bind (mt_rR S4 x0 10 2) fun v7 =>
    Option.bind (f_X2_note v6 v7 S4) fun S8 =>
    Option.bind (f_X4_walkTo v3 x1 x2 S8) fun S9 =>
    Option.bind (mt_rR S9 x0 10 3) fun v10 =>
    Option.bind (f_X2_keep v10 S9) fun S11 =>
    mt_b2 (f_X4_steps v3 S11) fun v13 S12 =>
    some (v13, S12)
   else
    some ((-1), S4)
  else none
theorem k_X10_moveTo {x0 : Nat} {x1 : Int32} {x2 : Int32} {S : mt_S} {r : Int32} {S' : mt_S} (h : f_X10_moveTo x0 x1 x2 S = some (r, S')) : mt_isK S x0 10 = true := by
  unfold f_X10_moveTo at h
  exact (mt_gd h).1
set_option maxHeartbeats 4000000 in
set_option maxRecDepth 100000 in
theorem m_X10_moveTo {B : mt_B}  {x0 : Nat} {x1 : Int32} {x2 : Int32} {S : mt_S} {r : Int32} {S' : mt_S} (h : f_X10_moveTo x0 x1 x2 S = some (r, S')) : mt_M B yX10_moveTo cX10_moveTo 4 (some .int) 6 [mt_rf B x0, .int x1, .int x2] S (some (.int r)) S' := by
  unfold f_X10_moveTo at h
  refine mt_M.of (by decide) (Nat.le_of_ble_eq_true rfl) (fun E hC hE => ?_)
  obtain ⟨hk0, h⟩ := mt_gd h
  refine go_aload_n hC 0 dX10_moveTo_0 rfl rfl ?_
  obtain ⟨v1, e1, h⟩ := mt_ob h
  refine go_getR hC mt_flX10_26 e1 dX10_moveTo_1 ?_
  obtain ⟨v3, S2, e3, h⟩ := mt_ob2 h
  refine go_callVr hC [] [] (m_X5_place e3) mt_cvX10_103 (k_X5_place e3) dX10_moveTo_4 rfl rfl (by decide) (Nat.le_of_ble_eq_true rfl) ⟨Nat.le_refl _, Nat.le_refl _⟩ ?_
  refine go_astore_n hC [1, 2, 3, 0] (lv1 := [(0, mt_rf B x0), (1, .int x1), (2, .int x2), (3, mt_rf B v3)]) dX10_moveTo_7 rfl (by decide) rfl ?_
  refine go_aload_n hC 3 dX10_moveTo_8 rfl rfl ?_
  refine go_iload_n hC 1 dX10_moveTo_9 rfl rfl ?_
  refine go_iload_n hC 2 dX10_moveTo_10 rfl rfl ?_
  obtain ⟨v5, S4, e5, h⟩ := mt_ob2 h
  refine go_callVi hC [.int x1, .int x2] [] (m_X4_isAt e5) mt_cvX10_171 (k_X4_isAt e5) dX10_moveTo_11 rfl rfl (by decide) (Nat.le_of_ble_eq_true rfl) ⟨Nat.le_refl _, Nat.le_refl _⟩ ?_
  refine go_if_eq hC (tgt := 19) dX10_moveTo_14 (by decide) (fun hc => ?_) (fun hc => ?_)
  · have h := mt_ip h hc
    refine go_aload_n hC 0 dX10_moveTo_19 rfl rfl ?_
    obtain ⟨v6, e6, h⟩ := mt_ob h
    refine go_getR hC mt_flX10_33 e6 dX10_moveTo_20 ?_
    refine go_aload_n hC 0 dX10_moveTo_23 rfl rfl ?_
    obtain ⟨v7, e7, h⟩ := mt_ob h
    refine go_getR hC mt_flX10_26 e7 dX10_moveTo_24 ?_
    obtain ⟨S8, e8, h⟩ := mt_ob h
    refine go_callVv hC [mt_rf B v7] [] (m_X2_note e8) mt_cvX10_99 (k_X2_note e8) dX10_moveTo_27 rfl rfl (by decide) (Nat.le_of_ble_eq_true rfl) ⟨Nat.le_refl _, Nat.le_refl _⟩ ?_
    refine go_aload_n hC 3 dX10_moveTo_30 rfl rfl ?_
    refine go_iload_n hC 1 dX10_moveTo_31 rfl rfl ?_
    refine go_iload_n hC 2 dX10_moveTo_32 rfl rfl ?_
    obtain ⟨S9, e9, h⟩ := mt_ob h
    refine go_callVv hC [.int x1, .int x2] [] (m_X4_walkTo e9) mt_cvX10_174 (k_X4_walkTo e9) dX10_moveTo_33 rfl rfl (by decide) (Nat.le_of_ble_eq_true rfl) ⟨Nat.le_refl _, Nat.le_refl _⟩ ?_
    refine go_aload_n hC 0 dX10_moveTo_36 rfl rfl ?_
    obtain ⟨v10, e10, h⟩ := mt_ob h
    refine go_getR hC mt_flX10_33 e10 dX10_moveTo_37 ?_
    obtain ⟨S11, e11, h⟩ := mt_ob h
    refine go_callVv hC [] [] (m_X2_keep e11) mt_cvX10_111 (k_X2_keep e11) dX10_moveTo_40 rfl rfl (by decide) (Nat.le_of_ble_eq_true rfl) ⟨Nat.le_refl _, Nat.le_refl _⟩ ?_
    refine go_aload_n hC 3 dX10_moveTo_43 rfl rfl ?_
    obtain ⟨v13, S12, e13, h⟩ := mt_ob2 h
    refine go_callVi hC [] [] (m_X4_steps e13) mt_cvX10_134 (k_X4_steps e13) dX10_moveTo_44 rfl rfl (by decide) (Nat.le_of_ble_eq_true rfl) ⟨Nat.le_refl _, Nat.le_refl _⟩ ?_
    exact go_iret hC (mt_rei h hE) dX10_moveTo_47
  · have h := mt_in' h hc
    refine go_iconst (v := (-1)) hC dX10_moveTo_17 (by decide) ?_
    exact go_iret hC (mt_rei h hE) dX10_moveTo_18
set_option maxHeartbeats 4000000 in
set_option maxRecDepth 100000 in
theorem ov_X10_moveTo {T : mt_S}  {x0 : Nat} {x1 : Int32} {x2 : Int32} {S : mt_S} {r : Int32} {S' : mt_S} (hp : mt_cp S T) (h : f_X10_moveTo x0 x1 x2 S = some (r, S')) : f_X10_moveTo x0 x1 x2 (mt_ov S T) = some (r, mt_ov S' T) ∧ mt_cp S' T := by
  unfold f_X10_moveTo at h ⊢
  obtain ⟨hg, h⟩ := mt_gd h
  refine ov_t (ov_K hp hg) ?_
  obtain ⟨v1, e1, h⟩ := mt_ob h
  refine ov_b (ov_rR hp e1) ?_
  obtain ⟨v3, S2, e3, h⟩ := mt_ob2 h
  obtain ⟨o_, hp⟩ := ov_X5_place hp e3
  refine ov_b2 o_ ?_
  obtain ⟨v5, S4, e5, h⟩ := mt_ob2 h
  obtain ⟨o_, hp⟩ := ov_X4_isAt hp e5
  refine ov_b2 o_ ?_
  by_cases hc : v5 = 0
  · have h := mt_ip h hc
    refine ov_t hc ?_
    obtain ⟨v6, e6, h⟩ := mt_ob h
    refine ov_b (ov_rR hp e6) ?_
    obtain ⟨v7, e7, h⟩ := mt_ob h
    refine ov_b (ov_rR hp e7) ?_
    obtain ⟨S8, e8, h⟩ := mt_ob h
    obtain ⟨o_, hp⟩ := ov_X2_note hp e8
    refine ov_b o_ ?_
    obtain ⟨S9, e9, h⟩ := mt_ob h
    obtain ⟨o_, hp⟩ := ov_X4_walkTo hp e9
    refine ov_b o_ ?_
    obtain ⟨v10, e10, h⟩ := mt_ob h
    refine ov_b (ov_rR hp e10) ?_
    obtain ⟨S11, e11, h⟩ := mt_ob h
    obtain ⟨o_, hp⟩ := ov_X2_keep hp e11
    refine ov_b o_ ?_
    obtain ⟨v13, S12, e13, h⟩ := mt_ob2 h
    obtain ⟨o_, hp⟩ := ov_X4_steps hp e13
    refine ov_b2 o_ ?_
    exact ov_ret hp h
  · have h := mt_in' h hc
    refine ov_f hc ?_
    exact ov_ret hp h
def f_X10_go (x0 : Nat) (x1 : Int32) (x2 : Int32) (S : mt_S) : Option (Int32 × mt_S) :=
  if mt_isK S x0 10 = true then
   mt_b2 (f_X10_isPlace x1 x2 S) fun v2 S1 =>
   if v2 = 0 then
    some ((-1), S1)
   else
    mt_b2 (f_X10_moveTo x0 x1 x2 S1) fun v4 S3 =>
    some (v4, S3)
  else none
theorem k_X10_go {x0 : Nat} {x1 : Int32} {x2 : Int32} {S : mt_S} {r : Int32} {S' : mt_S} (h : f_X10_go x0 x1 x2 S = some (r, S')) : mt_isK S x0 10 = true := by
  unfold f_X10_go at h
  exact (mt_gd h).1
set_option maxHeartbeats 4000000 in
set_option maxRecDepth 100000 in
theorem m_X10_go {B : mt_B}  {x0 : Nat} {x1 : Int32} {x2 : Int32} {S : mt_S} {r : Int32} {S' : mt_S} (h : f_X10_go x0 x1 x2 S = some (r, S')) : mt_M B yX10_go cX10_go 3 (some .int) 7 [mt_rf B x0, .int x1, .int x2] S (some (.int r)) S' := by
  unfold f_X10_go at h
  refine mt_M.of (by decide) (Nat.le_of_ble_eq_true rfl) (fun E hC hE => ?_)
  obtain ⟨hk0, h⟩ := mt_gd h
  refine go_iload_n hC 1 dX10_go_0 rfl rfl ?_
  refine go_iload_n hC 2 dX10_go_1 rfl rfl ?_
  obtain ⟨v2, S1, e2, h⟩ := mt_ob2 h
  refine go_callSi hC [.int x1, .int x2] [] (m_X10_isPlace e2) mt_csX10_160 dX10_go_2 rfl rfl (by decide) (Nat.le_of_ble_eq_true rfl) ⟨Nat.le_refl _, Nat.le_refl _⟩ ?_
  refine go_if_eq hC (tgt := 17) dX10_go_5 (by decide) (fun hc => ?_) (fun hc => ?_)
  · have h := mt_ip h hc
    refine go_iconst (v := (-1)) hC dX10_go_17 (by decide) ?_
    exact go_iret hC (mt_rei h hE) dX10_go_18
  · have h := mt_in' h hc
    refine go_aload_n hC 0 dX10_go_8 rfl rfl ?_
    refine go_iload_n hC 1 dX10_go_9 rfl rfl ?_
    refine go_iload_n hC 2 dX10_go_10 rfl rfl ?_
    obtain ⟨v4, S3, e4, h⟩ := mt_ob2 h
    refine go_callVi hC [.int x1, .int x2] [] (m_X10_moveTo e4) mt_cvX10_164 (k_X10_moveTo e4) dX10_go_11 rfl rfl (by decide) (Nat.le_of_ble_eq_true rfl) ⟨Nat.le_refl _, Nat.le_refl _⟩ ?_
    refine go_goto hC (tgt := 18) dX10_go_14 (by decide) ?_
    exact go_iret hC (mt_rei h hE) dX10_go_18
set_option maxHeartbeats 4000000 in
set_option maxRecDepth 100000 in
theorem ov_X10_go {T : mt_S}  {x0 : Nat} {x1 : Int32} {x2 : Int32} {S : mt_S} {r : Int32} {S' : mt_S} (hp : mt_cp S T) (h : f_X10_go x0 x1 x2 S = some (r, S')) : f_X10_go x0 x1 x2 (mt_ov S T) = some (r, mt_ov S' T) ∧ mt_cp S' T := by
  unfold f_X10_go at h ⊢
  obtain ⟨hg, h⟩ := mt_gd h
  refine ov_t (ov_K hp hg) ?_
  obtain ⟨v2, S1, e2, h⟩ := mt_ob2 h
  obtain ⟨o_, hp⟩ := ov_X10_isPlace hp e2
  refine ov_b2 o_ ?_
  by_cases hc : v2 = 0
  · have h := mt_ip h hc
    refine ov_t hc ?_
    exact ov_ret hp h
  · have h := mt_in' h hc
    refine ov_f hc ?_
    obtain ⟨v4, S3, e4, h⟩ := mt_ob2 h
    obtain ⟨o_, hp⟩ := ov_X10_moveTo hp e4
    refine ov_b2 o_ ?_
    exact ov_ret hp h
def f_X10_numberOf (x0 : Nat) (x1 : Int32) (x2 : Int32) (S : mt_S) : Option (Int64 × mt_S) :=
  if mt_isK S x0 10 = true then
   Option.bind (mt_rR S x0 10 7) fun v1 =>
   Option.bind (f_X9_setTo v1 x1 x2 S) fun S2 =>
   Option.bind (mt_rR S2 x0 10 7) fun v3 =>
   mt_b2 (f_X9_entry v3 0 1 S2) fun v5 S4 =>
   some (v5, S4)
  else none
theorem k_X10_numberOf {x0 : Nat} {x1 : Int32} {x2 : Int32} {S : mt_S} {r : Int64} {S' : mt_S} (h : f_X10_numberOf x0 x1 x2 S = some (r, S')) : mt_isK S x0 10 = true := by
  unfold f_X10_numberOf at h
  exact (mt_gd h).1
set_option maxHeartbeats 4000000 in
set_option maxRecDepth 100000 in
theorem m_X10_numberOf {B : mt_B}  {x0 : Nat} {x1 : Int32} {x2 : Int32} {S : mt_S} {r : Int64} {S' : mt_S} (h : f_X10_numberOf x0 x1 x2 S = some (r, S')) : mt_M B yX10_numberOf cX10_numberOf 3 (some .long) 3 [mt_rf B x0, .int x1, .int x2] S (some (.long r)) S' := by
  unfold f_X10_numberOf at h
  refine mt_M.of (by decide) (Nat.le_of_ble_eq_true rfl) (fun E hC hE => ?_)
  obtain ⟨hk0, h⟩ := mt_gd h
  refine go_aload_n hC 0 dX10_numberOf_0 rfl rfl ?_
  obtain ⟨v1, e1, h⟩ := mt_ob h
  refine go_getR hC mt_flX10_55 e1 dX10_numberOf_1 ?_
  refine go_iload_n hC 1 dX10_numberOf_4 rfl rfl ?_
  refine go_iload_n hC 2 dX10_numberOf_5 rfl rfl ?_
  obtain ⟨S2, e2, h⟩ := mt_ob h
  refine go_callVv hC [.int x1, .int x2] [] (m_X9_setTo e2) mt_cvX10_196 (k_X9_setTo e2) dX10_numberOf_6 rfl rfl (by decide) (Nat.le_of_ble_eq_true rfl) ⟨Nat.le_refl _, Nat.le_refl _⟩ ?_
  refine go_aload_n hC 0 dX10_numberOf_9 rfl rfl ?_
  obtain ⟨v3, e3, h⟩ := mt_ob h
  refine go_getR hC mt_flX10_55 e3 dX10_numberOf_10 ?_
  refine go_iconst (v := 0) hC dX10_numberOf_13 (by decide) ?_
  refine go_iconst (v := 1) hC dX10_numberOf_14 (by decide) ?_
  obtain ⟨v5, S4, e5, h⟩ := mt_ob2 h
  refine go_callVl hC [.int 0, .int 1] [] (m_X9_entry e5) mt_cvX10_199 (k_X9_entry e5) dX10_numberOf_15 rfl rfl (by decide) (Nat.le_of_ble_eq_true rfl) ⟨Nat.le_refl _, Nat.le_refl _⟩ ?_
  exact go_lret hC (mt_rel h hE) dX10_numberOf_18
set_option maxHeartbeats 4000000 in
set_option maxRecDepth 100000 in
theorem ov_X10_numberOf {T : mt_S}  {x0 : Nat} {x1 : Int32} {x2 : Int32} {S : mt_S} {r : Int64} {S' : mt_S} (hp : mt_cp S T) (h : f_X10_numberOf x0 x1 x2 S = some (r, S')) : f_X10_numberOf x0 x1 x2 (mt_ov S T) = some (r, mt_ov S' T) ∧ mt_cp S' T := by
  unfold f_X10_numberOf at h ⊢
  obtain ⟨hg, h⟩ := mt_gd h
  refine ov_t (ov_K hp hg) ?_
  obtain ⟨v1, e1, h⟩ := mt_ob h
  refine ov_b (ov_rR hp e1) ?_
  obtain ⟨S2, e2, h⟩ := mt_ob h
  obtain ⟨o_, hp⟩ := ov_X9_setTo hp e2
  refine ov_b o_ ?_
  obtain ⟨v3, e3, h⟩ := mt_ob h
  refine ov_b (ov_rR hp e3) ?_
  obtain ⟨v5, S4, e5, h⟩ := mt_ob2 h
  obtain ⟨o_, hp⟩ := ov_X9_entry hp e5
  refine ov_b2 o_ ?_
  exact ov_ret hp h
def f_X10_numberHere (x0 : Nat) (S : mt_S) : Option (Int64 × mt_S) :=
  if mt_isK S x0 10 = true then
   Option.bind (mt_rR S x0 10 2) fun v1 =>
   mt_b2 (f_X5_place v1 S) fun v3 S2 =>
   mt_b2 (f_X4_p v3 S2) fun v5 S4 =>
   Option.bind (mt_rR S4 x0 10 2) fun v6 =>
   mt_b2 (f_X5_place v6 S4) fun v8 S7 =>
   mt_b2 (f_X4_q v8 S7) fun v10 S9 =>
   mt_b2 (f_X10_numberOf x0 v5 v10 S9) fun v12 S11 =>
   some (v12, S11)
  else none
theorem k_X10_numberHere {x0 : Nat} {S : mt_S} {r : Int64} {S' : mt_S} (h : f_X10_numberHere x0 S = some (r, S')) : mt_isK S x0 10 = true := by
  unfold f_X10_numberHere at h
  exact (mt_gd h).1
set_option maxHeartbeats 4000000 in
set_option maxRecDepth 100000 in
theorem m_X10_numberHere {B : mt_B}  {x0 : Nat} {S : mt_S} {r : Int64} {S' : mt_S} (h : f_X10_numberHere x0 S = some (r, S')) : mt_M B yX10_numberHere cX10_numberHere 1 (some .long) 4 [mt_rf B x0] S (some (.long r)) S' := by
  unfold f_X10_numberHere at h
  refine mt_M.of (by decide) (Nat.le_of_ble_eq_true rfl) (fun E hC hE => ?_)
  obtain ⟨hk0, h⟩ := mt_gd h
  refine go_aload_n hC 0 dX10_numberHere_0 rfl rfl ?_
  refine go_aload_n hC 0 dX10_numberHere_1 rfl rfl ?_
  obtain ⟨v1, e1, h⟩ := mt_ob h
  refine go_getR hC mt_flX10_26 e1 dX10_numberHere_2 ?_
  obtain ⟨v3, S2, e3, h⟩ := mt_ob2 h
  refine go_callVr hC [] [mt_rf B x0] (m_X5_place e3) mt_cvX10_103 (k_X5_place e3) dX10_numberHere_5 rfl rfl (by decide) (Nat.le_of_ble_eq_true rfl) ⟨Nat.le_refl _, Nat.le_refl _⟩ ?_
  obtain ⟨v5, S4, e5, h⟩ := mt_ob2 h
  refine go_callVi hC [] [mt_rf B x0] (m_X4_p e5) mt_cvX10_114 (k_X4_p e5) dX10_numberHere_8 rfl rfl (by decide) (Nat.le_of_ble_eq_true rfl) ⟨Nat.le_refl _, Nat.le_refl _⟩ ?_
  refine go_aload_n hC 0 dX10_numberHere_11 rfl rfl ?_
  obtain ⟨v6, e6, h⟩ := mt_ob h
  refine go_getR hC mt_flX10_26 e6 dX10_numberHere_12 ?_
  obtain ⟨v8, S7, e8, h⟩ := mt_ob2 h
  refine go_callVr hC [] [.int v5, mt_rf B x0] (m_X5_place e8) mt_cvX10_103 (k_X5_place e8) dX10_numberHere_15 rfl rfl (by decide) (Nat.le_of_ble_eq_true rfl) ⟨Nat.le_refl _, Nat.le_refl _⟩ ?_
  obtain ⟨v10, S9, e10, h⟩ := mt_ob2 h
  refine go_callVi hC [] [.int v5, mt_rf B x0] (m_X4_q e10) mt_cvX10_119 (k_X4_q e10) dX10_numberHere_18 rfl rfl (by decide) (Nat.le_of_ble_eq_true rfl) ⟨Nat.le_refl _, Nat.le_refl _⟩ ?_
  obtain ⟨v12, S11, e12, h⟩ := mt_ob2 h
  refine go_callVl hC [.int v5, .int v10] [] (m_X10_numberOf e12) mt_cvX10_181 (k_X10_numberOf e12) dX10_numberHere_21 rfl rfl (by decide) (Nat.le_of_ble_eq_true rfl) ⟨Nat.le_refl _, Nat.le_refl _⟩ ?_
  exact go_lret hC (mt_rel h hE) dX10_numberHere_24
set_option maxHeartbeats 4000000 in
set_option maxRecDepth 100000 in
theorem ov_X10_numberHere {T : mt_S}  {x0 : Nat} {S : mt_S} {r : Int64} {S' : mt_S} (hp : mt_cp S T) (h : f_X10_numberHere x0 S = some (r, S')) : f_X10_numberHere x0 (mt_ov S T) = some (r, mt_ov S' T) ∧ mt_cp S' T := by
  unfold f_X10_numberHere at h ⊢
  obtain ⟨hg, h⟩ := mt_gd h
  refine ov_t (ov_K hp hg) ?_
  obtain ⟨v1, e1, h⟩ := mt_ob h
  refine ov_b (ov_rR hp e1) ?_
  obtain ⟨v3, S2, e3, h⟩ := mt_ob2 h
  obtain ⟨o_, hp⟩ := ov_X5_place hp e3
  refine ov_b2 o_ ?_
  obtain ⟨v5, S4, e5, h⟩ := mt_ob2 h
  obtain ⟨o_, hp⟩ := ov_X4_p hp e5
  refine ov_b2 o_ ?_
  obtain ⟨v6, e6, h⟩ := mt_ob h
  refine ov_b (ov_rR hp e6) ?_
  obtain ⟨v8, S7, e8, h⟩ := mt_ob2 h
  obtain ⟨o_, hp⟩ := ov_X5_place hp e8
  refine ov_b2 o_ ?_
  obtain ⟨v10, S9, e10, h⟩ := mt_ob2 h
  obtain ⟨o_, hp⟩ := ov_X4_q hp e10
  refine ov_b2 o_ ?_
  obtain ⟨v12, S11, e12, h⟩ := mt_ob2 h
  obtain ⟨o_, hp⟩ := ov_X10_numberOf hp e12
  refine ov_b2 o_ ?_
  exact ov_ret hp h
def f_X10_triple (x0 : Nat) (x1 : Int32) (S : mt_S) : Option (Int64 × mt_S) :=
  if mt_isK S x0 10 = true then
   Option.bind (mt_rR S x0 10 2) fun v1 =>
   mt_b2 (f_X5_place v1 S) fun v3 S2 =>
   if x1 = 0 then
    mt_b2 (f_X4_lowP v3 S2) fun v5 S4 =>
    mt_b2 (f_X4_lowQ v3 S4) fun v7 S6 =>
    mt_b2 (f_X10_numberOf x0 v5 v7 S6) fun v9 S8 =>
    some (v9, S8)
   else
   if x1 = 1 then
    mt_b2 (f_X4_highP v3 S2) fun v11 S10 =>
    mt_b2 (f_X4_highQ v3 S10) fun v13 S12 =>
    mt_b2 (f_X10_numberOf x0 v11 v13 S12) fun v15 S14 =>
    some (v15, S14)
   else
   if x1 = 2 then
    mt_b2 (f_X10_numberHere x0 S2) fun v17 S16 =>
    some (v17, S16)
   else
    none
  else none
theorem k_X10_triple {x0 : Nat} {x1 : Int32} {S : mt_S} {r : Int64} {S' : mt_S} (h : f_X10_triple x0 x1 S = some (r, S')) : mt_isK S x0 10 = true := by
  unfold f_X10_triple at h
  exact (mt_gd h).1
set_option maxHeartbeats 4000000 in
set_option maxRecDepth 100000 in
theorem m_X10_triple {B : mt_B}  {x0 : Nat} {x1 : Int32} {S : mt_S} {r : Int64} {S' : mt_S} (h : f_X10_triple x0 x1 S = some (r, S')) : mt_M B yX10_triple cX10_triple 3 (some .long) 5 [mt_rf B x0, .int x1] S (some (.long r)) S' := by
  unfold f_X10_triple at h
  refine mt_M.of (by decide) (Nat.le_of_ble_eq_true rfl) (fun E hC hE => ?_)
  obtain ⟨hk0, h⟩ := mt_gd h
  refine go_aload_n hC 0 dX10_triple_0 rfl rfl ?_
  obtain ⟨v1, e1, h⟩ := mt_ob h
  refine go_getR hC mt_flX10_26 e1 dX10_triple_1 ?_
  obtain ⟨v3, S2, e3, h⟩ := mt_ob2 h
  refine go_callVr hC [] [] (m_X5_place e3) mt_cvX10_103 (k_X5_place e3) dX10_triple_4 rfl rfl (by decide) (Nat.le_of_ble_eq_true rfl) ⟨Nat.le_refl _, Nat.le_refl _⟩ ?_
  refine go_astore_n hC [1, 2, 0] (lv1 := [(0, mt_rf B x0), (1, .int x1), (2, mt_rf B v3)]) dX10_triple_7 rfl (by decide) rfl ?_
  refine go_iload_n hC 1 dX10_triple_8 rfl rfl ?_
  by_cases hc0 : x1 = 0
  · have h := mt_ip h hc0
    refine go_tabIn hC (v := 0) (off := 27) (tgt := 36) dX10_triple_9 hc0 (by decide) (by decide) (by decide +kernel) (by decide) ?_
    refine go_aload_n hC 0 dX10_triple_36 rfl rfl ?_
    refine go_aload_n hC 2 dX10_triple_37 rfl rfl ?_
    obtain ⟨v5, S4, e5, h⟩ := mt_ob2 h
    refine go_callVi hC [] [mt_rf B x0] (m_X4_lowP e5) mt_cvX10_122 (k_X4_lowP e5) dX10_triple_38 rfl rfl (by decide) (Nat.le_of_ble_eq_true rfl) ⟨Nat.le_refl _, Nat.le_refl _⟩ ?_
    refine go_aload_n hC 2 dX10_triple_41 rfl rfl ?_
    obtain ⟨v7, S6, e7, h⟩ := mt_ob2 h
    refine go_callVi hC [] [.int v5, mt_rf B x0] (m_X4_lowQ e7) mt_cvX10_125 (k_X4_lowQ e7) dX10_triple_42 rfl rfl (by decide) (Nat.le_of_ble_eq_true rfl) ⟨Nat.le_refl _, Nat.le_refl _⟩ ?_
    obtain ⟨v9, S8, e9, h⟩ := mt_ob2 h
    refine go_callVl hC [.int v5, .int v7] [] (m_X10_numberOf e9) mt_cvX10_181 (k_X10_numberOf e9) dX10_triple_45 rfl rfl (by decide) (Nat.le_of_ble_eq_true rfl) ⟨Nat.le_refl _, Nat.le_refl _⟩ ?_
    exact go_lret hC (mt_rel h hE) dX10_triple_48
  · have h := mt_in' h hc0
    by_cases hc1 : x1 = 1
    · have h := mt_ip h hc1
      refine go_tabIn hC (v := 1) (off := 40) (tgt := 49) dX10_triple_9 hc1 (by decide) (by decide) (by decide +kernel) (by decide) ?_
      refine go_aload_n hC 0 dX10_triple_49 rfl rfl ?_
      refine go_aload_n hC 2 dX10_triple_50 rfl rfl ?_
      obtain ⟨v11, S10, e11, h⟩ := mt_ob2 h
      refine go_callVi hC [] [mt_rf B x0] (m_X4_highP e11) mt_cvX10_128 (k_X4_highP e11) dX10_triple_51 rfl rfl (by decide) (Nat.le_of_ble_eq_true rfl) ⟨Nat.le_refl _, Nat.le_refl _⟩ ?_
      refine go_aload_n hC 2 dX10_triple_54 rfl rfl ?_
      obtain ⟨v13, S12, e13, h⟩ := mt_ob2 h
      refine go_callVi hC [] [.int v11, mt_rf B x0] (m_X4_highQ e13) mt_cvX10_131 (k_X4_highQ e13) dX10_triple_55 rfl rfl (by decide) (Nat.le_of_ble_eq_true rfl) ⟨Nat.le_refl _, Nat.le_refl _⟩ ?_
      obtain ⟨v15, S14, e15, h⟩ := mt_ob2 h
      refine go_callVl hC [.int v11, .int v13] [] (m_X10_numberOf e15) mt_cvX10_181 (k_X10_numberOf e15) dX10_triple_58 rfl rfl (by decide) (Nat.le_of_ble_eq_true rfl) ⟨Nat.le_refl _, Nat.le_refl _⟩ ?_
      exact go_lret hC (mt_rel h hE) dX10_triple_61
    · have h := mt_in' h hc1
      by_cases hc2 : x1 = 2
      · have h := mt_ip h hc2
        refine go_tabIn hC (v := 2) (off := 53) (tgt := 62) dX10_triple_9 hc2 (by decide) (by decide) (by decide +kernel) (by decide) ?_
        refine go_aload_n hC 0 dX10_triple_62 rfl rfl ?_
        obtain ⟨v17, S16, e17, h⟩ := mt_ob2 h
        refine go_callVl hC [] [] (m_X10_numberHere e17) mt_cvX10_185 (k_X10_numberHere e17) dX10_triple_63 rfl rfl (by decide) (Nat.le_of_ble_eq_true rfl) ⟨Nat.le_refl _, Nat.le_refl _⟩ ?_
        exact go_lret hC (mt_rel h hE) dX10_triple_66
      · have h := mt_in' h hc2
        have t0 := lv_neT hc0 (a := 0) rfl
        have t1 := lv_neT hc1 (a := 1) rfl
        have t2 := lv_neT hc2 (a := 2) rfl
        refine go_tabOut hC (tgt := 67) dX10_triple_9 (by omega) (by decide) ?_
        cases h
set_option maxHeartbeats 4000000 in
set_option maxRecDepth 100000 in
theorem ov_X10_triple {T : mt_S}  {x0 : Nat} {x1 : Int32} {S : mt_S} {r : Int64} {S' : mt_S} (hp : mt_cp S T) (h : f_X10_triple x0 x1 S = some (r, S')) : f_X10_triple x0 x1 (mt_ov S T) = some (r, mt_ov S' T) ∧ mt_cp S' T := by
  unfold f_X10_triple at h ⊢
  obtain ⟨hg, h⟩ := mt_gd h
  refine ov_t (ov_K hp hg) ?_
  obtain ⟨v1, e1, h⟩ := mt_ob h
  refine ov_b (ov_rR hp e1) ?_
  obtain ⟨v3, S2, e3, h⟩ := mt_ob2 h
  obtain ⟨o_, hp⟩ := ov_X5_place hp e3
  refine ov_b2 o_ ?_
  by_cases hc : x1 = 0
  · have h := mt_ip h hc
    refine ov_t hc ?_
    obtain ⟨v5, S4, e5, h⟩ := mt_ob2 h
    obtain ⟨o_, hp⟩ := ov_X4_lowP hp e5
    refine ov_b2 o_ ?_
    obtain ⟨v7, S6, e7, h⟩ := mt_ob2 h
    obtain ⟨o_, hp⟩ := ov_X4_lowQ hp e7
    refine ov_b2 o_ ?_
    obtain ⟨v9, S8, e9, h⟩ := mt_ob2 h
    obtain ⟨o_, hp⟩ := ov_X10_numberOf hp e9
    refine ov_b2 o_ ?_
    exact ov_ret hp h
  · have h := mt_in' h hc
    refine ov_f hc ?_
    by_cases hc : x1 = 1
    · have h := mt_ip h hc
      refine ov_t hc ?_
      obtain ⟨v11, S10, e11, h⟩ := mt_ob2 h
      obtain ⟨o_, hp⟩ := ov_X4_highP hp e11
      refine ov_b2 o_ ?_
      obtain ⟨v13, S12, e13, h⟩ := mt_ob2 h
      obtain ⟨o_, hp⟩ := ov_X4_highQ hp e13
      refine ov_b2 o_ ?_
      obtain ⟨v15, S14, e15, h⟩ := mt_ob2 h
      obtain ⟨o_, hp⟩ := ov_X10_numberOf hp e15
      refine ov_b2 o_ ?_
      exact ov_ret hp h
    · have h := mt_in' h hc
      refine ov_f hc ?_
      by_cases hc : x1 = 2
      · have h := mt_ip h hc
        refine ov_t hc ?_
        obtain ⟨v17, S16, e17, h⟩ := mt_ob2 h
        obtain ⟨o_, hp⟩ := ov_X10_numberHere hp e17
        refine ov_b2 o_ ?_
        exact ov_ret hp h
      · have h := mt_in' h hc
        refine ov_f hc ?_
        cases h
def f_X10_letter (x0 : Nat) (x1 : Int32) (S : mt_S) : Option (Int32 × mt_S) :=
  if mt_isK S x0 10 = true then
   Option.bind (mt_rR S x0 10 2) fun v1 =>
   mt_b2 (f_X5_place v1 S) fun v3 S2 =>
   if x1 < 1 then
    some ((-1), S2)
   else
    mt_b2 (f_X4_together v3 S2) fun v5 S4 =>
    if x1 ≤ v5 then
     mt_b2 (f_X4_p v3 S4) fun v7 S6 =>
     mt_b2 (f_X4_q v3 S6) fun v9 S8 =>
     mt_b2 (f_X9_letterIsA v7 v9 x1 S8) fun v11 S10 =>
     if v11 = 0 then
      some (98, S10)
     else
      some (97, S10)
    else
     some ((-1), S4)
  else none
theorem k_X10_letter {x0 : Nat} {x1 : Int32} {S : mt_S} {r : Int32} {S' : mt_S} (h : f_X10_letter x0 x1 S = some (r, S')) : mt_isK S x0 10 = true := by
  unfold f_X10_letter at h
  exact (mt_gd h).1
set_option maxHeartbeats 4000000 in
set_option maxRecDepth 100000 in
theorem m_X10_letter {B : mt_B}  {x0 : Nat} {x1 : Int32} {S : mt_S} {r : Int32} {S' : mt_S} (h : f_X10_letter x0 x1 S = some (r, S')) : mt_M B yX10_letter cX10_letter 3 (some .int) 3 [mt_rf B x0, .int x1] S (some (.int r)) S' := by
  unfold f_X10_letter at h
  refine mt_M.of (by decide) (Nat.le_of_ble_eq_true rfl) (fun E hC hE => ?_)
  obtain ⟨hk0, h⟩ := mt_gd h
  refine go_aload_n hC 0 dX10_letter_0 rfl rfl ?_
  obtain ⟨v1, e1, h⟩ := mt_ob h
  refine go_getR hC mt_flX10_26 e1 dX10_letter_1 ?_
  obtain ⟨v3, S2, e3, h⟩ := mt_ob2 h
  refine go_callVr hC [] [] (m_X5_place e3) mt_cvX10_103 (k_X5_place e3) dX10_letter_4 rfl rfl (by decide) (Nat.le_of_ble_eq_true rfl) ⟨Nat.le_refl _, Nat.le_refl _⟩ ?_
  refine go_astore_n hC [1, 2, 0] (lv1 := [(0, mt_rf B x0), (1, .int x1), (2, mt_rf B v3)]) dX10_letter_7 rfl (by decide) rfl ?_
  refine go_iload_n hC 1 dX10_letter_8 rfl rfl ?_
  refine go_iconst (v := 1) hC dX10_letter_9 (by decide) ?_
  refine go_icmp_lt hC (tgt := 21) dX10_letter_10 (by decide) (fun hc => ?_) (fun hc => ?_)
  · have h := mt_ip h hc
    refine go_iconst (v := (-1)) hC dX10_letter_21 (by decide) ?_
    exact go_iret hC (mt_rei h hE) dX10_letter_22
  · have h := mt_in' h hc
    refine go_iload_n hC 1 dX10_letter_13 rfl rfl ?_
    refine go_aload_n hC 2 dX10_letter_14 rfl rfl ?_
    obtain ⟨v5, S4, e5, h⟩ := mt_ob2 h
    refine go_callVi hC [] [.int x1] (m_X4_together e5) mt_cvX10_168 (k_X4_together e5) dX10_letter_15 rfl rfl (by decide) (Nat.le_of_ble_eq_true rfl) ⟨Nat.le_refl _, Nat.le_refl _⟩ ?_
    refine go_icmp_le hC (tgt := 23) dX10_letter_18 (by decide) (fun hc => ?_) (fun hc => ?_)
    · have h := mt_ip h hc
      refine go_aload_n hC 2 dX10_letter_23 rfl rfl ?_
      obtain ⟨v7, S6, e7, h⟩ := mt_ob2 h
      refine go_callVi hC [] [] (m_X4_p e7) mt_cvX10_114 (k_X4_p e7) dX10_letter_24 rfl rfl (by decide) (Nat.le_of_ble_eq_true rfl) ⟨Nat.le_refl _, Nat.le_refl _⟩ ?_
      refine go_aload_n hC 2 dX10_letter_27 rfl rfl ?_
      obtain ⟨v9, S8, e9, h⟩ := mt_ob2 h
      refine go_callVi hC [] [.int v7] (m_X4_q e9) mt_cvX10_119 (k_X4_q e9) dX10_letter_28 rfl rfl (by decide) (Nat.le_of_ble_eq_true rfl) ⟨Nat.le_refl _, Nat.le_refl _⟩ ?_
      refine go_iload_n hC 1 dX10_letter_31 rfl rfl ?_
      obtain ⟨v11, S10, e11, h⟩ := mt_ob2 h
      refine go_callSi hC [.int v7, .int v9, .int x1] [] (m_X9_letterIsA e11) mt_csX10_192 dX10_letter_32 rfl rfl (by decide) (Nat.le_of_ble_eq_true rfl) ⟨Nat.le_refl _, Nat.le_refl _⟩ ?_
      refine go_if_eq hC (tgt := 43) dX10_letter_35 (by decide) (fun hc => ?_) (fun hc => ?_)
      · have h := mt_ip h hc
        refine go_bipush (v := 98) hC dX10_letter_43 (by decide) ?_
        exact go_iret hC (mt_rei h hE) dX10_letter_45
      · have h := mt_in' h hc
        refine go_bipush (v := 97) hC dX10_letter_38 (by decide) ?_
        refine go_goto hC (tgt := 45) dX10_letter_40 (by decide) ?_
        exact go_iret hC (mt_rei h hE) dX10_letter_45
    · have h := mt_in' h hc
      refine go_iconst (v := (-1)) hC dX10_letter_21 (by decide) ?_
      exact go_iret hC (mt_rei h hE) dX10_letter_22
set_option maxHeartbeats 4000000 in
set_option maxRecDepth 100000 in
theorem ov_X10_letter {T : mt_S}  {x0 : Nat} {x1 : Int32} {S : mt_S} {r : Int32} {S' : mt_S} (hp : mt_cp S T) (h : f_X10_letter x0 x1 S = some (r, S')) : f_X10_letter x0 x1 (mt_ov S T) = some (r, mt_ov S' T) ∧ mt_cp S' T := by
  unfold f_X10_letter at h ⊢
  obtain ⟨hg, h⟩ := mt_gd h
  refine ov_t (ov_K hp hg) ?_
  obtain ⟨v1, e1, h⟩ := mt_ob h
  refine ov_b (ov_rR hp e1) ?_
  obtain ⟨v3, S2, e3, h⟩ := mt_ob2 h
  obtain ⟨o_, hp⟩ := ov_X5_place hp e3
  refine ov_b2 o_ ?_
  by_cases hc : x1 < 1
  · have h := mt_ip h hc
    refine ov_t hc ?_
    exact ov_ret hp h
  · have h := mt_in' h hc
    refine ov_f hc ?_
    obtain ⟨v5, S4, e5, h⟩ := mt_ob2 h
    obtain ⟨o_, hp⟩ := ov_X4_together hp e5
    refine ov_b2 o_ ?_
    by_cases hc : x1 ≤ v5
    · have h := mt_ip h hc
      refine ov_t hc ?_
      obtain ⟨v7, S6, e7, h⟩ := mt_ob2 h
      obtain ⟨o_, hp⟩ := ov_X4_p hp e7
      refine ov_b2 o_ ?_
      obtain ⟨v9, S8, e9, h⟩ := mt_ob2 h
      obtain ⟨o_, hp⟩ := ov_X4_q hp e9
      refine ov_b2 o_ ?_
      obtain ⟨v11, S10, e11, h⟩ := mt_ob2 h
      obtain ⟨o_, hp⟩ := ov_X9_letterIsA hp e11
      refine ov_b2 o_ ?_
      by_cases hc : v11 = 0
      · have h := mt_ip h hc
        refine ov_t hc ?_
        exact ov_ret hp h
      · have h := mt_in' h hc
        refine ov_f hc ?_
        exact ov_ret hp h
    · have h := mt_in' h hc
      refine ov_f hc ?_
      exact ov_ret hp h
def f_X10_cut_L24s (rc : Int32 → Int32 → Int32 → mt_S → Option (Int32 × mt_S)) (x1 : Int32) (x2 : Int32) (x3 : Int32) (S : mt_S) : Option (Int32 × mt_S) :=
  if x2 < x3 then
   some ((-1), S)
  else
   if x2 = 0 then none else
   if ((x3 * x1) - (x3 * x1) / x2 * x2) = 1 then
    some (x3, S)
   else
    rc x1 x2 (x3 + 1) S
def f_X10_cut_L24 : Nat → Int32 → Int32 → Int32 → mt_S → Option (Int32 × mt_S)
  | 0 => fun _ _ _ _ => none
  | n + 1 => f_X10_cut_L24s (f_X10_cut_L24 n)
set_option maxHeartbeats 4000000 in
set_option maxRecDepth 100000 in
theorem m_X10_cut_L24 {B : mt_B} {E : mt_E} {r : Int32} {S' : mt_S} (hC : mt_Cx B E cX10_cut RX10 (some .int) 4 3 0 0) (hE : mt_End B E (0, 0) (some (.int r)) S') : ∀ (n : Nat) (x1 : Int32) (x2 : Int32) (x3 : Int32) (S : mt_S), f_X10_cut_L24 n x1 x2 x3 S = some (r, S') → mt_Go B E (0, 0) S 24 [(1, .int x1), (2, .int x2), (3, .int x3)] [] := by
  intro n
  induction n with
  | zero =>
    intro x1 x2 x3 S h
    cases h
  | succ n ih =>
    intro x1 x2 x3 S h
    have h : f_X10_cut_L24s (f_X10_cut_L24 n) x1 x2 x3 S = some (r, S') := h
    unfold f_X10_cut_L24s at h
    refine go_iload_n hC 2 dX10_cut_24 rfl rfl ?_
    refine go_iload_n hC 1 dX10_cut_25 rfl rfl ?_
    refine go_icmp_gt hC (tgt := 46) dX10_cut_26 (by decide) (fun hc => ?_) (fun hc => ?_)
    · have h := mt_ip h hc
      refine go_iconst (v := (-1)) hC dX10_cut_46 (by decide) ?_
      exact go_iret hC (mt_rei h hE) dX10_cut_47
    · have h := mt_in' h hc
      refine go_iload_n hC 2 dX10_cut_29 rfl rfl ?_
      refine go_iload_n hC 0 dX10_cut_30 rfl rfl ?_
      refine go_imul hC dX10_cut_31 ?_
      refine go_iload_n hC 1 dX10_cut_32 rfl rfl ?_
      have g11 : ¬ x2 = 0 := fun q => by rw [if_pos q] at h; cases h
      have h := mt_in' h g11
      refine go_irem hC dX10_cut_33 g11 ?_
      refine go_iconst (v := 1) hC dX10_cut_34 (by decide) ?_
      refine go_icmp_ne hC (tgt := 40) dX10_cut_35 (by decide) (fun hc => ?_) (fun hc => ?_)
      · have h := mt_in' h hc
        refine go_iinc hC 2 [1, 2, 0] (v := x3 + 1) (lv1 := [(1, .int x1), (2, .int x2), (3, .int (x3 + 1))]) dX10_cut_40 rfl rfl (by decide) rfl ?_
        refine go_goto hC (tgt := 24) dX10_cut_43 (by decide) ?_
        exact ih _ _ _ _ h
      · have h := mt_ip h hc
        refine go_iload_n hC 2 dX10_cut_38 rfl rfl ?_
        exact go_iret hC (mt_rei h hE) dX10_cut_39
set_option maxHeartbeats 4000000 in
set_option maxRecDepth 100000 in
theorem ov_X10_cut_L24 {T : mt_S} {r : Int32} {S' : mt_S} : ∀ (n : Nat) (x1 : Int32) (x2 : Int32) (x3 : Int32) (S : mt_S), mt_cp S T → f_X10_cut_L24 n x1 x2 x3 S = some (r, S') → f_X10_cut_L24 n x1 x2 x3 (mt_ov S T) = some (r, mt_ov S' T) ∧ mt_cp S' T := by
  intro n
  induction n with
  | zero =>
    intro x1 x2 x3 S hp h
    cases h
  | succ n ih =>
    intro x1 x2 x3 S hp h
    have h : f_X10_cut_L24s (f_X10_cut_L24 n) x1 x2 x3 S = some (r, S') := h
    show f_X10_cut_L24s (f_X10_cut_L24 n) x1 x2 x3 (mt_ov S T) = some (r, mt_ov S' T) ∧ mt_cp S' T
    unfold f_X10_cut_L24s at h ⊢
    by_cases hc : x2 < x3
    · have h := mt_ip h hc
      refine ov_t hc ?_
      exact ov_ret hp h
    · have h := mt_in' h hc
      refine ov_f hc ?_
      have hz : ¬ x2 = 0 := fun q => by rw [if_pos q] at h; cases h
      have h := mt_in' h hz
      refine ov_f hz ?_
      by_cases hc : ((x3 * x1) - (x3 * x1) / x2 * x2) = 1
      · have h := mt_ip h hc
        refine ov_t hc ?_
        exact ov_ret hp h
      · have h := mt_in' h hc
        refine ov_f hc ?_
        exact ih _ _ _ _ hp h
def f_X10_cut (x0 : Nat) (S : mt_S) : Option (Int32 × mt_S) :=
  if mt_isK S x0 10 = true then
   Option.bind (mt_rR S x0 10 2) fun v1 =>
   mt_b2 (f_X5_place v1 S) fun v3 S2 =>
   mt_b2 (f_X4_p v3 S2) fun v5 S4 =>
   Option.bind (mt_rR S4 x0 10 2) fun v6 =>
   mt_b2 (f_X5_place v6 S4) fun v8 S7 =>
   mt_b2 (f_X4_together v8 S7) fun v10 S9 =>
   f_X10_cut_L24 1000 v5 v10 1 S9
  else none
theorem k_X10_cut {x0 : Nat} {S : mt_S} {r : Int32} {S' : mt_S} (h : f_X10_cut x0 S = some (r, S')) : mt_isK S x0 10 = true := by
  unfold f_X10_cut at h
  exact (mt_gd h).1
set_option maxHeartbeats 4000000 in
set_option maxRecDepth 100000 in
theorem m_X10_cut {B : mt_B}  {x0 : Nat} {S : mt_S} {r : Int32} {S' : mt_S} (h : f_X10_cut x0 S = some (r, S')) : mt_M B yX10_cut cX10_cut 4 (some .int) 3 [mt_rf B x0] S (some (.int r)) S' := by
  unfold f_X10_cut at h
  refine mt_M.of (by decide) (Nat.le_of_ble_eq_true rfl) (fun E hC hE => ?_)
  obtain ⟨hk0, h⟩ := mt_gd h
  refine go_aload_n hC 0 dX10_cut_0 rfl rfl ?_
  obtain ⟨v1, e1, h⟩ := mt_ob h
  refine go_getR hC mt_flX10_26 e1 dX10_cut_1 ?_
  obtain ⟨v3, S2, e3, h⟩ := mt_ob2 h
  refine go_callVr hC [] [] (m_X5_place e3) mt_cvX10_103 (k_X5_place e3) dX10_cut_4 rfl rfl (by decide) (Nat.le_of_ble_eq_true rfl) ⟨Nat.le_refl _, Nat.le_refl _⟩ ?_
  obtain ⟨v5, S4, e5, h⟩ := mt_ob2 h
  refine go_callVi hC [] [] (m_X4_p e5) mt_cvX10_114 (k_X4_p e5) dX10_cut_7 rfl rfl (by decide) (Nat.le_of_ble_eq_true rfl) ⟨Nat.le_refl _, Nat.le_refl _⟩ ?_
  refine go_istore_n hC [1, 0] (lv1 := [(0, mt_rf B x0), (1, .int v5)]) dX10_cut_10 rfl (by decide) rfl ?_
  refine go_aload_n hC 0 dX10_cut_11 rfl rfl ?_
  obtain ⟨v6, e6, h⟩ := mt_ob h
  refine go_getR hC mt_flX10_26 e6 dX10_cut_12 ?_
  obtain ⟨v8, S7, e8, h⟩ := mt_ob2 h
  refine go_callVr hC [] [] (m_X5_place e8) mt_cvX10_103 (k_X5_place e8) dX10_cut_15 rfl rfl (by decide) (Nat.le_of_ble_eq_true rfl) ⟨Nat.le_refl _, Nat.le_refl _⟩ ?_
  obtain ⟨v10, S9, e10, h⟩ := mt_ob2 h
  refine go_callVi hC [] [] (m_X4_together e10) mt_cvX10_168 (k_X4_together e10) dX10_cut_18 rfl rfl (by decide) (Nat.le_of_ble_eq_true rfl) ⟨Nat.le_refl _, Nat.le_refl _⟩ ?_
  refine go_istore_n hC [1, 2, 0] (lv1 := [(0, mt_rf B x0), (1, .int v5), (2, .int v10)]) dX10_cut_21 rfl (by decide) rfl ?_
  refine go_iconst (v := 1) hC dX10_cut_22 (by decide) ?_
  refine go_istore_n hC [1, 2, 3, 0] (lv1 := [(0, mt_rf B x0), (1, .int v5), (2, .int v10), (3, .int 1)]) dX10_cut_23 rfl (by decide) rfl ?_
  refine go_sub [1, 2, 3] (lv1 := [(1, .int v5), (2, .int v10), (3, .int 1)]) rfl ?_
  exact m_X10_cut_L24 hC hE 1000 _ _ _ _ h
set_option maxHeartbeats 4000000 in
set_option maxRecDepth 100000 in
theorem ov_X10_cut {T : mt_S}  {x0 : Nat} {S : mt_S} {r : Int32} {S' : mt_S} (hp : mt_cp S T) (h : f_X10_cut x0 S = some (r, S')) : f_X10_cut x0 (mt_ov S T) = some (r, mt_ov S' T) ∧ mt_cp S' T := by
  unfold f_X10_cut at h ⊢
  obtain ⟨hg, h⟩ := mt_gd h
  refine ov_t (ov_K hp hg) ?_
  obtain ⟨v1, e1, h⟩ := mt_ob h
  refine ov_b (ov_rR hp e1) ?_
  obtain ⟨v3, S2, e3, h⟩ := mt_ob2 h
  obtain ⟨o_, hp⟩ := ov_X5_place hp e3
  refine ov_b2 o_ ?_
  obtain ⟨v5, S4, e5, h⟩ := mt_ob2 h
  obtain ⟨o_, hp⟩ := ov_X4_p hp e5
  refine ov_b2 o_ ?_
  obtain ⟨v6, e6, h⟩ := mt_ob h
  refine ov_b (ov_rR hp e6) ?_
  obtain ⟨v8, S7, e8, h⟩ := mt_ob2 h
  obtain ⟨o_, hp⟩ := ov_X5_place hp e8
  refine ov_b2 o_ ?_
  obtain ⟨v10, S9, e10, h⟩ := mt_ob2 h
  obtain ⟨o_, hp⟩ := ov_X4_together hp e10
  refine ov_b2 o_ ?_
  exact ov_X10_cut_L24 1000 _ _ _ _ hp h
def f_X10_matrix (x0 : Nat) (x1 : Int32) (x2 : Int32) (S : mt_S) : Option (Int64 × mt_S) :=
  if mt_isK S x0 10 = true then
   if x1 < 0 then
    none
   else
   if 1 < x1 then
    none
   else
   if x2 < 0 then
    none
   else
   if x2 ≤ 1 then
    Option.bind (mt_rR S x0 10 7) fun v1 =>
    Option.bind (mt_rR S x0 10 2) fun v2 =>
    mt_b2 (f_X5_place v2 S) fun v4 S3 =>
    mt_b2 (f_X4_p v4 S3) fun v6 S5 =>
    Option.bind (mt_rR S5 x0 10 2) fun v7 =>
    mt_b2 (f_X5_place v7 S5) fun v9 S8 =>
    mt_b2 (f_X4_q v9 S8) fun v11 S10 =>
    Option.bind (f_X9_setTo v1 v6 v11 S10) fun S12 =>
    Option.bind (mt_rR S12 x0 10 7) fun v13 =>
    mt_b2 (f_X9_entry v13 x1 x2 S12) fun v15 S14 =>
    some (v15, S14)
   else
    none
  else none
theorem k_X10_matrix {x0 : Nat} {x1 : Int32} {x2 : Int32} {S : mt_S} {r : Int64} {S' : mt_S} (h : f_X10_matrix x0 x1 x2 S = some (r, S')) : mt_isK S x0 10 = true := by
  unfold f_X10_matrix at h
  exact (mt_gd h).1
set_option maxHeartbeats 4000000 in
set_option maxRecDepth 100000 in
theorem m_X10_matrix {B : mt_B}  {x0 : Nat} {x1 : Int32} {x2 : Int32} {S : mt_S} {r : Int64} {S' : mt_S} (h : f_X10_matrix x0 x1 x2 S = some (r, S')) : mt_M B yX10_matrix cX10_matrix 3 (some .long) 3 [mt_rf B x0, .int x1, .int x2] S (some (.long r)) S' := by
  unfold f_X10_matrix at h
  refine mt_M.of (by decide) (Nat.le_of_ble_eq_true rfl) (fun E hC hE => ?_)
  obtain ⟨hk0, h⟩ := mt_gd h
  refine go_iload_n hC 1 dX10_matrix_0 rfl rfl ?_
  refine go_if_lt hC (tgt := 18) dX10_matrix_1 (by decide) (fun hc => ?_) (fun hc => ?_)
  · have h := mt_ip h hc
    cases h
  · have h := mt_in' h hc
    refine go_iload_n hC 1 dX10_matrix_4 rfl rfl ?_
    refine go_iconst (v := 1) hC dX10_matrix_5 (by decide) ?_
    refine go_icmp_gt hC (tgt := 18) dX10_matrix_6 (by decide) (fun hc => ?_) (fun hc => ?_)
    · have h := mt_ip h hc
      cases h
    · have h := mt_in' h hc
      refine go_iload_n hC 2 dX10_matrix_9 rfl rfl ?_
      refine go_if_lt hC (tgt := 18) dX10_matrix_10 (by decide) (fun hc => ?_) (fun hc => ?_)
      · have h := mt_ip h hc
        cases h
      · have h := mt_in' h hc
        refine go_iload_n hC 2 dX10_matrix_13 rfl rfl ?_
        refine go_iconst (v := 1) hC dX10_matrix_14 (by decide) ?_
        refine go_icmp_le hC (tgt := 26) dX10_matrix_15 (by decide) (fun hc => ?_) (fun hc => ?_)
        · have h := mt_ip h hc
          refine go_aload_n hC 0 dX10_matrix_26 rfl rfl ?_
          obtain ⟨v1, e1, h⟩ := mt_ob h
          refine go_getR hC mt_flX10_55 e1 dX10_matrix_27 ?_
          refine go_aload_n hC 0 dX10_matrix_30 rfl rfl ?_
          obtain ⟨v2, e2, h⟩ := mt_ob h
          refine go_getR hC mt_flX10_26 e2 dX10_matrix_31 ?_
          obtain ⟨v4, S3, e4, h⟩ := mt_ob2 h
          refine go_callVr hC [] [mt_rf B v1] (m_X5_place e4) mt_cvX10_103 (k_X5_place e4) dX10_matrix_34 rfl rfl (by decide) (Nat.le_of_ble_eq_true rfl) ⟨Nat.le_refl _, Nat.le_refl _⟩ ?_
          obtain ⟨v6, S5, e6, h⟩ := mt_ob2 h
          refine go_callVi hC [] [mt_rf B v1] (m_X4_p e6) mt_cvX10_114 (k_X4_p e6) dX10_matrix_37 rfl rfl (by decide) (Nat.le_of_ble_eq_true rfl) ⟨Nat.le_refl _, Nat.le_refl _⟩ ?_
          refine go_aload_n hC 0 dX10_matrix_40 rfl rfl ?_
          obtain ⟨v7, e7, h⟩ := mt_ob h
          refine go_getR hC mt_flX10_26 e7 dX10_matrix_41 ?_
          obtain ⟨v9, S8, e9, h⟩ := mt_ob2 h
          refine go_callVr hC [] [.int v6, mt_rf B v1] (m_X5_place e9) mt_cvX10_103 (k_X5_place e9) dX10_matrix_44 rfl rfl (by decide) (Nat.le_of_ble_eq_true rfl) ⟨Nat.le_refl _, Nat.le_refl _⟩ ?_
          obtain ⟨v11, S10, e11, h⟩ := mt_ob2 h
          refine go_callVi hC [] [.int v6, mt_rf B v1] (m_X4_q e11) mt_cvX10_119 (k_X4_q e11) dX10_matrix_47 rfl rfl (by decide) (Nat.le_of_ble_eq_true rfl) ⟨Nat.le_refl _, Nat.le_refl _⟩ ?_
          obtain ⟨S12, e12, h⟩ := mt_ob h
          refine go_callVv hC [.int v6, .int v11] [] (m_X9_setTo e12) mt_cvX10_196 (k_X9_setTo e12) dX10_matrix_50 rfl rfl (by decide) (Nat.le_of_ble_eq_true rfl) ⟨Nat.le_refl _, Nat.le_refl _⟩ ?_
          refine go_aload_n hC 0 dX10_matrix_53 rfl rfl ?_
          obtain ⟨v13, e13, h⟩ := mt_ob h
          refine go_getR hC mt_flX10_55 e13 dX10_matrix_54 ?_
          refine go_iload_n hC 1 dX10_matrix_57 rfl rfl ?_
          refine go_iload_n hC 2 dX10_matrix_58 rfl rfl ?_
          obtain ⟨v15, S14, e15, h⟩ := mt_ob2 h
          refine go_callVl hC [.int x1, .int x2] [] (m_X9_entry e15) mt_cvX10_199 (k_X9_entry e15) dX10_matrix_59 rfl rfl (by decide) (Nat.le_of_ble_eq_true rfl) ⟨Nat.le_refl _, Nat.le_refl _⟩ ?_
          exact go_lret hC (mt_rel h hE) dX10_matrix_62
        · have h := mt_in' h hc
          cases h
set_option maxHeartbeats 4000000 in
set_option maxRecDepth 100000 in
theorem ov_X10_matrix {T : mt_S}  {x0 : Nat} {x1 : Int32} {x2 : Int32} {S : mt_S} {r : Int64} {S' : mt_S} (hp : mt_cp S T) (h : f_X10_matrix x0 x1 x2 S = some (r, S')) : f_X10_matrix x0 x1 x2 (mt_ov S T) = some (r, mt_ov S' T) ∧ mt_cp S' T := by
  unfold f_X10_matrix at h ⊢
  obtain ⟨hg, h⟩ := mt_gd h
  refine ov_t (ov_K hp hg) ?_
  by_cases hc : x1 < 0
  · have h := mt_ip h hc
    refine ov_t hc ?_
    cases h
  · have h := mt_in' h hc
    refine ov_f hc ?_
    by_cases hc : 1 < x1
    · have h := mt_ip h hc
      refine ov_t hc ?_
      cases h
    · have h := mt_in' h hc
      refine ov_f hc ?_
      by_cases hc : x2 < 0
      · have h := mt_ip h hc
        refine ov_t hc ?_
        cases h
      · have h := mt_in' h hc
        refine ov_f hc ?_
        by_cases hc : x2 ≤ 1
        · have h := mt_ip h hc
          refine ov_t hc ?_
          obtain ⟨v1, e1, h⟩ := mt_ob h
          refine ov_b (ov_rR hp e1) ?_
          obtain ⟨v2, e2, h⟩ := mt_ob h
          refine ov_b (ov_rR hp e2) ?_
          obtain ⟨v4, S3, e4, h⟩ := mt_ob2 h
          obtain ⟨o_, hp⟩ := ov_X5_place hp e4
          refine ov_b2 o_ ?_
          obtain ⟨v6, S5, e6, h⟩ := mt_ob2 h
          obtain ⟨o_, hp⟩ := ov_X4_p hp e6
          refine ov_b2 o_ ?_
          obtain ⟨v7, e7, h⟩ := mt_ob h
          refine ov_b (ov_rR hp e7) ?_
          obtain ⟨v9, S8, e9, h⟩ := mt_ob2 h
          obtain ⟨o_, hp⟩ := ov_X5_place hp e9
          refine ov_b2 o_ ?_
          obtain ⟨v11, S10, e11, h⟩ := mt_ob2 h
          obtain ⟨o_, hp⟩ := ov_X4_q hp e11
          refine ov_b2 o_ ?_
          obtain ⟨S12, e12, h⟩ := mt_ob h
          obtain ⟨o_, hp⟩ := ov_X9_setTo hp e12
          refine ov_b o_ ?_
          obtain ⟨v13, e13, h⟩ := mt_ob h
          refine ov_b (ov_rR hp e13) ?_
          obtain ⟨v15, S14, e15, h⟩ := mt_ob2 h
          obtain ⟨o_, hp⟩ := ov_X9_entry hp e15
          refine ov_b2 o_ ?_
          exact ov_ret hp h
        · have h := mt_in' h hc
          refine ov_f hc ?_
          cases h
def f_X10_setForm (x0 : Nat) (S : mt_S) : Option (Int32 × mt_S) :=
  if mt_isK S x0 10 = true then
   mt_b2 (f_X10_numberHere x0 S) fun v2 S1 =>
   if v2 ≤ 1000000000 then
    Option.bind (mt_rR S1 x0 10 8) fun v3 =>
    Option.bind (mt_rR S1 x0 10 7) fun v4 =>
    mt_b2 (f_X9_entry v4 1 1 S1) fun v6 S5 =>
    Option.bind (f_X1_set v3 v2 v6 S5) fun S7 =>
    some (1, S7)
   else
    some (0, S1)
  else none
theorem k_X10_setForm {x0 : Nat} {S : mt_S} {r : Int32} {S' : mt_S} (h : f_X10_setForm x0 S = some (r, S')) : mt_isK S x0 10 = true := by
  unfold f_X10_setForm at h
  exact (mt_gd h).1
set_option maxHeartbeats 4000000 in
set_option maxRecDepth 100000 in
theorem m_X10_setForm {B : mt_B}  {x0 : Nat} {S : mt_S} {r : Int32} {S' : mt_S} (h : f_X10_setForm x0 S = some (r, S')) : mt_M B yX10_setForm cX10_setForm 3 (some .boolean) 5 [mt_rf B x0] S (some (.int r)) S' := by
  unfold f_X10_setForm at h
  refine mt_M.of (by decide) (Nat.le_of_ble_eq_true rfl) (fun E hC hE => ?_)
  obtain ⟨hk0, h⟩ := mt_gd h
  refine go_aload_n hC 0 dX10_setForm_0 rfl rfl ?_
  obtain ⟨v2, S1, e2, h⟩ := mt_ob2 h
  refine go_callVl hC [] [] (m_X10_numberHere e2) mt_cvX10_185 (k_X10_numberHere e2) dX10_setForm_1 rfl rfl (by decide) (Nat.le_of_ble_eq_true rfl) ⟨Nat.le_refl _, Nat.le_refl _⟩ ?_
  refine go_lstore_n hC [1, 0] (lv1 := [(0, mt_rf B x0), (1, .long v2)]) dX10_setForm_4 rfl (by decide) rfl ?_
  refine go_lload_n hC 1 dX10_setForm_5 rfl rfl ?_
  refine go_ldc2 hC dX10_setForm_6 mt_kX10_229 ?_
  refine go_lcmp_le hC (tgt := 15) dX10_setForm_9 dX10_setForm_10 (by decide) (fun hc => ?_) (fun hc => ?_)
  · have h := mt_ip h hc
    refine go_aload_n hC 0 dX10_setForm_15 rfl rfl ?_
    obtain ⟨v3, e3, h⟩ := mt_ob h
    refine go_getR hC mt_flX10_62 e3 dX10_setForm_16 ?_
    refine go_lload_n hC 1 dX10_setForm_19 rfl rfl ?_
    refine go_aload_n hC 0 dX10_setForm_20 rfl rfl ?_
    obtain ⟨v4, e4, h⟩ := mt_ob h
    refine go_getR hC mt_flX10_55 e4 dX10_setForm_21 ?_
    refine go_iconst (v := 1) hC dX10_setForm_24 (by decide) ?_
    refine go_iconst (v := 1) hC dX10_setForm_25 (by decide) ?_
    obtain ⟨v6, S5, e6, h⟩ := mt_ob2 h
    refine go_callVl hC [.int 1, .int 1] [.long v2, mt_rf B v3] (m_X9_entry e6) mt_cvX10_199 (k_X9_entry e6) dX10_setForm_26 rfl rfl (by decide) (Nat.le_of_ble_eq_true rfl) ⟨Nat.le_refl _, Nat.le_refl _⟩ ?_
    obtain ⟨S7, e7, h⟩ := mt_ob h
    refine go_callVv hC [.long v2, .long v6] [] (m_X1_set e7) mt_cvX10_231 (k_X1_set e7) dX10_setForm_29 rfl rfl (by decide) (Nat.le_of_ble_eq_true rfl) ⟨Nat.le_refl _, Nat.le_refl _⟩ ?_
    refine go_iconst (v := 1) hC dX10_setForm_32 (by decide) ?_
    exact go_zret hC (mt_rei h hE) (Or.inr rfl) dX10_setForm_33
  · have h := mt_in' h hc
    refine go_iconst (v := 0) hC dX10_setForm_13 (by decide) ?_
    exact go_zret hC (mt_rei h hE) (Or.inl rfl) dX10_setForm_14
set_option maxHeartbeats 4000000 in
set_option maxRecDepth 100000 in
theorem ov_X10_setForm {T : mt_S}  {x0 : Nat} {S : mt_S} {r : Int32} {S' : mt_S} (hp : mt_cp S T) (h : f_X10_setForm x0 S = some (r, S')) : f_X10_setForm x0 (mt_ov S T) = some (r, mt_ov S' T) ∧ mt_cp S' T := by
  unfold f_X10_setForm at h ⊢
  obtain ⟨hg, h⟩ := mt_gd h
  refine ov_t (ov_K hp hg) ?_
  obtain ⟨v2, S1, e2, h⟩ := mt_ob2 h
  obtain ⟨o_, hp⟩ := ov_X10_numberHere hp e2
  refine ov_b2 o_ ?_
  by_cases hc : v2 ≤ 1000000000
  · have h := mt_ip h hc
    refine ov_t hc ?_
    obtain ⟨v3, e3, h⟩ := mt_ob h
    refine ov_b (ov_rR hp e3) ?_
    obtain ⟨v4, e4, h⟩ := mt_ob h
    refine ov_b (ov_rR hp e4) ?_
    obtain ⟨v6, S5, e6, h⟩ := mt_ob2 h
    obtain ⟨o_, hp⟩ := ov_X9_entry hp e6
    refine ov_b2 o_ ?_
    obtain ⟨S7, e7, h⟩ := mt_ob h
    obtain ⟨o_, hp⟩ := ov_X1_set hp e7
    refine ov_b o_ ?_
    exact ov_ret hp h
  · have h := mt_in' h hc
    refine ov_f hc ?_
    exact ov_ret hp h
def f_X10_form (x0 : Nat) (x1 : Int32) (S : mt_S) : Option (Int64 × mt_S) :=
  if mt_isK S x0 10 = true then
   if x1 < 0 then
    none
   else
   if 2 < x1 then
    none
   else
    mt_b2 (f_X10_setForm x0 S) fun v2 S1 =>
    if v2 = 0 then
     none
    else
     Option.bind (mt_rR S1 x0 10 8) fun v3 =>
     mt_b2 (f_X1_coefficient v3 x1 S1) fun v5 S4 =>
     some (v5, S4)
  else none
theorem k_X10_form {x0 : Nat} {x1 : Int32} {S : mt_S} {r : Int64} {S' : mt_S} (h : f_X10_form x0 x1 S = some (r, S')) : mt_isK S x0 10 = true := by
  unfold f_X10_form at h
  exact (mt_gd h).1
set_option maxHeartbeats 4000000 in
set_option maxRecDepth 100000 in
theorem m_X10_form {B : mt_B}  {x0 : Nat} {x1 : Int32} {S : mt_S} {r : Int64} {S' : mt_S} (h : f_X10_form x0 x1 S = some (r, S')) : mt_M B yX10_form cX10_form 2 (some .long) 6 [mt_rf B x0, .int x1] S (some (.long r)) S' := by
  unfold f_X10_form at h
  refine mt_M.of (by decide) (Nat.le_of_ble_eq_true rfl) (fun E hC hE => ?_)
  obtain ⟨hk0, h⟩ := mt_gd h
  refine go_iload_n hC 1 dX10_form_0 rfl rfl ?_
  refine go_if_lt hC (tgt := 16) dX10_form_1 (by decide) (fun hc => ?_) (fun hc => ?_)
  · have h := mt_ip h hc
    cases h
  · have h := mt_in' h hc
    refine go_iload_n hC 1 dX10_form_4 rfl rfl ?_
    refine go_iconst (v := 2) hC dX10_form_5 (by decide) ?_
    refine go_icmp_gt hC (tgt := 16) dX10_form_6 (by decide) (fun hc => ?_) (fun hc => ?_)
    · have h := mt_ip h hc
      cases h
    · have h := mt_in' h hc
      refine go_aload_n hC 0 dX10_form_9 rfl rfl ?_
      obtain ⟨v2, S1, e2, h⟩ := mt_ob2 h
      refine go_callVi hC [] [] (m_X10_setForm e2) mt_cvX10_202 (k_X10_setForm e2) dX10_form_10 rfl rfl (by decide) (Nat.le_of_ble_eq_true rfl) ⟨Nat.le_refl _, Nat.le_refl _⟩ ?_
      refine go_if_ne hC (tgt := 24) dX10_form_13 (by decide) (fun hc => ?_) (fun hc => ?_)
      · have h := mt_in' h hc
        refine go_aload_n hC 0 dX10_form_24 rfl rfl ?_
        obtain ⟨v3, e3, h⟩ := mt_ob h
        refine go_getR hC mt_flX10_62 e3 dX10_form_25 ?_
        refine go_iload_n hC 1 dX10_form_28 rfl rfl ?_
        obtain ⟨v5, S4, e5, h⟩ := mt_ob2 h
        refine go_callVl hC [.int x1] [] (m_X1_coefficient e5) mt_cvX10_205 (k_X1_coefficient e5) dX10_form_29 rfl rfl (by decide) (Nat.le_of_ble_eq_true rfl) ⟨Nat.le_refl _, Nat.le_refl _⟩ ?_
        exact go_lret hC (mt_rel h hE) dX10_form_32
      · have h := mt_ip h hc
        cases h
set_option maxHeartbeats 4000000 in
set_option maxRecDepth 100000 in
theorem ov_X10_form {T : mt_S}  {x0 : Nat} {x1 : Int32} {S : mt_S} {r : Int64} {S' : mt_S} (hp : mt_cp S T) (h : f_X10_form x0 x1 S = some (r, S')) : f_X10_form x0 x1 (mt_ov S T) = some (r, mt_ov S' T) ∧ mt_cp S' T := by
  unfold f_X10_form at h ⊢
  obtain ⟨hg, h⟩ := mt_gd h
  refine ov_t (ov_K hp hg) ?_
  by_cases hc : x1 < 0
  · have h := mt_ip h hc
    refine ov_t hc ?_
    cases h
  · have h := mt_in' h hc
    refine ov_f hc ?_
    by_cases hc : 2 < x1
    · have h := mt_ip h hc
      refine ov_t hc ?_
      cases h
    · have h := mt_in' h hc
      refine ov_f hc ?_
      obtain ⟨v2, S1, e2, h⟩ := mt_ob2 h
      obtain ⟨o_, hp⟩ := ov_X10_setForm hp e2
      refine ov_b2 o_ ?_
      by_cases hc : v2 = 0
      · have h := mt_ip h hc
        refine ov_t hc ?_
        cases h
      · have h := mt_in' h hc
        refine ov_f hc ?_
        obtain ⟨v3, e3, h⟩ := mt_ob h
        refine ov_b (ov_rR hp e3) ?_
        obtain ⟨v5, S4, e5, h⟩ := mt_ob2 h
        obtain ⟨o_, hp⟩ := ov_X1_coefficient hp e5
        refine ov_b2 o_ ?_
        exact ov_ret hp h
def f_X10_fitsValue (x0 : Int32) (S : mt_S) : Option (Int32 × mt_S) :=
  if x0 < (-999) then
   some (0, S)
  else
  if 999 < x0 then
   some (0, S)
  else
   some (1, S)
set_option maxHeartbeats 4000000 in
set_option maxRecDepth 100000 in
theorem m_X10_fitsValue {B : mt_B}  {x0 : Int32} {S : mt_S} {r : Int32} {S' : mt_S} (h : f_X10_fitsValue x0 S = some (r, S')) : mt_M B yX10_fitsValue cX10_fitsValue 1 (some .boolean) 1 [.int x0] S (some (.int r)) S' := by
  unfold f_X10_fitsValue at h
  refine mt_M.of (by decide) (Nat.le_of_ble_eq_true rfl) (fun E hC hE => ?_)
  refine go_iload_n hC 0 dX10_fitsValue_0 rfl rfl ?_
  refine go_sipush (v := (-999)) hC dX10_fitsValue_1 (by decide) ?_
  refine go_icmp_lt hC (tgt := 18) dX10_fitsValue_4 (by decide) (fun hc => ?_) (fun hc => ?_)
  · have h := mt_ip h hc
    refine go_iconst (v := 0) hC dX10_fitsValue_18 (by decide) ?_
    exact go_zret hC (mt_rei h hE) (Or.inl rfl) dX10_fitsValue_19
  · have h := mt_in' h hc
    refine go_iload_n hC 0 dX10_fitsValue_7 rfl rfl ?_
    refine go_sipush (v := 999) hC dX10_fitsValue_8 (by decide) ?_
    refine go_icmp_gt hC (tgt := 18) dX10_fitsValue_11 (by decide) (fun hc => ?_) (fun hc => ?_)
    · have h := mt_ip h hc
      refine go_iconst (v := 0) hC dX10_fitsValue_18 (by decide) ?_
      exact go_zret hC (mt_rei h hE) (Or.inl rfl) dX10_fitsValue_19
    · have h := mt_in' h hc
      refine go_iconst (v := 1) hC dX10_fitsValue_14 (by decide) ?_
      refine go_goto hC (tgt := 19) dX10_fitsValue_15 (by decide) ?_
      exact go_zret hC (mt_rei h hE) (Or.inr rfl) dX10_fitsValue_19
set_option maxHeartbeats 4000000 in
set_option maxRecDepth 100000 in
theorem ov_X10_fitsValue {T : mt_S}  {x0 : Int32} {S : mt_S} {r : Int32} {S' : mt_S} (hp : mt_cp S T) (h : f_X10_fitsValue x0 S = some (r, S')) : f_X10_fitsValue x0 (mt_ov S T) = some (r, mt_ov S' T) ∧ mt_cp S' T := by
  unfold f_X10_fitsValue at h ⊢
  by_cases hc : x0 < (-999)
  · have h := mt_ip h hc
    refine ov_t hc ?_
    exact ov_ret hp h
  · have h := mt_in' h hc
    refine ov_f hc ?_
    by_cases hc : 999 < x0
    · have h := mt_ip h hc
      refine ov_t hc ?_
      exact ov_ret hp h
    · have h := mt_in' h hc
      refine ov_f hc ?_
      exact ov_ret hp h
def f_X10_value (x0 : Nat) (x1 : Int32) (x2 : Int32) (S : mt_S) : Option (Int64 × mt_S) :=
  if mt_isK S x0 10 = true then
   mt_b2 (f_X10_fitsValue x1 S) fun v2 S1 =>
   if v2 = 0 then
    some ((-1000000000000000000), S1)
   else
    mt_b2 (f_X10_fitsValue x2 S1) fun v4 S3 =>
    if v4 = 0 then
     some ((-1000000000000000000), S3)
    else
     mt_b2 (f_X10_setForm x0 S3) fun v6 S5 =>
     if v6 = 0 then
      some ((-1000000000000000000), S5)
     else
      Option.bind (mt_rR S5 x0 10 8) fun v7 =>
      mt_b2 (f_X1_valueAt v7 x1.toInt64 x2.toInt64 S5) fun v9 S8 =>
      some (v9, S8)
  else none
theorem k_X10_value {x0 : Nat} {x1 : Int32} {x2 : Int32} {S : mt_S} {r : Int64} {S' : mt_S} (h : f_X10_value x0 x1 x2 S = some (r, S')) : mt_isK S x0 10 = true := by
  unfold f_X10_value at h
  exact (mt_gd h).1
set_option maxHeartbeats 4000000 in
set_option maxRecDepth 100000 in
theorem m_X10_value {B : mt_B}  {x0 : Nat} {x1 : Int32} {x2 : Int32} {S : mt_S} {r : Int64} {S' : mt_S} (h : f_X10_value x0 x1 x2 S = some (r, S')) : mt_M B yX10_value cX10_value 3 (some .long) 6 [mt_rf B x0, .int x1, .int x2] S (some (.long r)) S' := by
  unfold f_X10_value at h
  refine mt_M.of (by decide) (Nat.le_of_ble_eq_true rfl) (fun E hC hE => ?_)
  obtain ⟨hk0, h⟩ := mt_gd h
  refine go_iload_n hC 1 dX10_value_0 rfl rfl ?_
  obtain ⟨v2, S1, e2, h⟩ := mt_ob2 h
  refine go_callSi hC [.int x1] [] (m_X10_fitsValue e2) mt_csX10_209 dX10_value_1 rfl rfl (by decide) (Nat.le_of_ble_eq_true rfl) ⟨Nat.le_refl _, Nat.le_refl _⟩ ?_
  refine go_if_eq hC (tgt := 21) dX10_value_4 (by decide) (fun hc => ?_) (fun hc => ?_)
  · have h := mt_ip h hc
    refine go_ldc2 hC dX10_value_21 mt_kX10_212 ?_
    exact go_lret hC (mt_rel h hE) dX10_value_24
  · have h := mt_in' h hc
    refine go_iload_n hC 2 dX10_value_7 rfl rfl ?_
    obtain ⟨v4, S3, e4, h⟩ := mt_ob2 h
    refine go_callSi hC [.int x2] [] (m_X10_fitsValue e4) mt_csX10_209 dX10_value_8 rfl rfl (by decide) (Nat.le_of_ble_eq_true rfl) ⟨Nat.le_refl _, Nat.le_refl _⟩ ?_
    refine go_if_eq hC (tgt := 21) dX10_value_11 (by decide) (fun hc => ?_) (fun hc => ?_)
    · have h := mt_ip h hc
      refine go_ldc2 hC dX10_value_21 mt_kX10_212 ?_
      exact go_lret hC (mt_rel h hE) dX10_value_24
    · have h := mt_in' h hc
      refine go_aload_n hC 0 dX10_value_14 rfl rfl ?_
      obtain ⟨v6, S5, e6, h⟩ := mt_ob2 h
      refine go_callVi hC [] [] (m_X10_setForm e6) mt_cvX10_202 (k_X10_setForm e6) dX10_value_15 rfl rfl (by decide) (Nat.le_of_ble_eq_true rfl) ⟨Nat.le_refl _, Nat.le_refl _⟩ ?_
      refine go_if_ne hC (tgt := 25) dX10_value_18 (by decide) (fun hc => ?_) (fun hc => ?_)
      · have h := mt_in' h hc
        refine go_aload_n hC 0 dX10_value_25 rfl rfl ?_
        obtain ⟨v7, e7, h⟩ := mt_ob h
        refine go_getR hC mt_flX10_62 e7 dX10_value_26 ?_
        refine go_iload_n hC 1 dX10_value_29 rfl rfl ?_
        refine go_i2l hC dX10_value_30 ?_
        refine go_iload_n hC 2 dX10_value_31 rfl rfl ?_
        refine go_i2l hC dX10_value_32 ?_
        obtain ⟨v9, S8, e9, h⟩ := mt_ob2 h
        refine go_callVl hC [.long x1.toInt64, .long x2.toInt64] [] (m_X1_valueAt e9) mt_cvX10_214 (k_X1_valueAt e9) dX10_value_33 rfl rfl (by decide) (Nat.le_of_ble_eq_true rfl) ⟨Nat.le_refl _, Nat.le_refl _⟩ ?_
        exact go_lret hC (mt_rel h hE) dX10_value_36
      · have h := mt_ip h hc
        refine go_ldc2 hC dX10_value_21 mt_kX10_212 ?_
        exact go_lret hC (mt_rel h hE) dX10_value_24
set_option maxHeartbeats 4000000 in
set_option maxRecDepth 100000 in
theorem ov_X10_value {T : mt_S}  {x0 : Nat} {x1 : Int32} {x2 : Int32} {S : mt_S} {r : Int64} {S' : mt_S} (hp : mt_cp S T) (h : f_X10_value x0 x1 x2 S = some (r, S')) : f_X10_value x0 x1 x2 (mt_ov S T) = some (r, mt_ov S' T) ∧ mt_cp S' T := by
  unfold f_X10_value at h ⊢
  obtain ⟨hg, h⟩ := mt_gd h
  refine ov_t (ov_K hp hg) ?_
  obtain ⟨v2, S1, e2, h⟩ := mt_ob2 h
  obtain ⟨o_, hp⟩ := ov_X10_fitsValue hp e2
  refine ov_b2 o_ ?_
  by_cases hc : v2 = 0
  · have h := mt_ip h hc
    refine ov_t hc ?_
    exact ov_ret hp h
  · have h := mt_in' h hc
    refine ov_f hc ?_
    obtain ⟨v4, S3, e4, h⟩ := mt_ob2 h
    obtain ⟨o_, hp⟩ := ov_X10_fitsValue hp e4
    refine ov_b2 o_ ?_
    by_cases hc : v4 = 0
    · have h := mt_ip h hc
      refine ov_t hc ?_
      exact ov_ret hp h
    · have h := mt_in' h hc
      refine ov_f hc ?_
      obtain ⟨v6, S5, e6, h⟩ := mt_ob2 h
      obtain ⟨o_, hp⟩ := ov_X10_setForm hp e6
      refine ov_b2 o_ ?_
      by_cases hc : v6 = 0
      · have h := mt_ip h hc
        refine ov_t hc ?_
        exact ov_ret hp h
      · have h := mt_in' h hc
        refine ov_f hc ?_
        obtain ⟨v7, e7, h⟩ := mt_ob h
        refine ov_b (ov_rR hp e7) ?_
        obtain ⟨v9, S8, e9, h⟩ := mt_ob2 h
        obtain ⟨o_, hp⟩ := ov_X1_valueAt hp e9
        refine ov_b2 o_ ?_
        exact ov_ret hp h
def f_X10_round (x0 : Nat) (S : mt_S) : Option (Int32 × mt_S) :=
  if mt_isK S x0 10 = true then
   mt_b2 (f_X10_setForm x0 S) fun v2 S1 =>
   if v2 = 0 then
    some ((-1), S1)
   else
    Option.bind (mt_rR S1 x0 10 8) fun v3 =>
    Option.bind (f_X1_goRound v3 S1) fun S4 =>
    Option.bind (mt_rR S4 x0 10 8) fun v5 =>
    mt_b2 (f_X1_roundSize v5 S4) fun v7 S6 =>
    some (v7, S6)
  else none
theorem k_X10_round {x0 : Nat} {S : mt_S} {r : Int32} {S' : mt_S} (h : f_X10_round x0 S = some (r, S')) : mt_isK S x0 10 = true := by
  unfold f_X10_round at h
  exact (mt_gd h).1
set_option maxHeartbeats 4000000 in
set_option maxRecDepth 100000 in
theorem m_X10_round {B : mt_B}  {x0 : Nat} {S : mt_S} {r : Int32} {S' : mt_S} (h : f_X10_round x0 S = some (r, S')) : mt_M B yX10_round cX10_round 1 (some .int) 6 [mt_rf B x0] S (some (.int r)) S' := by
  unfold f_X10_round at h
  refine mt_M.of (by decide) (Nat.le_of_ble_eq_true rfl) (fun E hC hE => ?_)
  obtain ⟨hk0, h⟩ := mt_gd h
  refine go_aload_n hC 0 dX10_round_0 rfl rfl ?_
  obtain ⟨v2, S1, e2, h⟩ := mt_ob2 h
  refine go_callVi hC [] [] (m_X10_setForm e2) mt_cvX10_202 (k_X10_setForm e2) dX10_round_1 rfl rfl (by decide) (Nat.le_of_ble_eq_true rfl) ⟨Nat.le_refl _, Nat.le_refl _⟩ ?_
  refine go_if_ne hC (tgt := 9) dX10_round_4 (by decide) (fun hc => ?_) (fun hc => ?_)
  · have h := mt_in' h hc
    refine go_aload_n hC 0 dX10_round_9 rfl rfl ?_
    obtain ⟨v3, e3, h⟩ := mt_ob h
    refine go_getR hC mt_flX10_62 e3 dX10_round_10 ?_
    obtain ⟨S4, e4, h⟩ := mt_ob h
    refine go_callVv hC [] [] (m_X1_goRound e4) mt_cvX10_218 (k_X1_goRound e4) dX10_round_13 rfl rfl (by decide) (Nat.le_of_ble_eq_true rfl) ⟨Nat.le_refl _, Nat.le_refl _⟩ ?_
    refine go_aload_n hC 0 dX10_round_16 rfl rfl ?_
    obtain ⟨v5, e5, h⟩ := mt_ob h
    refine go_getR hC mt_flX10_62 e5 dX10_round_17 ?_
    obtain ⟨v7, S6, e7, h⟩ := mt_ob2 h
    refine go_callVi hC [] [] (m_X1_roundSize e7) mt_cvX10_221 (k_X1_roundSize e7) dX10_round_20 rfl rfl (by decide) (Nat.le_of_ble_eq_true rfl) ⟨Nat.le_refl _, Nat.le_refl _⟩ ?_
    exact go_iret hC (mt_rei h hE) dX10_round_23
  · have h := mt_ip h hc
    refine go_iconst (v := (-1)) hC dX10_round_7 (by decide) ?_
    exact go_iret hC (mt_rei h hE) dX10_round_8
set_option maxHeartbeats 4000000 in
set_option maxRecDepth 100000 in
theorem ov_X10_round {T : mt_S}  {x0 : Nat} {S : mt_S} {r : Int32} {S' : mt_S} (hp : mt_cp S T) (h : f_X10_round x0 S = some (r, S')) : f_X10_round x0 (mt_ov S T) = some (r, mt_ov S' T) ∧ mt_cp S' T := by
  unfold f_X10_round at h ⊢
  obtain ⟨hg, h⟩ := mt_gd h
  refine ov_t (ov_K hp hg) ?_
  obtain ⟨v2, S1, e2, h⟩ := mt_ob2 h
  obtain ⟨o_, hp⟩ := ov_X10_setForm hp e2
  refine ov_b2 o_ ?_
  by_cases hc : v2 = 0
  · have h := mt_ip h hc
    refine ov_t hc ?_
    exact ov_ret hp h
  · have h := mt_in' h hc
    refine ov_f hc ?_
    obtain ⟨v3, e3, h⟩ := mt_ob h
    refine ov_b (ov_rR hp e3) ?_
    obtain ⟨S4, e4, h⟩ := mt_ob h
    obtain ⟨o_, hp⟩ := ov_X1_goRound hp e4
    refine ov_b o_ ?_
    obtain ⟨v5, e5, h⟩ := mt_ob h
    refine ov_b (ov_rR hp e5) ?_
    obtain ⟨v7, S6, e7, h⟩ := mt_ob2 h
    obtain ⟨o_, hp⟩ := ov_X1_roundSize hp e7
    refine ov_b2 o_ ?_
    exact ov_ret hp h
def f_X10_least (x0 : Nat) (S : mt_S) : Option (Int64 × mt_S) :=
  if mt_isK S x0 10 = true then
   mt_b2 (f_X10_setForm x0 S) fun v2 S1 =>
   if v2 = 0 then
    some ((-1), S1)
   else
    Option.bind (mt_rR S1 x0 10 8) fun v3 =>
    Option.bind (f_X1_goRound v3 S1) fun S4 =>
    Option.bind (mt_rR S4 x0 10 8) fun v5 =>
    mt_b2 (f_X1_roundLeast v5 S4) fun v7 S6 =>
    some (v7, S6)
  else none
theorem k_X10_least {x0 : Nat} {S : mt_S} {r : Int64} {S' : mt_S} (h : f_X10_least x0 S = some (r, S')) : mt_isK S x0 10 = true := by
  unfold f_X10_least at h
  exact (mt_gd h).1
set_option maxHeartbeats 4000000 in
set_option maxRecDepth 100000 in
theorem m_X10_least {B : mt_B}  {x0 : Nat} {S : mt_S} {r : Int64} {S' : mt_S} (h : f_X10_least x0 S = some (r, S')) : mt_M B yX10_least cX10_least 1 (some .long) 6 [mt_rf B x0] S (some (.long r)) S' := by
  unfold f_X10_least at h
  refine mt_M.of (by decide) (Nat.le_of_ble_eq_true rfl) (fun E hC hE => ?_)
  obtain ⟨hk0, h⟩ := mt_gd h
  refine go_aload_n hC 0 dX10_least_0 rfl rfl ?_
  obtain ⟨v2, S1, e2, h⟩ := mt_ob2 h
  refine go_callVi hC [] [] (m_X10_setForm e2) mt_cvX10_202 (k_X10_setForm e2) dX10_least_1 rfl rfl (by decide) (Nat.le_of_ble_eq_true rfl) ⟨Nat.le_refl _, Nat.le_refl _⟩ ?_
  refine go_if_ne hC (tgt := 11) dX10_least_4 (by decide) (fun hc => ?_) (fun hc => ?_)
  · have h := mt_in' h hc
    refine go_aload_n hC 0 dX10_least_11 rfl rfl ?_
    obtain ⟨v3, e3, h⟩ := mt_ob h
    refine go_getR hC mt_flX10_62 e3 dX10_least_12 ?_
    obtain ⟨S4, e4, h⟩ := mt_ob h
    refine go_callVv hC [] [] (m_X1_goRound e4) mt_cvX10_218 (k_X1_goRound e4) dX10_least_15 rfl rfl (by decide) (Nat.le_of_ble_eq_true rfl) ⟨Nat.le_refl _, Nat.le_refl _⟩ ?_
    refine go_aload_n hC 0 dX10_least_18 rfl rfl ?_
    obtain ⟨v5, e5, h⟩ := mt_ob h
    refine go_getR hC mt_flX10_62 e5 dX10_least_19 ?_
    obtain ⟨v7, S6, e7, h⟩ := mt_ob2 h
    refine go_callVl hC [] [] (m_X1_roundLeast e7) mt_cvX10_226 (k_X1_roundLeast e7) dX10_least_22 rfl rfl (by decide) (Nat.le_of_ble_eq_true rfl) ⟨Nat.le_refl _, Nat.le_refl _⟩ ?_
    exact go_lret hC (mt_rel h hE) dX10_least_25
  · have h := mt_ip h hc
    refine go_ldc2 hC dX10_least_7 mt_kX10_224 ?_
    exact go_lret hC (mt_rel h hE) dX10_least_10
set_option maxHeartbeats 4000000 in
set_option maxRecDepth 100000 in
theorem ov_X10_least {T : mt_S}  {x0 : Nat} {S : mt_S} {r : Int64} {S' : mt_S} (hp : mt_cp S T) (h : f_X10_least x0 S = some (r, S')) : f_X10_least x0 (mt_ov S T) = some (r, mt_ov S' T) ∧ mt_cp S' T := by
  unfold f_X10_least at h ⊢
  obtain ⟨hg, h⟩ := mt_gd h
  refine ov_t (ov_K hp hg) ?_
  obtain ⟨v2, S1, e2, h⟩ := mt_ob2 h
  obtain ⟨o_, hp⟩ := ov_X10_setForm hp e2
  refine ov_b2 o_ ?_
  by_cases hc : v2 = 0
  · have h := mt_ip h hc
    refine ov_t hc ?_
    exact ov_ret hp h
  · have h := mt_in' h hc
    refine ov_f hc ?_
    obtain ⟨v3, e3, h⟩ := mt_ob h
    refine ov_b (ov_rR hp e3) ?_
    obtain ⟨S4, e4, h⟩ := mt_ob h
    obtain ⟨o_, hp⟩ := ov_X1_goRound hp e4
    refine ov_b o_ ?_
    obtain ⟨v5, e5, h⟩ := mt_ob h
    refine ov_b (ov_rR hp e5) ?_
    obtain ⟨v7, S6, e7, h⟩ := mt_ob2 h
    obtain ⟨o_, hp⟩ := ov_X1_roundLeast hp e7
    refine ov_b2 o_ ?_
    exact ov_ret hp h
def f_X10_upTo (x0 : Nat) (x1 : Int64) (S : mt_S) : Option (Int32 × mt_S) :=
  if mt_isK S x0 10 = true then
   if x1 < 1 then
    some ((-1), S)
   else
   if x1 ≤ 1000000000000 then
    Option.bind (mt_rR S x0 10 9) fun v1 =>
    mt_b2 (f_X6_countUpTo v1 x1 S) fun v3 S2 =>
    some (v3, S2)
   else
    some ((-1), S)
  else none
theorem k_X10_upTo {x0 : Nat} {x1 : Int64} {S : mt_S} {r : Int32} {S' : mt_S} (h : f_X10_upTo x0 x1 S = some (r, S')) : mt_isK S x0 10 = true := by
  unfold f_X10_upTo at h
  exact (mt_gd h).1
set_option maxHeartbeats 4000000 in
set_option maxRecDepth 100000 in
theorem m_X10_upTo {B : mt_B}  {x0 : Nat} {x1 : Int64} {S : mt_S} {r : Int32} {S' : mt_S} (h : f_X10_upTo x0 x1 S = some (r, S')) : mt_M B yX10_upTo cX10_upTo 3 (some .int) 5 [mt_rf B x0, .long x1] S (some (.int r)) S' := by
  unfold f_X10_upTo at h
  refine mt_M.of (by decide) (Nat.le_of_ble_eq_true rfl) (fun E hC hE => ?_)
  obtain ⟨hk0, h⟩ := mt_gd h
  refine go_lload_n hC 1 dX10_upTo_0 rfl rfl ?_
  refine go_lconst (v := 1) hC dX10_upTo_1 (by decide) ?_
  refine go_lcmp_lt hC (tgt := 14) dX10_upTo_2 dX10_upTo_3 (by decide) (fun hc => ?_) (fun hc => ?_)
  · have h := mt_ip h hc
    refine go_iconst (v := (-1)) hC dX10_upTo_14 (by decide) ?_
    refine go_goto hC (tgt := 26) dX10_upTo_15 (by decide) ?_
    exact go_iret hC (mt_rei h hE) dX10_upTo_26
  · have h := mt_in' h hc
    refine go_lload_n hC 1 dX10_upTo_6 rfl rfl ?_
    refine go_ldc2 hC dX10_upTo_7 mt_kX10_235 ?_
    refine go_lcmp_le hC (tgt := 18) dX10_upTo_10 dX10_upTo_11 (by decide) (fun hc => ?_) (fun hc => ?_)
    · have h := mt_ip h hc
      refine go_aload_n hC 0 dX10_upTo_18 rfl rfl ?_
      obtain ⟨v1, e1, h⟩ := mt_ob h
      refine go_getR hC mt_flX10_69 e1 dX10_upTo_19 ?_
      refine go_lload_n hC 1 dX10_upTo_22 rfl rfl ?_
      obtain ⟨v3, S2, e3, h⟩ := mt_ob2 h
      refine go_callVi hC [.long x1] [] (m_X6_countUpTo e3) mt_cvX10_237 (k_X6_countUpTo e3) dX10_upTo_23 rfl rfl (by decide) (Nat.le_of_ble_eq_true rfl) ⟨Nat.le_refl _, Nat.le_refl _⟩ ?_
      exact go_iret hC (mt_rei h hE) dX10_upTo_26
    · have h := mt_in' h hc
      refine go_iconst (v := (-1)) hC dX10_upTo_14 (by decide) ?_
      refine go_goto hC (tgt := 26) dX10_upTo_15 (by decide) ?_
      exact go_iret hC (mt_rei h hE) dX10_upTo_26
set_option maxHeartbeats 4000000 in
set_option maxRecDepth 100000 in
theorem ov_X10_upTo {T : mt_S}  {x0 : Nat} {x1 : Int64} {S : mt_S} {r : Int32} {S' : mt_S} (hp : mt_cp S T) (h : f_X10_upTo x0 x1 S = some (r, S')) : f_X10_upTo x0 x1 (mt_ov S T) = some (r, mt_ov S' T) ∧ mt_cp S' T := by
  unfold f_X10_upTo at h ⊢
  obtain ⟨hg, h⟩ := mt_gd h
  refine ov_t (ov_K hp hg) ?_
  by_cases hc : x1 < 1
  · have h := mt_ip h hc
    refine ov_t hc ?_
    exact ov_ret hp h
  · have h := mt_in' h hc
    refine ov_f hc ?_
    by_cases hc : x1 ≤ 1000000000000
    · have h := mt_ip h hc
      refine ov_t hc ?_
      obtain ⟨v1, e1, h⟩ := mt_ob h
      refine ov_b (ov_rR hp e1) ?_
      obtain ⟨v3, S2, e3, h⟩ := mt_ob2 h
      obtain ⟨o_, hp⟩ := ov_X6_countUpTo hp e3
      refine ov_b2 o_ ?_
      exact ov_ret hp h
    · have h := mt_in' h hc
      refine ov_f hc ?_
      exact ov_ret hp h
def f_X10_markov (x0 : Nat) (x1 : Int32) (S : mt_S) : Option (Int64 × mt_S) :=
  if mt_isK S x0 10 = true then
   Option.bind (mt_rR S x0 10 9) fun v1 =>
   mt_b2 (f_X6_numberAt v1 x1 S) fun v3 S2 =>
   some (v3, S2)
  else none
theorem k_X10_markov {x0 : Nat} {x1 : Int32} {S : mt_S} {r : Int64} {S' : mt_S} (h : f_X10_markov x0 x1 S = some (r, S')) : mt_isK S x0 10 = true := by
  unfold f_X10_markov at h
  exact (mt_gd h).1
set_option maxHeartbeats 4000000 in
set_option maxRecDepth 100000 in
theorem m_X10_markov {B : mt_B}  {x0 : Nat} {x1 : Int32} {S : mt_S} {r : Int64} {S' : mt_S} (h : f_X10_markov x0 x1 S = some (r, S')) : mt_M B yX10_markov cX10_markov 2 (some .long) 5 [mt_rf B x0, .int x1] S (some (.long r)) S' := by
  unfold f_X10_markov at h
  refine mt_M.of (by decide) (Nat.le_of_ble_eq_true rfl) (fun E hC hE => ?_)
  obtain ⟨hk0, h⟩ := mt_gd h
  refine go_aload_n hC 0 dX10_markov_0 rfl rfl ?_
  obtain ⟨v1, e1, h⟩ := mt_ob h
  refine go_getR hC mt_flX10_69 e1 dX10_markov_1 ?_
  refine go_iload_n hC 1 dX10_markov_4 rfl rfl ?_
  obtain ⟨v3, S2, e3, h⟩ := mt_ob2 h
  refine go_callVl hC [.int x1] [] (m_X6_numberAt e3) mt_cvX10_241 (k_X6_numberAt e3) dX10_markov_5 rfl rfl (by decide) (Nat.le_of_ble_eq_true rfl) ⟨Nat.le_refl _, Nat.le_refl _⟩ ?_
  exact go_lret hC (mt_rel h hE) dX10_markov_8
set_option maxHeartbeats 4000000 in
set_option maxRecDepth 100000 in
theorem ov_X10_markov {T : mt_S}  {x0 : Nat} {x1 : Int32} {S : mt_S} {r : Int64} {S' : mt_S} (hp : mt_cp S T) (h : f_X10_markov x0 x1 S = some (r, S')) : f_X10_markov x0 x1 (mt_ov S T) = some (r, mt_ov S' T) ∧ mt_cp S' T := by
  unfold f_X10_markov at h ⊢
  obtain ⟨hg, h⟩ := mt_gd h
  refine ov_t (ov_K hp hg) ?_
  obtain ⟨v1, e1, h⟩ := mt_ob h
  refine ov_b (ov_rR hp e1) ?_
  obtain ⟨v3, S2, e3, h⟩ := mt_ob2 h
  obtain ⟨o_, hp⟩ := ov_X6_numberAt hp e3
  refine ov_b2 o_ ?_
  exact ov_ret hp h
def f_X10_rank (x0 : Nat) (x1 : Int64) (S : mt_S) : Option (Int32 × mt_S) :=
  if mt_isK S x0 10 = true then
   Option.bind (mt_rR S x0 10 9) fun v1 =>
   mt_b2 (f_X6_rankOf v1 x1 S) fun v3 S2 =>
   some (v3, S2)
  else none
theorem k_X10_rank {x0 : Nat} {x1 : Int64} {S : mt_S} {r : Int32} {S' : mt_S} (h : f_X10_rank x0 x1 S = some (r, S')) : mt_isK S x0 10 = true := by
  unfold f_X10_rank at h
  exact (mt_gd h).1
set_option maxHeartbeats 4000000 in
set_option maxRecDepth 100000 in
theorem m_X10_rank {B : mt_B}  {x0 : Nat} {x1 : Int64} {S : mt_S} {r : Int32} {S' : mt_S} (h : f_X10_rank x0 x1 S = some (r, S')) : mt_M B yX10_rank cX10_rank 3 (some .int) 6 [mt_rf B x0, .long x1] S (some (.int r)) S' := by
  unfold f_X10_rank at h
  refine mt_M.of (by decide) (Nat.le_of_ble_eq_true rfl) (fun E hC hE => ?_)
  obtain ⟨hk0, h⟩ := mt_gd h
  refine go_aload_n hC 0 dX10_rank_0 rfl rfl ?_
  obtain ⟨v1, e1, h⟩ := mt_ob h
  refine go_getR hC mt_flX10_69 e1 dX10_rank_1 ?_
  refine go_lload_n hC 1 dX10_rank_4 rfl rfl ?_
  obtain ⟨v3, S2, e3, h⟩ := mt_ob2 h
  refine go_callVi hC [.long x1] [] (m_X6_rankOf e3) mt_cvX10_244 (k_X6_rankOf e3) dX10_rank_5 rfl rfl (by decide) (Nat.le_of_ble_eq_true rfl) ⟨Nat.le_refl _, Nat.le_refl _⟩ ?_
  exact go_iret hC (mt_rei h hE) dX10_rank_8
set_option maxHeartbeats 4000000 in
set_option maxRecDepth 100000 in
theorem ov_X10_rank {T : mt_S}  {x0 : Nat} {x1 : Int64} {S : mt_S} {r : Int32} {S' : mt_S} (hp : mt_cp S T) (h : f_X10_rank x0 x1 S = some (r, S')) : f_X10_rank x0 x1 (mt_ov S T) = some (r, mt_ov S' T) ∧ mt_cp S' T := by
  unfold f_X10_rank at h ⊢
  obtain ⟨hg, h⟩ := mt_gd h
  refine ov_t (ov_K hp hg) ?_
  obtain ⟨v1, e1, h⟩ := mt_ob h
  refine ov_b (ov_rR hp e1) ?_
  obtain ⟨v3, S2, e3, h⟩ := mt_ob2 h
  obtain ⟨o_, hp⟩ := ov_X6_rankOf hp e3
  refine ov_b2 o_ ?_
  exact ov_ret hp h
def f_X10_triples (x0 : Nat) (x1 : Int64) (S : mt_S) : Option (Int32 × mt_S) :=
  if mt_isK S x0 10 = true then
   Option.bind (mt_rR S x0 10 9) fun v1 =>
   mt_b2 (f_X6_countGreatest v1 x1 S) fun v3 S2 =>
   if v3 = 0 then
    some ((-1), S2)
   else
    some (v3, S2)
  else none
theorem k_X10_triples {x0 : Nat} {x1 : Int64} {S : mt_S} {r : Int32} {S' : mt_S} (h : f_X10_triples x0 x1 S = some (r, S')) : mt_isK S x0 10 = true := by
  unfold f_X10_triples at h
  exact (mt_gd h).1
set_option maxHeartbeats 4000000 in
set_option maxRecDepth 100000 in
theorem m_X10_triples {B : mt_B}  {x0 : Nat} {x1 : Int64} {S : mt_S} {r : Int32} {S' : mt_S} (h : f_X10_triples x0 x1 S = some (r, S')) : mt_M B yX10_triples cX10_triples 4 (some .int) 5 [mt_rf B x0, .long x1] S (some (.int r)) S' := by
  unfold f_X10_triples at h
  refine mt_M.of (by decide) (Nat.le_of_ble_eq_true rfl) (fun E hC hE => ?_)
  obtain ⟨hk0, h⟩ := mt_gd h
  refine go_aload_n hC 0 dX10_triples_0 rfl rfl ?_
  obtain ⟨v1, e1, h⟩ := mt_ob h
  refine go_getR hC mt_flX10_69 e1 dX10_triples_1 ?_
  refine go_lload_n hC 1 dX10_triples_4 rfl rfl ?_
  obtain ⟨v3, S2, e3, h⟩ := mt_ob2 h
  refine go_callVi hC [.long x1] [] (m_X6_countGreatest e3) mt_cvX10_247 (k_X6_countGreatest e3) dX10_triples_5 rfl rfl (by decide) (Nat.le_of_ble_eq_true rfl) ⟨Nat.le_refl _, Nat.le_refl _⟩ ?_
  refine go_istore_n hC [1, 2, 0] (lv1 := [(0, mt_rf B x0), (1, .long x1), (3, .int v3)]) dX10_triples_8 rfl (by decide) rfl ?_
  refine go_iload_n hC 2 dX10_triples_9 rfl rfl ?_
  refine go_if_ne hC (tgt := 17) dX10_triples_10 (by decide) (fun hc => ?_) (fun hc => ?_)
  · have h := mt_in' h hc
    refine go_iload_n hC 2 dX10_triples_17 rfl rfl ?_
    exact go_iret hC (mt_rei h hE) dX10_triples_18
  · have h := mt_ip h hc
    refine go_iconst (v := (-1)) hC dX10_triples_13 (by decide) ?_
    refine go_goto hC (tgt := 18) dX10_triples_14 (by decide) ?_
    exact go_iret hC (mt_rei h hE) dX10_triples_18
set_option maxHeartbeats 4000000 in
set_option maxRecDepth 100000 in
theorem ov_X10_triples {T : mt_S}  {x0 : Nat} {x1 : Int64} {S : mt_S} {r : Int32} {S' : mt_S} (hp : mt_cp S T) (h : f_X10_triples x0 x1 S = some (r, S')) : f_X10_triples x0 x1 (mt_ov S T) = some (r, mt_ov S' T) ∧ mt_cp S' T := by
  unfold f_X10_triples at h ⊢
  obtain ⟨hg, h⟩ := mt_gd h
  refine ov_t (ov_K hp hg) ?_
  obtain ⟨v1, e1, h⟩ := mt_ob h
  refine ov_b (ov_rR hp e1) ?_
  obtain ⟨v3, S2, e3, h⟩ := mt_ob2 h
  obtain ⟨o_, hp⟩ := ov_X6_countGreatest hp e3
  refine ov_b2 o_ ?_
  by_cases hc : v3 = 0
  · have h := mt_ip h hc
    refine ov_t hc ?_
    exact ov_ret hp h
  · have h := mt_in' h hc
    refine ov_f hc ?_
    exact ov_ret hp h
def f_X10_with (x0 : Nat) (x1 : Int64) (x3 : Int32) (S : mt_S) : Option (Int64 × mt_S) :=
  if mt_isK S x0 10 = true then
   Option.bind (mt_rR S x0 10 9) fun v1 =>
   mt_b2 (f_X6_rowOf v1 x1 S) fun v3 S2 =>
   if x3 = 0 then
    Option.bind (mt_rR S2 x0 10 9) fun v4 =>
    mt_b2 (f_X6_leastAt v4 v3 S2) fun v6 S5 =>
    some (v6, S5)
   else
   if x3 = 1 then
    Option.bind (mt_rR S2 x0 10 9) fun v7 =>
    mt_b2 (f_X6_middleAt v7 v3 S2) fun v9 S8 =>
    some (v9, S8)
   else
   if x3 = 2 then
    Option.bind (mt_rR S2 x0 10 9) fun v10 =>
    mt_b2 (f_X6_stepsDownAt v10 v3 S2) fun v12 S11 =>
    some (v12.toInt64, S11)
   else
    some ((-1), S2)
  else none
theorem k_X10_with {x0 : Nat} {x1 : Int64} {x3 : Int32} {S : mt_S} {r : Int64} {S' : mt_S} (h : f_X10_with x0 x1 x3 S = some (r, S')) : mt_isK S x0 10 = true := by
  unfold f_X10_with at h
  exact (mt_gd h).1
set_option maxHeartbeats 4000000 in
set_option maxRecDepth 100000 in
theorem m_X10_with {B : mt_B}  {x0 : Nat} {x1 : Int64} {x3 : Int32} {S : mt_S} {r : Int64} {S' : mt_S} (h : f_X10_with x0 x1 x3 S = some (r, S')) : mt_M B yX10_with cX10_with 5 (some .long) 5 [mt_rf B x0, .long x1, .int x3] S (some (.long r)) S' := by
  unfold f_X10_with at h
  refine mt_M.of (by decide) (Nat.le_of_ble_eq_true rfl) (fun E hC hE => ?_)
  obtain ⟨hk0, h⟩ := mt_gd h
  refine go_aload_n hC 0 dX10_with_0 rfl rfl ?_
  obtain ⟨v1, e1, h⟩ := mt_ob h
  refine go_getR hC mt_flX10_69 e1 dX10_with_1 ?_
  refine go_lload_n hC 1 dX10_with_4 rfl rfl ?_
  obtain ⟨v3, S2, e3, h⟩ := mt_ob2 h
  refine go_callVi hC [.long x1] [] (m_X6_rowOf e3) mt_cvX10_250 (k_X6_rowOf e3) dX10_with_5 rfl rfl (by decide) (Nat.le_of_ble_eq_true rfl) ⟨Nat.le_refl _, Nat.le_refl _⟩ ?_
  refine go_istore hC [1, 2, 3, 0] (lv1 := [(0, mt_rf B x0), (1, .long x1), (3, .int x3), (4, .int v3)]) dX10_with_8 (by decide) rfl ?_
  refine go_iload_n hC 2 dX10_with_10 rfl rfl ?_
  by_cases hc0 : x3 = 0
  · have h := mt_ip h hc0
    refine go_tabIn hC (v := 0) (off := 25) (tgt := 36) dX10_with_11 hc0 (by decide) (by decide) (by decide +kernel) (by decide) ?_
    refine go_aload_n hC 0 dX10_with_36 rfl rfl ?_
    obtain ⟨v4, e4, h⟩ := mt_ob h
    refine go_getR hC mt_flX10_69 e4 dX10_with_37 ?_
    refine go_iload hC 3 dX10_with_40 rfl ?_
    obtain ⟨v6, S5, e6, h⟩ := mt_ob2 h
    refine go_callVl hC [.int v3] [] (m_X6_leastAt e6) mt_cvX10_253 (k_X6_leastAt e6) dX10_with_42 rfl rfl (by decide) (Nat.le_of_ble_eq_true rfl) ⟨Nat.le_refl _, Nat.le_refl _⟩ ?_
    exact go_lret hC (mt_rel h hE) dX10_with_45
  · have h := mt_in' h hc0
    by_cases hc1 : x3 = 1
    · have h := mt_ip h hc1
      refine go_tabIn hC (v := 1) (off := 35) (tgt := 46) dX10_with_11 hc1 (by decide) (by decide) (by decide +kernel) (by decide) ?_
      refine go_aload_n hC 0 dX10_with_46 rfl rfl ?_
      obtain ⟨v7, e7, h⟩ := mt_ob h
      refine go_getR hC mt_flX10_69 e7 dX10_with_47 ?_
      refine go_iload hC 3 dX10_with_50 rfl ?_
      obtain ⟨v9, S8, e9, h⟩ := mt_ob2 h
      refine go_callVl hC [.int v3] [] (m_X6_middleAt e9) mt_cvX10_256 (k_X6_middleAt e9) dX10_with_52 rfl rfl (by decide) (Nat.le_of_ble_eq_true rfl) ⟨Nat.le_refl _, Nat.le_refl _⟩ ?_
      exact go_lret hC (mt_rel h hE) dX10_with_55
    · have h := mt_in' h hc1
      by_cases hc2 : x3 = 2
      · have h := mt_ip h hc2
        refine go_tabIn hC (v := 2) (off := 45) (tgt := 56) dX10_with_11 hc2 (by decide) (by decide) (by decide +kernel) (by decide) ?_
        refine go_aload_n hC 0 dX10_with_56 rfl rfl ?_
        obtain ⟨v10, e10, h⟩ := mt_ob h
        refine go_getR hC mt_flX10_69 e10 dX10_with_57 ?_
        refine go_iload hC 3 dX10_with_60 rfl ?_
        obtain ⟨v12, S11, e12, h⟩ := mt_ob2 h
        refine go_callVi hC [.int v3] [] (m_X6_stepsDownAt e12) mt_cvX10_259 (k_X6_stepsDownAt e12) dX10_with_62 rfl rfl (by decide) (Nat.le_of_ble_eq_true rfl) ⟨Nat.le_refl _, Nat.le_refl _⟩ ?_
        refine go_i2l hC dX10_with_65 ?_
        exact go_lret hC (mt_rel h hE) dX10_with_66
      · have h := mt_in' h hc2
        have t0 := lv_neT hc0 (a := 0) rfl
        have t1 := lv_neT hc1 (a := 1) rfl
        have t2 := lv_neT hc2 (a := 2) rfl
        refine go_tabOut hC (tgt := 67) dX10_with_11 (by omega) (by decide) ?_
        refine go_ldc2 hC dX10_with_67 mt_kX10_224 ?_
        exact go_lret hC (mt_rel h hE) dX10_with_70
set_option maxHeartbeats 4000000 in
set_option maxRecDepth 100000 in
theorem ov_X10_with {T : mt_S}  {x0 : Nat} {x1 : Int64} {x3 : Int32} {S : mt_S} {r : Int64} {S' : mt_S} (hp : mt_cp S T) (h : f_X10_with x0 x1 x3 S = some (r, S')) : f_X10_with x0 x1 x3 (mt_ov S T) = some (r, mt_ov S' T) ∧ mt_cp S' T := by
  unfold f_X10_with at h ⊢
  obtain ⟨hg, h⟩ := mt_gd h
  refine ov_t (ov_K hp hg) ?_
  obtain ⟨v1, e1, h⟩ := mt_ob h
  refine ov_b (ov_rR hp e1) ?_
  obtain ⟨v3, S2, e3, h⟩ := mt_ob2 h
  obtain ⟨o_, hp⟩ := ov_X6_rowOf hp e3
  refine ov_b2 o_ ?_
  by_cases hc : x3 = 0
  · have h := mt_ip h hc
    refine ov_t hc ?_
    obtain ⟨v4, e4, h⟩ := mt_ob h
    refine ov_b (ov_rR hp e4) ?_
    obtain ⟨v6, S5, e6, h⟩ := mt_ob2 h
    obtain ⟨o_, hp⟩ := ov_X6_leastAt hp e6
    refine ov_b2 o_ ?_
    exact ov_ret hp h
  · have h := mt_in' h hc
    refine ov_f hc ?_
    by_cases hc : x3 = 1
    · have h := mt_ip h hc
      refine ov_t hc ?_
      obtain ⟨v7, e7, h⟩ := mt_ob h
      refine ov_b (ov_rR hp e7) ?_
      obtain ⟨v9, S8, e9, h⟩ := mt_ob2 h
      obtain ⟨o_, hp⟩ := ov_X6_middleAt hp e9
      refine ov_b2 o_ ?_
      exact ov_ret hp h
    · have h := mt_in' h hc
      refine ov_f hc ?_
      by_cases hc : x3 = 2
      · have h := mt_ip h hc
        refine ov_t hc ?_
        obtain ⟨v10, e10, h⟩ := mt_ob h
        refine ov_b (ov_rR hp e10) ?_
        obtain ⟨v12, S11, e12, h⟩ := mt_ob2 h
        obtain ⟨o_, hp⟩ := ov_X6_stepsDownAt hp e12
        refine ov_b2 o_ ?_
        exact ov_ret hp h
      · have h := mt_in' h hc
        refine ov_f hc ?_
        exact ov_ret hp h
def f_X10_bitsFromEight (x0 : UInt32) (S : mt_S) : Option (Int32 × mt_S) :=
  if (FP.fsub x0 1090519040) &&& 0x7fffffff ≤ 0x7f800000 then
   if (FP.fmul (FP.fsub x0 1090519040) 1233125376) &&& 0x7fffffff ≤ 0x7f800000 then
    some (1090519040 + (FP.f2i (FP.fmul (FP.fsub x0 1090519040) 1233125376)), S)
   else none
  else none
set_option maxHeartbeats 4000000 in
set_option maxRecDepth 100000 in
theorem m_X10_bitsFromEight {B : mt_B}  {x0 : UInt32} {S : mt_S} {r : Int32} {S' : mt_S} (h : f_X10_bitsFromEight x0 S = some (r, S')) : mt_M B yX10_bitsFromEight cX10_bitsFromEight 1 (some .int) 1 [.float x0] S (some (.int r)) S' := by
  unfold f_X10_bitsFromEight at h
  refine mt_M.of (by decide) (Nat.le_of_ble_eq_true rfl) (fun E hC hE => ?_)
  refine go_ldcw hC dX10_bitsFromEight_0 mt_kX10_269 ?_
  refine go_fload_n hC 0 dX10_bitsFromEight_3 rfl rfl ?_
  refine go_ldcwf hC dX10_bitsFromEight_4 mt_kX10_270 ?_
  obtain ⟨g2, h⟩ := mt_gd h
  refine go_fsub hC dX10_bitsFromEight_7 g2 ?_
  refine go_ldcwf hC dX10_bitsFromEight_8 mt_kX10_271 ?_
  obtain ⟨g1, h⟩ := mt_gd h
  refine go_fmul hC dX10_bitsFromEight_11 g1 ?_
  refine go_f2i hC dX10_bitsFromEight_12 ?_
  refine go_iadd hC dX10_bitsFromEight_13 ?_
  exact go_iret hC (mt_rei h hE) dX10_bitsFromEight_14
set_option maxHeartbeats 4000000 in
set_option maxRecDepth 100000 in
theorem ov_X10_bitsFromEight {T : mt_S}  {x0 : UInt32} {S : mt_S} {r : Int32} {S' : mt_S} (hp : mt_cp S T) (h : f_X10_bitsFromEight x0 S = some (r, S')) : f_X10_bitsFromEight x0 (mt_ov S T) = some (r, mt_ov S' T) ∧ mt_cp S' T := by
  unfold f_X10_bitsFromEight at h ⊢
  obtain ⟨hg, h⟩ := mt_gd h
  refine ov_t hg ?_
  obtain ⟨hg, h⟩ := mt_gd h
  refine ov_t hg ?_
  exact ov_ret hp h
def f_X10_spread (x0 : Nat) (S : mt_S) : Option (Int32 × mt_S) :=
  if mt_isK S x0 10 = true then
   mt_b2 (f_X10_numberHere x0 S) fun v2 S1 =>
   if (FP.fmul (FP.l2f v2) (FP.l2f v2)) &&& 0x7fffffff ≤ 0x7f800000 then
    if (FP.fdiv 1082130432 (FP.fmul (FP.l2f v2) (FP.l2f v2))) &&& 0x7fffffff ≤ 0x7f800000 then
     if (FP.fsub 1091567616 (FP.fdiv 1082130432 (FP.fmul (FP.l2f v2) (FP.l2f v2)))) &&& 0x7fffffff ≤ 0x7f800000 then
      mt_b2 (f_X10_bitsFromEight (FP.fsub 1091567616 (FP.fdiv 1082130432 (FP.fmul (FP.l2f v2) (FP.l2f v2)))) S1) fun v4 S3 =>
      some (v4, S3)
     else none
    else none
   else none
  else none
theorem k_X10_spread {x0 : Nat} {S : mt_S} {r : Int32} {S' : mt_S} (h : f_X10_spread x0 S = some (r, S')) : mt_isK S x0 10 = true := by
  unfold f_X10_spread at h
  exact (mt_gd h).1
set_option maxHeartbeats 4000000 in
set_option maxRecDepth 100000 in
theorem m_X10_spread {B : mt_B}  {x0 : Nat} {S : mt_S} {r : Int32} {S' : mt_S} (h : f_X10_spread x0 S = some (r, S')) : mt_M B yX10_spread cX10_spread 2 (some .int) 5 [mt_rf B x0] S (some (.int r)) S' := by
  unfold f_X10_spread at h
  refine mt_M.of (by decide) (Nat.le_of_ble_eq_true rfl) (fun E hC hE => ?_)
  obtain ⟨hk0, h⟩ := mt_gd h
  refine go_aload_n hC 0 dX10_spread_0 rfl rfl ?_
  obtain ⟨v2, S1, e2, h⟩ := mt_ob2 h
  refine go_callVl hC [] [] (m_X10_numberHere e2) mt_cvX10_185 (k_X10_numberHere e2) dX10_spread_1 rfl rfl (by decide) (Nat.le_of_ble_eq_true rfl) ⟨Nat.le_refl _, Nat.le_refl _⟩ ?_
  refine go_l2f hC dX10_spread_4 ?_
  refine go_fstore_n hC [1, 0] (lv1 := [(0, mt_rf B x0), (1, .float (FP.l2f v2))]) dX10_spread_5 rfl (by decide) rfl ?_
  refine go_ldcwf hC dX10_spread_6 mt_kX10_263 ?_
  refine go_ldcwf hC dX10_spread_9 mt_kX10_264 ?_
  refine go_fload_n hC 1 dX10_spread_12 rfl rfl ?_
  refine go_fload_n hC 1 dX10_spread_13 rfl rfl ?_
  obtain ⟨g7, h⟩ := mt_gd h
  refine go_fmul hC dX10_spread_14 g7 ?_
  obtain ⟨g6, h⟩ := mt_gd h
  refine go_fdiv hC dX10_spread_15 g6 ?_
  obtain ⟨g5, h⟩ := mt_gd h
  refine go_fsub hC dX10_spread_16 g5 ?_
  obtain ⟨v4, S3, e4, h⟩ := mt_ob2 h
  refine go_callSi hC [.float (FP.fsub 1091567616 (FP.fdiv 1082130432 (FP.fmul (FP.l2f v2) (FP.l2f v2))))] [] (m_X10_bitsFromEight e4) mt_csX10_265 dX10_spread_17 rfl rfl (by decide) (Nat.le_of_ble_eq_true rfl) ⟨Nat.le_refl _, Nat.le_refl _⟩ ?_
  exact go_iret hC (mt_rei h hE) dX10_spread_20
set_option maxHeartbeats 4000000 in
set_option maxRecDepth 100000 in
theorem ov_X10_spread {T : mt_S}  {x0 : Nat} {S : mt_S} {r : Int32} {S' : mt_S} (hp : mt_cp S T) (h : f_X10_spread x0 S = some (r, S')) : f_X10_spread x0 (mt_ov S T) = some (r, mt_ov S' T) ∧ mt_cp S' T := by
  unfold f_X10_spread at h ⊢
  obtain ⟨hg, h⟩ := mt_gd h
  refine ov_t (ov_K hp hg) ?_
  obtain ⟨v2, S1, e2, h⟩ := mt_ob2 h
  obtain ⟨o_, hp⟩ := ov_X10_numberHere hp e2
  refine ov_b2 o_ ?_
  obtain ⟨hg, h⟩ := mt_gd h
  refine ov_t hg ?_
  obtain ⟨hg, h⟩ := mt_gd h
  refine ov_t hg ?_
  obtain ⟨hg, h⟩ := mt_gd h
  refine ov_t hg ?_
  obtain ⟨v4, S3, e4, h⟩ := mt_ob2 h
  obtain ⟨o_, hp⟩ := ov_X10_bitsFromEight hp e4
  refine ov_b2 o_ ?_
  exact ov_ret hp h
def f_X10_markHere (x0 : Nat) (S : mt_S) : Option (Int32 × mt_S) :=
  if mt_isK S x0 10 = true then
   Option.bind (mt_rR S x0 10 2) fun v1 =>
   mt_b2 (f_X5_isMarked v1 S) fun v3 S2 =>
   if v3 = 0 then
    Option.bind (mt_rR S2 x0 10 2) fun v4 =>
    mt_b2 (f_X5_marks v4 S2) fun v6 S5 =>
    mt_b2 (f_X3_isFull v6 S5) fun v8 S7 =>
    if v8 = 0 then
     Option.bind (mt_rR S7 x0 10 2) fun v9 =>
     mt_b2 (f_X5_place v9 S7) fun v11 S10 =>
     Option.bind (mt_rR S10 x0 10 2) fun v12 =>
     mt_b2 (f_X5_marks v12 S10) fun v14 S13 =>
     mt_b2 (f_X10_numberHere x0 S13) fun v16 S15 =>
     mt_b2 (f_X4_p v11 S15) fun v18 S17 =>
     mt_b2 (f_X4_q v11 S17) fun v20 S19 =>
     Option.bind (f_X3_put v14 v16 v18 v20 S19) fun S21 =>
     some (1, S21)
    else
     some (0, S7)
   else
    some (0, S2)
  else none
theorem k_X10_markHere {x0 : Nat} {S : mt_S} {r : Int32} {S' : mt_S} (h : f_X10_markHere x0 S = some (r, S')) : mt_isK S x0 10 = true := by
  unfold f_X10_markHere at h
  exact (mt_gd h).1
set_option maxHeartbeats 4000000 in
set_option maxRecDepth 100000 in
theorem m_X10_markHere {B : mt_B}  {x0 : Nat} {S : mt_S} {r : Int32} {S' : mt_S} (h : f_X10_markHere x0 S = some (r, S')) : mt_M B yX10_markHere cX10_markHere 2 (some .boolean) 5 [mt_rf B x0] S (some (.int r)) S' := by
  unfold f_X10_markHere at h
  refine mt_M.of (by decide) (Nat.le_of_ble_eq_true rfl) (fun E hC hE => ?_)
  obtain ⟨hk0, h⟩ := mt_gd h
  refine go_aload_n hC 0 dX10_markHere_0 rfl rfl ?_
  obtain ⟨v1, e1, h⟩ := mt_ob h
  refine go_getR hC mt_flX10_26 e1 dX10_markHere_1 ?_
  obtain ⟨v3, S2, e3, h⟩ := mt_ob2 h
  refine go_callVi hC [] [] (m_X5_isMarked e3) mt_cvX10_272 (k_X5_isMarked e3) dX10_markHere_4 rfl rfl (by decide) (Nat.le_of_ble_eq_true rfl) ⟨Nat.le_refl _, Nat.le_refl _⟩ ?_
  refine go_if_ne hC (tgt := 23) dX10_markHere_7 (by decide) (fun hc => ?_) (fun hc => ?_)
  · have h := mt_in' h hc
    refine go_iconst (v := 0) hC dX10_markHere_23 (by decide) ?_
    exact go_zret hC (mt_rei h hE) (Or.inl rfl) dX10_markHere_24
  · have h := mt_ip h hc
    refine go_aload_n hC 0 dX10_markHere_10 rfl rfl ?_
    obtain ⟨v4, e4, h⟩ := mt_ob h
    refine go_getR hC mt_flX10_26 e4 dX10_markHere_11 ?_
    obtain ⟨v6, S5, e6, h⟩ := mt_ob2 h
    refine go_callVr hC [] [] (m_X5_marks e6) mt_cvX10_137 (k_X5_marks e6) dX10_markHere_14 rfl rfl (by decide) (Nat.le_of_ble_eq_true rfl) ⟨Nat.le_refl _, Nat.le_refl _⟩ ?_
    obtain ⟨v8, S7, e8, h⟩ := mt_ob2 h
    refine go_callVi hC [] [] (m_X3_isFull e8) mt_cvX10_301 (k_X3_isFull e8) dX10_markHere_17 rfl rfl (by decide) (Nat.le_of_ble_eq_true rfl) ⟨Nat.le_refl _, Nat.le_refl _⟩ ?_
    refine go_if_eq hC (tgt := 25) dX10_markHere_20 (by decide) (fun hc => ?_) (fun hc => ?_)
    · have h := mt_ip h hc
      refine go_aload_n hC 0 dX10_markHere_25 rfl rfl ?_
      obtain ⟨v9, e9, h⟩ := mt_ob h
      refine go_getR hC mt_flX10_26 e9 dX10_markHere_26 ?_
      obtain ⟨v11, S10, e11, h⟩ := mt_ob2 h
      refine go_callVr hC [] [] (m_X5_place e11) mt_cvX10_103 (k_X5_place e11) dX10_markHere_29 rfl rfl (by decide) (Nat.le_of_ble_eq_true rfl) ⟨Nat.le_refl _, Nat.le_refl _⟩ ?_
      refine go_astore_n hC [1, 0] (lv1 := [(0, mt_rf B x0), (1, mt_rf B v11)]) dX10_markHere_32 rfl (by decide) rfl ?_
      refine go_aload_n hC 0 dX10_markHere_33 rfl rfl ?_
      obtain ⟨v12, e12, h⟩ := mt_ob h
      refine go_getR hC mt_flX10_26 e12 dX10_markHere_34 ?_
      obtain ⟨v14, S13, e14, h⟩ := mt_ob2 h
      refine go_callVr hC [] [] (m_X5_marks e14) mt_cvX10_137 (k_X5_marks e14) dX10_markHere_37 rfl rfl (by decide) (Nat.le_of_ble_eq_true rfl) ⟨Nat.le_refl _, Nat.le_refl _⟩ ?_
      refine go_aload_n hC 0 dX10_markHere_40 rfl rfl ?_
      obtain ⟨v16, S15, e16, h⟩ := mt_ob2 h
      refine go_callVl hC [] [mt_rf B v14] (m_X10_numberHere e16) mt_cvX10_185 (k_X10_numberHere e16) dX10_markHere_41 rfl rfl (by decide) (Nat.le_of_ble_eq_true rfl) ⟨Nat.le_refl _, Nat.le_refl _⟩ ?_
      refine go_aload_n hC 1 dX10_markHere_44 rfl rfl ?_
      obtain ⟨v18, S17, e18, h⟩ := mt_ob2 h
      refine go_callVi hC [] [.long v16, mt_rf B v14] (m_X4_p e18) mt_cvX10_114 (k_X4_p e18) dX10_markHere_45 rfl rfl (by decide) (Nat.le_of_ble_eq_true rfl) ⟨Nat.le_refl _, Nat.le_refl _⟩ ?_
      refine go_aload_n hC 1 dX10_markHere_48 rfl rfl ?_
      obtain ⟨v20, S19, e20, h⟩ := mt_ob2 h
      refine go_callVi hC [] [.int v18, .long v16, mt_rf B v14] (m_X4_q e20) mt_cvX10_119 (k_X4_q e20) dX10_markHere_49 rfl rfl (by decide) (Nat.le_of_ble_eq_true rfl) ⟨Nat.le_refl _, Nat.le_refl _⟩ ?_
      obtain ⟨S21, e21, h⟩ := mt_ob h
      refine go_callVv hC [.long v16, .int v18, .int v20] [] (m_X3_put e21) mt_cvX10_304 (k_X3_put e21) dX10_markHere_52 rfl rfl (by decide) (Nat.le_of_ble_eq_true rfl) ⟨Nat.le_refl _, Nat.le_refl _⟩ ?_
      refine go_iconst (v := 1) hC dX10_markHere_55 (by decide) ?_
      exact go_zret hC (mt_rei h hE) (Or.inr rfl) dX10_markHere_56
    · have h := mt_in' h hc
      refine go_iconst (v := 0) hC dX10_markHere_23 (by decide) ?_
      exact go_zret hC (mt_rei h hE) (Or.inl rfl) dX10_markHere_24
set_option maxHeartbeats 4000000 in
set_option maxRecDepth 100000 in
theorem ov_X10_markHere {T : mt_S}  {x0 : Nat} {S : mt_S} {r : Int32} {S' : mt_S} (hp : mt_cp S T) (h : f_X10_markHere x0 S = some (r, S')) : f_X10_markHere x0 (mt_ov S T) = some (r, mt_ov S' T) ∧ mt_cp S' T := by
  unfold f_X10_markHere at h ⊢
  obtain ⟨hg, h⟩ := mt_gd h
  refine ov_t (ov_K hp hg) ?_
  obtain ⟨v1, e1, h⟩ := mt_ob h
  refine ov_b (ov_rR hp e1) ?_
  obtain ⟨v3, S2, e3, h⟩ := mt_ob2 h
  obtain ⟨o_, hp⟩ := ov_X5_isMarked hp e3
  refine ov_b2 o_ ?_
  by_cases hc : v3 = 0
  · have h := mt_ip h hc
    refine ov_t hc ?_
    obtain ⟨v4, e4, h⟩ := mt_ob h
    refine ov_b (ov_rR hp e4) ?_
    obtain ⟨v6, S5, e6, h⟩ := mt_ob2 h
    obtain ⟨o_, hp⟩ := ov_X5_marks hp e6
    refine ov_b2 o_ ?_
    obtain ⟨v8, S7, e8, h⟩ := mt_ob2 h
    obtain ⟨o_, hp⟩ := ov_X3_isFull hp e8
    refine ov_b2 o_ ?_
    by_cases hc : v8 = 0
    · have h := mt_ip h hc
      refine ov_t hc ?_
      obtain ⟨v9, e9, h⟩ := mt_ob h
      refine ov_b (ov_rR hp e9) ?_
      obtain ⟨v11, S10, e11, h⟩ := mt_ob2 h
      obtain ⟨o_, hp⟩ := ov_X5_place hp e11
      refine ov_b2 o_ ?_
      obtain ⟨v12, e12, h⟩ := mt_ob h
      refine ov_b (ov_rR hp e12) ?_
      obtain ⟨v14, S13, e14, h⟩ := mt_ob2 h
      obtain ⟨o_, hp⟩ := ov_X5_marks hp e14
      refine ov_b2 o_ ?_
      obtain ⟨v16, S15, e16, h⟩ := mt_ob2 h
      obtain ⟨o_, hp⟩ := ov_X10_numberHere hp e16
      refine ov_b2 o_ ?_
      obtain ⟨v18, S17, e18, h⟩ := mt_ob2 h
      obtain ⟨o_, hp⟩ := ov_X4_p hp e18
      refine ov_b2 o_ ?_
      obtain ⟨v20, S19, e20, h⟩ := mt_ob2 h
      obtain ⟨o_, hp⟩ := ov_X4_q hp e20
      refine ov_b2 o_ ?_
      obtain ⟨S21, e21, h⟩ := mt_ob h
      obtain ⟨o_, hp⟩ := ov_X3_put hp e21
      refine ov_b o_ ?_
      exact ov_ret hp h
    · have h := mt_in' h hc
      refine ov_f hc ?_
      exact ov_ret hp h
  · have h := mt_in' h hc
    refine ov_f hc ?_
    exact ov_ret hp h
def f_X10_mark (x0 : Nat) (S : mt_S) : Option (Int32 × mt_S) :=
  if mt_isK S x0 10 = true then
   Option.bind (mt_rR S x0 10 2) fun v1 =>
   mt_b2 (f_X5_isMarked v1 S) fun v3 S2 =>
   if v3 = 0 then
    Option.bind (mt_rR S2 x0 10 3) fun v4 =>
    Option.bind (mt_rR S2 x0 10 2) fun v5 =>
    Option.bind (f_X2_note v4 v5 S2) fun S6 =>
    mt_b2 (f_X10_markHere x0 S6) fun v8 S7 =>
    if v8 = 0 then
     some ((-1), S7)
    else
     Option.bind (mt_rR S7 x0 10 3) fun v9 =>
     Option.bind (f_X2_keep v9 S7) fun S10 =>
     some (0, S10)
   else
    some (1, S2)
  else none
theorem k_X10_mark {x0 : Nat} {S : mt_S} {r : Int32} {S' : mt_S} (h : f_X10_mark x0 S = some (r, S')) : mt_isK S x0 10 = true := by
  unfold f_X10_mark at h
  exact (mt_gd h).1
set_option maxHeartbeats 4000000 in
set_option maxRecDepth 100000 in
theorem m_X10_mark {B : mt_B}  {x0 : Nat} {S : mt_S} {r : Int32} {S' : mt_S} (h : f_X10_mark x0 S = some (r, S')) : mt_M B yX10_mark cX10_mark 1 (some .int) 6 [mt_rf B x0] S (some (.int r)) S' := by
  unfold f_X10_mark at h
  refine mt_M.of (by decide) (Nat.le_of_ble_eq_true rfl) (fun E hC hE => ?_)
  obtain ⟨hk0, h⟩ := mt_gd h
  refine go_aload_n hC 0 dX10_mark_0 rfl rfl ?_
  obtain ⟨v1, e1, h⟩ := mt_ob h
  refine go_getR hC mt_flX10_26 e1 dX10_mark_1 ?_
  obtain ⟨v3, S2, e3, h⟩ := mt_ob2 h
  refine go_callVi hC [] [] (m_X5_isMarked e3) mt_cvX10_272 (k_X5_isMarked e3) dX10_mark_4 rfl rfl (by decide) (Nat.le_of_ble_eq_true rfl) ⟨Nat.le_refl _, Nat.le_refl _⟩ ?_
  refine go_if_eq hC (tgt := 12) dX10_mark_7 (by decide) (fun hc => ?_) (fun hc => ?_)
  · have h := mt_ip h hc
    refine go_aload_n hC 0 dX10_mark_12 rfl rfl ?_
    obtain ⟨v4, e4, h⟩ := mt_ob h
    refine go_getR hC mt_flX10_33 e4 dX10_mark_13 ?_
    refine go_aload_n hC 0 dX10_mark_16 rfl rfl ?_
    obtain ⟨v5, e5, h⟩ := mt_ob h
    refine go_getR hC mt_flX10_26 e5 dX10_mark_17 ?_
    obtain ⟨S6, e6, h⟩ := mt_ob h
    refine go_callVv hC [mt_rf B v5] [] (m_X2_note e6) mt_cvX10_99 (k_X2_note e6) dX10_mark_20 rfl rfl (by decide) (Nat.le_of_ble_eq_true rfl) ⟨Nat.le_refl _, Nat.le_refl _⟩ ?_
    refine go_aload_n hC 0 dX10_mark_23 rfl rfl ?_
    obtain ⟨v8, S7, e8, h⟩ := mt_ob2 h
    refine go_callVi hC [] [] (m_X10_markHere e8) mt_cvX10_275 (k_X10_markHere e8) dX10_mark_24 rfl rfl (by decide) (Nat.le_of_ble_eq_true rfl) ⟨Nat.le_refl _, Nat.le_refl _⟩ ?_
    refine go_if_ne hC (tgt := 32) dX10_mark_27 (by decide) (fun hc => ?_) (fun hc => ?_)
    · have h := mt_in' h hc
      refine go_aload_n hC 0 dX10_mark_32 rfl rfl ?_
      obtain ⟨v9, e9, h⟩ := mt_ob h
      refine go_getR hC mt_flX10_33 e9 dX10_mark_33 ?_
      obtain ⟨S10, e10, h⟩ := mt_ob h
      refine go_callVv hC [] [] (m_X2_keep e10) mt_cvX10_111 (k_X2_keep e10) dX10_mark_36 rfl rfl (by decide) (Nat.le_of_ble_eq_true rfl) ⟨Nat.le_refl _, Nat.le_refl _⟩ ?_
      refine go_iconst (v := 0) hC dX10_mark_39 (by decide) ?_
      exact go_iret hC (mt_rei h hE) dX10_mark_40
    · have h := mt_ip h hc
      refine go_iconst (v := (-1)) hC dX10_mark_30 (by decide) ?_
      exact go_iret hC (mt_rei h hE) dX10_mark_31
  · have h := mt_in' h hc
    refine go_iconst (v := 1) hC dX10_mark_10 (by decide) ?_
    exact go_iret hC (mt_rei h hE) dX10_mark_11
set_option maxHeartbeats 4000000 in
set_option maxRecDepth 100000 in
theorem ov_X10_mark {T : mt_S}  {x0 : Nat} {S : mt_S} {r : Int32} {S' : mt_S} (hp : mt_cp S T) (h : f_X10_mark x0 S = some (r, S')) : f_X10_mark x0 (mt_ov S T) = some (r, mt_ov S' T) ∧ mt_cp S' T := by
  unfold f_X10_mark at h ⊢
  obtain ⟨hg, h⟩ := mt_gd h
  refine ov_t (ov_K hp hg) ?_
  obtain ⟨v1, e1, h⟩ := mt_ob h
  refine ov_b (ov_rR hp e1) ?_
  obtain ⟨v3, S2, e3, h⟩ := mt_ob2 h
  obtain ⟨o_, hp⟩ := ov_X5_isMarked hp e3
  refine ov_b2 o_ ?_
  by_cases hc : v3 = 0
  · have h := mt_ip h hc
    refine ov_t hc ?_
    obtain ⟨v4, e4, h⟩ := mt_ob h
    refine ov_b (ov_rR hp e4) ?_
    obtain ⟨v5, e5, h⟩ := mt_ob h
    refine ov_b (ov_rR hp e5) ?_
    obtain ⟨S6, e6, h⟩ := mt_ob h
    obtain ⟨o_, hp⟩ := ov_X2_note hp e6
    refine ov_b o_ ?_
    obtain ⟨v8, S7, e8, h⟩ := mt_ob2 h
    obtain ⟨o_, hp⟩ := ov_X10_markHere hp e8
    refine ov_b2 o_ ?_
    by_cases hc : v8 = 0
    · have h := mt_ip h hc
      refine ov_t hc ?_
      exact ov_ret hp h
    · have h := mt_in' h hc
      refine ov_f hc ?_
      obtain ⟨v9, e9, h⟩ := mt_ob h
      refine ov_b (ov_rR hp e9) ?_
      obtain ⟨S10, e10, h⟩ := mt_ob h
      obtain ⟨o_, hp⟩ := ov_X2_keep hp e10
      refine ov_b o_ ?_
      exact ov_ret hp h
  · have h := mt_in' h hc
    refine ov_f hc ?_
    exact ov_ret hp h
def f_X10_unmark (x0 : Nat) (S : mt_S) : Option (Int32 × mt_S) :=
  if mt_isK S x0 10 = true then
   Option.bind (mt_rR S x0 10 2) fun v1 =>
   mt_b2 (f_X5_marks v1 S) fun v3 S2 =>
   Option.bind (mt_rR S2 x0 10 2) fun v4 =>
   mt_b2 (f_X5_place v4 S2) fun v6 S5 =>
   mt_b2 (f_X4_p v6 S5) fun v8 S7 =>
   Option.bind (mt_rR S7 x0 10 2) fun v9 =>
   mt_b2 (f_X5_place v9 S7) fun v11 S10 =>
   mt_b2 (f_X4_q v11 S10) fun v13 S12 =>
   mt_b2 (f_X3_indexOf v3 v8 v13 S12) fun v15 S14 =>
   if v15 = (-1) then
    some (1, S14)
   else
    Option.bind (mt_rR S14 x0 10 3) fun v16 =>
    Option.bind (mt_rR S14 x0 10 2) fun v17 =>
    Option.bind (f_X2_note v16 v17 S14) fun S18 =>
    Option.bind (mt_rR S18 x0 10 2) fun v19 =>
    mt_b2 (f_X5_marks v19 S18) fun v21 S20 =>
    Option.bind (f_X3_drop v21 v15 S20) fun S22 =>
    Option.bind (mt_rR S22 x0 10 3) fun v23 =>
    Option.bind (f_X2_keep v23 S22) fun S24 =>
    some (0, S24)
  else none
theorem k_X10_unmark {x0 : Nat} {S : mt_S} {r : Int32} {S' : mt_S} (h : f_X10_unmark x0 S = some (r, S')) : mt_isK S x0 10 = true := by
  unfold f_X10_unmark at h
  exact (mt_gd h).1
set_option maxHeartbeats 4000000 in
set_option maxRecDepth 100000 in
theorem m_X10_unmark {B : mt_B}  {x0 : Nat} {S : mt_S} {r : Int32} {S' : mt_S} (h : f_X10_unmark x0 S = some (r, S')) : mt_M B yX10_unmark cX10_unmark 2 (some .int) 5 [mt_rf B x0] S (some (.int r)) S' := by
  unfold f_X10_unmark at h
  refine mt_M.of (by decide) (Nat.le_of_ble_eq_true rfl) (fun E hC hE => ?_)
  obtain ⟨hk0, h⟩ := mt_gd h
  refine go_aload_n hC 0 dX10_unmark_0 rfl rfl ?_
  obtain ⟨v1, e1, h⟩ := mt_ob h
  refine go_getR hC mt_flX10_26 e1 dX10_unmark_1 ?_
  obtain ⟨v3, S2, e3, h⟩ := mt_ob2 h
  refine go_callVr hC [] [] (m_X5_marks e3) mt_cvX10_137 (k_X5_marks e3) dX10_unmark_4 rfl rfl (by decide) (Nat.le_of_ble_eq_true rfl) ⟨Nat.le_refl _, Nat.le_refl _⟩ ?_
  refine go_aload_n hC 0 dX10_unmark_7 rfl rfl ?_
  obtain ⟨v4, e4, h⟩ := mt_ob h
  refine go_getR hC mt_flX10_26 e4 dX10_unmark_8 ?_
  obtain ⟨v6, S5, e6, h⟩ := mt_ob2 h
  refine go_callVr hC [] [mt_rf B v3] (m_X5_place e6) mt_cvX10_103 (k_X5_place e6) dX10_unmark_11 rfl rfl (by decide) (Nat.le_of_ble_eq_true rfl) ⟨Nat.le_refl _, Nat.le_refl _⟩ ?_
  obtain ⟨v8, S7, e8, h⟩ := mt_ob2 h
  refine go_callVi hC [] [mt_rf B v3] (m_X4_p e8) mt_cvX10_114 (k_X4_p e8) dX10_unmark_14 rfl rfl (by decide) (Nat.le_of_ble_eq_true rfl) ⟨Nat.le_refl _, Nat.le_refl _⟩ ?_
  refine go_aload_n hC 0 dX10_unmark_17 rfl rfl ?_
  obtain ⟨v9, e9, h⟩ := mt_ob h
  refine go_getR hC mt_flX10_26 e9 dX10_unmark_18 ?_
  obtain ⟨v11, S10, e11, h⟩ := mt_ob2 h
  refine go_callVr hC [] [.int v8, mt_rf B v3] (m_X5_place e11) mt_cvX10_103 (k_X5_place e11) dX10_unmark_21 rfl rfl (by decide) (Nat.le_of_ble_eq_true rfl) ⟨Nat.le_refl _, Nat.le_refl _⟩ ?_
  obtain ⟨v13, S12, e13, h⟩ := mt_ob2 h
  refine go_callVi hC [] [.int v8, mt_rf B v3] (m_X4_q e13) mt_cvX10_119 (k_X4_q e13) dX10_unmark_24 rfl rfl (by decide) (Nat.le_of_ble_eq_true rfl) ⟨Nat.le_refl _, Nat.le_refl _⟩ ?_
  obtain ⟨v15, S14, e15, h⟩ := mt_ob2 h
  refine go_callVi hC [.int v8, .int v13] [] (m_X3_indexOf e15) mt_cvX10_278 (k_X3_indexOf e15) dX10_unmark_27 rfl rfl (by decide) (Nat.le_of_ble_eq_true rfl) ⟨Nat.le_refl _, Nat.le_refl _⟩ ?_
  refine go_istore_n hC [1, 0] (lv1 := [(0, mt_rf B x0), (1, .int v15)]) dX10_unmark_30 rfl (by decide) rfl ?_
  refine go_iload_n hC 1 dX10_unmark_31 rfl rfl ?_
  refine go_iconst (v := (-1)) hC dX10_unmark_32 (by decide) ?_
  refine go_icmp_ne hC (tgt := 38) dX10_unmark_33 (by decide) (fun hc => ?_) (fun hc => ?_)
  · have h := mt_in' h hc
    refine go_aload_n hC 0 dX10_unmark_38 rfl rfl ?_
    obtain ⟨v16, e16, h⟩ := mt_ob h
    refine go_getR hC mt_flX10_33 e16 dX10_unmark_39 ?_
    refine go_aload_n hC 0 dX10_unmark_42 rfl rfl ?_
    obtain ⟨v17, e17, h⟩ := mt_ob h
    refine go_getR hC mt_flX10_26 e17 dX10_unmark_43 ?_
    obtain ⟨S18, e18, h⟩ := mt_ob h
    refine go_callVv hC [mt_rf B v17] [] (m_X2_note e18) mt_cvX10_99 (k_X2_note e18) dX10_unmark_46 rfl rfl (by decide) (Nat.le_of_ble_eq_true rfl) ⟨Nat.le_refl _, Nat.le_refl _⟩ ?_
    refine go_aload_n hC 0 dX10_unmark_49 rfl rfl ?_
    obtain ⟨v19, e19, h⟩ := mt_ob h
    refine go_getR hC mt_flX10_26 e19 dX10_unmark_50 ?_
    obtain ⟨v21, S20, e21, h⟩ := mt_ob2 h
    refine go_callVr hC [] [] (m_X5_marks e21) mt_cvX10_137 (k_X5_marks e21) dX10_unmark_53 rfl rfl (by decide) (Nat.le_of_ble_eq_true rfl) ⟨Nat.le_refl _, Nat.le_refl _⟩ ?_
    refine go_iload_n hC 1 dX10_unmark_56 rfl rfl ?_
    obtain ⟨S22, e22, h⟩ := mt_ob h
    refine go_callVv hC [.int v15] [] (m_X3_drop e22) mt_cvX10_281 (k_X3_drop e22) dX10_unmark_57 rfl rfl (by decide) (Nat.le_of_ble_eq_true rfl) ⟨Nat.le_refl _, Nat.le_refl _⟩ ?_
    refine go_aload_n hC 0 dX10_unmark_60 rfl rfl ?_
    obtain ⟨v23, e23, h⟩ := mt_ob h
    refine go_getR hC mt_flX10_33 e23 dX10_unmark_61 ?_
    obtain ⟨S24, e24, h⟩ := mt_ob h
    refine go_callVv hC [] [] (m_X2_keep e24) mt_cvX10_111 (k_X2_keep e24) dX10_unmark_64 rfl rfl (by decide) (Nat.le_of_ble_eq_true rfl) ⟨Nat.le_refl _, Nat.le_refl _⟩ ?_
    refine go_iconst (v := 0) hC dX10_unmark_67 (by decide) ?_
    exact go_iret hC (mt_rei h hE) dX10_unmark_68
  · have h := mt_ip h hc
    refine go_iconst (v := 1) hC dX10_unmark_36 (by decide) ?_
    exact go_iret hC (mt_rei h hE) dX10_unmark_37
set_option maxHeartbeats 4000000 in
set_option maxRecDepth 100000 in
theorem ov_X10_unmark {T : mt_S}  {x0 : Nat} {S : mt_S} {r : Int32} {S' : mt_S} (hp : mt_cp S T) (h : f_X10_unmark x0 S = some (r, S')) : f_X10_unmark x0 (mt_ov S T) = some (r, mt_ov S' T) ∧ mt_cp S' T := by
  unfold f_X10_unmark at h ⊢
  obtain ⟨hg, h⟩ := mt_gd h
  refine ov_t (ov_K hp hg) ?_
  obtain ⟨v1, e1, h⟩ := mt_ob h
  refine ov_b (ov_rR hp e1) ?_
  obtain ⟨v3, S2, e3, h⟩ := mt_ob2 h
  obtain ⟨o_, hp⟩ := ov_X5_marks hp e3
  refine ov_b2 o_ ?_
  obtain ⟨v4, e4, h⟩ := mt_ob h
  refine ov_b (ov_rR hp e4) ?_
  obtain ⟨v6, S5, e6, h⟩ := mt_ob2 h
  obtain ⟨o_, hp⟩ := ov_X5_place hp e6
  refine ov_b2 o_ ?_
  obtain ⟨v8, S7, e8, h⟩ := mt_ob2 h
  obtain ⟨o_, hp⟩ := ov_X4_p hp e8
  refine ov_b2 o_ ?_
  obtain ⟨v9, e9, h⟩ := mt_ob h
  refine ov_b (ov_rR hp e9) ?_
  obtain ⟨v11, S10, e11, h⟩ := mt_ob2 h
  obtain ⟨o_, hp⟩ := ov_X5_place hp e11
  refine ov_b2 o_ ?_
  obtain ⟨v13, S12, e13, h⟩ := mt_ob2 h
  obtain ⟨o_, hp⟩ := ov_X4_q hp e13
  refine ov_b2 o_ ?_
  obtain ⟨v15, S14, e15, h⟩ := mt_ob2 h
  obtain ⟨o_, hp⟩ := ov_X3_indexOf hp e15
  refine ov_b2 o_ ?_
  by_cases hc : v15 = (-1)
  · have h := mt_ip h hc
    refine ov_t hc ?_
    exact ov_ret hp h
  · have h := mt_in' h hc
    refine ov_f hc ?_
    obtain ⟨v16, e16, h⟩ := mt_ob h
    refine ov_b (ov_rR hp e16) ?_
    obtain ⟨v17, e17, h⟩ := mt_ob h
    refine ov_b (ov_rR hp e17) ?_
    obtain ⟨S18, e18, h⟩ := mt_ob h
    obtain ⟨o_, hp⟩ := ov_X2_note hp e18
    refine ov_b o_ ?_
    obtain ⟨v19, e19, h⟩ := mt_ob h
    refine ov_b (ov_rR hp e19) ?_
    obtain ⟨v21, S20, e21, h⟩ := mt_ob2 h
    obtain ⟨o_, hp⟩ := ov_X5_marks hp e21
    refine ov_b2 o_ ?_
    obtain ⟨S22, e22, h⟩ := mt_ob h
    obtain ⟨o_, hp⟩ := ov_X3_drop hp e22
    refine ov_b o_ ?_
    obtain ⟨v23, e23, h⟩ := mt_ob h
    refine ov_b (ov_rR hp e23) ?_
    obtain ⟨S24, e24, h⟩ := mt_ob h
    obtain ⟨o_, hp⟩ := ov_X2_keep hp e24
    refine ov_b o_ ?_
    exact ov_ret hp h
def f_X10_marked (x0 : Nat) (x1 : Int32) (x2 : Int32) (S : mt_S) : Option (Int64 × mt_S) :=
  if mt_isK S x0 10 = true then
   Option.bind (mt_rR S x0 10 2) fun v1 =>
   mt_b2 (f_X5_marks v1 S) fun v3 S2 =>
   if x2 = 0 then
    mt_b2 (f_X3_numberAt v3 x1 S2) fun v5 S4 =>
    some (v5, S4)
   else
   if x2 = 1 then
    mt_b2 (f_X3_pAt v3 x1 S2) fun v7 S6 =>
    some (v7.toInt64, S6)
   else
   if x2 = 2 then
    mt_b2 (f_X3_qAt v3 x1 S2) fun v9 S8 =>
    some (v9.toInt64, S8)
   else
    some ((-1), S2)
  else none
theorem k_X10_marked {x0 : Nat} {x1 : Int32} {x2 : Int32} {S : mt_S} {r : Int64} {S' : mt_S} (h : f_X10_marked x0 x1 x2 S = some (r, S')) : mt_isK S x0 10 = true := by
  unfold f_X10_marked at h
  exact (mt_gd h).1
set_option maxHeartbeats 4000000 in
set_option maxRecDepth 100000 in
theorem m_X10_marked {B : mt_B}  {x0 : Nat} {x1 : Int32} {x2 : Int32} {S : mt_S} {r : Int64} {S' : mt_S} (h : f_X10_marked x0 x1 x2 S = some (r, S')) : mt_M B yX10_marked cX10_marked 4 (some .long) 3 [mt_rf B x0, .int x1, .int x2] S (some (.long r)) S' := by
  unfold f_X10_marked at h
  refine mt_M.of (by decide) (Nat.le_of_ble_eq_true rfl) (fun E hC hE => ?_)
  obtain ⟨hk0, h⟩ := mt_gd h
  refine go_aload_n hC 0 dX10_marked_0 rfl rfl ?_
  obtain ⟨v1, e1, h⟩ := mt_ob h
  refine go_getR hC mt_flX10_26 e1 dX10_marked_1 ?_
  obtain ⟨v3, S2, e3, h⟩ := mt_ob2 h
  refine go_callVr hC [] [] (m_X5_marks e3) mt_cvX10_137 (k_X5_marks e3) dX10_marked_4 rfl rfl (by decide) (Nat.le_of_ble_eq_true rfl) ⟨Nat.le_refl _, Nat.le_refl _⟩ ?_
  refine go_astore_n hC [1, 2, 3, 0] (lv1 := [(0, mt_rf B x0), (1, .int x1), (2, .int x2), (3, mt_rf B v3)]) dX10_marked_7 rfl (by decide) rfl ?_
  refine go_iload_n hC 2 dX10_marked_8 rfl rfl ?_
  by_cases hc0 : x2 = 0
  · have h := mt_ip h hc0
    refine go_tabIn hC (v := 0) (off := 27) (tgt := 36) dX10_marked_9 hc0 (by decide) (by decide) (by decide +kernel) (by decide) ?_
    refine go_aload_n hC 3 dX10_marked_36 rfl rfl ?_
    refine go_iload_n hC 1 dX10_marked_37 rfl rfl ?_
    obtain ⟨v5, S4, e5, h⟩ := mt_ob2 h
    refine go_callVl hC [.int x1] [] (m_X3_numberAt e5) mt_cvX10_284 (k_X3_numberAt e5) dX10_marked_38 rfl rfl (by decide) (Nat.le_of_ble_eq_true rfl) ⟨Nat.le_refl _, Nat.le_refl _⟩ ?_
    exact go_lret hC (mt_rel h hE) dX10_marked_41
  · have h := mt_in' h hc0
    by_cases hc1 : x2 = 1
    · have h := mt_ip h hc1
      refine go_tabIn hC (v := 1) (off := 33) (tgt := 42) dX10_marked_9 hc1 (by decide) (by decide) (by decide +kernel) (by decide) ?_
      refine go_aload_n hC 3 dX10_marked_42 rfl rfl ?_
      refine go_iload_n hC 1 dX10_marked_43 rfl rfl ?_
      obtain ⟨v7, S6, e7, h⟩ := mt_ob2 h
      refine go_callVi hC [.int x1] [] (m_X3_pAt e7) mt_cvX10_285 (k_X3_pAt e7) dX10_marked_44 rfl rfl (by decide) (Nat.le_of_ble_eq_true rfl) ⟨Nat.le_refl _, Nat.le_refl _⟩ ?_
      refine go_i2l hC dX10_marked_47 ?_
      exact go_lret hC (mt_rel h hE) dX10_marked_48
    · have h := mt_in' h hc1
      by_cases hc2 : x2 = 2
      · have h := mt_ip h hc2
        refine go_tabIn hC (v := 2) (off := 40) (tgt := 49) dX10_marked_9 hc2 (by decide) (by decide) (by decide +kernel) (by decide) ?_
        refine go_aload_n hC 3 dX10_marked_49 rfl rfl ?_
        refine go_iload_n hC 1 dX10_marked_50 rfl rfl ?_
        obtain ⟨v9, S8, e9, h⟩ := mt_ob2 h
        refine go_callVi hC [.int x1] [] (m_X3_qAt e9) mt_cvX10_288 (k_X3_qAt e9) dX10_marked_51 rfl rfl (by decide) (Nat.le_of_ble_eq_true rfl) ⟨Nat.le_refl _, Nat.le_refl _⟩ ?_
        refine go_i2l hC dX10_marked_54 ?_
        exact go_lret hC (mt_rel h hE) dX10_marked_55
      · have h := mt_in' h hc2
        have t0 := lv_neT hc0 (a := 0) rfl
        have t1 := lv_neT hc1 (a := 1) rfl
        have t2 := lv_neT hc2 (a := 2) rfl
        refine go_tabOut hC (tgt := 56) dX10_marked_9 (by omega) (by decide) ?_
        refine go_ldc2 hC dX10_marked_56 mt_kX10_224 ?_
        exact go_lret hC (mt_rel h hE) dX10_marked_59
set_option maxHeartbeats 4000000 in
set_option maxRecDepth 100000 in
theorem ov_X10_marked {T : mt_S}  {x0 : Nat} {x1 : Int32} {x2 : Int32} {S : mt_S} {r : Int64} {S' : mt_S} (hp : mt_cp S T) (h : f_X10_marked x0 x1 x2 S = some (r, S')) : f_X10_marked x0 x1 x2 (mt_ov S T) = some (r, mt_ov S' T) ∧ mt_cp S' T := by
  unfold f_X10_marked at h ⊢
  obtain ⟨hg, h⟩ := mt_gd h
  refine ov_t (ov_K hp hg) ?_
  obtain ⟨v1, e1, h⟩ := mt_ob h
  refine ov_b (ov_rR hp e1) ?_
  obtain ⟨v3, S2, e3, h⟩ := mt_ob2 h
  obtain ⟨o_, hp⟩ := ov_X5_marks hp e3
  refine ov_b2 o_ ?_
  by_cases hc : x2 = 0
  · have h := mt_ip h hc
    refine ov_t hc ?_
    obtain ⟨v5, S4, e5, h⟩ := mt_ob2 h
    obtain ⟨o_, hp⟩ := ov_X3_numberAt hp e5
    refine ov_b2 o_ ?_
    exact ov_ret hp h
  · have h := mt_in' h hc
    refine ov_f hc ?_
    by_cases hc : x2 = 1
    · have h := mt_ip h hc
      refine ov_t hc ?_
      obtain ⟨v7, S6, e7, h⟩ := mt_ob2 h
      obtain ⟨o_, hp⟩ := ov_X3_pAt hp e7
      refine ov_b2 o_ ?_
      exact ov_ret hp h
    · have h := mt_in' h hc
      refine ov_f hc ?_
      by_cases hc : x2 = 2
      · have h := mt_ip h hc
        refine ov_t hc ?_
        obtain ⟨v9, S8, e9, h⟩ := mt_ob2 h
        obtain ⟨o_, hp⟩ := ov_X3_qAt hp e9
        refine ov_b2 o_ ?_
        exact ov_ret hp h
      · have h := mt_in' h hc
        refine ov_f hc ?_
        exact ov_ret hp h
def f_X10_near (x0 : Nat) (x1 : Int64) (x3 : Int32) (S : mt_S) : Option (Int64 × mt_S) :=
  if mt_isK S x0 10 = true then
   if x3 = 0 then
    Option.bind (mt_rR S x0 10 2) fun v1 =>
    mt_b2 (f_X5_marks v1 S) fun v3 S2 =>
    mt_b2 (f_X3_lastTo v3 x1 S2) fun v5 S4 =>
    some (v5, S4)
   else
    Option.bind (mt_rR S x0 10 2) fun v6 =>
    mt_b2 (f_X5_marks v6 S) fun v8 S7 =>
    mt_b2 (f_X3_nextFrom v8 x1 S7) fun v10 S9 =>
    some (v10, S9)
  else none
theorem k_X10_near {x0 : Nat} {x1 : Int64} {x3 : Int32} {S : mt_S} {r : Int64} {S' : mt_S} (h : f_X10_near x0 x1 x3 S = some (r, S')) : mt_isK S x0 10 = true := by
  unfold f_X10_near at h
  exact (mt_gd h).1
set_option maxHeartbeats 4000000 in
set_option maxRecDepth 100000 in
theorem m_X10_near {B : mt_B}  {x0 : Nat} {x1 : Int64} {x3 : Int32} {S : mt_S} {r : Int64} {S' : mt_S} (h : f_X10_near x0 x1 x3 S = some (r, S')) : mt_M B yX10_near cX10_near 4 (some .long) 2 [mt_rf B x0, .long x1, .int x3] S (some (.long r)) S' := by
  unfold f_X10_near at h
  refine mt_M.of (by decide) (Nat.le_of_ble_eq_true rfl) (fun E hC hE => ?_)
  obtain ⟨hk0, h⟩ := mt_gd h
  refine go_iload_n hC 2 dX10_near_0 rfl rfl ?_
  refine go_if_eq hC (tgt := 18) dX10_near_1 (by decide) (fun hc => ?_) (fun hc => ?_)
  · have h := mt_ip h hc
    refine go_aload_n hC 0 dX10_near_18 rfl rfl ?_
    obtain ⟨v1, e1, h⟩ := mt_ob h
    refine go_getR hC mt_flX10_26 e1 dX10_near_19 ?_
    obtain ⟨v3, S2, e3, h⟩ := mt_ob2 h
    refine go_callVr hC [] [] (m_X5_marks e3) mt_cvX10_137 (k_X5_marks e3) dX10_near_22 rfl rfl (by decide) (Nat.le_of_ble_eq_true rfl) ⟨Nat.le_refl _, Nat.le_refl _⟩ ?_
    refine go_lload_n hC 1 dX10_near_25 rfl rfl ?_
    obtain ⟨v5, S4, e5, h⟩ := mt_ob2 h
    refine go_callVl hC [.long x1] [] (m_X3_lastTo e5) mt_cvX10_295 (k_X3_lastTo e5) dX10_near_26 rfl rfl (by decide) (Nat.le_of_ble_eq_true rfl) ⟨Nat.le_refl _, Nat.le_refl _⟩ ?_
    exact go_lret hC (mt_rel h hE) dX10_near_29
  · have h := mt_in' h hc
    refine go_aload_n hC 0 dX10_near_4 rfl rfl ?_
    obtain ⟨v6, e6, h⟩ := mt_ob h
    refine go_getR hC mt_flX10_26 e6 dX10_near_5 ?_
    obtain ⟨v8, S7, e8, h⟩ := mt_ob2 h
    refine go_callVr hC [] [] (m_X5_marks e8) mt_cvX10_137 (k_X5_marks e8) dX10_near_8 rfl rfl (by decide) (Nat.le_of_ble_eq_true rfl) ⟨Nat.le_refl _, Nat.le_refl _⟩ ?_
    refine go_lload_n hC 1 dX10_near_11 rfl rfl ?_
    obtain ⟨v10, S9, e10, h⟩ := mt_ob2 h
    refine go_callVl hC [.long x1] [] (m_X3_nextFrom e10) mt_cvX10_291 (k_X3_nextFrom e10) dX10_near_12 rfl rfl (by decide) (Nat.le_of_ble_eq_true rfl) ⟨Nat.le_refl _, Nat.le_refl _⟩ ?_
    refine go_goto hC (tgt := 29) dX10_near_15 (by decide) ?_
    exact go_lret hC (mt_rel h hE) dX10_near_29
set_option maxHeartbeats 4000000 in
set_option maxRecDepth 100000 in
theorem ov_X10_near {T : mt_S}  {x0 : Nat} {x1 : Int64} {x3 : Int32} {S : mt_S} {r : Int64} {S' : mt_S} (hp : mt_cp S T) (h : f_X10_near x0 x1 x3 S = some (r, S')) : f_X10_near x0 x1 x3 (mt_ov S T) = some (r, mt_ov S' T) ∧ mt_cp S' T := by
  unfold f_X10_near at h ⊢
  obtain ⟨hg, h⟩ := mt_gd h
  refine ov_t (ov_K hp hg) ?_
  by_cases hc : x3 = 0
  · have h := mt_ip h hc
    refine ov_t hc ?_
    obtain ⟨v1, e1, h⟩ := mt_ob h
    refine ov_b (ov_rR hp e1) ?_
    obtain ⟨v3, S2, e3, h⟩ := mt_ob2 h
    obtain ⟨o_, hp⟩ := ov_X5_marks hp e3
    refine ov_b2 o_ ?_
    obtain ⟨v5, S4, e5, h⟩ := mt_ob2 h
    obtain ⟨o_, hp⟩ := ov_X3_lastTo hp e5
    refine ov_b2 o_ ?_
    exact ov_ret hp h
  · have h := mt_in' h hc
    refine ov_f hc ?_
    obtain ⟨v6, e6, h⟩ := mt_ob h
    refine ov_b (ov_rR hp e6) ?_
    obtain ⟨v8, S7, e8, h⟩ := mt_ob2 h
    obtain ⟨o_, hp⟩ := ov_X5_marks hp e8
    refine ov_b2 o_ ?_
    obtain ⟨v10, S9, e10, h⟩ := mt_ob2 h
    obtain ⟨o_, hp⟩ := ov_X3_nextFrom hp e10
    refine ov_b2 o_ ?_
    exact ov_ret hp h
def f_X10_jump (x0 : Nat) (x1 : Int32) (S : mt_S) : Option (Int32 × mt_S) :=
  if mt_isK S x0 10 = true then
   Option.bind (mt_rR S x0 10 2) fun v1 =>
   mt_b2 (f_X5_marks v1 S) fun v3 S2 =>
   mt_b2 (f_X3_has v3 x1 S2) fun v5 S4 =>
   if v5 = 0 then
    some ((-1), S4)
   else
    mt_b2 (f_X3_pAt v3 x1 S4) fun v7 S6 =>
    mt_b2 (f_X3_qAt v3 x1 S6) fun v9 S8 =>
    mt_b2 (f_X10_moveTo x0 v7 v9 S8) fun v11 S10 =>
    some (v11, S10)
  else none
theorem k_X10_jump {x0 : Nat} {x1 : Int32} {S : mt_S} {r : Int32} {S' : mt_S} (h : f_X10_jump x0 x1 S = some (r, S')) : mt_isK S x0 10 = true := by
  unfold f_X10_jump at h
  exact (mt_gd h).1
set_option maxHeartbeats 4000000 in
set_option maxRecDepth 100000 in
theorem m_X10_jump {B : mt_B}  {x0 : Nat} {x1 : Int32} {S : mt_S} {r : Int32} {S' : mt_S} (h : f_X10_jump x0 x1 S = some (r, S')) : mt_M B yX10_jump cX10_jump 3 (some .int) 7 [mt_rf B x0, .int x1] S (some (.int r)) S' := by
  unfold f_X10_jump at h
  refine mt_M.of (by decide) (Nat.le_of_ble_eq_true rfl) (fun E hC hE => ?_)
  obtain ⟨hk0, h⟩ := mt_gd h
  refine go_aload_n hC 0 dX10_jump_0 rfl rfl ?_
  obtain ⟨v1, e1, h⟩ := mt_ob h
  refine go_getR hC mt_flX10_26 e1 dX10_jump_1 ?_
  obtain ⟨v3, S2, e3, h⟩ := mt_ob2 h
  refine go_callVr hC [] [] (m_X5_marks e3) mt_cvX10_137 (k_X5_marks e3) dX10_jump_4 rfl rfl (by decide) (Nat.le_of_ble_eq_true rfl) ⟨Nat.le_refl _, Nat.le_refl _⟩ ?_
  refine go_astore_n hC [1, 2, 0] (lv1 := [(0, mt_rf B x0), (1, .int x1), (2, mt_rf B v3)]) dX10_jump_7 rfl (by decide) rfl ?_
  refine go_aload_n hC 2 dX10_jump_8 rfl rfl ?_
  refine go_iload_n hC 1 dX10_jump_9 rfl rfl ?_
  obtain ⟨v5, S4, e5, h⟩ := mt_ob2 h
  refine go_callVi hC [.int x1] [] (m_X3_has e5) mt_cvX10_298 (k_X3_has e5) dX10_jump_10 rfl rfl (by decide) (Nat.le_of_ble_eq_true rfl) ⟨Nat.le_refl _, Nat.le_refl _⟩ ?_
  refine go_if_eq hC (tgt := 33) dX10_jump_13 (by decide) (fun hc => ?_) (fun hc => ?_)
  · have h := mt_ip h hc
    refine go_iconst (v := (-1)) hC dX10_jump_33 (by decide) ?_
    exact go_iret hC (mt_rei h hE) dX10_jump_34
  · have h := mt_in' h hc
    refine go_aload_n hC 0 dX10_jump_16 rfl rfl ?_
    refine go_aload_n hC 2 dX10_jump_17 rfl rfl ?_
    refine go_iload_n hC 1 dX10_jump_18 rfl rfl ?_
    obtain ⟨v7, S6, e7, h⟩ := mt_ob2 h
    refine go_callVi hC [.int x1] [mt_rf B x0] (m_X3_pAt e7) mt_cvX10_285 (k_X3_pAt e7) dX10_jump_19 rfl rfl (by decide) (Nat.le_of_ble_eq_true rfl) ⟨Nat.le_refl _, Nat.le_refl _⟩ ?_
    refine go_aload_n hC 2 dX10_jump_22 rfl rfl ?_
    refine go_iload_n hC 1 dX10_jump_23 rfl rfl ?_
    obtain ⟨v9, S8, e9, h⟩ := mt_ob2 h
    refine go_callVi hC [.int x1] [.int v7, mt_rf B x0] (m_X3_qAt e9) mt_cvX10_288 (k_X3_qAt e9) dX10_jump_24 rfl rfl (by decide) (Nat.le_of_ble_eq_true rfl) ⟨Nat.le_refl _, Nat.le_refl _⟩ ?_
    obtain ⟨v11, S10, e11, h⟩ := mt_ob2 h
    refine go_callVi hC [.int v7, .int v9] [] (m_X10_moveTo e11) mt_cvX10_164 (k_X10_moveTo e11) dX10_jump_27 rfl rfl (by decide) (Nat.le_of_ble_eq_true rfl) ⟨Nat.le_refl _, Nat.le_refl _⟩ ?_
    refine go_goto hC (tgt := 34) dX10_jump_30 (by decide) ?_
    exact go_iret hC (mt_rei h hE) dX10_jump_34
set_option maxHeartbeats 4000000 in
set_option maxRecDepth 100000 in
theorem ov_X10_jump {T : mt_S}  {x0 : Nat} {x1 : Int32} {S : mt_S} {r : Int32} {S' : mt_S} (hp : mt_cp S T) (h : f_X10_jump x0 x1 S = some (r, S')) : f_X10_jump x0 x1 (mt_ov S T) = some (r, mt_ov S' T) ∧ mt_cp S' T := by
  unfold f_X10_jump at h ⊢
  obtain ⟨hg, h⟩ := mt_gd h
  refine ov_t (ov_K hp hg) ?_
  obtain ⟨v1, e1, h⟩ := mt_ob h
  refine ov_b (ov_rR hp e1) ?_
  obtain ⟨v3, S2, e3, h⟩ := mt_ob2 h
  obtain ⟨o_, hp⟩ := ov_X5_marks hp e3
  refine ov_b2 o_ ?_
  obtain ⟨v5, S4, e5, h⟩ := mt_ob2 h
  obtain ⟨o_, hp⟩ := ov_X3_has hp e5
  refine ov_b2 o_ ?_
  by_cases hc : v5 = 0
  · have h := mt_ip h hc
    refine ov_t hc ?_
    exact ov_ret hp h
  · have h := mt_in' h hc
    refine ov_f hc ?_
    obtain ⟨v7, S6, e7, h⟩ := mt_ob2 h
    obtain ⟨o_, hp⟩ := ov_X3_pAt hp e7
    refine ov_b2 o_ ?_
    obtain ⟨v9, S8, e9, h⟩ := mt_ob2 h
    obtain ⟨o_, hp⟩ := ov_X3_qAt hp e9
    refine ov_b2 o_ ?_
    obtain ⟨v11, S10, e11, h⟩ := mt_ob2 h
    obtain ⟨o_, hp⟩ := ov_X10_moveTo hp e11
    refine ov_b2 o_ ?_
    exact ov_ret hp h
def f_X10_told (x0 : Nat) (S : mt_S) : Option (Int32 × mt_S) :=
  if mt_isK S x0 10 = true then
   Option.bind (mt_rR S x0 10 6) fun v1 =>
   Option.bind (mt_rR S x0 10 2) fun v2 =>
   mt_b2 (f_X5_place v2 S) fun v4 S3 =>
   mt_b2 (f_X4_p v4 S3) fun v6 S5 =>
   Option.bind (mt_rR S5 x0 10 2) fun v7 =>
   mt_b2 (f_X5_place v7 S5) fun v9 S8 =>
   mt_b2 (f_X4_q v9 S8) fun v11 S10 =>
   mt_b2 (f_X8_tell v1 v6 v11 S10) fun v13 S12 =>
   some (v13, S12)
  else none
theorem k_X10_told {x0 : Nat} {S : mt_S} {r : Int32} {S' : mt_S} (h : f_X10_told x0 S = some (r, S')) : mt_isK S x0 10 = true := by
  unfold f_X10_told at h
  exact (mt_gd h).1
set_option maxHeartbeats 4000000 in
set_option maxRecDepth 100000 in
theorem m_X10_told {B : mt_B}  {x0 : Nat} {S : mt_S} {r : Int32} {S' : mt_S} (h : f_X10_told x0 S = some (r, S')) : mt_M B yX10_told cX10_told 1 (some .int) 7 [mt_rf B x0] S (some (.int r)) S' := by
  unfold f_X10_told at h
  refine mt_M.of (by decide) (Nat.le_of_ble_eq_true rfl) (fun E hC hE => ?_)
  obtain ⟨hk0, h⟩ := mt_gd h
  refine go_aload_n hC 0 dX10_told_0 rfl rfl ?_
  obtain ⟨v1, e1, h⟩ := mt_ob h
  refine go_getR hC mt_flX10_48 e1 dX10_told_1 ?_
  refine go_aload_n hC 0 dX10_told_4 rfl rfl ?_
  obtain ⟨v2, e2, h⟩ := mt_ob h
  refine go_getR hC mt_flX10_26 e2 dX10_told_5 ?_
  obtain ⟨v4, S3, e4, h⟩ := mt_ob2 h
  refine go_callVr hC [] [mt_rf B v1] (m_X5_place e4) mt_cvX10_103 (k_X5_place e4) dX10_told_8 rfl rfl (by decide) (Nat.le_of_ble_eq_true rfl) ⟨Nat.le_refl _, Nat.le_refl _⟩ ?_
  obtain ⟨v6, S5, e6, h⟩ := mt_ob2 h
  refine go_callVi hC [] [mt_rf B v1] (m_X4_p e6) mt_cvX10_114 (k_X4_p e6) dX10_told_11 rfl rfl (by decide) (Nat.le_of_ble_eq_true rfl) ⟨Nat.le_refl _, Nat.le_refl _⟩ ?_
  refine go_aload_n hC 0 dX10_told_14 rfl rfl ?_
  obtain ⟨v7, e7, h⟩ := mt_ob h
  refine go_getR hC mt_flX10_26 e7 dX10_told_15 ?_
  obtain ⟨v9, S8, e9, h⟩ := mt_ob2 h
  refine go_callVr hC [] [.int v6, mt_rf B v1] (m_X5_place e9) mt_cvX10_103 (k_X5_place e9) dX10_told_18 rfl rfl (by decide) (Nat.le_of_ble_eq_true rfl) ⟨Nat.le_refl _, Nat.le_refl _⟩ ?_
  obtain ⟨v11, S10, e11, h⟩ := mt_ob2 h
  refine go_callVi hC [] [.int v6, mt_rf B v1] (m_X4_q e11) mt_cvX10_119 (k_X4_q e11) dX10_told_21 rfl rfl (by decide) (Nat.le_of_ble_eq_true rfl) ⟨Nat.le_refl _, Nat.le_refl _⟩ ?_
  obtain ⟨v13, S12, e13, h⟩ := mt_ob2 h
  refine go_callVi hC [.int v6, .int v11] [] (m_X8_tell e13) mt_cvX10_308 (k_X8_tell e13) dX10_told_24 rfl rfl (by decide) (Nat.le_of_ble_eq_true rfl) ⟨Nat.le_refl _, Nat.le_refl _⟩ ?_
  exact go_iret hC (mt_rei h hE) dX10_told_27
set_option maxHeartbeats 4000000 in
set_option maxRecDepth 100000 in
theorem ov_X10_told {T : mt_S}  {x0 : Nat} {S : mt_S} {r : Int32} {S' : mt_S} (hp : mt_cp S T) (h : f_X10_told x0 S = some (r, S')) : f_X10_told x0 (mt_ov S T) = some (r, mt_ov S' T) ∧ mt_cp S' T := by
  unfold f_X10_told at h ⊢
  obtain ⟨hg, h⟩ := mt_gd h
  refine ov_t (ov_K hp hg) ?_
  obtain ⟨v1, e1, h⟩ := mt_ob h
  refine ov_b (ov_rR hp e1) ?_
  obtain ⟨v2, e2, h⟩ := mt_ob h
  refine ov_b (ov_rR hp e2) ?_
  obtain ⟨v4, S3, e4, h⟩ := mt_ob2 h
  obtain ⟨o_, hp⟩ := ov_X5_place hp e4
  refine ov_b2 o_ ?_
  obtain ⟨v6, S5, e6, h⟩ := mt_ob2 h
  obtain ⟨o_, hp⟩ := ov_X4_p hp e6
  refine ov_b2 o_ ?_
  obtain ⟨v7, e7, h⟩ := mt_ob h
  refine ov_b (ov_rR hp e7) ?_
  obtain ⟨v9, S8, e9, h⟩ := mt_ob2 h
  obtain ⟨o_, hp⟩ := ov_X5_place hp e9
  refine ov_b2 o_ ?_
  obtain ⟨v11, S10, e11, h⟩ := mt_ob2 h
  obtain ⟨o_, hp⟩ := ov_X4_q hp e11
  refine ov_b2 o_ ?_
  obtain ⟨v13, S12, e13, h⟩ := mt_ob2 h
  obtain ⟨o_, hp⟩ := ov_X8_tell hp e13
  refine ov_b2 o_ ?_
  exact ov_ret hp h
def f_X10_byteAt (x0 : Nat) (x1 : Int32) (S : mt_S) : Option (Int32 × mt_S) :=
  if mt_isK S x0 10 = true then
   Option.bind (mt_rR S x0 10 6) fun v1 =>
   mt_b2 (f_X8_at v1 x1 S) fun v3 S2 =>
   some (v3, S2)
  else none
theorem k_X10_byteAt {x0 : Nat} {x1 : Int32} {S : mt_S} {r : Int32} {S' : mt_S} (h : f_X10_byteAt x0 x1 S = some (r, S')) : mt_isK S x0 10 = true := by
  unfold f_X10_byteAt at h
  exact (mt_gd h).1
set_option maxHeartbeats 4000000 in
set_option maxRecDepth 100000 in
theorem m_X10_byteAt {B : mt_B}  {x0 : Nat} {x1 : Int32} {S : mt_S} {r : Int32} {S' : mt_S} (h : f_X10_byteAt x0 x1 S = some (r, S')) : mt_M B yX10_byteAt cX10_byteAt 2 (some .int) 2 [mt_rf B x0, .int x1] S (some (.int r)) S' := by
  unfold f_X10_byteAt at h
  refine mt_M.of (by decide) (Nat.le_of_ble_eq_true rfl) (fun E hC hE => ?_)
  obtain ⟨hk0, h⟩ := mt_gd h
  refine go_aload_n hC 0 dX10_byteAt_0 rfl rfl ?_
  obtain ⟨v1, e1, h⟩ := mt_ob h
  refine go_getR hC mt_flX10_48 e1 dX10_byteAt_1 ?_
  refine go_iload_n hC 1 dX10_byteAt_4 rfl rfl ?_
  obtain ⟨v3, S2, e3, h⟩ := mt_ob2 h
  refine go_callVi hC [.int x1] [] (m_X8_at e3) mt_cvX10_311 (k_X8_at e3) dX10_byteAt_5 rfl rfl (by decide) (Nat.le_of_ble_eq_true rfl) ⟨Nat.le_refl _, Nat.le_refl _⟩ ?_
  exact go_iret hC (mt_rei h hE) dX10_byteAt_8
set_option maxHeartbeats 4000000 in
set_option maxRecDepth 100000 in
theorem ov_X10_byteAt {T : mt_S}  {x0 : Nat} {x1 : Int32} {S : mt_S} {r : Int32} {S' : mt_S} (hp : mt_cp S T) (h : f_X10_byteAt x0 x1 S = some (r, S')) : f_X10_byteAt x0 x1 (mt_ov S T) = some (r, mt_ov S' T) ∧ mt_cp S' T := by
  unfold f_X10_byteAt at h ⊢
  obtain ⟨hg, h⟩ := mt_gd h
  refine ov_t (ov_K hp hg) ?_
  obtain ⟨v1, e1, h⟩ := mt_ob h
  refine ov_b (ov_rR hp e1) ?_
  obtain ⟨v3, S2, e3, h⟩ := mt_ob2 h
  obtain ⟨o_, hp⟩ := ov_X8_at hp e3
  refine ov_b2 o_ ?_
  exact ov_ret hp h
def f_X10_doDrawn (x0 : Nat) (x1 : Int32) (S : mt_S) : Option (Int32 × mt_S) :=
  if mt_isK S x0 10 = true then
   if x1 = 0 then
    Option.bind (mt_rR S x0 10 2) fun v16 =>
    mt_b2 (f_X5_place v16 S) fun v18 S17 =>
    mt_b2 (f_X4_stepUp v18 S17) fun v20 S19 =>
    if v20 = 0 ∨ v20 = 1 then
     some (v20, S19)
    else none
   else
   if 3 < x1 then
    if 6 < x1 then
     mt_b2 (f_X10_markHere x0 S) fun v2 S1 =>
     if v2 = 0 ∨ v2 = 1 then
      some (v2, S1)
     else none
    else
     Option.bind (mt_rR S x0 10 2) fun v4 =>
     mt_b2 (f_X5_place v4 S) fun v6 S5 =>
     mt_b2 (f_X4_stepRight v6 S5) fun v8 S7 =>
     if v8 = 0 ∨ v8 = 1 then
      some (v8, S7)
     else none
   else
    Option.bind (mt_rR S x0 10 2) fun v10 =>
    mt_b2 (f_X5_place v10 S) fun v12 S11 =>
    mt_b2 (f_X4_stepLeft v12 S11) fun v14 S13 =>
    if v14 = 0 ∨ v14 = 1 then
     some (v14, S13)
    else none
  else none
theorem k_X10_doDrawn {x0 : Nat} {x1 : Int32} {S : mt_S} {r : Int32} {S' : mt_S} (h : f_X10_doDrawn x0 x1 S = some (r, S')) : mt_isK S x0 10 = true := by
  unfold f_X10_doDrawn at h
  exact (mt_gd h).1
set_option maxHeartbeats 4000000 in
set_option maxRecDepth 100000 in
theorem m_X10_doDrawn {B : mt_B}  {x0 : Nat} {x1 : Int32} {S : mt_S} {r : Int32} {S' : mt_S} (h : f_X10_doDrawn x0 x1 S = some (r, S')) : mt_M B yX10_doDrawn cX10_doDrawn 2 (some .boolean) 6 [mt_rf B x0, .int x1] S (some (.int r)) S' := by
  unfold f_X10_doDrawn at h
  refine mt_M.of (by decide) (Nat.le_of_ble_eq_true rfl) (fun E hC hE => ?_)
  obtain ⟨hk0, h⟩ := mt_gd h
  refine go_iload_n hC 1 dX10_doDrawn_0 rfl rfl ?_
  refine go_if_ne hC (tgt := 15) dX10_doDrawn_1 (by decide) (fun hc => ?_) (fun hc => ?_)
  · have h := mt_in' h hc
    refine go_iload_n hC 1 dX10_doDrawn_15 rfl rfl ?_
    refine go_iconst (v := 3) hC dX10_doDrawn_16 (by decide) ?_
    refine go_icmp_gt hC (tgt := 31) dX10_doDrawn_17 (by decide) (fun hc => ?_) (fun hc => ?_)
    · have h := mt_ip h hc
      refine go_iload_n hC 1 dX10_doDrawn_31 rfl rfl ?_
      refine go_bipush (v := 6) hC dX10_doDrawn_32 (by decide) ?_
      refine go_icmp_gt hC (tgt := 50) dX10_doDrawn_34 (by decide) (fun hc => ?_) (fun hc => ?_)
      · have h := mt_ip h hc
        refine go_aload_n hC 0 dX10_doDrawn_50 rfl rfl ?_
        obtain ⟨v2, S1, e2, h⟩ := mt_ob2 h
        refine go_callVi hC [] [] (m_X10_markHere e2) mt_cvX10_275 (k_X10_markHere e2) dX10_doDrawn_51 rfl rfl (by decide) (Nat.le_of_ble_eq_true rfl) ⟨Nat.le_refl _, Nat.le_refl _⟩ ?_
        obtain ⟨g3, h⟩ := mt_gd h
        exact go_zret hC (mt_rei h hE) g3 dX10_doDrawn_54
      · have h := mt_in' h hc
        refine go_aload_n hC 0 dX10_doDrawn_37 rfl rfl ?_
        obtain ⟨v4, e4, h⟩ := mt_ob h
        refine go_getR hC mt_flX10_26 e4 dX10_doDrawn_38 ?_
        obtain ⟨v6, S5, e6, h⟩ := mt_ob2 h
        refine go_callVr hC [] [] (m_X5_place e6) mt_cvX10_103 (k_X5_place e6) dX10_doDrawn_41 rfl rfl (by decide) (Nat.le_of_ble_eq_true rfl) ⟨Nat.le_refl _, Nat.le_refl _⟩ ?_
        obtain ⟨v8, S7, e8, h⟩ := mt_ob2 h
        refine go_callVi hC [] [] (m_X4_stepRight e8) mt_cvX10_154 (k_X4_stepRight e8) dX10_doDrawn_44 rfl rfl (by decide) (Nat.le_of_ble_eq_true rfl) ⟨Nat.le_refl _, Nat.le_refl _⟩ ?_
        refine go_goto hC (tgt := 54) dX10_doDrawn_47 (by decide) ?_
        obtain ⟨g9, h⟩ := mt_gd h
        exact go_zret hC (mt_rei h hE) g9 dX10_doDrawn_54
    · have h := mt_in' h hc
      refine go_aload_n hC 0 dX10_doDrawn_20 rfl rfl ?_
      obtain ⟨v10, e10, h⟩ := mt_ob h
      refine go_getR hC mt_flX10_26 e10 dX10_doDrawn_21 ?_
      obtain ⟨v12, S11, e12, h⟩ := mt_ob2 h
      refine go_callVr hC [] [] (m_X5_place e12) mt_cvX10_103 (k_X5_place e12) dX10_doDrawn_24 rfl rfl (by decide) (Nat.le_of_ble_eq_true rfl) ⟨Nat.le_refl _, Nat.le_refl _⟩ ?_
      obtain ⟨v14, S13, e14, h⟩ := mt_ob2 h
      refine go_callVi hC [] [] (m_X4_stepLeft e14) mt_cvX10_147 (k_X4_stepLeft e14) dX10_doDrawn_27 rfl rfl (by decide) (Nat.le_of_ble_eq_true rfl) ⟨Nat.le_refl _, Nat.le_refl _⟩ ?_
      obtain ⟨g15, h⟩ := mt_gd h
      exact go_zret hC (mt_rei h hE) g15 dX10_doDrawn_30
  · have h := mt_ip h hc
    refine go_aload_n hC 0 dX10_doDrawn_4 rfl rfl ?_
    obtain ⟨v16, e16, h⟩ := mt_ob h
    refine go_getR hC mt_flX10_26 e16 dX10_doDrawn_5 ?_
    obtain ⟨v18, S17, e18, h⟩ := mt_ob2 h
    refine go_callVr hC [] [] (m_X5_place e18) mt_cvX10_103 (k_X5_place e18) dX10_doDrawn_8 rfl rfl (by decide) (Nat.le_of_ble_eq_true rfl) ⟨Nat.le_refl _, Nat.le_refl _⟩ ?_
    obtain ⟨v20, S19, e20, h⟩ := mt_ob2 h
    refine go_callVi hC [] [] (m_X4_stepUp e20) mt_cvX10_157 (k_X4_stepUp e20) dX10_doDrawn_11 rfl rfl (by decide) (Nat.le_of_ble_eq_true rfl) ⟨Nat.le_refl _, Nat.le_refl _⟩ ?_
    obtain ⟨g21, h⟩ := mt_gd h
    exact go_zret hC (mt_rei h hE) g21 dX10_doDrawn_14
set_option maxHeartbeats 4000000 in
set_option maxRecDepth 100000 in
theorem ov_X10_doDrawn {T : mt_S}  {x0 : Nat} {x1 : Int32} {S : mt_S} {r : Int32} {S' : mt_S} (hp : mt_cp S T) (h : f_X10_doDrawn x0 x1 S = some (r, S')) : f_X10_doDrawn x0 x1 (mt_ov S T) = some (r, mt_ov S' T) ∧ mt_cp S' T := by
  unfold f_X10_doDrawn at h ⊢
  obtain ⟨hg, h⟩ := mt_gd h
  refine ov_t (ov_K hp hg) ?_
  by_cases hc : x1 = 0
  · have h := mt_ip h hc
    refine ov_t hc ?_
    obtain ⟨v16, e16, h⟩ := mt_ob h
    refine ov_b (ov_rR hp e16) ?_
    obtain ⟨v18, S17, e18, h⟩ := mt_ob2 h
    obtain ⟨o_, hp⟩ := ov_X5_place hp e18
    refine ov_b2 o_ ?_
    obtain ⟨v20, S19, e20, h⟩ := mt_ob2 h
    obtain ⟨o_, hp⟩ := ov_X4_stepUp hp e20
    refine ov_b2 o_ ?_
    obtain ⟨hg, h⟩ := mt_gd h
    refine ov_t hg ?_
    exact ov_ret hp h
  · have h := mt_in' h hc
    refine ov_f hc ?_
    by_cases hc : 3 < x1
    · have h := mt_ip h hc
      refine ov_t hc ?_
      by_cases hc : 6 < x1
      · have h := mt_ip h hc
        refine ov_t hc ?_
        obtain ⟨v2, S1, e2, h⟩ := mt_ob2 h
        obtain ⟨o_, hp⟩ := ov_X10_markHere hp e2
        refine ov_b2 o_ ?_
        obtain ⟨hg, h⟩ := mt_gd h
        refine ov_t hg ?_
        exact ov_ret hp h
      · have h := mt_in' h hc
        refine ov_f hc ?_
        obtain ⟨v4, e4, h⟩ := mt_ob h
        refine ov_b (ov_rR hp e4) ?_
        obtain ⟨v6, S5, e6, h⟩ := mt_ob2 h
        obtain ⟨o_, hp⟩ := ov_X5_place hp e6
        refine ov_b2 o_ ?_
        obtain ⟨v8, S7, e8, h⟩ := mt_ob2 h
        obtain ⟨o_, hp⟩ := ov_X4_stepRight hp e8
        refine ov_b2 o_ ?_
        obtain ⟨hg, h⟩ := mt_gd h
        refine ov_t hg ?_
        exact ov_ret hp h
    · have h := mt_in' h hc
      refine ov_f hc ?_
      obtain ⟨v10, e10, h⟩ := mt_ob h
      refine ov_b (ov_rR hp e10) ?_
      obtain ⟨v12, S11, e12, h⟩ := mt_ob2 h
      obtain ⟨o_, hp⟩ := ov_X5_place hp e12
      refine ov_b2 o_ ?_
      obtain ⟨v14, S13, e14, h⟩ := mt_ob2 h
      obtain ⟨o_, hp⟩ := ov_X4_stepLeft hp e14
      refine ov_b2 o_ ?_
      obtain ⟨hg, h⟩ := mt_gd h
      refine ov_t hg ?_
      exact ov_ret hp h
def f_X10_drawn_L32s (rc : Nat → Int32 → Int32 → Int32 → Int32 → mt_S → Option (Int32 × mt_S)) (x0 : Nat) (x1 : Int32) (x3 : Int32) (x4 : Int32) (x5 : Int32) (S : mt_S) : Option (Int32 × mt_S) :=
  if x1 ≤ x5 then
   if x4 ≤ 0 then
    some (x4, S)
   else
    Option.bind (mt_rR S x0 10 3) fun v4 =>
    Option.bind (f_X2_keep v4 S) fun S5 =>
    some (x4, S5)
  else
   mt_b2 (f_X10_doDrawn x0 (((((x3 * 1103515245) + 12345).toUInt32 >>> ((8 : Int32).toUInt32 &&& Int32.toUInt32 31)).toInt32) - ((((x3 * 1103515245) + 12345).toUInt32 >>> ((8 : Int32).toUInt32 &&& Int32.toUInt32 31)).toInt32) / 8 * 8) S) fun v7 S6 =>
   if v7 = 0 then
    rc x0 x1 ((x3 * 1103515245) + 12345) x4 (x5 + 1) S6
   else
    rc x0 x1 ((x3 * 1103515245) + 12345) (x4 + 1) (x5 + 1) S6
def f_X10_drawn_L32 : Nat → Nat → Int32 → Int32 → Int32 → Int32 → mt_S → Option (Int32 × mt_S)
  | 0 => fun _ _ _ _ _ _ => none
  | n + 1 => f_X10_drawn_L32s (f_X10_drawn_L32 n)
set_option maxHeartbeats 4000000 in
set_option maxRecDepth 100000 in
theorem m_X10_drawn_L32 {B : mt_B} {E : mt_E} {r : Int32} {S' : mt_S} (hC : mt_Cx B E cX10_drawn RX10 (some .int) 6 7 0 0) (hE : mt_End B E (0, 0) (some (.int r)) S') : ∀ (n : Nat) (x0 : Nat) (x1 : Int32) (x3 : Int32) (x4 : Int32) (x5 : Int32) (S : mt_S), f_X10_drawn_L32 n x0 x1 x3 x4 x5 S = some (r, S') → mt_Go B E (0, 0) S 32 [(0, mt_rf B x0), (1, .int x1), (3, .int x3), (4, .int x4), (5, .int x5)] [] := by
  intro n
  induction n with
  | zero =>
    intro x0 x1 x3 x4 x5 S h
    cases h
  | succ n ih =>
    intro x0 x1 x3 x4 x5 S h
    have h : f_X10_drawn_L32s (f_X10_drawn_L32 n) x0 x1 x3 x4 x5 S = some (r, S') := h
    unfold f_X10_drawn_L32s at h
    refine go_iload hC 4 dX10_drawn_32 rfl ?_
    refine go_iload_n hC 1 dX10_drawn_34 rfl rfl ?_
    refine go_icmp_ge hC (tgt := 71) dX10_drawn_35 (by decide) (fun hc => ?_) (fun hc => ?_)
    · have h := mt_ip h hc
      refine go_iload hC 3 dX10_drawn_71 rfl ?_
      refine go_if_le hC (tgt := 83) dX10_drawn_73 (by decide) (fun hc => ?_) (fun hc => ?_)
      · have h := mt_ip h hc
        refine go_iload hC 3 dX10_drawn_83 rfl ?_
        exact go_iret hC (mt_rei h hE) dX10_drawn_85
      · have h := mt_in' h hc
        refine go_aload_n hC 0 dX10_drawn_76 rfl rfl ?_
        obtain ⟨v4, e4, h⟩ := mt_ob h
        refine go_getR hC mt_flX10_33 e4 dX10_drawn_77 ?_
        obtain ⟨S5, e5, h⟩ := mt_ob h
        refine go_callVv hC [] [] (m_X2_keep e5) mt_cvX10_111 (k_X2_keep e5) dX10_drawn_80 rfl rfl (by decide) (Nat.le_of_ble_eq_true rfl) ⟨Nat.le_refl _, Nat.le_refl _⟩ ?_
        refine go_iload hC 3 dX10_drawn_83 rfl ?_
        exact go_iret hC (mt_rei h hE) dX10_drawn_85
    · have h := mt_in' h hc
      refine go_iload_n hC 2 dX10_drawn_38 rfl rfl ?_
      refine go_ldcw hC dX10_drawn_39 mt_kX10_314 ?_
      refine go_imul hC dX10_drawn_42 ?_
      refine go_sipush (v := 12345) hC dX10_drawn_43 (by decide) ?_
      refine go_iadd hC dX10_drawn_46 ?_
      refine go_istore_n hC [1, 2, 0, 3, 4] (lv1 := [(0, mt_rf B x0), (1, .int x1), (3, .int ((x3 * 1103515245) + 12345)), (4, .int x4), (5, .int x5)]) dX10_drawn_47 rfl (by decide) rfl ?_
      refine go_aload_n hC 0 dX10_drawn_48 rfl rfl ?_
      refine go_iload_n hC 2 dX10_drawn_49 rfl rfl ?_
      refine go_bipush (v := 8) hC dX10_drawn_50 (by decide) ?_
      refine go_iushr hC dX10_drawn_52 ?_
      refine go_bipush (v := 8) hC dX10_drawn_53 (by decide) ?_
      refine go_irem hC dX10_drawn_55 (by decide) ?_
      obtain ⟨v7, S6, e7, h⟩ := mt_ob2 h
      refine go_callVi hC [.int (((((x3 * 1103515245) + 12345).toUInt32 >>> ((8 : Int32).toUInt32 &&& Int32.toUInt32 31)).toInt32) - ((((x3 * 1103515245) + 12345).toUInt32 >>> ((8 : Int32).toUInt32 &&& Int32.toUInt32 31)).toInt32) / 8 * 8)] [] (m_X10_doDrawn e7) mt_cvX10_315 (k_X10_doDrawn e7) dX10_drawn_56 rfl rfl (by decide) (Nat.le_of_ble_eq_true rfl) ⟨Nat.le_refl _, Nat.le_refl _⟩ ?_
      refine go_if_eq hC (tgt := 65) dX10_drawn_59 (by decide) (fun hc => ?_) (fun hc => ?_)
      · have h := mt_ip h hc
        refine go_iinc hC 4 [1, 2, 3, 4, 0] (v := x5 + 1) (lv1 := [(0, mt_rf B x0), (1, .int x1), (3, .int ((x3 * 1103515245) + 12345)), (4, .int x4), (5, .int (x5 + 1))]) dX10_drawn_65 rfl rfl (by decide) rfl ?_
        refine go_goto hC (tgt := 32) dX10_drawn_68 (by decide) ?_
        exact ih _ _ _ _ _ _ h
      · have h := mt_in' h hc
        refine go_iinc hC 3 [1, 2, 3, 0, 4] (v := x4 + 1) (lv1 := [(0, mt_rf B x0), (1, .int x1), (3, .int ((x3 * 1103515245) + 12345)), (4, .int (x4 + 1)), (5, .int x5)]) dX10_drawn_62 rfl rfl (by decide) rfl ?_
        refine go_iinc hC 4 [1, 2, 3, 4, 0] (v := x5 + 1) (lv1 := [(0, mt_rf B x0), (1, .int x1), (3, .int ((x3 * 1103515245) + 12345)), (4, .int (x4 + 1)), (5, .int (x5 + 1))]) dX10_drawn_65 rfl rfl (by decide) rfl ?_
        refine go_goto hC (tgt := 32) dX10_drawn_68 (by decide) ?_
        exact ih _ _ _ _ _ _ h
set_option maxHeartbeats 4000000 in
set_option maxRecDepth 100000 in
theorem ov_X10_drawn_L32 {T : mt_S} {r : Int32} {S' : mt_S} : ∀ (n : Nat) (x0 : Nat) (x1 : Int32) (x3 : Int32) (x4 : Int32) (x5 : Int32) (S : mt_S), mt_cp S T → f_X10_drawn_L32 n x0 x1 x3 x4 x5 S = some (r, S') → f_X10_drawn_L32 n x0 x1 x3 x4 x5 (mt_ov S T) = some (r, mt_ov S' T) ∧ mt_cp S' T := by
  intro n
  induction n with
  | zero =>
    intro x0 x1 x3 x4 x5 S hp h
    cases h
  | succ n ih =>
    intro x0 x1 x3 x4 x5 S hp h
    have h : f_X10_drawn_L32s (f_X10_drawn_L32 n) x0 x1 x3 x4 x5 S = some (r, S') := h
    show f_X10_drawn_L32s (f_X10_drawn_L32 n) x0 x1 x3 x4 x5 (mt_ov S T) = some (r, mt_ov S' T) ∧ mt_cp S' T
    unfold f_X10_drawn_L32s at h ⊢
    by_cases hc : x1 ≤ x5
    · have h := mt_ip h hc
      refine ov_t hc ?_
      by_cases hc : x4 ≤ 0
      · have h := mt_ip h hc
        refine ov_t hc ?_
        exact ov_ret hp h
      · have h := mt_in' h hc
        refine ov_f hc ?_
        obtain ⟨v4, e4, h⟩ := mt_ob h
        refine ov_b (ov_rR hp e4) ?_
        obtain ⟨S5, e5, h⟩ := mt_ob h
        obtain ⟨o_, hp⟩ := ov_X2_keep hp e5
        refine ov_b o_ ?_
        exact ov_ret hp h
    · have h := mt_in' h hc
      refine ov_f hc ?_
      obtain ⟨v7, S6, e7, h⟩ := mt_ob2 h
      obtain ⟨o_, hp⟩ := ov_X10_doDrawn hp e7
      refine ov_b2 o_ ?_
      by_cases hc : v7 = 0
      · have h := mt_ip h hc
        refine ov_t hc ?_
        exact ih _ _ _ _ _ _ hp h
      · have h := mt_in' h hc
        refine ov_f hc ?_
        exact ih _ _ _ _ _ _ hp h
def f_X10_drawn (x0 : Nat) (x1 : Int32) (x2 : Int32) (S : mt_S) : Option (Int32 × mt_S) :=
  if mt_isK S x0 10 = true then
   if x1 < 1 then
    some ((-1), S)
   else
   if x1 ≤ 60 then
    Option.bind (mt_rR S x0 10 3) fun v1 =>
    Option.bind (mt_rR S x0 10 2) fun v2 =>
    Option.bind (f_X2_note v1 v2 S) fun S3 =>
    f_X10_drawn_L32 1000 x0 x1 x2 0 0 S3
   else
    some ((-1), S)
  else none
theorem k_X10_drawn {x0 : Nat} {x1 : Int32} {x2 : Int32} {S : mt_S} {r : Int32} {S' : mt_S} (h : f_X10_drawn x0 x1 x2 S = some (r, S')) : mt_isK S x0 10 = true := by
  unfold f_X10_drawn at h
  exact (mt_gd h).1
set_option maxHeartbeats 4000000 in
set_option maxRecDepth 100000 in
theorem m_X10_drawn {B : mt_B}  {x0 : Nat} {x1 : Int32} {x2 : Int32} {S : mt_S} {r : Int32} {S' : mt_S} (h : f_X10_drawn x0 x1 x2 S = some (r, S')) : mt_M B yX10_drawn cX10_drawn 6 (some .int) 7 [mt_rf B x0, .int x1, .int x2] S (some (.int r)) S' := by
  unfold f_X10_drawn at h
  refine mt_M.of (by decide) (Nat.le_of_ble_eq_true rfl) (fun E hC hE => ?_)
  obtain ⟨hk0, h⟩ := mt_gd h
  refine go_iload_n hC 1 dX10_drawn_0 rfl rfl ?_
  refine go_iconst (v := 1) hC dX10_drawn_1 (by decide) ?_
  refine go_icmp_lt hC (tgt := 11) dX10_drawn_2 (by decide) (fun hc => ?_) (fun hc => ?_)
  · have h := mt_ip h hc
    refine go_iconst (v := (-1)) hC dX10_drawn_11 (by decide) ?_
    exact go_iret hC (mt_rei h hE) dX10_drawn_12
  · have h := mt_in' h hc
    refine go_iload_n hC 1 dX10_drawn_5 rfl rfl ?_
    refine go_bipush (v := 60) hC dX10_drawn_6 (by decide) ?_
    refine go_icmp_le hC (tgt := 13) dX10_drawn_8 (by decide) (fun hc => ?_) (fun hc => ?_)
    · have h := mt_ip h hc
      refine go_aload_n hC 0 dX10_drawn_13 rfl rfl ?_
      obtain ⟨v1, e1, h⟩ := mt_ob h
      refine go_getR hC mt_flX10_33 e1 dX10_drawn_14 ?_
      refine go_aload_n hC 0 dX10_drawn_17 rfl rfl ?_
      obtain ⟨v2, e2, h⟩ := mt_ob h
      refine go_getR hC mt_flX10_26 e2 dX10_drawn_18 ?_
      obtain ⟨S3, e3, h⟩ := mt_ob h
      refine go_callVv hC [mt_rf B v2] [] (m_X2_note e3) mt_cvX10_99 (k_X2_note e3) dX10_drawn_21 rfl rfl (by decide) (Nat.le_of_ble_eq_true rfl) ⟨Nat.le_refl _, Nat.le_refl _⟩ ?_
      refine go_iload_n hC 2 dX10_drawn_24 rfl rfl ?_
      refine go_istore_n hC [1, 2, 3, 0] (lv1 := [(0, mt_rf B x0), (1, .int x1), (2, .int x2), (3, .int x2)]) dX10_drawn_25 rfl (by decide) rfl ?_
      refine go_iconst (v := 0) hC dX10_drawn_26 (by decide) ?_
      refine go_istore hC [1, 2, 3, 4, 0] (lv1 := [(0, mt_rf B x0), (1, .int x1), (2, .int x2), (3, .int x2), (4, .int 0)]) dX10_drawn_27 (by decide) rfl ?_
      refine go_iconst (v := 0) hC dX10_drawn_29 (by decide) ?_
      refine go_istore hC [1, 2, 3, 4, 5, 0] (lv1 := [(0, mt_rf B x0), (1, .int x1), (2, .int x2), (3, .int x2), (4, .int 0), (5, .int 0)]) dX10_drawn_30 (by decide) rfl ?_
      refine go_sub [0, 1, 3, 4, 5] (lv1 := [(0, mt_rf B x0), (1, .int x1), (3, .int x2), (4, .int 0), (5, .int 0)]) rfl ?_
      exact m_X10_drawn_L32 hC hE 1000 _ _ _ _ _ _ h
    · have h := mt_in' h hc
      refine go_iconst (v := (-1)) hC dX10_drawn_11 (by decide) ?_
      exact go_iret hC (mt_rei h hE) dX10_drawn_12
set_option maxHeartbeats 4000000 in
set_option maxRecDepth 100000 in
theorem ov_X10_drawn {T : mt_S}  {x0 : Nat} {x1 : Int32} {x2 : Int32} {S : mt_S} {r : Int32} {S' : mt_S} (hp : mt_cp S T) (h : f_X10_drawn x0 x1 x2 S = some (r, S')) : f_X10_drawn x0 x1 x2 (mt_ov S T) = some (r, mt_ov S' T) ∧ mt_cp S' T := by
  unfold f_X10_drawn at h ⊢
  obtain ⟨hg, h⟩ := mt_gd h
  refine ov_t (ov_K hp hg) ?_
  by_cases hc : x1 < 1
  · have h := mt_ip h hc
    refine ov_t hc ?_
    exact ov_ret hp h
  · have h := mt_in' h hc
    refine ov_f hc ?_
    by_cases hc : x1 ≤ 60
    · have h := mt_ip h hc
      refine ov_t hc ?_
      obtain ⟨v1, e1, h⟩ := mt_ob h
      refine ov_b (ov_rR hp e1) ?_
      obtain ⟨v2, e2, h⟩ := mt_ob h
      refine ov_b (ov_rR hp e2) ?_
      obtain ⟨S3, e3, h⟩ := mt_ob h
      obtain ⟨o_, hp⟩ := ov_X2_note hp e3
      refine ov_b o_ ?_
      exact ov_X10_drawn_L32 1000 _ _ _ _ _ _ hp h
    · have h := mt_in' h hc
      refine ov_f hc ?_
      exact ov_ret hp h
def f_X10_undo (x0 : Nat) (S : mt_S) : Option (Int32 × mt_S) :=
  if mt_isK S x0 10 = true then
   Option.bind (mt_rR S x0 10 3) fun v1 =>
   Option.bind (mt_rR S x0 10 2) fun v2 =>
   mt_b2 (f_X2_takeBack v1 v2 S) fun v4 S3 =>
   if v4 = 0 then
    some ((-1), S3)
   else
    Option.bind (mt_rR S3 x0 10 3) fun v5 =>
    mt_b2 (f_X2_size v5 S3) fun v7 S6 =>
    some (v7, S6)
  else none
theorem k_X10_undo {x0 : Nat} {S : mt_S} {r : Int32} {S' : mt_S} (h : f_X10_undo x0 S = some (r, S')) : mt_isK S x0 10 = true := by
  unfold f_X10_undo at h
  exact (mt_gd h).1
set_option maxHeartbeats 4000000 in
set_option maxRecDepth 100000 in
theorem m_X10_undo {B : mt_B}  {x0 : Nat} {S : mt_S} {r : Int32} {S' : mt_S} (h : f_X10_undo x0 S = some (r, S')) : mt_M B yX10_undo cX10_undo 1 (some .int) 5 [mt_rf B x0] S (some (.int r)) S' := by
  unfold f_X10_undo at h
  refine mt_M.of (by decide) (Nat.le_of_ble_eq_true rfl) (fun E hC hE => ?_)
  obtain ⟨hk0, h⟩ := mt_gd h
  refine go_aload_n hC 0 dX10_undo_0 rfl rfl ?_
  obtain ⟨v1, e1, h⟩ := mt_ob h
  refine go_getR hC mt_flX10_33 e1 dX10_undo_1 ?_
  refine go_aload_n hC 0 dX10_undo_4 rfl rfl ?_
  obtain ⟨v2, e2, h⟩ := mt_ob h
  refine go_getR hC mt_flX10_26 e2 dX10_undo_5 ?_
  obtain ⟨v4, S3, e4, h⟩ := mt_ob2 h
  refine go_callVi hC [mt_rf B v2] [] (m_X2_takeBack e4) mt_cvX10_318 (k_X2_takeBack e4) dX10_undo_8 rfl rfl (by decide) (Nat.le_of_ble_eq_true rfl) ⟨Nat.le_refl _, Nat.le_refl _⟩ ?_
  refine go_if_eq hC (tgt := 24) dX10_undo_11 (by decide) (fun hc => ?_) (fun hc => ?_)
  · have h := mt_ip h hc
    refine go_iconst (v := (-1)) hC dX10_undo_24 (by decide) ?_
    exact go_iret hC (mt_rei h hE) dX10_undo_25
  · have h := mt_in' h hc
    refine go_aload_n hC 0 dX10_undo_14 rfl rfl ?_
    obtain ⟨v5, e5, h⟩ := mt_ob h
    refine go_getR hC mt_flX10_33 e5 dX10_undo_15 ?_
    obtain ⟨v7, S6, e7, h⟩ := mt_ob2 h
    refine go_callVi hC [] [] (m_X2_size e7) mt_cvX10_146 (k_X2_size e7) dX10_undo_18 rfl rfl (by decide) (Nat.le_of_ble_eq_true rfl) ⟨Nat.le_refl _, Nat.le_refl _⟩ ?_
    refine go_goto hC (tgt := 25) dX10_undo_21 (by decide) ?_
    exact go_iret hC (mt_rei h hE) dX10_undo_25
set_option maxHeartbeats 4000000 in
set_option maxRecDepth 100000 in
theorem ov_X10_undo {T : mt_S}  {x0 : Nat} {S : mt_S} {r : Int32} {S' : mt_S} (hp : mt_cp S T) (h : f_X10_undo x0 S = some (r, S')) : f_X10_undo x0 (mt_ov S T) = some (r, mt_ov S' T) ∧ mt_cp S' T := by
  unfold f_X10_undo at h ⊢
  obtain ⟨hg, h⟩ := mt_gd h
  refine ov_t (ov_K hp hg) ?_
  obtain ⟨v1, e1, h⟩ := mt_ob h
  refine ov_b (ov_rR hp e1) ?_
  obtain ⟨v2, e2, h⟩ := mt_ob h
  refine ov_b (ov_rR hp e2) ?_
  obtain ⟨v4, S3, e4, h⟩ := mt_ob2 h
  obtain ⟨o_, hp⟩ := ov_X2_takeBack hp e4
  refine ov_b2 o_ ?_
  by_cases hc : v4 = 0
  · have h := mt_ip h hc
    refine ov_t hc ?_
    exact ov_ret hp h
  · have h := mt_in' h hc
    refine ov_f hc ?_
    obtain ⟨v5, e5, h⟩ := mt_ob h
    refine ov_b (ov_rR hp e5) ?_
    obtain ⟨v7, S6, e7, h⟩ := mt_ob2 h
    obtain ⟨o_, hp⟩ := ov_X2_size hp e7
    refine ov_b2 o_ ?_
    exact ov_ret hp h
def f_X10_imageAt (x0 : Nat) (x1 : Int32) (S : mt_S) : Option (Option Nat × mt_S) :=
  if mt_isK S x0 10 = true then
   if x1 < 0 then
    some (none, S)
   else
   if x1 < 2 then
    Option.bind (mt_rR S x0 10 4) fun v1 =>
    Option.bind (mt_aR S v1 x1) fun v2 =>
    some (some v2, S)
   else
    some (none, S)
  else none
theorem k_X10_imageAt {x0 : Nat} {x1 : Int32} {S : mt_S} {r : Option Nat} {S' : mt_S} (h : f_X10_imageAt x0 x1 S = some (r, S')) : mt_isK S x0 10 = true := by
  unfold f_X10_imageAt at h
  exact (mt_gd h).1
set_option maxHeartbeats 4000000 in
set_option maxRecDepth 100000 in
theorem m_X10_imageAt {B : mt_B}  {x0 : Nat} {x1 : Int32} {S : mt_S} {r : Option Nat} {S' : mt_S} (h : f_X10_imageAt x0 x1 S = some (r, S')) : mt_M B yX10_imageAt cX10_imageAt 2 (some (.object "MarkovTree$State")) 1 [mt_rf B x0, .int x1] S (some (mt_rfo B r)) S' := by
  unfold f_X10_imageAt at h
  refine mt_M.of (by decide) (Nat.le_of_ble_eq_true rfl) (fun E hC hE => ?_)
  obtain ⟨hk0, h⟩ := mt_gd h
  refine go_iload_n hC 1 dX10_imageAt_0 rfl rfl ?_
  refine go_if_lt hC (tgt := 9) dX10_imageAt_1 (by decide) (fun hc => ?_) (fun hc => ?_)
  · have h := mt_ip h hc
    refine go_null hC dX10_imageAt_9 ?_
    refine go_goto hC (tgt := 19) dX10_imageAt_10 (by decide) ?_
    exact go_aret hC (Or.inl rfl) (mt_reo h hE) dX10_imageAt_19
  · have h := mt_in' h hc
    refine go_iload_n hC 1 dX10_imageAt_4 rfl rfl ?_
    refine go_iconst (v := 2) hC dX10_imageAt_5 (by decide) ?_
    refine go_icmp_lt hC (tgt := 13) dX10_imageAt_6 (by decide) (fun hc => ?_) (fun hc => ?_)
    · have h := mt_ip h hc
      refine go_aload_n hC 0 dX10_imageAt_13 rfl rfl ?_
      obtain ⟨v1, e1, h⟩ := mt_ob h
      refine go_getR hC mt_flX10_37 e1 dX10_imageAt_14 ?_
      refine go_iload_n hC 1 dX10_imageAt_17 rfl rfl ?_
      obtain ⟨v2, e2, h⟩ := mt_ob h
      refine go_aald hC e2 dX10_imageAt_18 ?_
      exact go_aret hC (Or.inr ⟨_, rfl⟩) (mt_reo h hE) dX10_imageAt_19
    · have h := mt_in' h hc
      refine go_null hC dX10_imageAt_9 ?_
      refine go_goto hC (tgt := 19) dX10_imageAt_10 (by decide) ?_
      exact go_aret hC (Or.inl rfl) (mt_reo h hE) dX10_imageAt_19
set_option maxHeartbeats 4000000 in
set_option maxRecDepth 100000 in
theorem ov_X10_imageAt {T : mt_S}  {x0 : Nat} {x1 : Int32} {S : mt_S} {r : Option Nat} {S' : mt_S} (hp : mt_cp S T) (h : f_X10_imageAt x0 x1 S = some (r, S')) : f_X10_imageAt x0 x1 (mt_ov S T) = some (r, mt_ov S' T) ∧ mt_cp S' T := by
  unfold f_X10_imageAt at h ⊢
  obtain ⟨hg, h⟩ := mt_gd h
  refine ov_t (ov_K hp hg) ?_
  by_cases hc : x1 < 0
  · have h := mt_ip h hc
    refine ov_t hc ?_
    exact ov_ret hp h
  · have h := mt_in' h hc
    refine ov_f hc ?_
    by_cases hc : x1 < 2
    · have h := mt_ip h hc
      refine ov_t hc ?_
      obtain ⟨v1, e1, h⟩ := mt_ob h
      refine ov_b (ov_rR hp e1) ?_
      obtain ⟨v2, e2, h⟩ := mt_ob h
      refine ov_b (ov_aR hp e2) ?_
      exact ov_ret hp h
    · have h := mt_in' h hc
      refine ov_f hc ?_
      exact ov_ret hp h
def f_X10_image (x0 : Nat) (x1 : Int32) (S : mt_S) : Option (Int32 × mt_S) :=
  if mt_isK S x0 10 = true then
   mt_b2 (f_X10_imageAt x0 x1 S) fun v2 S1 =>
   mt_bo v2
   ( some (0, S1))
   (fun k3 =>
    Option.bind (mt_rR S1 x0 10 2) fun v4 =>
    Option.bind (f_X5_copyFrom k3 v4 S1) fun S5 =>
    Option.bind (mt_rR S5 x0 10 5) fun v6 =>
    Option.bind (mt_sI S5 v6 15 x1 (vp_nar .boolean 1)) fun S7 =>
    some (1, S7))
  else none
theorem k_X10_image {x0 : Nat} {x1 : Int32} {S : mt_S} {r : Int32} {S' : mt_S} (h : f_X10_image x0 x1 S = some (r, S')) : mt_isK S x0 10 = true := by
  unfold f_X10_image at h
  exact (mt_gd h).1
set_option maxHeartbeats 4000000 in
set_option maxRecDepth 100000 in
theorem m_X10_image {B : mt_B}  {x0 : Nat} {x1 : Int32} {S : mt_S} {r : Int32} {S' : mt_S} (h : f_X10_image x0 x1 S = some (r, S')) : mt_M B yX10_image cX10_image 3 (some .boolean) 4 [mt_rf B x0, .int x1] S (some (.int r)) S' := by
  unfold f_X10_image at h
  refine mt_M.of (by decide) (Nat.le_of_ble_eq_true rfl) (fun E hC hE => ?_)
  obtain ⟨hk0, h⟩ := mt_gd h
  refine go_aload_n hC 0 dX10_image_0 rfl rfl ?_
  refine go_iload_n hC 1 dX10_image_1 rfl rfl ?_
  obtain ⟨v2, S1, e2, h⟩ := mt_ob2 h
  cases v2 with
  | none =>
    have h : (_) = some _ := h
    refine go_callVn hC [.int x1] [] (m_X10_imageAt e2) mt_cvX10_322 (k_X10_imageAt e2) dX10_image_2 rfl rfl (by decide) (Nat.le_of_ble_eq_true rfl) ⟨Nat.le_refl _, Nat.le_refl _⟩ ?_
    refine go_astoreN_n hC [1, 2, 0] (lv1 := [(0, mt_rf B x0), (1, .int x1), (2, .null)]) dX10_image_5 rfl (by decide) rfl ?_
    refine go_aloadN_n hC 2 dX10_image_6 rfl rfl ?_
    refine go_ifnonnull_n hC dX10_image_7 ?_
    refine go_iconst (v := 0) hC dX10_image_10 (by decide) ?_
    exact go_zret hC (mt_rei h hE) (Or.inl rfl) dX10_image_11
  | some k3 =>
    have h : (_) = some _ := h
    refine go_callVo hC [.int x1] [] (m_X10_imageAt e2) mt_cvX10_322 (k_X10_imageAt e2) dX10_image_2 rfl rfl (by decide) (Nat.le_of_ble_eq_true rfl) ⟨Nat.le_refl _, Nat.le_refl _⟩ ?_
    refine go_astore_n hC [1, 2, 0] (lv1 := [(0, mt_rf B x0), (1, .int x1), (2, mt_rf B k3)]) dX10_image_5 rfl (by decide) rfl ?_
    refine go_aload_n hC 2 dX10_image_6 rfl rfl ?_
    refine go_ifnonnull_r hC (tgt := 12) dX10_image_7 (by decide) ?_
    refine go_aload_n hC 2 dX10_image_12 rfl rfl ?_
    refine go_aload_n hC 0 dX10_image_13 rfl rfl ?_
    obtain ⟨v4, e4, h⟩ := mt_ob h
    refine go_getR hC mt_flX10_26 e4 dX10_image_14 ?_
    obtain ⟨S5, e5, h⟩ := mt_ob h
    refine go_callVv hC [mt_rf B v4] [] (m_X5_copyFrom e5) mt_cvX10_326 (k_X5_copyFrom e5) dX10_image_17 rfl rfl (by decide) (Nat.le_of_ble_eq_true rfl) ⟨Nat.le_refl _, Nat.le_refl _⟩ ?_
    refine go_aload_n hC 0 dX10_image_20 rfl rfl ?_
    obtain ⟨v6, e6, h⟩ := mt_ob h
    refine go_getR hC mt_flX10_41 e6 dX10_image_21 ?_
    refine go_iload_n hC 1 dX10_image_24 rfl rfl ?_
    refine go_iconst (v := 1) hC dX10_image_25 (by decide) ?_
    obtain ⟨S7, e7, h⟩ := mt_ob h
    refine go_zast hC e7 dX10_image_26 ?_
    refine go_iconst (v := 1) hC dX10_image_27 (by decide) ?_
    exact go_zret hC (mt_rei h hE) (Or.inr rfl) dX10_image_28
set_option maxHeartbeats 4000000 in
set_option maxRecDepth 100000 in
theorem ov_X10_image {T : mt_S}  {x0 : Nat} {x1 : Int32} {S : mt_S} {r : Int32} {S' : mt_S} (hp : mt_cp S T) (h : f_X10_image x0 x1 S = some (r, S')) : f_X10_image x0 x1 (mt_ov S T) = some (r, mt_ov S' T) ∧ mt_cp S' T := by
  unfold f_X10_image at h ⊢
  obtain ⟨hg, h⟩ := mt_gd h
  refine ov_t (ov_K hp hg) ?_
  obtain ⟨v2, S1, e2, h⟩ := mt_ob2 h
  obtain ⟨o_, hp⟩ := ov_X10_imageAt hp e2
  refine ov_b2 o_ ?_
  cases v2 with
  | none =>
    exact ov_ret hp h
  | some k3 =>
    obtain ⟨v4, e4, h⟩ := mt_ob h
    refine ov_b (ov_rR hp e4) ?_
    obtain ⟨S5, e5, h⟩ := mt_ob h
    obtain ⟨o_, hp⟩ := ov_X5_copyFrom hp e5
    refine ov_b o_ ?_
    obtain ⟨v6, e6, h⟩ := mt_ob h
    refine ov_b (ov_rR hp e6) ?_
    obtain ⟨S7, e7, h⟩ := mt_ob h
    obtain ⟨o_, hp⟩ := ov_sI hp e7
    refine ov_b o_ ?_
    exact ov_ret hp h
def f_X10_restore (x0 : Nat) (x1 : Int32) (S : mt_S) : Option (Int32 × mt_S) :=
  if mt_isK S x0 10 = true then
   mt_b2 (f_X10_imageAt x0 x1 S) fun v2 S1 =>
   mt_bo v2
   ( some (0, S1))
   (fun k3 =>
    Option.bind (mt_rR S1 x0 10 5) fun v4 =>
    Option.bind (mt_aI S1 v4 15 x1) fun v5 =>
    if v5 = 0 then
     some (0, S1)
    else
     Option.bind (mt_rR S1 x0 10 2) fun v6 =>
     Option.bind (f_X5_copyFrom v6 k3 S1) fun S7 =>
     Option.bind (mt_rR S7 x0 10 3) fun v8 =>
     Option.bind (f_X2_forget v8 S7) fun S9 =>
     some (1, S9))
  else none
theorem k_X10_restore {x0 : Nat} {x1 : Int32} {S : mt_S} {r : Int32} {S' : mt_S} (h : f_X10_restore x0 x1 S = some (r, S')) : mt_isK S x0 10 = true := by
  unfold f_X10_restore at h
  exact (mt_gd h).1
set_option maxHeartbeats 4000000 in
set_option maxRecDepth 100000 in
theorem m_X10_restore {B : mt_B}  {x0 : Nat} {x1 : Int32} {S : mt_S} {r : Int32} {S' : mt_S} (h : f_X10_restore x0 x1 S = some (r, S')) : mt_M B yX10_restore cX10_restore 3 (some .boolean) 4 [mt_rf B x0, .int x1] S (some (.int r)) S' := by
  unfold f_X10_restore at h
  refine mt_M.of (by decide) (Nat.le_of_ble_eq_true rfl) (fun E hC hE => ?_)
  obtain ⟨hk0, h⟩ := mt_gd h
  refine go_aload_n hC 0 dX10_restore_0 rfl rfl ?_
  refine go_iload_n hC 1 dX10_restore_1 rfl rfl ?_
  obtain ⟨v2, S1, e2, h⟩ := mt_ob2 h
  cases v2 with
  | none =>
    have h : (_) = some _ := h
    refine go_callVn hC [.int x1] [] (m_X10_imageAt e2) mt_cvX10_322 (k_X10_imageAt e2) dX10_restore_2 rfl rfl (by decide) (Nat.le_of_ble_eq_true rfl) ⟨Nat.le_refl _, Nat.le_refl _⟩ ?_
    refine go_astoreN_n hC [1, 2, 0] (lv1 := [(0, mt_rf B x0), (1, .int x1), (2, .null)]) dX10_restore_5 rfl (by decide) rfl ?_
    refine go_aloadN_n hC 2 dX10_restore_6 rfl rfl ?_
    refine go_ifnull_n hC (tgt := 19) dX10_restore_7 (by decide) ?_
    refine go_iconst (v := 0) hC dX10_restore_19 (by decide) ?_
    exact go_zret hC (mt_rei h hE) (Or.inl rfl) dX10_restore_20
  | some k3 =>
    have h : (_) = some _ := h
    refine go_callVo hC [.int x1] [] (m_X10_imageAt e2) mt_cvX10_322 (k_X10_imageAt e2) dX10_restore_2 rfl rfl (by decide) (Nat.le_of_ble_eq_true rfl) ⟨Nat.le_refl _, Nat.le_refl _⟩ ?_
    refine go_astore_n hC [1, 2, 0] (lv1 := [(0, mt_rf B x0), (1, .int x1), (2, mt_rf B k3)]) dX10_restore_5 rfl (by decide) rfl ?_
    refine go_aload_n hC 2 dX10_restore_6 rfl rfl ?_
    refine go_ifnull_r hC dX10_restore_7 ?_
    refine go_aload_n hC 0 dX10_restore_10 rfl rfl ?_
    obtain ⟨v4, e4, h⟩ := mt_ob h
    refine go_getR hC mt_flX10_41 e4 dX10_restore_11 ?_
    refine go_iload_n hC 1 dX10_restore_14 rfl rfl ?_
    obtain ⟨v5, e5, h⟩ := mt_ob h
    refine go_zald hC e5 dX10_restore_15 ?_
    refine go_if_ne hC (tgt := 21) dX10_restore_16 (by decide) (fun hc => ?_) (fun hc => ?_)
    · have h := mt_in' h hc
      refine go_aload_n hC 0 dX10_restore_21 rfl rfl ?_
      obtain ⟨v6, e6, h⟩ := mt_ob h
      refine go_getR hC mt_flX10_26 e6 dX10_restore_22 ?_
      refine go_aload_n hC 2 dX10_restore_25 rfl rfl ?_
      obtain ⟨S7, e7, h⟩ := mt_ob h
      refine go_callVv hC [mt_rf B k3] [] (m_X5_copyFrom e7) mt_cvX10_326 (k_X5_copyFrom e7) dX10_restore_26 rfl rfl (by decide) (Nat.le_of_ble_eq_true rfl) ⟨Nat.le_refl _, Nat.le_refl _⟩ ?_
      refine go_aload_n hC 0 dX10_restore_29 rfl rfl ?_
      obtain ⟨v8, e8, h⟩ := mt_ob h
      refine go_getR hC mt_flX10_33 e8 dX10_restore_30 ?_
      obtain ⟨S9, e9, h⟩ := mt_ob h
      refine go_callVv hC [] [] (m_X2_forget e9) mt_cvX10_329 (k_X2_forget e9) dX10_restore_33 rfl rfl (by decide) (Nat.le_of_ble_eq_true rfl) ⟨Nat.le_refl _, Nat.le_refl _⟩ ?_
      refine go_iconst (v := 1) hC dX10_restore_36 (by decide) ?_
      exact go_zret hC (mt_rei h hE) (Or.inr rfl) dX10_restore_37
    · have h := mt_ip h hc
      refine go_iconst (v := 0) hC dX10_restore_19 (by decide) ?_
      exact go_zret hC (mt_rei h hE) (Or.inl rfl) dX10_restore_20
set_option maxHeartbeats 4000000 in
set_option maxRecDepth 100000 in
theorem ov_X10_restore {T : mt_S}  {x0 : Nat} {x1 : Int32} {S : mt_S} {r : Int32} {S' : mt_S} (hp : mt_cp S T) (h : f_X10_restore x0 x1 S = some (r, S')) : f_X10_restore x0 x1 (mt_ov S T) = some (r, mt_ov S' T) ∧ mt_cp S' T := by
  unfold f_X10_restore at h ⊢
  obtain ⟨hg, h⟩ := mt_gd h
  refine ov_t (ov_K hp hg) ?_
  obtain ⟨v2, S1, e2, h⟩ := mt_ob2 h
  obtain ⟨o_, hp⟩ := ov_X10_imageAt hp e2
  refine ov_b2 o_ ?_
  cases v2 with
  | none =>
    exact ov_ret hp h
  | some k3 =>
    obtain ⟨v4, e4, h⟩ := mt_ob h
    refine ov_b (ov_rR hp e4) ?_
    obtain ⟨v5, e5, h⟩ := mt_ob h
    refine ov_b (ov_aI hp e5) ?_
    by_cases hc : v5 = 0
    · have h := mt_ip h hc
      refine ov_t hc ?_
      exact ov_ret hp h
    · have h := mt_in' h hc
      refine ov_f hc ?_
      obtain ⟨v6, e6, h⟩ := mt_ob h
      refine ov_b (ov_rR hp e6) ?_
      obtain ⟨S7, e7, h⟩ := mt_ob h
      obtain ⟨o_, hp⟩ := ov_X5_copyFrom hp e7
      refine ov_b o_ ?_
      obtain ⟨v8, e8, h⟩ := mt_ob h
      refine ov_b (ov_rR hp e8) ?_
      obtain ⟨S9, e9, h⟩ := mt_ob h
      obtain ⟨o_, hp⟩ := ov_X2_forget hp e9
      refine ov_b o_ ?_
      exact ov_ret hp h
