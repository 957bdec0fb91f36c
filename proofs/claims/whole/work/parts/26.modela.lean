def f_X11_thrown (x0 : Nat) (S : mt_S) : Option (Int32 × mt_S) :=
  if mt_isK S x0 11 = true then
   Option.bind (mt_rI S x0 11 0) fun v1 =>
   some (v1, S)
  else none
theorem k_X11_thrown {x0 : Nat} {S : mt_S} {r : Int32} {S' : mt_S} (h : f_X11_thrown x0 S = some (r, S')) : mt_isK S x0 11 = true := by
  unfold f_X11_thrown at h
  exact (mt_gd h).1
set_option maxHeartbeats 4000000 in
set_option maxRecDepth 100000 in
theorem m_X11_thrown {B : mt_B}  {x0 : Nat} {S : mt_S} {r : Int32} {S' : mt_S} (h : f_X11_thrown x0 S = some (r, S')) : mt_M B yX11_thrown cX11_thrown 1 (some .int) 1 [mt_rf B x0] S (some (.int r)) S' := by
  unfold f_X11_thrown at h
  refine mt_M.of (by decide) (Nat.le_of_ble_eq_true rfl) (fun E hC hE => ?_)
  obtain ⟨hk0, h⟩ := mt_gd h
  refine go_aload_n hC 0 dX11_thrown_0 rfl rfl ?_
  obtain ⟨v1, e1, h⟩ := mt_ob h
  refine go_getI hC mt_flX11_1 e1 dX11_thrown_1 ?_
  exact go_iret hC (mt_rei h hE) dX11_thrown_4
set_option maxHeartbeats 4000000 in
set_option maxRecDepth 100000 in
theorem ov_X11_thrown {T : mt_S}  {x0 : Nat} {S : mt_S} {r : Int32} {S' : mt_S} (hp : mt_cp S T) (h : f_X11_thrown x0 S = some (r, S')) : f_X11_thrown x0 (mt_ov S T) = some (r, mt_ov S' T) ∧ mt_cp S' T := by
  unfold f_X11_thrown at h ⊢
  obtain ⟨hg, h⟩ := mt_gd h
  refine ov_t (ov_K hp hg) ?_
  obtain ⟨v1, e1, h⟩ := mt_ob h
  refine ov_b (ov_rI hp e1) ?_
  exact ov_ret hp h
def f_X11_refuse (x0 : Nat) (S : mt_S) : Option (Int32 × mt_S) :=
  if mt_isK S x0 11 = true then
   Option.bind (mt_wI S x0 11 0 1) fun S1 =>
   some (0, S1)
  else none
theorem k_X11_refuse {x0 : Nat} {S : mt_S} {r : Int32} {S' : mt_S} (h : f_X11_refuse x0 S = some (r, S')) : mt_isK S x0 11 = true := by
  unfold f_X11_refuse at h
  exact (mt_gd h).1
set_option maxHeartbeats 4000000 in
set_option maxRecDepth 100000 in
theorem m_X11_refuse {B : mt_B}  {x0 : Nat} {S : mt_S} {r : Int32} {S' : mt_S} (h : f_X11_refuse x0 S = some (r, S')) : mt_M B yX11_refuse cX11_refuse 1 (some .int) 1 [mt_rf B x0] S (some (.int r)) S' := by
  unfold f_X11_refuse at h
  refine mt_M.of (by decide) (Nat.le_of_ble_eq_true rfl) (fun E hC hE => ?_)
  obtain ⟨hk0, h⟩ := mt_gd h
  refine go_aload_n hC 0 dX11_refuse_0 rfl rfl ?_
  refine go_iconst (v := 1) hC dX11_refuse_1 (by decide) ?_
  obtain ⟨S1, e1, h⟩ := mt_ob h
  refine go_putI hC mt_flX11_1 e1 dX11_refuse_2 ?_
  refine go_iconst (v := 0) hC dX11_refuse_5 (by decide) ?_
  exact go_iret hC (mt_rei h hE) dX11_refuse_6
set_option maxHeartbeats 4000000 in
set_option maxRecDepth 100000 in
theorem ov_X11_refuse {T : mt_S}  {x0 : Nat} {S : mt_S} {r : Int32} {S' : mt_S} (hp : mt_cp S T) (h : f_X11_refuse x0 S = some (r, S')) : f_X11_refuse x0 (mt_ov S T) = some (r, mt_ov S' T) ∧ mt_cp S' T := by
  unfold f_X11_refuse at h ⊢
  obtain ⟨hg, h⟩ := mt_gd h
  refine ov_t (ov_K hp hg) ?_
  obtain ⟨S1, e1, h⟩ := mt_ob h
  obtain ⟨o_, hp⟩ := ov_wI hp e1
  refine ov_b o_ ?_
  exact ov_ret hp h
def f_X11_isIn (x0 : Int64) (x2 : Int64) (x4 : Int64) (S : mt_S) : Option (Int32 × mt_S) :=
  if x0 < x2 then
   some (0, S)
  else
  if x4 < x0 then
   some (0, S)
  else
   some (1, S)
set_option maxHeartbeats 4000000 in
set_option maxRecDepth 100000 in
theorem m_X11_isIn {B : mt_B}  {x0 : Int64} {x2 : Int64} {x4 : Int64} {S : mt_S} {r : Int32} {S' : mt_S} (h : f_X11_isIn x0 x2 x4 S = some (r, S')) : mt_M B yX11_isIn cX11_isIn 6 (some .boolean) 1 [.long x0, .long x2, .long x4] S (some (.int r)) S' := by
  unfold f_X11_isIn at h
  refine mt_M.of (by decide) (Nat.le_of_ble_eq_true rfl) (fun E hC hE => ?_)
  refine go_lload_n hC 0 dX11_isIn_0 rfl rfl ?_
  refine go_lload_n hC 1 dX11_isIn_1 rfl rfl ?_
  refine go_lcmp_lt hC (tgt := 17) dX11_isIn_2 dX11_isIn_3 (by decide) (fun hc => ?_) (fun hc => ?_)
  · have h := mt_ip h hc
    refine go_iconst (v := 0) hC dX11_isIn_17 (by decide) ?_
    exact go_zret hC (mt_rei h hE) (Or.inl rfl) dX11_isIn_18
  · have h := mt_in' h hc
    refine go_lload_n hC 0 dX11_isIn_6 rfl rfl ?_
    refine go_lload hC 2 dX11_isIn_7 rfl ?_
    refine go_lcmp_gt hC (tgt := 17) dX11_isIn_9 dX11_isIn_10 (by decide) (fun hc => ?_) (fun hc => ?_)
    · have h := mt_ip h hc
      refine go_iconst (v := 0) hC dX11_isIn_17 (by decide) ?_
      exact go_zret hC (mt_rei h hE) (Or.inl rfl) dX11_isIn_18
    · have h := mt_in' h hc
      refine go_iconst (v := 1) hC dX11_isIn_13 (by decide) ?_
      refine go_goto hC (tgt := 18) dX11_isIn_14 (by decide) ?_
      exact go_zret hC (mt_rei h hE) (Or.inr rfl) dX11_isIn_18
set_option maxHeartbeats 4000000 in
set_option maxRecDepth 100000 in
theorem ov_X11_isIn {T : mt_S}  {x0 : Int64} {x2 : Int64} {x4 : Int64} {S : mt_S} {r : Int32} {S' : mt_S} (hp : mt_cp S T) (h : f_X11_isIn x0 x2 x4 S = some (r, S')) : f_X11_isIn x0 x2 x4 (mt_ov S T) = some (r, mt_ov S' T) ∧ mt_cp S' T := by
  unfold f_X11_isIn at h ⊢
  by_cases hc : x0 < x2
  · have h := mt_ip h hc
    refine ov_t hc ?_
    exact ov_ret hp h
  · have h := mt_in' h hc
    refine ov_f hc ?_
    by_cases hc : x4 < x0
    · have h := mt_ip h hc
      refine ov_t hc ?_
      exact ov_ret hp h
    · have h := mt_in' h hc
      refine ov_f hc ?_
      exact ov_ret hp h
def f_X11_lay_L3s (rc : Nat → Int32 → Int32 → mt_S → Option (mt_S)) (x0 : Nat) (x1 : Int32) (x2 : Int32) (S : mt_S) : Option (mt_S) :=
  if x2 < 0 then
   some S
  else
   Option.bind (mt_rR S x0 11 1) fun v1 =>
   Option.bind (mt_rI S x0 11 2) fun v2 =>
   Option.bind (mt_sI S v1 13 v2 (((x1.toUInt32 >>> (x2.toUInt32 &&& Int32.toUInt32 31)).toInt32) &&& 255)) fun S3 =>
   Option.bind (mt_rI S3 x0 11 2) fun v4 =>
   Option.bind (mt_wI S3 x0 11 2 (v4 + 1)) fun S5 =>
   rc x0 x1 (x2 + (-8)) S5
def f_X11_lay_L3 : Nat → Nat → Int32 → Int32 → mt_S → Option (mt_S)
  | 0 => fun _ _ _ _ => none
  | n + 1 => f_X11_lay_L3s (f_X11_lay_L3 n)
set_option maxHeartbeats 4000000 in
set_option maxRecDepth 100000 in
theorem m_X11_lay_L3 {B : mt_B} {E : mt_E} {S' : mt_S} (hC : mt_Cx B E cX11_lay RX11 none 3 1 0 0) (hE : mt_End B E (0, 0) none S') : ∀ (n : Nat) (x0 : Nat) (x1 : Int32) (x2 : Int32) (S : mt_S), f_X11_lay_L3 n x0 x1 x2 S = some S' → mt_Go B E (0, 0) S 3 [(0, mt_rf B x0), (1, .int x1), (2, .int x2)] [] := by
  intro n
  induction n with
  | zero =>
    intro x0 x1 x2 S h
    cases h
  | succ n ih =>
    intro x0 x1 x2 S h
    have h : f_X11_lay_L3s (f_X11_lay_L3 n) x0 x1 x2 S = some S' := h
    unfold f_X11_lay_L3s at h
    refine go_iload_n hC 2 dX11_lay_3 rfl rfl ?_
    refine go_if_lt hC (tgt := 39) dX11_lay_4 (by decide) (fun hc => ?_) (fun hc => ?_)
    · have h := mt_ip h hc
      exact go_vret hC (mt_rev h hE) dX11_lay_39
    · have h := mt_in' h hc
      refine go_aload_n hC 0 dX11_lay_7 rfl rfl ?_
      obtain ⟨v1, e1, h⟩ := mt_ob h
      refine go_getR hC mt_flX11_7 e1 dX11_lay_8 ?_
      refine go_aload_n hC 0 dX11_lay_11 rfl rfl ?_
      obtain ⟨v2, e2, h⟩ := mt_ob h
      refine go_getI hC mt_flX11_11 e2 dX11_lay_12 ?_
      refine go_iload_n hC 1 dX11_lay_15 rfl rfl ?_
      refine go_iload_n hC 2 dX11_lay_16 rfl rfl ?_
      refine go_iushr hC dX11_lay_17 ?_
      refine go_sipush (v := 255) hC dX11_lay_18 (by decide) ?_
      refine go_iand hC dX11_lay_21 ?_
      obtain ⟨S3, e3, h⟩ := mt_ob h
      refine go_iast hC e3 dX11_lay_22 ?_
      refine go_aload_n hC 0 dX11_lay_23 rfl rfl ?_
      refine go_dup hC dX11_lay_24 rfl ?_
      obtain ⟨v4, e4, h⟩ := mt_ob h
      refine go_getI hC mt_flX11_11 e4 dX11_lay_25 ?_
      refine go_iconst (v := 1) hC dX11_lay_28 (by decide) ?_
      refine go_iadd hC dX11_lay_29 ?_
      obtain ⟨S5, e5, h⟩ := mt_ob h
      refine go_putI hC mt_flX11_11 e5 dX11_lay_30 ?_
      refine go_iinc hC 2 [1, 2, 0] (v := x2 + (-8)) (lv1 := [(0, mt_rf B x0), (1, .int x1), (2, .int (x2 + (-8)))]) dX11_lay_33 rfl rfl (by decide) rfl ?_
      refine go_goto hC (tgt := 3) dX11_lay_36 (by decide) ?_
      exact ih _ _ _ _ h
set_option maxHeartbeats 4000000 in
set_option maxRecDepth 100000 in
theorem ov_X11_lay_L3 {T : mt_S} {S' : mt_S} : ∀ (n : Nat) (x0 : Nat) (x1 : Int32) (x2 : Int32) (S : mt_S), mt_cp S T → f_X11_lay_L3 n x0 x1 x2 S = some S' → f_X11_lay_L3 n x0 x1 x2 (mt_ov S T) = some (mt_ov S' T) ∧ mt_cp S' T := by
  intro n
  induction n with
  | zero =>
    intro x0 x1 x2 S hp h
    cases h
  | succ n ih =>
    intro x0 x1 x2 S hp h
    have h : f_X11_lay_L3s (f_X11_lay_L3 n) x0 x1 x2 S = some S' := h
    show f_X11_lay_L3s (f_X11_lay_L3 n) x0 x1 x2 (mt_ov S T) = some (mt_ov S' T) ∧ mt_cp S' T
    unfold f_X11_lay_L3s at h ⊢
    by_cases hc : x2 < 0
    · have h := mt_ip h hc
      refine ov_t hc ?_
      exact ov_retv hp h
    · have h := mt_in' h hc
      refine ov_f hc ?_
      obtain ⟨v1, e1, h⟩ := mt_ob h
      refine ov_b (ov_rR hp e1) ?_
      obtain ⟨v2, e2, h⟩ := mt_ob h
      refine ov_b (ov_rI hp e2) ?_
      obtain ⟨S3, e3, h⟩ := mt_ob h
      obtain ⟨o_, hp⟩ := ov_sI hp e3
      refine ov_b o_ ?_
      obtain ⟨v4, e4, h⟩ := mt_ob h
      refine ov_b (ov_rI hp e4) ?_
      obtain ⟨S5, e5, h⟩ := mt_ob h
      obtain ⟨o_, hp⟩ := ov_wI hp e5
      refine ov_b o_ ?_
      exact ih _ _ _ _ hp h
def f_X11_lay (x0 : Nat) (x1 : Int32) (S : mt_S) : Option (mt_S) :=
  if mt_isK S x0 11 = true then
   f_X11_lay_L3 1000 x0 x1 24 S
  else none
theorem k_X11_lay {x0 : Nat} {x1 : Int32} {S : mt_S} {S' : mt_S} (h : f_X11_lay x0 x1 S = some S') : mt_isK S x0 11 = true := by
  unfold f_X11_lay at h
  exact (mt_gd h).1
set_option maxHeartbeats 4000000 in
set_option maxRecDepth 100000 in
theorem m_X11_lay {B : mt_B}  {x0 : Nat} {x1 : Int32} {S : mt_S} {S' : mt_S} (h : f_X11_lay x0 x1 S = some S') : mt_M B yX11_lay cX11_lay 3 none 1 [mt_rf B x0, .int x1] S none S' := by
  unfold f_X11_lay at h
  refine mt_M.of (by decide) (Nat.le_of_ble_eq_true rfl) (fun E hC hE => ?_)
  obtain ⟨hk0, h⟩ := mt_gd h
  refine go_bipush (v := 24) hC dX11_lay_0 (by decide) ?_
  refine go_istore_n hC [1, 2, 0] (lv1 := [(0, mt_rf B x0), (1, .int x1), (2, .int 24)]) dX11_lay_2 rfl (by decide) rfl ?_
  exact m_X11_lay_L3 hC hE 1000 _ _ _ _ h
set_option maxHeartbeats 4000000 in
set_option maxRecDepth 100000 in
theorem ov_X11_lay {T : mt_S}  {x0 : Nat} {x1 : Int32} {S : mt_S} {S' : mt_S} (hp : mt_cp S T) (h : f_X11_lay x0 x1 S = some S') : f_X11_lay x0 x1 (mt_ov S T) = some (mt_ov S' T) ∧ mt_cp S' T := by
  unfold f_X11_lay at h ⊢
  obtain ⟨hg, h⟩ := mt_gd h
  refine ov_t (ov_K hp hg) ?_
  exact ov_X11_lay_L3 1000 _ _ _ _ hp h
def f_X11_feed (x0 : Nat) (x1 : Int32) (x2 : Int32) (x3 : Int32) (x4 : Int32) (x5 : Int32) (S : mt_S) : Option (Int32 × mt_S) :=
  if mt_isK S x0 11 = true then
   Option.bind (mt_wI S x0 11 0 0) fun S1 =>
   Option.bind (mt_rI S1 x0 11 2) fun v2 =>
   if (v2 + 20) ≤ 240 then
    Option.bind (f_X11_lay x0 x1 S1) fun S3 =>
    Option.bind (f_X11_lay x0 x2 S3) fun S4 =>
    Option.bind (f_X11_lay x0 x3 S4) fun S5 =>
    Option.bind (f_X11_lay x0 x4 S5) fun S6 =>
    Option.bind (f_X11_lay x0 x5 S6) fun S7 =>
    Option.bind (mt_rI S7 x0 11 2) fun v8 =>
    some (v8, S7)
   else
    some ((-1), S1)
  else none
theorem k_X11_feed {x0 : Nat} {x1 : Int32} {x2 : Int32} {x3 : Int32} {x4 : Int32} {x5 : Int32} {S : mt_S} {r : Int32} {S' : mt_S} (h : f_X11_feed x0 x1 x2 x3 x4 x5 S = some (r, S')) : mt_isK S x0 11 = true := by
  unfold f_X11_feed at h
  exact (mt_gd h).1
set_option maxHeartbeats 4000000 in
set_option maxRecDepth 100000 in
theorem m_X11_feed {B : mt_B}  {x0 : Nat} {x1 : Int32} {x2 : Int32} {x3 : Int32} {x4 : Int32} {x5 : Int32} {S : mt_S} {r : Int32} {S' : mt_S} (h : f_X11_feed x0 x1 x2 x3 x4 x5 S = some (r, S')) : mt_M B yX11_feed cX11_feed 6 (some .int) 2 [mt_rf B x0, .int x1, .int x2, .int x3, .int x4, .int x5] S (some (.int r)) S' := by
  unfold f_X11_feed at h
  refine mt_M.of (by decide) (Nat.le_of_ble_eq_true rfl) (fun E hC hE => ?_)
  obtain ⟨hk0, h⟩ := mt_gd h
  refine go_aload_n hC 0 dX11_feed_0 rfl rfl ?_
  refine go_iconst (v := 0) hC dX11_feed_1 (by decide) ?_
  obtain ⟨S1, e1, h⟩ := mt_ob h
  refine go_putI hC mt_flX11_1 e1 dX11_feed_2 ?_
  refine go_aload_n hC 0 dX11_feed_5 rfl rfl ?_
  obtain ⟨v2, e2, h⟩ := mt_ob h
  refine go_getI hC mt_flX11_11 e2 dX11_feed_6 ?_
  refine go_bipush (v := 20) hC dX11_feed_9 (by decide) ?_
  refine go_iadd hC dX11_feed_11 ?_
  refine go_sipush (v := 240) hC dX11_feed_12 (by decide) ?_
  refine go_icmp_le hC (tgt := 20) dX11_feed_15 (by decide) (fun hc => ?_) (fun hc => ?_)
  · have h := mt_ip h hc
    refine go_aload_n hC 0 dX11_feed_20 rfl rfl ?_
    refine go_iload_n hC 1 dX11_feed_21 rfl rfl ?_
    obtain ⟨S3, e3, h⟩ := mt_ob h
    refine go_callVv hC [.int x1] [] (m_X11_lay e3) mt_cvX11_14 (k_X11_lay e3) dX11_feed_22 rfl rfl (by decide) (Nat.le_of_ble_eq_true rfl) ⟨Nat.le_refl _, Nat.le_refl _⟩ ?_
    refine go_aload_n hC 0 dX11_feed_25 rfl rfl ?_
    refine go_iload_n hC 2 dX11_feed_26 rfl rfl ?_
    obtain ⟨S4, e4, h⟩ := mt_ob h
    refine go_callVv hC [.int x2] [] (m_X11_lay e4) mt_cvX11_14 (k_X11_lay e4) dX11_feed_27 rfl rfl (by decide) (Nat.le_of_ble_eq_true rfl) ⟨Nat.le_refl _, Nat.le_refl _⟩ ?_
    refine go_aload_n hC 0 dX11_feed_30 rfl rfl ?_
    refine go_iload_n hC 3 dX11_feed_31 rfl rfl ?_
    obtain ⟨S5, e5, h⟩ := mt_ob h
    refine go_callVv hC [.int x3] [] (m_X11_lay e5) mt_cvX11_14 (k_X11_lay e5) dX11_feed_32 rfl rfl (by decide) (Nat.le_of_ble_eq_true rfl) ⟨Nat.le_refl _, Nat.le_refl _⟩ ?_
    refine go_aload_n hC 0 dX11_feed_35 rfl rfl ?_
    refine go_iload hC 4 dX11_feed_36 rfl ?_
    obtain ⟨S6, e6, h⟩ := mt_ob h
    refine go_callVv hC [.int x4] [] (m_X11_lay e6) mt_cvX11_14 (k_X11_lay e6) dX11_feed_38 rfl rfl (by decide) (Nat.le_of_ble_eq_true rfl) ⟨Nat.le_refl _, Nat.le_refl _⟩ ?_
    refine go_aload_n hC 0 dX11_feed_41 rfl rfl ?_
    refine go_iload hC 5 dX11_feed_42 rfl ?_
    obtain ⟨S7, e7, h⟩ := mt_ob h
    refine go_callVv hC [.int x5] [] (m_X11_lay e7) mt_cvX11_14 (k_X11_lay e7) dX11_feed_44 rfl rfl (by decide) (Nat.le_of_ble_eq_true rfl) ⟨Nat.le_refl _, Nat.le_refl _⟩ ?_
    refine go_aload_n hC 0 dX11_feed_47 rfl rfl ?_
    obtain ⟨v8, e8, h⟩ := mt_ob h
    refine go_getI hC mt_flX11_11 e8 dX11_feed_48 ?_
    exact go_iret hC (mt_rei h hE) dX11_feed_51
  · have h := mt_in' h hc
    refine go_iconst (v := (-1)) hC dX11_feed_18 (by decide) ?_
    exact go_iret hC (mt_rei h hE) dX11_feed_19
set_option maxHeartbeats 4000000 in
set_option maxRecDepth 100000 in
theorem ov_X11_feed {T : mt_S}  {x0 : Nat} {x1 : Int32} {x2 : Int32} {x3 : Int32} {x4 : Int32} {x5 : Int32} {S : mt_S} {r : Int32} {S' : mt_S} (hp : mt_cp S T) (h : f_X11_feed x0 x1 x2 x3 x4 x5 S = some (r, S')) : f_X11_feed x0 x1 x2 x3 x4 x5 (mt_ov S T) = some (r, mt_ov S' T) ∧ mt_cp S' T := by
  unfold f_X11_feed at h ⊢
  obtain ⟨hg, h⟩ := mt_gd h
  refine ov_t (ov_K hp hg) ?_
  obtain ⟨S1, e1, h⟩ := mt_ob h
  obtain ⟨o_, hp⟩ := ov_wI hp e1
  refine ov_b o_ ?_
  obtain ⟨v2, e2, h⟩ := mt_ob h
  refine ov_b (ov_rI hp e2) ?_
  by_cases hc : (v2 + 20) ≤ 240
  · have h := mt_ip h hc
    refine ov_t hc ?_
    obtain ⟨S3, e3, h⟩ := mt_ob h
    obtain ⟨o_, hp⟩ := ov_X11_lay hp e3
    refine ov_b o_ ?_
    obtain ⟨S4, e4, h⟩ := mt_ob h
    obtain ⟨o_, hp⟩ := ov_X11_lay hp e4
    refine ov_b o_ ?_
    obtain ⟨S5, e5, h⟩ := mt_ob h
    obtain ⟨o_, hp⟩ := ov_X11_lay hp e5
    refine ov_b o_ ?_
    obtain ⟨S6, e6, h⟩ := mt_ob h
    obtain ⟨o_, hp⟩ := ov_X11_lay hp e6
    refine ov_b o_ ?_
    obtain ⟨S7, e7, h⟩ := mt_ob h
    obtain ⟨o_, hp⟩ := ov_X11_lay hp e7
    refine ov_b o_ ?_
    obtain ⟨v8, e8, h⟩ := mt_ob h
    refine ov_b (ov_rI hp e8) ?_
    exact ov_ret hp h
  · have h := mt_in' h hc
    refine ov_f hc ?_
    exact ov_ret hp h
def f_X11_end (x0 : Nat) (x1 : Int32) (S : mt_S) : Option (Int32 × mt_S) :=
  if mt_isK S x0 11 = true then
   Option.bind (mt_wI S x0 11 0 0) fun S1 =>
   if x1 < 0 then
    some (0, S1)
   else
    Option.bind (mt_rI S1 x0 11 2) fun v2 =>
    if x1 ≤ v2 then
     Option.bind (mt_wI S1 x0 11 2 x1) fun S3 =>
     some (1, S3)
    else
     some (0, S1)
  else none
theorem k_X11_end {x0 : Nat} {x1 : Int32} {S : mt_S} {r : Int32} {S' : mt_S} (h : f_X11_end x0 x1 S = some (r, S')) : mt_isK S x0 11 = true := by
  unfold f_X11_end at h
  exact (mt_gd h).1
set_option maxHeartbeats 4000000 in
set_option maxRecDepth 100000 in
theorem m_X11_end {B : mt_B}  {x0 : Nat} {x1 : Int32} {S : mt_S} {r : Int32} {S' : mt_S} (h : f_X11_end x0 x1 S = some (r, S')) : mt_M B yX11_end cX11_end 2 (some .boolean) 1 [mt_rf B x0, .int x1] S (some (.int r)) S' := by
  unfold f_X11_end at h
  refine mt_M.of (by decide) (Nat.le_of_ble_eq_true rfl) (fun E hC hE => ?_)
  obtain ⟨hk0, h⟩ := mt_gd h
  refine go_aload_n hC 0 dX11_end_0 rfl rfl ?_
  refine go_iconst (v := 0) hC dX11_end_1 (by decide) ?_
  obtain ⟨S1, e1, h⟩ := mt_ob h
  refine go_putI hC mt_flX11_1 e1 dX11_end_2 ?_
  refine go_iload_n hC 1 dX11_end_5 rfl rfl ?_
  refine go_if_lt hC (tgt := 17) dX11_end_6 (by decide) (fun hc => ?_) (fun hc => ?_)
  · have h := mt_ip h hc
    refine go_iconst (v := 0) hC dX11_end_17 (by decide) ?_
    exact go_zret hC (mt_rei h hE) (Or.inl rfl) dX11_end_18
  · have h := mt_in' h hc
    refine go_iload_n hC 1 dX11_end_9 rfl rfl ?_
    refine go_aload_n hC 0 dX11_end_10 rfl rfl ?_
    obtain ⟨v2, e2, h⟩ := mt_ob h
    refine go_getI hC mt_flX11_11 e2 dX11_end_11 ?_
    refine go_icmp_le hC (tgt := 19) dX11_end_14 (by decide) (fun hc => ?_) (fun hc => ?_)
    · have h := mt_ip h hc
      refine go_aload_n hC 0 dX11_end_19 rfl rfl ?_
      refine go_iload_n hC 1 dX11_end_20 rfl rfl ?_
      obtain ⟨S3, e3, h⟩ := mt_ob h
      refine go_putI hC mt_flX11_11 e3 dX11_end_21 ?_
      refine go_iconst (v := 1) hC dX11_end_24 (by decide) ?_
      exact go_zret hC (mt_rei h hE) (Or.inr rfl) dX11_end_25
    · have h := mt_in' h hc
      refine go_iconst (v := 0) hC dX11_end_17 (by decide) ?_
      exact go_zret hC (mt_rei h hE) (Or.inl rfl) dX11_end_18
set_option maxHeartbeats 4000000 in
set_option maxRecDepth 100000 in
theorem ov_X11_end {T : mt_S}  {x0 : Nat} {x1 : Int32} {S : mt_S} {r : Int32} {S' : mt_S} (hp : mt_cp S T) (h : f_X11_end x0 x1 S = some (r, S')) : f_X11_end x0 x1 (mt_ov S T) = some (r, mt_ov S' T) ∧ mt_cp S' T := by
  unfold f_X11_end at h ⊢
  obtain ⟨hg, h⟩ := mt_gd h
  refine ov_t (ov_K hp hg) ?_
  obtain ⟨S1, e1, h⟩ := mt_ob h
  obtain ⟨o_, hp⟩ := ov_wI hp e1
  refine ov_b o_ ?_
  by_cases hc : x1 < 0
  · have h := mt_ip h hc
    refine ov_t hc ?_
    exact ov_ret hp h
  · have h := mt_in' h hc
    refine ov_f hc ?_
    obtain ⟨v2, e2, h⟩ := mt_ob h
    refine ov_b (ov_rI hp e2) ?_
    by_cases hc : x1 ≤ v2
    · have h := mt_ip h hc
      refine ov_t hc ?_
      obtain ⟨S3, e3, h⟩ := mt_ob h
      obtain ⟨o_, hp⟩ := ov_wI hp e3
      refine ov_b o_ ?_
      exact ov_ret hp h
    · have h := mt_in' h hc
      refine ov_f hc ?_
      exact ov_ret hp h
def f_X11_copy_L3s (rc : Nat → Int32 → Nat → Int32 → Int32 → mt_S → Option (mt_S)) (x0 : Nat) (x1 : Int32) (x2 : Nat) (x3 : Int32) (x4 : Int32) (S : mt_S) : Option (mt_S) :=
  if 35 ≤ x4 then
   some S
  else
   Option.bind (mt_aI S x0 13 (x1 + x4)) fun v1 =>
   Option.bind (mt_sI S x2 13 (x3 + x4) v1) fun S2 =>
   rc x0 x1 x2 x3 (x4 + 1) S2
def f_X11_copy_L3 : Nat → Nat → Int32 → Nat → Int32 → Int32 → mt_S → Option (mt_S)
  | 0 => fun _ _ _ _ _ _ => none
  | n + 1 => f_X11_copy_L3s (f_X11_copy_L3 n)
set_option maxHeartbeats 4000000 in
set_option maxRecDepth 100000 in
theorem m_X11_copy_L3 {B : mt_B} {E : mt_E} {S' : mt_S} (hC : mt_Cx B E cX11_copy RX11 none 5 1 0 0) (hE : mt_End B E (0, 0) none S') : ∀ (n : Nat) (x0 : Nat) (x1 : Int32) (x2 : Nat) (x3 : Int32) (x4 : Int32) (S : mt_S), f_X11_copy_L3 n x0 x1 x2 x3 x4 S = some S' → mt_Go B E (0, 0) S 3 [(0, mt_rf B x0), (1, .int x1), (2, mt_rf B x2), (3, .int x3), (4, .int x4)] [] := by
  intro n
  induction n with
  | zero =>
    intro x0 x1 x2 x3 x4 S h
    cases h
  | succ n ih =>
    intro x0 x1 x2 x3 x4 S h
    have h : f_X11_copy_L3s (f_X11_copy_L3 n) x0 x1 x2 x3 x4 S = some S' := h
    unfold f_X11_copy_L3s at h
    refine go_iload hC 4 dX11_copy_3 rfl ?_
    refine go_bipush (v := 35) hC dX11_copy_5 (by decide) ?_
    refine go_icmp_ge hC (tgt := 28) dX11_copy_7 (by decide) (fun hc => ?_) (fun hc => ?_)
    · have h := mt_ip h hc
      exact go_vret hC (mt_rev h hE) dX11_copy_28
    · have h := mt_in' h hc
      refine go_aload_n hC 2 dX11_copy_10 rfl rfl ?_
      refine go_iload_n hC 3 dX11_copy_11 rfl rfl ?_
      refine go_iload hC 4 dX11_copy_12 rfl ?_
      refine go_iadd hC dX11_copy_14 ?_
      refine go_aload_n hC 0 dX11_copy_15 rfl rfl ?_
      refine go_iload_n hC 1 dX11_copy_16 rfl rfl ?_
      refine go_iload hC 4 dX11_copy_17 rfl ?_
      refine go_iadd hC dX11_copy_19 ?_
      obtain ⟨v1, e1, h⟩ := mt_ob h
      refine go_iald hC e1 dX11_copy_20 ?_
      obtain ⟨S2, e2, h⟩ := mt_ob h
      refine go_iast hC e2 dX11_copy_21 ?_
      refine go_iinc hC 4 [1, 2, 3, 4, 0] (v := x4 + 1) (lv1 := [(0, mt_rf B x0), (1, .int x1), (2, mt_rf B x2), (3, .int x3), (4, .int (x4 + 1))]) dX11_copy_22 rfl rfl (by decide) rfl ?_
      refine go_goto hC (tgt := 3) dX11_copy_25 (by decide) ?_
      exact ih _ _ _ _ _ _ h
set_option maxHeartbeats 4000000 in
set_option maxRecDepth 100000 in
theorem ov_X11_copy_L3 {T : mt_S} {S' : mt_S} : ∀ (n : Nat) (x0 : Nat) (x1 : Int32) (x2 : Nat) (x3 : Int32) (x4 : Int32) (S : mt_S), mt_cp S T → f_X11_copy_L3 n x0 x1 x2 x3 x4 S = some S' → f_X11_copy_L3 n x0 x1 x2 x3 x4 (mt_ov S T) = some (mt_ov S' T) ∧ mt_cp S' T := by
  intro n
  induction n with
  | zero =>
    intro x0 x1 x2 x3 x4 S hp h
    cases h
  | succ n ih =>
    intro x0 x1 x2 x3 x4 S hp h
    have h : f_X11_copy_L3s (f_X11_copy_L3 n) x0 x1 x2 x3 x4 S = some S' := h
    show f_X11_copy_L3s (f_X11_copy_L3 n) x0 x1 x2 x3 x4 (mt_ov S T) = some (mt_ov S' T) ∧ mt_cp S' T
    unfold f_X11_copy_L3s at h ⊢
    by_cases hc : 35 ≤ x4
    · have h := mt_ip h hc
      refine ov_t hc ?_
      exact ov_retv hp h
    · have h := mt_in' h hc
      refine ov_f hc ?_
      obtain ⟨v1, e1, h⟩ := mt_ob h
      refine ov_b (ov_aI hp e1) ?_
      obtain ⟨S2, e2, h⟩ := mt_ob h
      obtain ⟨o_, hp⟩ := ov_sI hp e2
      refine ov_b o_ ?_
      exact ih _ _ _ _ _ _ hp h
def f_X11_copy (x0 : Nat) (x1 : Int32) (x2 : Nat) (x3 : Int32) (S : mt_S) : Option (mt_S) :=
  f_X11_copy_L3 1000 x0 x1 x2 x3 0 S
set_option maxHeartbeats 4000000 in
set_option maxRecDepth 100000 in
theorem m_X11_copy {B : mt_B}  {x0 : Nat} {x1 : Int32} {x2 : Nat} {x3 : Int32} {S : mt_S} {S' : mt_S} (h : f_X11_copy x0 x1 x2 x3 S = some S') : mt_M B yX11_copy cX11_copy 5 none 1 [mt_rf B x0, .int x1, mt_rf B x2, .int x3] S none S' := by
  unfold f_X11_copy at h
  refine mt_M.of (by decide) (Nat.le_of_ble_eq_true rfl) (fun E hC hE => ?_)
  refine go_iconst (v := 0) hC dX11_copy_0 (by decide) ?_
  refine go_istore hC [1, 2, 3, 4, 0] (lv1 := [(0, mt_rf B x0), (1, .int x1), (2, mt_rf B x2), (3, .int x3), (4, .int 0)]) dX11_copy_1 (by decide) rfl ?_
  exact m_X11_copy_L3 hC hE 1000 _ _ _ _ _ _ h
set_option maxHeartbeats 4000000 in
set_option maxRecDepth 100000 in
theorem ov_X11_copy {T : mt_S}  {x0 : Nat} {x1 : Int32} {x2 : Nat} {x3 : Int32} {S : mt_S} {S' : mt_S} (hp : mt_cp S T) (h : f_X11_copy x0 x1 x2 x3 S = some S') : f_X11_copy x0 x1 x2 x3 (mt_ov S T) = some (mt_ov S' T) ∧ mt_cp S' T := by
  unfold f_X11_copy at h ⊢
  exact ov_X11_copy_L3 1000 _ _ _ _ _ _ hp h
def f_X11_snap_L11s (rc : Nat → Int32 → mt_S → Option (mt_S)) (x0 : Nat) (x1 : Int32) (S : mt_S) : Option (mt_S) :=
  if 245 ≤ x1 then
   Option.bind (mt_rI S x0 11 9) fun v8 =>
   Option.bind (mt_wI S x0 11 9 (v8 - 1)) fun S9 =>
   Option.bind (mt_rR S9 x0 11 3) fun v10 =>
   Option.bind (mt_rR S9 x0 11 5) fun v11 =>
   Option.bind (mt_rI S9 x0 11 9) fun v12 =>
   Option.bind (f_X11_copy v10 0 v11 (35 * v12) S9) fun S13 =>
   Option.bind (mt_rI S13 x0 11 9) fun v14 =>
   Option.bind (mt_wI S13 x0 11 9 (v14 + 1)) fun S15 =>
   some S15
  else
   Option.bind (mt_rR S x0 11 5) fun v16 =>
   Option.bind (mt_rR S x0 11 5) fun v17 =>
   Option.bind (mt_aI S v17 13 (x1 + 35)) fun v18 =>
   Option.bind (mt_sI S v16 13 x1 v18) fun S19 =>
   rc x0 (x1 + 1) S19
def f_X11_snap_L11 : Nat → Nat → Int32 → mt_S → Option (mt_S)
  | 0 => fun _ _ _ => none
  | n + 1 => f_X11_snap_L11s (f_X11_snap_L11 n)
set_option maxHeartbeats 4000000 in
set_option maxRecDepth 100000 in
theorem m_X11_snap_L11 {B : mt_B} {E : mt_E} {S' : mt_S} (hC : mt_Cx B E cX11_snap RX11 none 2 2 0 0) (hE : mt_End B E (0, 0) none S') : ∀ (n : Nat) (x0 : Nat) (x1 : Int32) (S : mt_S), f_X11_snap_L11 n x0 x1 S = some S' → mt_Go B E (0, 0) S 11 [(0, mt_rf B x0), (1, .int x1)] [] := by
  intro n
  induction n with
  | zero =>
    intro x0 x1 S h
    cases h
  | succ n ih =>
    intro x0 x1 S h
    have h : f_X11_snap_L11s (f_X11_snap_L11 n) x0 x1 S = some S' := h
    unfold f_X11_snap_L11s at h
    refine go_iload_n hC 1 dX11_snap_11 rfl rfl ?_
    refine go_sipush (v := 245) hC dX11_snap_12 (by decide) ?_
    refine go_icmp_ge hC (tgt := 39) dX11_snap_15 (by decide) (fun hc => ?_) (fun hc => ?_)
    · have h := mt_ip h hc
      refine go_aload_n hC 0 dX11_snap_39 rfl rfl ?_
      refine go_dup hC dX11_snap_40 rfl ?_
      obtain ⟨v8, e8, h⟩ := mt_ob h
      refine go_getI hC mt_flX11_56 e8 dX11_snap_41 ?_
      refine go_iconst (v := 1) hC dX11_snap_44 (by decide) ?_
      refine go_isub hC dX11_snap_45 ?_
      obtain ⟨S9, e9, h⟩ := mt_ob h
      refine go_putI hC mt_flX11_56 e9 dX11_snap_46 ?_
      refine go_aload_n hC 0 dX11_snap_49 rfl rfl ?_
      obtain ⟨v10, e10, h⟩ := mt_ob h
      refine go_getR hC mt_flX11_24 e10 dX11_snap_50 ?_
      refine go_iconst (v := 0) hC dX11_snap_53 (by decide) ?_
      refine go_aload_n hC 0 dX11_snap_54 rfl rfl ?_
      obtain ⟨v11, e11, h⟩ := mt_ob h
      refine go_getR hC mt_flX11_30 e11 dX11_snap_55 ?_
      refine go_bipush (v := 35) hC dX11_snap_58 (by decide) ?_
      refine go_aload_n hC 0 dX11_snap_60 rfl rfl ?_
      obtain ⟨v12, e12, h⟩ := mt_ob h
      refine go_getI hC mt_flX11_56 e12 dX11_snap_61 ?_
      refine go_imul hC dX11_snap_64 ?_
      obtain ⟨S13, e13, h⟩ := mt_ob h
      refine go_callSv hC [mt_rf B v10, .int 0, mt_rf B v11, .int (35 * v12)] [] (m_X11_copy e13) mt_csX11_59 dX11_snap_65 rfl rfl (by decide) (Nat.le_of_ble_eq_true rfl) ⟨Nat.le_refl _, Nat.le_refl _⟩ ?_
      refine go_aload_n hC 0 dX11_snap_68 rfl rfl ?_
      refine go_dup hC dX11_snap_69 rfl ?_
      obtain ⟨v14, e14, h⟩ := mt_ob h
      refine go_getI hC mt_flX11_56 e14 dX11_snap_70 ?_
      refine go_iconst (v := 1) hC dX11_snap_73 (by decide) ?_
      refine go_iadd hC dX11_snap_74 ?_
      obtain ⟨S15, e15, h⟩ := mt_ob h
      refine go_putI hC mt_flX11_56 e15 dX11_snap_75 ?_
      exact go_vret hC (mt_rev h hE) dX11_snap_78
    · have h := mt_in' h hc
      refine go_aload_n hC 0 dX11_snap_18 rfl rfl ?_
      obtain ⟨v16, e16, h⟩ := mt_ob h
      refine go_getR hC mt_flX11_30 e16 dX11_snap_19 ?_
      refine go_iload_n hC 1 dX11_snap_22 rfl rfl ?_
      refine go_aload_n hC 0 dX11_snap_23 rfl rfl ?_
      obtain ⟨v17, e17, h⟩ := mt_ob h
      refine go_getR hC mt_flX11_30 e17 dX11_snap_24 ?_
      refine go_iload_n hC 1 dX11_snap_27 rfl rfl ?_
      refine go_bipush (v := 35) hC dX11_snap_28 (by decide) ?_
      refine go_iadd hC dX11_snap_30 ?_
      obtain ⟨v18, e18, h⟩ := mt_ob h
      refine go_iald hC e18 dX11_snap_31 ?_
      obtain ⟨S19, e19, h⟩ := mt_ob h
      refine go_iast hC e19 dX11_snap_32 ?_
      refine go_iinc hC 1 [1, 0] (v := x1 + 1) (lv1 := [(0, mt_rf B x0), (1, .int (x1 + 1))]) dX11_snap_33 rfl rfl (by decide) rfl ?_
      refine go_goto hC (tgt := 11) dX11_snap_36 (by decide) ?_
      exact ih _ _ _ h
set_option maxHeartbeats 4000000 in
set_option maxRecDepth 100000 in
theorem ov_X11_snap_L11 {T : mt_S} {S' : mt_S} : ∀ (n : Nat) (x0 : Nat) (x1 : Int32) (S : mt_S), mt_cp S T → f_X11_snap_L11 n x0 x1 S = some S' → f_X11_snap_L11 n x0 x1 (mt_ov S T) = some (mt_ov S' T) ∧ mt_cp S' T := by
  intro n
  induction n with
  | zero =>
    intro x0 x1 S hp h
    cases h
  | succ n ih =>
    intro x0 x1 S hp h
    have h : f_X11_snap_L11s (f_X11_snap_L11 n) x0 x1 S = some S' := h
    show f_X11_snap_L11s (f_X11_snap_L11 n) x0 x1 (mt_ov S T) = some (mt_ov S' T) ∧ mt_cp S' T
    unfold f_X11_snap_L11s at h ⊢
    by_cases hc : 245 ≤ x1
    · have h := mt_ip h hc
      refine ov_t hc ?_
      obtain ⟨v8, e8, h⟩ := mt_ob h
      refine ov_b (ov_rI hp e8) ?_
      obtain ⟨S9, e9, h⟩ := mt_ob h
      obtain ⟨o_, hp⟩ := ov_wI hp e9
      refine ov_b o_ ?_
      obtain ⟨v10, e10, h⟩ := mt_ob h
      refine ov_b (ov_rR hp e10) ?_
      obtain ⟨v11, e11, h⟩ := mt_ob h
      refine ov_b (ov_rR hp e11) ?_
      obtain ⟨v12, e12, h⟩ := mt_ob h
      refine ov_b (ov_rI hp e12) ?_
      obtain ⟨S13, e13, h⟩ := mt_ob h
      obtain ⟨o_, hp⟩ := ov_X11_copy hp e13
      refine ov_b o_ ?_
      obtain ⟨v14, e14, h⟩ := mt_ob h
      refine ov_b (ov_rI hp e14) ?_
      obtain ⟨S15, e15, h⟩ := mt_ob h
      obtain ⟨o_, hp⟩ := ov_wI hp e15
      refine ov_b o_ ?_
      exact ov_retv hp h
    · have h := mt_in' h hc
      refine ov_f hc ?_
      obtain ⟨v16, e16, h⟩ := mt_ob h
      refine ov_b (ov_rR hp e16) ?_
      obtain ⟨v17, e17, h⟩ := mt_ob h
      refine ov_b (ov_rR hp e17) ?_
      obtain ⟨v18, e18, h⟩ := mt_ob h
      refine ov_b (ov_aI hp e18) ?_
      obtain ⟨S19, e19, h⟩ := mt_ob h
      obtain ⟨o_, hp⟩ := ov_sI hp e19
      refine ov_b o_ ?_
      exact ih _ _ _ hp h
def f_X11_snap (x0 : Nat) (S : mt_S) : Option (mt_S) :=
  if mt_isK S x0 11 = true then
   Option.bind (mt_rI S x0 11 9) fun v1 =>
   if v1 = 8 then
    f_X11_snap_L11 1000 x0 0 S
   else
    Option.bind (mt_rR S x0 11 3) fun v2 =>
    Option.bind (mt_rR S x0 11 5) fun v3 =>
    Option.bind (mt_rI S x0 11 9) fun v4 =>
    Option.bind (f_X11_copy v2 0 v3 (35 * v4) S) fun S5 =>
    Option.bind (mt_rI S5 x0 11 9) fun v6 =>
    Option.bind (mt_wI S5 x0 11 9 (v6 + 1)) fun S7 =>
    some S7
  else none
theorem k_X11_snap {x0 : Nat} {S : mt_S} {S' : mt_S} (h : f_X11_snap x0 S = some S') : mt_isK S x0 11 = true := by
  unfold f_X11_snap at h
  exact (mt_gd h).1
set_option maxHeartbeats 4000000 in
set_option maxRecDepth 100000 in
theorem m_X11_snap {B : mt_B}  {x0 : Nat} {S : mt_S} {S' : mt_S} (h : f_X11_snap x0 S = some S') : mt_M B yX11_snap cX11_snap 2 none 2 [mt_rf B x0] S none S' := by
  unfold f_X11_snap at h
  refine mt_M.of (by decide) (Nat.le_of_ble_eq_true rfl) (fun E hC hE => ?_)
  obtain ⟨hk0, h⟩ := mt_gd h
  refine go_aload_n hC 0 dX11_snap_0 rfl rfl ?_
  obtain ⟨v1, e1, h⟩ := mt_ob h
  refine go_getI hC mt_flX11_56 e1 dX11_snap_1 ?_
  refine go_bipush (v := 8) hC dX11_snap_4 (by decide) ?_
  refine go_icmp_ne hC (tgt := 49) dX11_snap_6 (by decide) (fun hc => ?_) (fun hc => ?_)
  · have h := mt_in' h hc
    refine go_aload_n hC 0 dX11_snap_49 rfl rfl ?_
    obtain ⟨v2, e2, h⟩ := mt_ob h
    refine go_getR hC mt_flX11_24 e2 dX11_snap_50 ?_
    refine go_iconst (v := 0) hC dX11_snap_53 (by decide) ?_
    refine go_aload_n hC 0 dX11_snap_54 rfl rfl ?_
    obtain ⟨v3, e3, h⟩ := mt_ob h
    refine go_getR hC mt_flX11_30 e3 dX11_snap_55 ?_
    refine go_bipush (v := 35) hC dX11_snap_58 (by decide) ?_
    refine go_aload_n hC 0 dX11_snap_60 rfl rfl ?_
    obtain ⟨v4, e4, h⟩ := mt_ob h
    refine go_getI hC mt_flX11_56 e4 dX11_snap_61 ?_
    refine go_imul hC dX11_snap_64 ?_
    obtain ⟨S5, e5, h⟩ := mt_ob h
    refine go_callSv hC [mt_rf B v2, .int 0, mt_rf B v3, .int (35 * v4)] [] (m_X11_copy e5) mt_csX11_59 dX11_snap_65 rfl rfl (by decide) (Nat.le_of_ble_eq_true rfl) ⟨Nat.le_refl _, Nat.le_refl _⟩ ?_
    refine go_aload_n hC 0 dX11_snap_68 rfl rfl ?_
    refine go_dup hC dX11_snap_69 rfl ?_
    obtain ⟨v6, e6, h⟩ := mt_ob h
    refine go_getI hC mt_flX11_56 e6 dX11_snap_70 ?_
    refine go_iconst (v := 1) hC dX11_snap_73 (by decide) ?_
    refine go_iadd hC dX11_snap_74 ?_
    obtain ⟨S7, e7, h⟩ := mt_ob h
    refine go_putI hC mt_flX11_56 e7 dX11_snap_75 ?_
    exact go_vret hC (mt_rev h hE) dX11_snap_78
  · have h := mt_ip h hc
    refine go_iconst (v := 0) hC dX11_snap_9 (by decide) ?_
    refine go_istore_n hC [1, 0] (lv1 := [(0, mt_rf B x0), (1, .int 0)]) dX11_snap_10 rfl (by decide) rfl ?_
    exact m_X11_snap_L11 hC hE 1000 _ _ _ h
set_option maxHeartbeats 4000000 in
set_option maxRecDepth 100000 in
theorem ov_X11_snap {T : mt_S}  {x0 : Nat} {S : mt_S} {S' : mt_S} (hp : mt_cp S T) (h : f_X11_snap x0 S = some S') : f_X11_snap x0 (mt_ov S T) = some (mt_ov S' T) ∧ mt_cp S' T := by
  unfold f_X11_snap at h ⊢
  obtain ⟨hg, h⟩ := mt_gd h
  refine ov_t (ov_K hp hg) ?_
  obtain ⟨v1, e1, h⟩ := mt_ob h
  refine ov_b (ov_rI hp e1) ?_
  by_cases hc : v1 = 8
  · have h := mt_ip h hc
    refine ov_t hc ?_
    exact ov_X11_snap_L11 1000 _ _ _ hp h
  · have h := mt_in' h hc
    refine ov_f hc ?_
    obtain ⟨v2, e2, h⟩ := mt_ob h
    refine ov_b (ov_rR hp e2) ?_
    obtain ⟨v3, e3, h⟩ := mt_ob h
    refine ov_b (ov_rR hp e3) ?_
    obtain ⟨v4, e4, h⟩ := mt_ob h
    refine ov_b (ov_rI hp e4) ?_
    obtain ⟨S5, e5, h⟩ := mt_ob h
    obtain ⟨o_, hp⟩ := ov_X11_copy hp e5
    refine ov_b o_ ?_
    obtain ⟨v6, e6, h⟩ := mt_ob h
    refine ov_b (ov_rI hp e6) ?_
    obtain ⟨S7, e7, h⟩ := mt_ob h
    obtain ⟨o_, hp⟩ := ov_wI hp e7
    refine ov_b o_ ?_
    exact ov_retv hp h
def f_X11_stay (x0 : Nat) (S : mt_S) : Option (mt_S) :=
  if mt_isK S x0 11 = true then
   Option.bind (mt_rR S x0 11 3) fun v1 =>
   Option.bind (mt_rR S x0 11 7) fun v2 =>
   Option.bind (f_X11_copy v1 0 v2 0 S) fun S3 =>
   Option.bind (mt_rR S3 x0 11 6) fun v4 =>
   Option.bind (mt_rR S3 x0 11 3) fun v5 =>
   Option.bind (f_X11_copy v4 0 v5 0 S3) fun S6 =>
   Option.bind (f_X11_snap x0 S6) fun S7 =>
   Option.bind (mt_rR S7 x0 11 7) fun v8 =>
   Option.bind (mt_rR S7 x0 11 3) fun v9 =>
   Option.bind (f_X11_copy v8 0 v9 0 S7) fun S10 =>
   some S10
  else none
theorem k_X11_stay {x0 : Nat} {S : mt_S} {S' : mt_S} (h : f_X11_stay x0 S = some S') : mt_isK S x0 11 = true := by
  unfold f_X11_stay at h
  exact (mt_gd h).1
set_option maxHeartbeats 4000000 in
set_option maxRecDepth 100000 in
theorem m_X11_stay {B : mt_B}  {x0 : Nat} {S : mt_S} {S' : mt_S} (h : f_X11_stay x0 S = some S') : mt_M B yX11_stay cX11_stay 1 none 3 [mt_rf B x0] S none S' := by
  unfold f_X11_stay at h
  refine mt_M.of (by decide) (Nat.le_of_ble_eq_true rfl) (fun E hC hE => ?_)
  obtain ⟨hk0, h⟩ := mt_gd h
  refine go_aload_n hC 0 dX11_stay_0 rfl rfl ?_
  obtain ⟨v1, e1, h⟩ := mt_ob h
  refine go_getR hC mt_flX11_24 e1 dX11_stay_1 ?_
  refine go_iconst (v := 0) hC dX11_stay_4 (by decide) ?_
  refine go_aload_n hC 0 dX11_stay_5 rfl rfl ?_
  obtain ⟨v2, e2, h⟩ := mt_ob h
  refine go_getR hC mt_flX11_36 e2 dX11_stay_6 ?_
  refine go_iconst (v := 0) hC dX11_stay_9 (by decide) ?_
  obtain ⟨S3, e3, h⟩ := mt_ob h
  refine go_callSv hC [mt_rf B v1, .int 0, mt_rf B v2, .int 0] [] (m_X11_copy e3) mt_csX11_59 dX11_stay_10 rfl rfl (by decide) (Nat.le_of_ble_eq_true rfl) ⟨Nat.le_refl _, Nat.le_refl _⟩ ?_
  refine go_aload_n hC 0 dX11_stay_13 rfl rfl ?_
  obtain ⟨v4, e4, h⟩ := mt_ob h
  refine go_getR hC mt_flX11_33 e4 dX11_stay_14 ?_
  refine go_iconst (v := 0) hC dX11_stay_17 (by decide) ?_
  refine go_aload_n hC 0 dX11_stay_18 rfl rfl ?_
  obtain ⟨v5, e5, h⟩ := mt_ob h
  refine go_getR hC mt_flX11_24 e5 dX11_stay_19 ?_
  refine go_iconst (v := 0) hC dX11_stay_22 (by decide) ?_
  obtain ⟨S6, e6, h⟩ := mt_ob h
  refine go_callSv hC [mt_rf B v4, .int 0, mt_rf B v5, .int 0] [] (m_X11_copy e6) mt_csX11_59 dX11_stay_23 rfl rfl (by decide) (Nat.le_of_ble_eq_true rfl) ⟨Nat.le_refl _, Nat.le_refl _⟩ ?_
  refine go_aload_n hC 0 dX11_stay_26 rfl rfl ?_
  obtain ⟨S7, e7, h⟩ := mt_ob h
  refine go_callVv hC [] [] (m_X11_snap e7) mt_cvX11_63 (k_X11_snap e7) dX11_stay_27 rfl rfl (by decide) (Nat.le_of_ble_eq_true rfl) ⟨Nat.le_refl _, Nat.le_refl _⟩ ?_
  refine go_aload_n hC 0 dX11_stay_30 rfl rfl ?_
  obtain ⟨v8, e8, h⟩ := mt_ob h
  refine go_getR hC mt_flX11_36 e8 dX11_stay_31 ?_
  refine go_iconst (v := 0) hC dX11_stay_34 (by decide) ?_
  refine go_aload_n hC 0 dX11_stay_35 rfl rfl ?_
  obtain ⟨v9, e9, h⟩ := mt_ob h
  refine go_getR hC mt_flX11_24 e9 dX11_stay_36 ?_
  refine go_iconst (v := 0) hC dX11_stay_39 (by decide) ?_
  obtain ⟨S10, e10, h⟩ := mt_ob h
  refine go_callSv hC [mt_rf B v8, .int 0, mt_rf B v9, .int 0] [] (m_X11_copy e10) mt_csX11_59 dX11_stay_40 rfl rfl (by decide) (Nat.le_of_ble_eq_true rfl) ⟨Nat.le_refl _, Nat.le_refl _⟩ ?_
  exact go_vret hC (mt_rev h hE) dX11_stay_43
set_option maxHeartbeats 4000000 in
set_option maxRecDepth 100000 in
theorem ov_X11_stay {T : mt_S}  {x0 : Nat} {S : mt_S} {S' : mt_S} (hp : mt_cp S T) (h : f_X11_stay x0 S = some S') : f_X11_stay x0 (mt_ov S T) = some (mt_ov S' T) ∧ mt_cp S' T := by
  unfold f_X11_stay at h ⊢
  obtain ⟨hg, h⟩ := mt_gd h
  refine ov_t (ov_K hp hg) ?_
  obtain ⟨v1, e1, h⟩ := mt_ob h
  refine ov_b (ov_rR hp e1) ?_
  obtain ⟨v2, e2, h⟩ := mt_ob h
  refine ov_b (ov_rR hp e2) ?_
  obtain ⟨S3, e3, h⟩ := mt_ob h
  obtain ⟨o_, hp⟩ := ov_X11_copy hp e3
  refine ov_b o_ ?_
  obtain ⟨v4, e4, h⟩ := mt_ob h
  refine ov_b (ov_rR hp e4) ?_
  obtain ⟨v5, e5, h⟩ := mt_ob h
  refine ov_b (ov_rR hp e5) ?_
  obtain ⟨S6, e6, h⟩ := mt_ob h
  obtain ⟨o_, hp⟩ := ov_X11_copy hp e6
  refine ov_b o_ ?_
  obtain ⟨S7, e7, h⟩ := mt_ob h
  obtain ⟨o_, hp⟩ := ov_X11_snap hp e7
  refine ov_b o_ ?_
  obtain ⟨v8, e8, h⟩ := mt_ob h
  refine ov_b (ov_rR hp e8) ?_
  obtain ⟨v9, e9, h⟩ := mt_ob h
  refine ov_b (ov_rR hp e9) ?_
  obtain ⟨S10, e10, h⟩ := mt_ob h
  obtain ⟨o_, hp⟩ := ov_X11_copy hp e10
  refine ov_b o_ ?_
  exact ov_retv hp h
def f_X11_goesTo_L25s (rc : Nat → Int32 → Int32 → mt_S → Option (mt_S)) (x0 : Nat) (x1 : Int32) (x2 : Int32) (S : mt_S) : Option (mt_S) :=
  Option.bind (mt_rI S x0 11 10) fun v6 =>
  Option.bind (mt_rI S x0 11 12) fun v7 =>
  if (v6 + v7) = x1 then
   Option.bind (mt_rI S x0 11 11) fun v44 =>
   Option.bind (mt_rI S x0 11 13) fun v45 =>
   if (v44 + v45) = x2 then
    some S
   else
    Option.bind (mt_rI S x0 11 10) fun v46 =>
    Option.bind (mt_rI S x0 11 12) fun v47 =>
    Option.bind (mt_rI S x0 11 11) fun v48 =>
    Option.bind (mt_rI S x0 11 13) fun v49 =>
    if ((v46 + v47) * x2) ≤ (x1 * (v48 + v49)) then
     Option.bind (mt_rR S x0 11 15) fun v50 =>
     Option.bind (mt_rI S x0 11 14) fun v51 =>
     if (0 : Int32) = 0 then
      Option.bind (mt_sI S v50 13 v51 114) fun S52 =>
      Option.bind (mt_rI S52 x0 11 14) fun v53 =>
      Option.bind (mt_wI S52 x0 11 14 (v53 + 1)) fun S54 =>
      if (0 : Int32) = 0 then
       Option.bind (mt_wI S54 x0 11 10 (v46 + v47)) fun S55 =>
       Option.bind (mt_wI S55 x0 11 11 (v48 + v49)) fun S56 =>
       rc x0 x1 x2 S56
      else
       Option.bind (mt_wI S54 x0 11 12 (v46 + v47)) fun S57 =>
       Option.bind (mt_wI S57 x0 11 13 (v48 + v49)) fun S58 =>
       rc x0 x1 x2 S58
     else
      Option.bind (mt_sI S v50 13 v51 108) fun S59 =>
      Option.bind (mt_rI S59 x0 11 14) fun v60 =>
      Option.bind (mt_wI S59 x0 11 14 (v60 + 1)) fun S61 =>
      if (0 : Int32) = 0 then
       Option.bind (mt_wI S61 x0 11 10 (v46 + v47)) fun S62 =>
       Option.bind (mt_wI S62 x0 11 11 (v48 + v49)) fun S63 =>
       rc x0 x1 x2 S63
      else
       Option.bind (mt_wI S61 x0 11 12 (v46 + v47)) fun S64 =>
       Option.bind (mt_wI S64 x0 11 13 (v48 + v49)) fun S65 =>
       rc x0 x1 x2 S65
    else
     Option.bind (mt_rR S x0 11 15) fun v66 =>
     Option.bind (mt_rI S x0 11 14) fun v67 =>
     if (1 : Int32) = 0 then
      Option.bind (mt_sI S v66 13 v67 114) fun S68 =>
      Option.bind (mt_rI S68 x0 11 14) fun v69 =>
      Option.bind (mt_wI S68 x0 11 14 (v69 + 1)) fun S70 =>
      if (1 : Int32) = 0 then
       Option.bind (mt_wI S70 x0 11 10 (v46 + v47)) fun S71 =>
       Option.bind (mt_wI S71 x0 11 11 (v48 + v49)) fun S72 =>
       rc x0 x1 x2 S72
      else
       Option.bind (mt_wI S70 x0 11 12 (v46 + v47)) fun S73 =>
       Option.bind (mt_wI S73 x0 11 13 (v48 + v49)) fun S74 =>
       rc x0 x1 x2 S74
     else
      Option.bind (mt_sI S v66 13 v67 108) fun S75 =>
      Option.bind (mt_rI S75 x0 11 14) fun v76 =>
      Option.bind (mt_wI S75 x0 11 14 (v76 + 1)) fun S77 =>
      if (1 : Int32) = 0 then
       Option.bind (mt_wI S77 x0 11 10 (v46 + v47)) fun S78 =>
       Option.bind (mt_wI S78 x0 11 11 (v48 + v49)) fun S79 =>
       rc x0 x1 x2 S79
      else
       Option.bind (mt_wI S77 x0 11 12 (v46 + v47)) fun S80 =>
       Option.bind (mt_wI S80 x0 11 13 (v48 + v49)) fun S81 =>
       rc x0 x1 x2 S81
  else
   Option.bind (mt_rI S x0 11 10) fun v8 =>
   Option.bind (mt_rI S x0 11 12) fun v9 =>
   Option.bind (mt_rI S x0 11 11) fun v10 =>
   Option.bind (mt_rI S x0 11 13) fun v11 =>
   if ((v8 + v9) * x2) ≤ (x1 * (v10 + v11)) then
    Option.bind (mt_rR S x0 11 15) fun v12 =>
    Option.bind (mt_rI S x0 11 14) fun v13 =>
    if (0 : Int32) = 0 then
     Option.bind (mt_sI S v12 13 v13 114) fun S14 =>
     Option.bind (mt_rI S14 x0 11 14) fun v15 =>
     Option.bind (mt_wI S14 x0 11 14 (v15 + 1)) fun S16 =>
     if (0 : Int32) = 0 then
      Option.bind (mt_wI S16 x0 11 10 (v8 + v9)) fun S17 =>
      Option.bind (mt_wI S17 x0 11 11 (v10 + v11)) fun S18 =>
      rc x0 x1 x2 S18
     else
      Option.bind (mt_wI S16 x0 11 12 (v8 + v9)) fun S19 =>
      Option.bind (mt_wI S19 x0 11 13 (v10 + v11)) fun S20 =>
      rc x0 x1 x2 S20
    else
     Option.bind (mt_sI S v12 13 v13 108) fun S21 =>
     Option.bind (mt_rI S21 x0 11 14) fun v22 =>
     Option.bind (mt_wI S21 x0 11 14 (v22 + 1)) fun S23 =>
     if (0 : Int32) = 0 then
      Option.bind (mt_wI S23 x0 11 10 (v8 + v9)) fun S24 =>
      Option.bind (mt_wI S24 x0 11 11 (v10 + v11)) fun S25 =>
      rc x0 x1 x2 S25
     else
      Option.bind (mt_wI S23 x0 11 12 (v8 + v9)) fun S26 =>
      Option.bind (mt_wI S26 x0 11 13 (v10 + v11)) fun S27 =>
      rc x0 x1 x2 S27
   else
    Option.bind (mt_rR S x0 11 15) fun v28 =>
    Option.bind (mt_rI S x0 11 14) fun v29 =>
    if (1 : Int32) = 0 then
     Option.bind (mt_sI S v28 13 v29 114) fun S30 =>
     Option.bind (mt_rI S30 x0 11 14) fun v31 =>
     Option.bind (mt_wI S30 x0 11 14 (v31 + 1)) fun S32 =>
     if (1 : Int32) = 0 then
      Option.bind (mt_wI S32 x0 11 10 (v8 + v9)) fun S33 =>
      Option.bind (mt_wI S33 x0 11 11 (v10 + v11)) fun S34 =>
      rc x0 x1 x2 S34
     else
      Option.bind (mt_wI S32 x0 11 12 (v8 + v9)) fun S35 =>
      Option.bind (mt_wI S35 x0 11 13 (v10 + v11)) fun S36 =>
      rc x0 x1 x2 S36
    else
     Option.bind (mt_sI S v28 13 v29 108) fun S37 =>
     Option.bind (mt_rI S37 x0 11 14) fun v38 =>
     Option.bind (mt_wI S37 x0 11 14 (v38 + 1)) fun S39 =>
     if (1 : Int32) = 0 then
      Option.bind (mt_wI S39 x0 11 10 (v8 + v9)) fun S40 =>
      Option.bind (mt_wI S40 x0 11 11 (v10 + v11)) fun S41 =>
      rc x0 x1 x2 S41
     else
      Option.bind (mt_wI S39 x0 11 12 (v8 + v9)) fun S42 =>
      Option.bind (mt_wI S42 x0 11 13 (v10 + v11)) fun S43 =>
      rc x0 x1 x2 S43
def f_X11_goesTo_L25 : Nat → Nat → Int32 → Int32 → mt_S → Option (mt_S)
  | 0 => fun _ _ _ _ => none
  | n + 1 => f_X11_goesTo_L25s (f_X11_goesTo_L25 n)
set_option maxHeartbeats 4000000 in
set_option maxRecDepth 100000 in
theorem m_X11_goesTo_L25 {B : mt_B} {E : mt_E} {S' : mt_S} (hC : mt_Cx B E cX11_goesTo RX11 none 6 1 0 0) (hE : mt_End B E (0, 0) none S') : ∀ (n : Nat) (x0 : Nat) (x1 : Int32) (x2 : Int32) (S : mt_S), f_X11_goesTo_L25 n x0 x1 x2 S = some S' → mt_Go B E (0, 0) S 25 [(0, mt_rf B x0), (1, .int x1), (2, .int x2)] [] := by
  intro n
  induction n with
  | zero =>
    intro x0 x1 x2 S h
    cases h
  | succ n ih =>
    intro x0 x1 x2 S h
    have h : f_X11_goesTo_L25s (f_X11_goesTo_L25 n) x0 x1 x2 S = some S' := h
    unfold f_X11_goesTo_L25s at h
    refine go_aload_n hC 0 dX11_goesTo_25 rfl rfl ?_
    obtain ⟨v6, e6, h⟩ := mt_ob h
    refine go_getI hC mt_flX11_66 e6 dX11_goesTo_26 ?_
    refine go_aload_n hC 0 dX11_goesTo_29 rfl rfl ?_
    obtain ⟨v7, e7, h⟩ := mt_ob h
    refine go_getI hC mt_flX11_72 e7 dX11_goesTo_30 ?_
    refine go_iadd hC dX11_goesTo_33 ?_
    refine go_iload_n hC 1 dX11_goesTo_34 rfl rfl ?_
    refine go_icmp_ne hC (tgt := 51) dX11_goesTo_35 (by decide) (fun hc => ?_) (fun hc => ?_)
    · have h := mt_in' h hc
      refine go_aload_n hC 0 dX11_goesTo_51 rfl rfl ?_
      obtain ⟨v8, e8, h⟩ := mt_ob h
      refine go_getI hC mt_flX11_66 e8 dX11_goesTo_52 ?_
      refine go_aload_n hC 0 dX11_goesTo_55 rfl rfl ?_
      obtain ⟨v9, e9, h⟩ := mt_ob h
      refine go_getI hC mt_flX11_72 e9 dX11_goesTo_56 ?_
      refine go_iadd hC dX11_goesTo_59 ?_
      refine go_istore_n hC [1, 2, 3, 0] (lv1 := [(0, mt_rf B x0), (1, .int x1), (2, .int x2), (3, .int (v8 + v9))]) dX11_goesTo_60 rfl (by decide) rfl ?_
      refine go_aload_n hC 0 dX11_goesTo_61 rfl rfl ?_
      obtain ⟨v10, e10, h⟩ := mt_ob h
      refine go_getI hC mt_flX11_69 e10 dX11_goesTo_62 ?_
      refine go_aload_n hC 0 dX11_goesTo_65 rfl rfl ?_
      obtain ⟨v11, e11, h⟩ := mt_ob h
      refine go_getI hC mt_flX11_75 e11 dX11_goesTo_66 ?_
      refine go_iadd hC dX11_goesTo_69 ?_
      refine go_istore hC [1, 2, 3, 4, 0] (lv1 := [(0, mt_rf B x0), (1, .int x1), (2, .int x2), (3, .int (v8 + v9)), (4, .int (v10 + v11))]) dX11_goesTo_70 (by decide) rfl ?_
      refine go_iload_n hC 1 dX11_goesTo_72 rfl rfl ?_
      refine go_iload hC 4 dX11_goesTo_73 rfl ?_
      refine go_imul hC dX11_goesTo_75 ?_
      refine go_iload_n hC 3 dX11_goesTo_76 rfl rfl ?_
      refine go_iload_n hC 2 dX11_goesTo_77 rfl rfl ?_
      refine go_imul hC dX11_goesTo_78 ?_
      refine go_icmp_ge hC (tgt := 86) dX11_goesTo_79 (by decide) (fun hc => ?_) (fun hc => ?_)
      · have h := mt_ip h hc
        refine go_iconst (v := 0) hC dX11_goesTo_86 (by decide) ?_
        refine go_istore hC [1, 2, 3, 4, 5, 0] (lv1 := [(0, mt_rf B x0), (1, .int x1), (2, .int x2), (3, .int (v8 + v9)), (4, .int (v10 + v11)), (5, .int 0)]) dX11_goesTo_87 (by decide) rfl ?_
        refine go_aload_n hC 0 dX11_goesTo_89 rfl rfl ?_
        obtain ⟨v12, e12, h⟩ := mt_ob h
        refine go_getR hC mt_flX11_43 e12 dX11_goesTo_90 ?_
        refine go_aload_n hC 0 dX11_goesTo_93 rfl rfl ?_
        obtain ⟨v13, e13, h⟩ := mt_ob h
        refine go_getI hC mt_flX11_78 e13 dX11_goesTo_94 ?_
        refine go_iload hC 5 dX11_goesTo_97 rfl ?_
        refine go_if_eq hC (tgt := 107) dX11_goesTo_99 (by decide) (fun hc => ?_) (fun hc => ?_)
        · have h := mt_ip h hc
          refine go_bipush (v := 114) hC dX11_goesTo_107 (by decide) ?_
          obtain ⟨S14, e14, h⟩ := mt_ob h
          refine go_iast hC e14 dX11_goesTo_109 ?_
          refine go_aload_n hC 0 dX11_goesTo_110 rfl rfl ?_
          refine go_dup hC dX11_goesTo_111 rfl ?_
          obtain ⟨v15, e15, h⟩ := mt_ob h
          refine go_getI hC mt_flX11_78 e15 dX11_goesTo_112 ?_
          refine go_iconst (v := 1) hC dX11_goesTo_115 (by decide) ?_
          refine go_iadd hC dX11_goesTo_116 ?_
          obtain ⟨S16, e16, h⟩ := mt_ob h
          refine go_putI hC mt_flX11_78 e16 dX11_goesTo_117 ?_
          refine go_iload hC 5 dX11_goesTo_120 rfl ?_
          refine go_if_eq hC (tgt := 139) dX11_goesTo_122 (by decide) (fun hc => ?_) (fun hc => ?_)
          · have h := mt_ip h hc
            refine go_aload_n hC 0 dX11_goesTo_139 rfl rfl ?_
            refine go_iload_n hC 3 dX11_goesTo_140 rfl rfl ?_
            obtain ⟨S17, e17, h⟩ := mt_ob h
            refine go_putI hC mt_flX11_66 e17 dX11_goesTo_141 ?_
            refine go_aload_n hC 0 dX11_goesTo_144 rfl rfl ?_
            refine go_iload hC 4 dX11_goesTo_145 rfl ?_
            obtain ⟨S18, e18, h⟩ := mt_ob h
            refine go_putI hC mt_flX11_69 e18 dX11_goesTo_147 ?_
            refine go_goto hC (tgt := 25) dX11_goesTo_150 (by decide) ?_
            refine go_sub [0, 1, 2] (lv1 := [(0, mt_rf B x0), (1, .int x1), (2, .int x2)]) rfl ?_
            exact ih _ _ _ _ h
          · have h := mt_in' h hc
            refine go_aload_n hC 0 dX11_goesTo_125 rfl rfl ?_
            refine go_iload_n hC 3 dX11_goesTo_126 rfl rfl ?_
            obtain ⟨S19, e19, h⟩ := mt_ob h
            refine go_putI hC mt_flX11_72 e19 dX11_goesTo_127 ?_
            refine go_aload_n hC 0 dX11_goesTo_130 rfl rfl ?_
            refine go_iload hC 4 dX11_goesTo_131 rfl ?_
            obtain ⟨S20, e20, h⟩ := mt_ob h
            refine go_putI hC mt_flX11_75 e20 dX11_goesTo_133 ?_
            refine go_goto hC (tgt := 150) dX11_goesTo_136 (by decide) ?_
            refine go_goto hC (tgt := 25) dX11_goesTo_150 (by decide) ?_
            refine go_sub [0, 1, 2] (lv1 := [(0, mt_rf B x0), (1, .int x1), (2, .int x2)]) rfl ?_
            exact ih _ _ _ _ h
        · have h := mt_in' h hc
          refine go_bipush (v := 108) hC dX11_goesTo_102 (by decide) ?_
          refine go_goto hC (tgt := 109) dX11_goesTo_104 (by decide) ?_
          obtain ⟨S21, e21, h⟩ := mt_ob h
          refine go_iast hC e21 dX11_goesTo_109 ?_
          refine go_aload_n hC 0 dX11_goesTo_110 rfl rfl ?_
          refine go_dup hC dX11_goesTo_111 rfl ?_
          obtain ⟨v22, e22, h⟩ := mt_ob h
          refine go_getI hC mt_flX11_78 e22 dX11_goesTo_112 ?_
          refine go_iconst (v := 1) hC dX11_goesTo_115 (by decide) ?_
          refine go_iadd hC dX11_goesTo_116 ?_
          obtain ⟨S23, e23, h⟩ := mt_ob h
          refine go_putI hC mt_flX11_78 e23 dX11_goesTo_117 ?_
          refine go_iload hC 5 dX11_goesTo_120 rfl ?_
          refine go_if_eq hC (tgt := 139) dX11_goesTo_122 (by decide) (fun hc => ?_) (fun hc => ?_)
          · have h := mt_ip h hc
            refine go_aload_n hC 0 dX11_goesTo_139 rfl rfl ?_
            refine go_iload_n hC 3 dX11_goesTo_140 rfl rfl ?_
            obtain ⟨S24, e24, h⟩ := mt_ob h
            refine go_putI hC mt_flX11_66 e24 dX11_goesTo_141 ?_
            refine go_aload_n hC 0 dX11_goesTo_144 rfl rfl ?_
            refine go_iload hC 4 dX11_goesTo_145 rfl ?_
            obtain ⟨S25, e25, h⟩ := mt_ob h
            refine go_putI hC mt_flX11_69 e25 dX11_goesTo_147 ?_
            refine go_goto hC (tgt := 25) dX11_goesTo_150 (by decide) ?_
            refine go_sub [0, 1, 2] (lv1 := [(0, mt_rf B x0), (1, .int x1), (2, .int x2)]) rfl ?_
            exact ih _ _ _ _ h
          · have h := mt_in' h hc
            refine go_aload_n hC 0 dX11_goesTo_125 rfl rfl ?_
            refine go_iload_n hC 3 dX11_goesTo_126 rfl rfl ?_
            obtain ⟨S26, e26, h⟩ := mt_ob h
            refine go_putI hC mt_flX11_72 e26 dX11_goesTo_127 ?_
            refine go_aload_n hC 0 dX11_goesTo_130 rfl rfl ?_
            refine go_iload hC 4 dX11_goesTo_131 rfl ?_
            obtain ⟨S27, e27, h⟩ := mt_ob h
            refine go_putI hC mt_flX11_75 e27 dX11_goesTo_133 ?_
            refine go_goto hC (tgt := 150) dX11_goesTo_136 (by decide) ?_
            refine go_goto hC (tgt := 25) dX11_goesTo_150 (by decide) ?_
            refine go_sub [0, 1, 2] (lv1 := [(0, mt_rf B x0), (1, .int x1), (2, .int x2)]) rfl ?_
            exact ih _ _ _ _ h
      · have h := mt_in' h hc
        refine go_iconst (v := 1) hC dX11_goesTo_82 (by decide) ?_
        refine go_goto hC (tgt := 87) dX11_goesTo_83 (by decide) ?_
        refine go_istore hC [1, 2, 3, 4, 5, 0] (lv1 := [(0, mt_rf B x0), (1, .int x1), (2, .int x2), (3, .int (v8 + v9)), (4, .int (v10 + v11)), (5, .int 1)]) dX11_goesTo_87 (by decide) rfl ?_
        refine go_aload_n hC 0 dX11_goesTo_89 rfl rfl ?_
        obtain ⟨v28, e28, h⟩ := mt_ob h
        refine go_getR hC mt_flX11_43 e28 dX11_goesTo_90 ?_
        refine go_aload_n hC 0 dX11_goesTo_93 rfl rfl ?_
        obtain ⟨v29, e29, h⟩ := mt_ob h
        refine go_getI hC mt_flX11_78 e29 dX11_goesTo_94 ?_
        refine go_iload hC 5 dX11_goesTo_97 rfl ?_
        refine go_if_eq hC (tgt := 107) dX11_goesTo_99 (by decide) (fun hc => ?_) (fun hc => ?_)
        · have h := mt_ip h hc
          refine go_bipush (v := 114) hC dX11_goesTo_107 (by decide) ?_
          obtain ⟨S30, e30, h⟩ := mt_ob h
          refine go_iast hC e30 dX11_goesTo_109 ?_
          refine go_aload_n hC 0 dX11_goesTo_110 rfl rfl ?_
          refine go_dup hC dX11_goesTo_111 rfl ?_
          obtain ⟨v31, e31, h⟩ := mt_ob h
          refine go_getI hC mt_flX11_78 e31 dX11_goesTo_112 ?_
          refine go_iconst (v := 1) hC dX11_goesTo_115 (by decide) ?_
          refine go_iadd hC dX11_goesTo_116 ?_
          obtain ⟨S32, e32, h⟩ := mt_ob h
          refine go_putI hC mt_flX11_78 e32 dX11_goesTo_117 ?_
          refine go_iload hC 5 dX11_goesTo_120 rfl ?_
          refine go_if_eq hC (tgt := 139) dX11_goesTo_122 (by decide) (fun hc => ?_) (fun hc => ?_)
          · have h := mt_ip h hc
            refine go_aload_n hC 0 dX11_goesTo_139 rfl rfl ?_
            refine go_iload_n hC 3 dX11_goesTo_140 rfl rfl ?_
            obtain ⟨S33, e33, h⟩ := mt_ob h
            refine go_putI hC mt_flX11_66 e33 dX11_goesTo_141 ?_
            refine go_aload_n hC 0 dX11_goesTo_144 rfl rfl ?_
            refine go_iload hC 4 dX11_goesTo_145 rfl ?_
            obtain ⟨S34, e34, h⟩ := mt_ob h
            refine go_putI hC mt_flX11_69 e34 dX11_goesTo_147 ?_
            refine go_goto hC (tgt := 25) dX11_goesTo_150 (by decide) ?_
            refine go_sub [0, 1, 2] (lv1 := [(0, mt_rf B x0), (1, .int x1), (2, .int x2)]) rfl ?_
            exact ih _ _ _ _ h
          · have h := mt_in' h hc
            refine go_aload_n hC 0 dX11_goesTo_125 rfl rfl ?_
            refine go_iload_n hC 3 dX11_goesTo_126 rfl rfl ?_
            obtain ⟨S35, e35, h⟩ := mt_ob h
            refine go_putI hC mt_flX11_72 e35 dX11_goesTo_127 ?_
            refine go_aload_n hC 0 dX11_goesTo_130 rfl rfl ?_
            refine go_iload hC 4 dX11_goesTo_131 rfl ?_
            obtain ⟨S36, e36, h⟩ := mt_ob h
            refine go_putI hC mt_flX11_75 e36 dX11_goesTo_133 ?_
            refine go_goto hC (tgt := 150) dX11_goesTo_136 (by decide) ?_
            refine go_goto hC (tgt := 25) dX11_goesTo_150 (by decide) ?_
            refine go_sub [0, 1, 2] (lv1 := [(0, mt_rf B x0), (1, .int x1), (2, .int x2)]) rfl ?_
            exact ih _ _ _ _ h
        · have h := mt_in' h hc
          refine go_bipush (v := 108) hC dX11_goesTo_102 (by decide) ?_
          refine go_goto hC (tgt := 109) dX11_goesTo_104 (by decide) ?_
          obtain ⟨S37, e37, h⟩ := mt_ob h
          refine go_iast hC e37 dX11_goesTo_109 ?_
          refine go_aload_n hC 0 dX11_goesTo_110 rfl rfl ?_
          refine go_dup hC dX11_goesTo_111 rfl ?_
          obtain ⟨v38, e38, h⟩ := mt_ob h
          refine go_getI hC mt_flX11_78 e38 dX11_goesTo_112 ?_
          refine go_iconst (v := 1) hC dX11_goesTo_115 (by decide) ?_
          refine go_iadd hC dX11_goesTo_116 ?_
          obtain ⟨S39, e39, h⟩ := mt_ob h
          refine go_putI hC mt_flX11_78 e39 dX11_goesTo_117 ?_
          refine go_iload hC 5 dX11_goesTo_120 rfl ?_
          refine go_if_eq hC (tgt := 139) dX11_goesTo_122 (by decide) (fun hc => ?_) (fun hc => ?_)
          · have h := mt_ip h hc
            refine go_aload_n hC 0 dX11_goesTo_139 rfl rfl ?_
            refine go_iload_n hC 3 dX11_goesTo_140 rfl rfl ?_
            obtain ⟨S40, e40, h⟩ := mt_ob h
            refine go_putI hC mt_flX11_66 e40 dX11_goesTo_141 ?_
            refine go_aload_n hC 0 dX11_goesTo_144 rfl rfl ?_
            refine go_iload hC 4 dX11_goesTo_145 rfl ?_
            obtain ⟨S41, e41, h⟩ := mt_ob h
            refine go_putI hC mt_flX11_69 e41 dX11_goesTo_147 ?_
            refine go_goto hC (tgt := 25) dX11_goesTo_150 (by decide) ?_
            refine go_sub [0, 1, 2] (lv1 := [(0, mt_rf B x0), (1, .int x1), (2, .int x2)]) rfl ?_
            exact ih _ _ _ _ h
          · have h := mt_in' h hc
            refine go_aload_n hC 0 dX11_goesTo_125 rfl rfl ?_
            refine go_iload_n hC 3 dX11_goesTo_126 rfl rfl ?_
            obtain ⟨S42, e42, h⟩ := mt_ob h
            refine go_putI hC mt_flX11_72 e42 dX11_goesTo_127 ?_
            refine go_aload_n hC 0 dX11_goesTo_130 rfl rfl ?_
            refine go_iload hC 4 dX11_goesTo_131 rfl ?_
            obtain ⟨S43, e43, h⟩ := mt_ob h
            refine go_putI hC mt_flX11_75 e43 dX11_goesTo_133 ?_
            refine go_goto hC (tgt := 150) dX11_goesTo_136 (by decide) ?_
            refine go_goto hC (tgt := 25) dX11_goesTo_150 (by decide) ?_
            refine go_sub [0, 1, 2] (lv1 := [(0, mt_rf B x0), (1, .int x1), (2, .int x2)]) rfl ?_
            exact ih _ _ _ _ h
    · have h := mt_ip h hc
      refine go_aload_n hC 0 dX11_goesTo_38 rfl rfl ?_
      obtain ⟨v44, e44, h⟩ := mt_ob h
      refine go_getI hC mt_flX11_69 e44 dX11_goesTo_39 ?_
      refine go_aload_n hC 0 dX11_goesTo_42 rfl rfl ?_
      obtain ⟨v45, e45, h⟩ := mt_ob h
      refine go_getI hC mt_flX11_75 e45 dX11_goesTo_43 ?_
      refine go_iadd hC dX11_goesTo_46 ?_
      refine go_iload_n hC 2 dX11_goesTo_47 rfl rfl ?_
      refine go_icmp_eq hC (tgt := 153) dX11_goesTo_48 (by decide) (fun hc => ?_) (fun hc => ?_)
      · have h := mt_ip h hc
        exact go_vret hC (mt_rev h hE) dX11_goesTo_153
      · have h := mt_in' h hc
        refine go_aload_n hC 0 dX11_goesTo_51 rfl rfl ?_
        obtain ⟨v46, e46, h⟩ := mt_ob h
        refine go_getI hC mt_flX11_66 e46 dX11_goesTo_52 ?_
        refine go_aload_n hC 0 dX11_goesTo_55 rfl rfl ?_
        obtain ⟨v47, e47, h⟩ := mt_ob h
        refine go_getI hC mt_flX11_72 e47 dX11_goesTo_56 ?_
        refine go_iadd hC dX11_goesTo_59 ?_
        refine go_istore_n hC [1, 2, 3, 0] (lv1 := [(0, mt_rf B x0), (1, .int x1), (2, .int x2), (3, .int (v46 + v47))]) dX11_goesTo_60 rfl (by decide) rfl ?_
        refine go_aload_n hC 0 dX11_goesTo_61 rfl rfl ?_
        obtain ⟨v48, e48, h⟩ := mt_ob h
        refine go_getI hC mt_flX11_69 e48 dX11_goesTo_62 ?_
        refine go_aload_n hC 0 dX11_goesTo_65 rfl rfl ?_
        obtain ⟨v49, e49, h⟩ := mt_ob h
        refine go_getI hC mt_flX11_75 e49 dX11_goesTo_66 ?_
        refine go_iadd hC dX11_goesTo_69 ?_
        refine go_istore hC [1, 2, 3, 4, 0] (lv1 := [(0, mt_rf B x0), (1, .int x1), (2, .int x2), (3, .int (v46 + v47)), (4, .int (v48 + v49))]) dX11_goesTo_70 (by decide) rfl ?_
        refine go_iload_n hC 1 dX11_goesTo_72 rfl rfl ?_
        refine go_iload hC 4 dX11_goesTo_73 rfl ?_
        refine go_imul hC dX11_goesTo_75 ?_
        refine go_iload_n hC 3 dX11_goesTo_76 rfl rfl ?_
        refine go_iload_n hC 2 dX11_goesTo_77 rfl rfl ?_
        refine go_imul hC dX11_goesTo_78 ?_
        refine go_icmp_ge hC (tgt := 86) dX11_goesTo_79 (by decide) (fun hc => ?_) (fun hc => ?_)
        · have h := mt_ip h hc
          refine go_iconst (v := 0) hC dX11_goesTo_86 (by decide) ?_
          refine go_istore hC [1, 2, 3, 4, 5, 0] (lv1 := [(0, mt_rf B x0), (1, .int x1), (2, .int x2), (3, .int (v46 + v47)), (4, .int (v48 + v49)), (5, .int 0)]) dX11_goesTo_87 (by decide) rfl ?_
          refine go_aload_n hC 0 dX11_goesTo_89 rfl rfl ?_
          obtain ⟨v50, e50, h⟩ := mt_ob h
          refine go_getR hC mt_flX11_43 e50 dX11_goesTo_90 ?_
          refine go_aload_n hC 0 dX11_goesTo_93 rfl rfl ?_
          obtain ⟨v51, e51, h⟩ := mt_ob h
          refine go_getI hC mt_flX11_78 e51 dX11_goesTo_94 ?_
          refine go_iload hC 5 dX11_goesTo_97 rfl ?_
          refine go_if_eq hC (tgt := 107) dX11_goesTo_99 (by decide) (fun hc => ?_) (fun hc => ?_)
          · have h := mt_ip h hc
            refine go_bipush (v := 114) hC dX11_goesTo_107 (by decide) ?_
            obtain ⟨S52, e52, h⟩ := mt_ob h
            refine go_iast hC e52 dX11_goesTo_109 ?_
            refine go_aload_n hC 0 dX11_goesTo_110 rfl rfl ?_
            refine go_dup hC dX11_goesTo_111 rfl ?_
            obtain ⟨v53, e53, h⟩ := mt_ob h
            refine go_getI hC mt_flX11_78 e53 dX11_goesTo_112 ?_
            refine go_iconst (v := 1) hC dX11_goesTo_115 (by decide) ?_
            refine go_iadd hC dX11_goesTo_116 ?_
            obtain ⟨S54, e54, h⟩ := mt_ob h
            refine go_putI hC mt_flX11_78 e54 dX11_goesTo_117 ?_
            refine go_iload hC 5 dX11_goesTo_120 rfl ?_
            refine go_if_eq hC (tgt := 139) dX11_goesTo_122 (by decide) (fun hc => ?_) (fun hc => ?_)
            · have h := mt_ip h hc
              refine go_aload_n hC 0 dX11_goesTo_139 rfl rfl ?_
              refine go_iload_n hC 3 dX11_goesTo_140 rfl rfl ?_
              obtain ⟨S55, e55, h⟩ := mt_ob h
              refine go_putI hC mt_flX11_66 e55 dX11_goesTo_141 ?_
              refine go_aload_n hC 0 dX11_goesTo_144 rfl rfl ?_
              refine go_iload hC 4 dX11_goesTo_145 rfl ?_
              obtain ⟨S56, e56, h⟩ := mt_ob h
              refine go_putI hC mt_flX11_69 e56 dX11_goesTo_147 ?_
              refine go_goto hC (tgt := 25) dX11_goesTo_150 (by decide) ?_
              refine go_sub [0, 1, 2] (lv1 := [(0, mt_rf B x0), (1, .int x1), (2, .int x2)]) rfl ?_
              exact ih _ _ _ _ h
            · have h := mt_in' h hc
              refine go_aload_n hC 0 dX11_goesTo_125 rfl rfl ?_
              refine go_iload_n hC 3 dX11_goesTo_126 rfl rfl ?_
              obtain ⟨S57, e57, h⟩ := mt_ob h
              refine go_putI hC mt_flX11_72 e57 dX11_goesTo_127 ?_
              refine go_aload_n hC 0 dX11_goesTo_130 rfl rfl ?_
              refine go_iload hC 4 dX11_goesTo_131 rfl ?_
              obtain ⟨S58, e58, h⟩ := mt_ob h
              refine go_putI hC mt_flX11_75 e58 dX11_goesTo_133 ?_
              refine go_goto hC (tgt := 150) dX11_goesTo_136 (by decide) ?_
              refine go_goto hC (tgt := 25) dX11_goesTo_150 (by decide) ?_
              refine go_sub [0, 1, 2] (lv1 := [(0, mt_rf B x0), (1, .int x1), (2, .int x2)]) rfl ?_
              exact ih _ _ _ _ h
          · have h := mt_in' h hc
            refine go_bipush (v := 108) hC dX11_goesTo_102 (by decide) ?_
            refine go_goto hC (tgt := 109) dX11_goesTo_104 (by decide) ?_
            obtain ⟨S59, e59, h⟩ := mt_ob h
            refine go_iast hC e59 dX11_goesTo_109 ?_
            refine go_aload_n hC 0 dX11_goesTo_110 rfl rfl ?_
            refine go_dup hC dX11_goesTo_111 rfl ?_
            obtain ⟨v60, e60, h⟩ := mt_ob h
            refine go_getI hC mt_flX11_78 e60 dX11_goesTo_112 ?_
            refine go_iconst (v := 1) hC dX11_goesTo_115 (by decide) ?_
            refine go_iadd hC dX11_goesTo_116 ?_
            obtain ⟨S61, e61, h⟩ := mt_ob h
            refine go_putI hC mt_flX11_78 e61 dX11_goesTo_117 ?_
            refine go_iload hC 5 dX11_goesTo_120 rfl ?_
            refine go_if_eq hC (tgt := 139) dX11_goesTo_122 (by decide) (fun hc => ?_) (fun hc => ?_)
            · have h := mt_ip h hc
              refine go_aload_n hC 0 dX11_goesTo_139 rfl rfl ?_
              refine go_iload_n hC 3 dX11_goesTo_140 rfl rfl ?_
              obtain ⟨S62, e62, h⟩ := mt_ob h
              refine go_putI hC mt_flX11_66 e62 dX11_goesTo_141 ?_
              refine go_aload_n hC 0 dX11_goesTo_144 rfl rfl ?_
              refine go_iload hC 4 dX11_goesTo_145 rfl ?_
              obtain ⟨S63, e63, h⟩ := mt_ob h
              refine go_putI hC mt_flX11_69 e63 dX11_goesTo_147 ?_
              refine go_goto hC (tgt := 25) dX11_goesTo_150 (by decide) ?_
              refine go_sub [0, 1, 2] (lv1 := [(0, mt_rf B x0), (1, .int x1), (2, .int x2)]) rfl ?_
              exact ih _ _ _ _ h
            · have h := mt_in' h hc
              refine go_aload_n hC 0 dX11_goesTo_125 rfl rfl ?_
              refine go_iload_n hC 3 dX11_goesTo_126 rfl rfl ?_
              obtain ⟨S64, e64, h⟩ := mt_ob h
              refine go_putI hC mt_flX11_72 e64 dX11_goesTo_127 ?_
              refine go_aload_n hC 0 dX11_goesTo_130 rfl rfl ?_
              refine go_iload hC 4 dX11_goesTo_131 rfl ?_
              obtain ⟨S65, e65, h⟩ := mt_ob h
              refine go_putI hC mt_flX11_75 e65 dX11_goesTo_133 ?_
              refine go_goto hC (tgt := 150) dX11_goesTo_136 (by decide) ?_
              refine go_goto hC (tgt := 25) dX11_goesTo_150 (by decide) ?_
              refine go_sub [0, 1, 2] (lv1 := [(0, mt_rf B x0), (1, .int x1), (2, .int x2)]) rfl ?_
              exact ih _ _ _ _ h
        · have h := mt_in' h hc
          refine go_iconst (v := 1) hC dX11_goesTo_82 (by decide) ?_
          refine go_goto hC (tgt := 87) dX11_goesTo_83 (by decide) ?_
          refine go_istore hC [1, 2, 3, 4, 5, 0] (lv1 := [(0, mt_rf B x0), (1, .int x1), (2, .int x2), (3, .int (v46 + v47)), (4, .int (v48 + v49)), (5, .int 1)]) dX11_goesTo_87 (by decide) rfl ?_
          refine go_aload_n hC 0 dX11_goesTo_89 rfl rfl ?_
          obtain ⟨v66, e66, h⟩ := mt_ob h
          refine go_getR hC mt_flX11_43 e66 dX11_goesTo_90 ?_
          refine go_aload_n hC 0 dX11_goesTo_93 rfl rfl ?_
          obtain ⟨v67, e67, h⟩ := mt_ob h
          refine go_getI hC mt_flX11_78 e67 dX11_goesTo_94 ?_
          refine go_iload hC 5 dX11_goesTo_97 rfl ?_
          refine go_if_eq hC (tgt := 107) dX11_goesTo_99 (by decide) (fun hc => ?_) (fun hc => ?_)
          · have h := mt_ip h hc
            refine go_bipush (v := 114) hC dX11_goesTo_107 (by decide) ?_
            obtain ⟨S68, e68, h⟩ := mt_ob h
            refine go_iast hC e68 dX11_goesTo_109 ?_
            refine go_aload_n hC 0 dX11_goesTo_110 rfl rfl ?_
            refine go_dup hC dX11_goesTo_111 rfl ?_
            obtain ⟨v69, e69, h⟩ := mt_ob h
            refine go_getI hC mt_flX11_78 e69 dX11_goesTo_112 ?_
            refine go_iconst (v := 1) hC dX11_goesTo_115 (by decide) ?_
            refine go_iadd hC dX11_goesTo_116 ?_
            obtain ⟨S70, e70, h⟩ := mt_ob h
            refine go_putI hC mt_flX11_78 e70 dX11_goesTo_117 ?_
            refine go_iload hC 5 dX11_goesTo_120 rfl ?_
            refine go_if_eq hC (tgt := 139) dX11_goesTo_122 (by decide) (fun hc => ?_) (fun hc => ?_)
            · have h := mt_ip h hc
              refine go_aload_n hC 0 dX11_goesTo_139 rfl rfl ?_
              refine go_iload_n hC 3 dX11_goesTo_140 rfl rfl ?_
              obtain ⟨S71, e71, h⟩ := mt_ob h
              refine go_putI hC mt_flX11_66 e71 dX11_goesTo_141 ?_
              refine go_aload_n hC 0 dX11_goesTo_144 rfl rfl ?_
              refine go_iload hC 4 dX11_goesTo_145 rfl ?_
              obtain ⟨S72, e72, h⟩ := mt_ob h
              refine go_putI hC mt_flX11_69 e72 dX11_goesTo_147 ?_
              refine go_goto hC (tgt := 25) dX11_goesTo_150 (by decide) ?_
              refine go_sub [0, 1, 2] (lv1 := [(0, mt_rf B x0), (1, .int x1), (2, .int x2)]) rfl ?_
              exact ih _ _ _ _ h
            · have h := mt_in' h hc
              refine go_aload_n hC 0 dX11_goesTo_125 rfl rfl ?_
              refine go_iload_n hC 3 dX11_goesTo_126 rfl rfl ?_
              obtain ⟨S73, e73, h⟩ := mt_ob h
              refine go_putI hC mt_flX11_72 e73 dX11_goesTo_127 ?_
              refine go_aload_n hC 0 dX11_goesTo_130 rfl rfl ?_
              refine go_iload hC 4 dX11_goesTo_131 rfl ?_
              obtain ⟨S74, e74, h⟩ := mt_ob h
              refine go_putI hC mt_flX11_75 e74 dX11_goesTo_133 ?_
              refine go_goto hC (tgt := 150) dX11_goesTo_136 (by decide) ?_
              refine go_goto hC (tgt := 25) dX11_goesTo_150 (by decide) ?_
              refine go_sub [0, 1, 2] (lv1 := [(0, mt_rf B x0), (1, .int x1), (2, .int x2)]) rfl ?_
              exact ih _ _ _ _ h
          · have h := mt_in' h hc
            refine go_bipush (v := 108) hC dX11_goesTo_102 (by decide) ?_
            refine go_goto hC (tgt := 109) dX11_goesTo_104 (by decide) ?_
            obtain ⟨S75, e75, h⟩ := mt_ob h
            refine go_iast hC e75 dX11_goesTo_109 ?_
            refine go_aload_n hC 0 dX11_goesTo_110 rfl rfl ?_
            refine go_dup hC dX11_goesTo_111 rfl ?_
            obtain ⟨v76, e76, h⟩ := mt_ob h
            refine go_getI hC mt_flX11_78 e76 dX11_goesTo_112 ?_
            refine go_iconst (v := 1) hC dX11_goesTo_115 (by decide) ?_
            refine go_iadd hC dX11_goesTo_116 ?_
            obtain ⟨S77, e77, h⟩ := mt_ob h
            refine go_putI hC mt_flX11_78 e77 dX11_goesTo_117 ?_
            refine go_iload hC 5 dX11_goesTo_120 rfl ?_
            refine go_if_eq hC (tgt := 139) dX11_goesTo_122 (by decide) (fun hc => ?_) (fun hc => ?_)
            · have h := mt_ip h hc
              refine go_aload_n hC 0 dX11_goesTo_139 rfl rfl ?_
              refine go_iload_n hC 3 dX11_goesTo_140 rfl rfl ?_
              obtain ⟨S78, e78, h⟩ := mt_ob h
              refine go_putI hC mt_flX11_66 e78 dX11_goesTo_141 ?_
              refine go_aload_n hC 0 dX11_goesTo_144 rfl rfl ?_
              refine go_iload hC 4 dX11_goesTo_145 rfl ?_
              obtain ⟨S79, e79, h⟩ := mt_ob h
              refine go_putI hC mt_flX11_69 e79 dX11_goesTo_147 ?_
              refine go_goto hC (tgt := 25) dX11_goesTo_150 (by decide) ?_
              refine go_sub [0, 1, 2] (lv1 := [(0, mt_rf B x0), (1, .int x1), (2, .int x2)]) rfl ?_
              exact ih _ _ _ _ h
            · have h := mt_in' h hc
              refine go_aload_n hC 0 dX11_goesTo_125 rfl rfl ?_
              refine go_iload_n hC 3 dX11_goesTo_126 rfl rfl ?_
              obtain ⟨S80, e80, h⟩ := mt_ob h
              refine go_putI hC mt_flX11_72 e80 dX11_goesTo_127 ?_
              refine go_aload_n hC 0 dX11_goesTo_130 rfl rfl ?_
              refine go_iload hC 4 dX11_goesTo_131 rfl ?_
              obtain ⟨S81, e81, h⟩ := mt_ob h
              refine go_putI hC mt_flX11_75 e81 dX11_goesTo_133 ?_
              refine go_goto hC (tgt := 150) dX11_goesTo_136 (by decide) ?_
              refine go_goto hC (tgt := 25) dX11_goesTo_150 (by decide) ?_
              refine go_sub [0, 1, 2] (lv1 := [(0, mt_rf B x0), (1, .int x1), (2, .int x2)]) rfl ?_
              exact ih _ _ _ _ h
set_option maxHeartbeats 4000000 in
set_option maxRecDepth 100000 in
theorem ov_X11_goesTo_L25 {T : mt_S} {S' : mt_S} : ∀ (n : Nat) (x0 : Nat) (x1 : Int32) (x2 : Int32) (S : mt_S), mt_cp S T → f_X11_goesTo_L25 n x0 x1 x2 S = some S' → f_X11_goesTo_L25 n x0 x1 x2 (mt_ov S T) = some (mt_ov S' T) ∧ mt_cp S' T := by
  intro n
  induction n with
  | zero =>
    intro x0 x1 x2 S hp h
    cases h
  | succ n ih =>
    intro x0 x1 x2 S hp h
    have h : f_X11_goesTo_L25s (f_X11_goesTo_L25 n) x0 x1 x2 S = some S' := h
    show f_X11_goesTo_L25s (f_X11_goesTo_L25 n) x0 x1 x2 (mt_ov S T) = some (mt_ov S' T) ∧ mt_cp S' T
    unfold f_X11_goesTo_L25s at h ⊢
    obtain ⟨v6, e6, h⟩ := mt_ob h
    refine ov_b (ov_rI hp e6) ?_
    obtain ⟨v7, e7, h⟩ := mt_ob h
    refine ov_b (ov_rI hp e7) ?_
    by_cases hc : (v6 + v7) = x1
    · have h := mt_ip h hc
      refine ov_t hc ?_
      obtain ⟨v44, e44, h⟩ := mt_ob h
      refine ov_b (ov_rI hp e44) ?_
      obtain ⟨v45, e45, h⟩ := mt_ob h
      refine ov_b (ov_rI hp e45) ?_
      by_cases hc : (v44 + v45) = x2
      · have h := mt_ip h hc
        refine ov_t hc ?_
        exact ov_retv hp h
      · have h := mt_in' h hc
        refine ov_f hc ?_
        obtain ⟨v46, e46, h⟩ := mt_ob h
        refine ov_b (ov_rI hp e46) ?_
        obtain ⟨v47, e47, h⟩ := mt_ob h
        refine ov_b (ov_rI hp e47) ?_
        obtain ⟨v48, e48, h⟩ := mt_ob h
        refine ov_b (ov_rI hp e48) ?_
        obtain ⟨v49, e49, h⟩ := mt_ob h
        refine ov_b (ov_rI hp e49) ?_
        by_cases hc : ((v46 + v47) * x2) ≤ (x1 * (v48 + v49))
        · have h := mt_ip h hc
          refine ov_t hc ?_
          obtain ⟨v50, e50, h⟩ := mt_ob h
          refine ov_b (ov_rR hp e50) ?_
          obtain ⟨v51, e51, h⟩ := mt_ob h
          refine ov_b (ov_rI hp e51) ?_
          by_cases hc : (0 : Int32) = 0
          · have h := mt_ip h hc
            refine ov_t hc ?_
            obtain ⟨S52, e52, h⟩ := mt_ob h
            obtain ⟨o_, hp⟩ := ov_sI hp e52
            refine ov_b o_ ?_
            obtain ⟨v53, e53, h⟩ := mt_ob h
            refine ov_b (ov_rI hp e53) ?_
            obtain ⟨S54, e54, h⟩ := mt_ob h
            obtain ⟨o_, hp⟩ := ov_wI hp e54
            refine ov_b o_ ?_
            by_cases hc : (0 : Int32) = 0
            · have h := mt_ip h hc
              refine ov_t hc ?_
              obtain ⟨S55, e55, h⟩ := mt_ob h
              obtain ⟨o_, hp⟩ := ov_wI hp e55
              refine ov_b o_ ?_
              obtain ⟨S56, e56, h⟩ := mt_ob h
              obtain ⟨o_, hp⟩ := ov_wI hp e56
              refine ov_b o_ ?_
              exact ih _ _ _ _ hp h
            · have h := mt_in' h hc
              refine ov_f hc ?_
              obtain ⟨S57, e57, h⟩ := mt_ob h
              obtain ⟨o_, hp⟩ := ov_wI hp e57
              refine ov_b o_ ?_
              obtain ⟨S58, e58, h⟩ := mt_ob h
              obtain ⟨o_, hp⟩ := ov_wI hp e58
              refine ov_b o_ ?_
              exact ih _ _ _ _ hp h
          · have h := mt_in' h hc
            refine ov_f hc ?_
            obtain ⟨S59, e59, h⟩ := mt_ob h
            obtain ⟨o_, hp⟩ := ov_sI hp e59
            refine ov_b o_ ?_
            obtain ⟨v60, e60, h⟩ := mt_ob h
            refine ov_b (ov_rI hp e60) ?_
            obtain ⟨S61, e61, h⟩ := mt_ob h
            obtain ⟨o_, hp⟩ := ov_wI hp e61
            refine ov_b o_ ?_
            by_cases hc : (0 : Int32) = 0
            · have h := mt_ip h hc
              refine ov_t hc ?_
              obtain ⟨S62, e62, h⟩ := mt_ob h
              obtain ⟨o_, hp⟩ := ov_wI hp e62
              refine ov_b o_ ?_
              obtain ⟨S63, e63, h⟩ := mt_ob h
              obtain ⟨o_, hp⟩ := ov_wI hp e63
              refine ov_b o_ ?_
              exact ih _ _ _ _ hp h
            · have h := mt_in' h hc
              refine ov_f hc ?_
              obtain ⟨S64, e64, h⟩ := mt_ob h
              obtain ⟨o_, hp⟩ := ov_wI hp e64
              refine ov_b o_ ?_
              obtain ⟨S65, e65, h⟩ := mt_ob h
              obtain ⟨o_, hp⟩ := ov_wI hp e65
              refine ov_b o_ ?_
              exact ih _ _ _ _ hp h
        · have h := mt_in' h hc
          refine ov_f hc ?_
          obtain ⟨v66, e66, h⟩ := mt_ob h
          refine ov_b (ov_rR hp e66) ?_
          obtain ⟨v67, e67, h⟩ := mt_ob h
          refine ov_b (ov_rI hp e67) ?_
          by_cases hc : (1 : Int32) = 0
          · have h := mt_ip h hc
            refine ov_t hc ?_
            obtain ⟨S68, e68, h⟩ := mt_ob h
            obtain ⟨o_, hp⟩ := ov_sI hp e68
            refine ov_b o_ ?_
            obtain ⟨v69, e69, h⟩ := mt_ob h
            refine ov_b (ov_rI hp e69) ?_
            obtain ⟨S70, e70, h⟩ := mt_ob h
            obtain ⟨o_, hp⟩ := ov_wI hp e70
            refine ov_b o_ ?_
            by_cases hc : (1 : Int32) = 0
            · have h := mt_ip h hc
              refine ov_t hc ?_
              obtain ⟨S71, e71, h⟩ := mt_ob h
              obtain ⟨o_, hp⟩ := ov_wI hp e71
              refine ov_b o_ ?_
              obtain ⟨S72, e72, h⟩ := mt_ob h
              obtain ⟨o_, hp⟩ := ov_wI hp e72
              refine ov_b o_ ?_
              exact ih _ _ _ _ hp h
            · have h := mt_in' h hc
              refine ov_f hc ?_
              obtain ⟨S73, e73, h⟩ := mt_ob h
              obtain ⟨o_, hp⟩ := ov_wI hp e73
              refine ov_b o_ ?_
              obtain ⟨S74, e74, h⟩ := mt_ob h
              obtain ⟨o_, hp⟩ := ov_wI hp e74
              refine ov_b o_ ?_
              exact ih _ _ _ _ hp h
          · have h := mt_in' h hc
            refine ov_f hc ?_
            obtain ⟨S75, e75, h⟩ := mt_ob h
            obtain ⟨o_, hp⟩ := ov_sI hp e75
            refine ov_b o_ ?_
            obtain ⟨v76, e76, h⟩ := mt_ob h
            refine ov_b (ov_rI hp e76) ?_
            obtain ⟨S77, e77, h⟩ := mt_ob h
            obtain ⟨o_, hp⟩ := ov_wI hp e77
            refine ov_b o_ ?_
            by_cases hc : (1 : Int32) = 0
            · have h := mt_ip h hc
              refine ov_t hc ?_
              obtain ⟨S78, e78, h⟩ := mt_ob h
              obtain ⟨o_, hp⟩ := ov_wI hp e78
              refine ov_b o_ ?_
              obtain ⟨S79, e79, h⟩ := mt_ob h
              obtain ⟨o_, hp⟩ := ov_wI hp e79
              refine ov_b o_ ?_
              exact ih _ _ _ _ hp h
            · have h := mt_in' h hc
              refine ov_f hc ?_
              obtain ⟨S80, e80, h⟩ := mt_ob h
              obtain ⟨o_, hp⟩ := ov_wI hp e80
              refine ov_b o_ ?_
              obtain ⟨S81, e81, h⟩ := mt_ob h
              obtain ⟨o_, hp⟩ := ov_wI hp e81
              refine ov_b o_ ?_
              exact ih _ _ _ _ hp h
    · have h := mt_in' h hc
      refine ov_f hc ?_
      obtain ⟨v8, e8, h⟩ := mt_ob h
      refine ov_b (ov_rI hp e8) ?_
      obtain ⟨v9, e9, h⟩ := mt_ob h
      refine ov_b (ov_rI hp e9) ?_
      obtain ⟨v10, e10, h⟩ := mt_ob h
      refine ov_b (ov_rI hp e10) ?_
      obtain ⟨v11, e11, h⟩ := mt_ob h
      refine ov_b (ov_rI hp e11) ?_
      by_cases hc : ((v8 + v9) * x2) ≤ (x1 * (v10 + v11))
      · have h := mt_ip h hc
        refine ov_t hc ?_
        obtain ⟨v12, e12, h⟩ := mt_ob h
        refine ov_b (ov_rR hp e12) ?_
        obtain ⟨v13, e13, h⟩ := mt_ob h
        refine ov_b (ov_rI hp e13) ?_
        by_cases hc : (0 : Int32) = 0
        · have h := mt_ip h hc
          refine ov_t hc ?_
          obtain ⟨S14, e14, h⟩ := mt_ob h
          obtain ⟨o_, hp⟩ := ov_sI hp e14
          refine ov_b o_ ?_
          obtain ⟨v15, e15, h⟩ := mt_ob h
          refine ov_b (ov_rI hp e15) ?_
          obtain ⟨S16, e16, h⟩ := mt_ob h
          obtain ⟨o_, hp⟩ := ov_wI hp e16
          refine ov_b o_ ?_
          by_cases hc : (0 : Int32) = 0
          · have h := mt_ip h hc
            refine ov_t hc ?_
            obtain ⟨S17, e17, h⟩ := mt_ob h
            obtain ⟨o_, hp⟩ := ov_wI hp e17
            refine ov_b o_ ?_
            obtain ⟨S18, e18, h⟩ := mt_ob h
            obtain ⟨o_, hp⟩ := ov_wI hp e18
            refine ov_b o_ ?_
            exact ih _ _ _ _ hp h
          · have h := mt_in' h hc
            refine ov_f hc ?_
            obtain ⟨S19, e19, h⟩ := mt_ob h
            obtain ⟨o_, hp⟩ := ov_wI hp e19
            refine ov_b o_ ?_
            obtain ⟨S20, e20, h⟩ := mt_ob h
            obtain ⟨o_, hp⟩ := ov_wI hp e20
            refine ov_b o_ ?_
            exact ih _ _ _ _ hp h
        · have h := mt_in' h hc
          refine ov_f hc ?_
          obtain ⟨S21, e21, h⟩ := mt_ob h
          obtain ⟨o_, hp⟩ := ov_sI hp e21
          refine ov_b o_ ?_
          obtain ⟨v22, e22, h⟩ := mt_ob h
          refine ov_b (ov_rI hp e22) ?_
          obtain ⟨S23, e23, h⟩ := mt_ob h
          obtain ⟨o_, hp⟩ := ov_wI hp e23
          refine ov_b o_ ?_
          by_cases hc : (0 : Int32) = 0
          · have h := mt_ip h hc
            refine ov_t hc ?_
            obtain ⟨S24, e24, h⟩ := mt_ob h
            obtain ⟨o_, hp⟩ := ov_wI hp e24
            refine ov_b o_ ?_
            obtain ⟨S25, e25, h⟩ := mt_ob h
            obtain ⟨o_, hp⟩ := ov_wI hp e25
            refine ov_b o_ ?_
            exact ih _ _ _ _ hp h
          · have h := mt_in' h hc
            refine ov_f hc ?_
            obtain ⟨S26, e26, h⟩ := mt_ob h
            obtain ⟨o_, hp⟩ := ov_wI hp e26
            refine ov_b o_ ?_
            obtain ⟨S27, e27, h⟩ := mt_ob h
            obtain ⟨o_, hp⟩ := ov_wI hp e27
            refine ov_b o_ ?_
            exact ih _ _ _ _ hp h
      · have h := mt_in' h hc
        refine ov_f hc ?_
        obtain ⟨v28, e28, h⟩ := mt_ob h
        refine ov_b (ov_rR hp e28) ?_
        obtain ⟨v29, e29, h⟩ := mt_ob h
        refine ov_b (ov_rI hp e29) ?_
        by_cases hc : (1 : Int32) = 0
        · have h := mt_ip h hc
          refine ov_t hc ?_
          obtain ⟨S30, e30, h⟩ := mt_ob h
          obtain ⟨o_, hp⟩ := ov_sI hp e30
          refine ov_b o_ ?_
          obtain ⟨v31, e31, h⟩ := mt_ob h
          refine ov_b (ov_rI hp e31) ?_
          obtain ⟨S32, e32, h⟩ := mt_ob h
          obtain ⟨o_, hp⟩ := ov_wI hp e32
          refine ov_b o_ ?_
          by_cases hc : (1 : Int32) = 0
          · have h := mt_ip h hc
            refine ov_t hc ?_
            obtain ⟨S33, e33, h⟩ := mt_ob h
            obtain ⟨o_, hp⟩ := ov_wI hp e33
            refine ov_b o_ ?_
            obtain ⟨S34, e34, h⟩ := mt_ob h
            obtain ⟨o_, hp⟩ := ov_wI hp e34
            refine ov_b o_ ?_
            exact ih _ _ _ _ hp h
          · have h := mt_in' h hc
            refine ov_f hc ?_
            obtain ⟨S35, e35, h⟩ := mt_ob h
            obtain ⟨o_, hp⟩ := ov_wI hp e35
            refine ov_b o_ ?_
            obtain ⟨S36, e36, h⟩ := mt_ob h
            obtain ⟨o_, hp⟩ := ov_wI hp e36
            refine ov_b o_ ?_
            exact ih _ _ _ _ hp h
        · have h := mt_in' h hc
          refine ov_f hc ?_
          obtain ⟨S37, e37, h⟩ := mt_ob h
          obtain ⟨o_, hp⟩ := ov_sI hp e37
          refine ov_b o_ ?_
          obtain ⟨v38, e38, h⟩ := mt_ob h
          refine ov_b (ov_rI hp e38) ?_
          obtain ⟨S39, e39, h⟩ := mt_ob h
          obtain ⟨o_, hp⟩ := ov_wI hp e39
          refine ov_b o_ ?_
          by_cases hc : (1 : Int32) = 0
          · have h := mt_ip h hc
            refine ov_t hc ?_
            obtain ⟨S40, e40, h⟩ := mt_ob h
            obtain ⟨o_, hp⟩ := ov_wI hp e40
            refine ov_b o_ ?_
            obtain ⟨S41, e41, h⟩ := mt_ob h
            obtain ⟨o_, hp⟩ := ov_wI hp e41
            refine ov_b o_ ?_
            exact ih _ _ _ _ hp h
          · have h := mt_in' h hc
            refine ov_f hc ?_
            obtain ⟨S42, e42, h⟩ := mt_ob h
            obtain ⟨o_, hp⟩ := ov_wI hp e42
            refine ov_b o_ ?_
            obtain ⟨S43, e43, h⟩ := mt_ob h
            obtain ⟨o_, hp⟩ := ov_wI hp e43
            refine ov_b o_ ?_
            exact ih _ _ _ _ hp h
def f_X11_goesTo (x0 : Nat) (x1 : Int32) (x2 : Int32) (S : mt_S) : Option (mt_S) :=
  if mt_isK S x0 11 = true then
   Option.bind (mt_wI S x0 11 10 0) fun S1 =>
   Option.bind (mt_wI S1 x0 11 11 1) fun S2 =>
   Option.bind (mt_wI S2 x0 11 12 1) fun S3 =>
   Option.bind (mt_wI S3 x0 11 13 0) fun S4 =>
   Option.bind (mt_wI S4 x0 11 14 0) fun S5 =>
   f_X11_goesTo_L25 1000 x0 x1 x2 S5
  else none
theorem k_X11_goesTo {x0 : Nat} {x1 : Int32} {x2 : Int32} {S : mt_S} {S' : mt_S} (h : f_X11_goesTo x0 x1 x2 S = some S') : mt_isK S x0 11 = true := by
  unfold f_X11_goesTo at h
  exact (mt_gd h).1
set_option maxHeartbeats 4000000 in
set_option maxRecDepth 100000 in
theorem m_X11_goesTo {B : mt_B}  {x0 : Nat} {x1 : Int32} {x2 : Int32} {S : mt_S} {S' : mt_S} (h : f_X11_goesTo x0 x1 x2 S = some S') : mt_M B yX11_goesTo cX11_goesTo 6 none 1 [mt_rf B x0, .int x1, .int x2] S none S' := by
  unfold f_X11_goesTo at h
  refine mt_M.of (by decide) (Nat.le_of_ble_eq_true rfl) (fun E hC hE => ?_)
  obtain ⟨hk0, h⟩ := mt_gd h
  refine go_aload_n hC 0 dX11_goesTo_0 rfl rfl ?_
  refine go_iconst (v := 0) hC dX11_goesTo_1 (by decide) ?_
  obtain ⟨S1, e1, h⟩ := mt_ob h
  refine go_putI hC mt_flX11_66 e1 dX11_goesTo_2 ?_
  refine go_aload_n hC 0 dX11_goesTo_5 rfl rfl ?_
  refine go_iconst (v := 1) hC dX11_goesTo_6 (by decide) ?_
  obtain ⟨S2, e2, h⟩ := mt_ob h
  refine go_putI hC mt_flX11_69 e2 dX11_goesTo_7 ?_
  refine go_aload_n hC 0 dX11_goesTo_10 rfl rfl ?_
  refine go_iconst (v := 1) hC dX11_goesTo_11 (by decide) ?_
  obtain ⟨S3, e3, h⟩ := mt_ob h
  refine go_putI hC mt_flX11_72 e3 dX11_goesTo_12 ?_
  refine go_aload_n hC 0 dX11_goesTo_15 rfl rfl ?_
  refine go_iconst (v := 0) hC dX11_goesTo_16 (by decide) ?_
  obtain ⟨S4, e4, h⟩ := mt_ob h
  refine go_putI hC mt_flX11_75 e4 dX11_goesTo_17 ?_
  refine go_aload_n hC 0 dX11_goesTo_20 rfl rfl ?_
  refine go_iconst (v := 0) hC dX11_goesTo_21 (by decide) ?_
  obtain ⟨S5, e5, h⟩ := mt_ob h
  refine go_putI hC mt_flX11_78 e5 dX11_goesTo_22 ?_
  exact m_X11_goesTo_L25 hC hE 1000 _ _ _ _ h
set_option maxHeartbeats 4000000 in
set_option maxRecDepth 100000 in
theorem ov_X11_goesTo {T : mt_S}  {x0 : Nat} {x1 : Int32} {x2 : Int32} {S : mt_S} {S' : mt_S} (hp : mt_cp S T) (h : f_X11_goesTo x0 x1 x2 S = some S') : f_X11_goesTo x0 x1 x2 (mt_ov S T) = some (mt_ov S' T) ∧ mt_cp S' T := by
  unfold f_X11_goesTo at h ⊢
  obtain ⟨hg, h⟩ := mt_gd h
  refine ov_t (ov_K hp hg) ?_
  obtain ⟨S1, e1, h⟩ := mt_ob h
  obtain ⟨o_, hp⟩ := ov_wI hp e1
  refine ov_b o_ ?_
  obtain ⟨S2, e2, h⟩ := mt_ob h
  obtain ⟨o_, hp⟩ := ov_wI hp e2
  refine ov_b o_ ?_
  obtain ⟨S3, e3, h⟩ := mt_ob h
  obtain ⟨o_, hp⟩ := ov_wI hp e3
  refine ov_b o_ ?_
  obtain ⟨S4, e4, h⟩ := mt_ob h
  obtain ⟨o_, hp⟩ := ov_wI hp e4
  refine ov_b o_ ?_
  obtain ⟨S5, e5, h⟩ := mt_ob h
  obtain ⟨o_, hp⟩ := ov_wI hp e5
  refine ov_b o_ ?_
  exact ov_X11_goesTo_L25 1000 _ _ _ _ hp h
def f_X11_lays (x0 : Nat) (S : mt_S) : Option (mt_S) :=
  if mt_isK S x0 11 = true then
   Option.bind (mt_rR S x0 11 3) fun v1 =>
   Option.bind (mt_aI S v1 13 0) fun v2 =>
   Option.bind (mt_rR S x0 11 3) fun v3 =>
   Option.bind (mt_aI S v3 13 1) fun v4 =>
   Option.bind (f_X11_goesTo x0 v2 v4 S) fun S5 =>
   some S5
  else none
theorem k_X11_lays {x0 : Nat} {S : mt_S} {S' : mt_S} (h : f_X11_lays x0 S = some S') : mt_isK S x0 11 = true := by
  unfold f_X11_lays at h
  exact (mt_gd h).1
set_option maxHeartbeats 4000000 in
set_option maxRecDepth 100000 in
theorem m_X11_lays {B : mt_B}  {x0 : Nat} {S : mt_S} {S' : mt_S} (h : f_X11_lays x0 S = some S') : mt_M B yX11_lays cX11_lays 1 none 2 [mt_rf B x0] S none S' := by
  unfold f_X11_lays at h
  refine mt_M.of (by decide) (Nat.le_of_ble_eq_true rfl) (fun E hC hE => ?_)
  obtain ⟨hk0, h⟩ := mt_gd h
  refine go_aload_n hC 0 dX11_lays_0 rfl rfl ?_
  refine go_aload_n hC 0 dX11_lays_1 rfl rfl ?_
  obtain ⟨v1, e1, h⟩ := mt_ob h
  refine go_getR hC mt_flX11_24 e1 dX11_lays_2 ?_
  refine go_iconst (v := 0) hC dX11_lays_5 (by decide) ?_
  obtain ⟨v2, e2, h⟩ := mt_ob h
  refine go_iald hC e2 dX11_lays_6 ?_
  refine go_aload_n hC 0 dX11_lays_7 rfl rfl ?_
  obtain ⟨v3, e3, h⟩ := mt_ob h
  refine go_getR hC mt_flX11_24 e3 dX11_lays_8 ?_
  refine go_iconst (v := 1) hC dX11_lays_11 (by decide) ?_
  obtain ⟨v4, e4, h⟩ := mt_ob h
  refine go_iald hC e4 dX11_lays_12 ?_
  obtain ⟨S5, e5, h⟩ := mt_ob h
  refine go_callVv hC [.int v2, .int v4] [] (m_X11_goesTo e5) mt_cvX11_81 (k_X11_goesTo e5) dX11_lays_13 rfl rfl (by decide) (Nat.le_of_ble_eq_true rfl) ⟨Nat.le_refl _, Nat.le_refl _⟩ ?_
  exact go_vret hC (mt_rev h hE) dX11_lays_16
set_option maxHeartbeats 4000000 in
set_option maxRecDepth 100000 in
theorem ov_X11_lays {T : mt_S}  {x0 : Nat} {S : mt_S} {S' : mt_S} (hp : mt_cp S T) (h : f_X11_lays x0 S = some S') : f_X11_lays x0 (mt_ov S T) = some (mt_ov S' T) ∧ mt_cp S' T := by
  unfold f_X11_lays at h ⊢
  obtain ⟨hg, h⟩ := mt_gd h
  refine ov_t (ov_K hp hg) ?_
  obtain ⟨v1, e1, h⟩ := mt_ob h
  refine ov_b (ov_rR hp e1) ?_
  obtain ⟨v2, e2, h⟩ := mt_ob h
  refine ov_b (ov_aI hp e2) ?_
  obtain ⟨v3, e3, h⟩ := mt_ob h
  refine ov_b (ov_rR hp e3) ?_
  obtain ⟨v4, e4, h⟩ := mt_ob h
  refine ov_b (ov_aI hp e4) ?_
  obtain ⟨S5, e5, h⟩ := mt_ob h
  obtain ⟨o_, hp⟩ := ov_X11_goesTo hp e5
  refine ov_b o_ ?_
  exact ov_retv hp h
def f_X11_divisors (rr : Int32 → Int32 → mt_S → Option (Int32 × mt_S)) (x0 : Int32) (x1 : Int32) (S : mt_S) : Option (Int32 × mt_S) :=
  if x1 = 0 then
   some (x0, S)
  else
   if x1 = 0 then none else
   mt_b2 (rr x1 (x0 - x0 / x1 * x1) S) fun v2 S1 =>
   some (v2, S1)
def f_X11_divisor : Nat → Int32 → Int32 → mt_S → Option (Int32 × mt_S)
  | 0 => fun _ _ _ => none
  | n + 1 => f_X11_divisors (f_X11_divisor n)
set_option maxHeartbeats 4000000 in
set_option maxRecDepth 100000 in
theorem ms_X11_divisor {B : mt_B} (rr : Int32 → Int32 → mt_S → Option (Int32 × mt_S)) {dr : Nat} (hr : ∀ (x0 : Int32) (x1 : Int32) (S : mt_S) (r : Int32) (S' : mt_S), rr x0 x1 S = some (r, S') → mt_M B yX11_divisor cX11_divisor 2 (some .int) dr [.int x0, .int x1] S (some (.int r)) S') (hkr : True) {x0 : Int32} {x1 : Int32} {S : mt_S} {r : Int32} {S' : mt_S} (h : f_X11_divisors rr x0 x1 S = some (r, S')) : mt_M B yX11_divisor cX11_divisor 2 (some .int) (dr + 1) [.int x0, .int x1] S (some (.int r)) S' := by
  unfold f_X11_divisors at h
  refine mt_M.of (by decide) (Nat.le_of_ble_eq_true rfl) (fun E hC hE => ?_)
  refine go_iload_n hC 1 dX11_divisor_0 rfl rfl ?_
  refine go_if_ne hC (tgt := 8) dX11_divisor_1 (by decide) (fun hc => ?_) (fun hc => ?_)
  · have h := mt_in' h hc
    refine go_iload_n hC 1 dX11_divisor_8 rfl rfl ?_
    refine go_iload_n hC 0 dX11_divisor_9 rfl rfl ?_
    refine go_iload_n hC 1 dX11_divisor_10 rfl rfl ?_
    have g3 : ¬ x1 = 0 := fun q => by rw [if_pos q] at h; cases h
    have h := mt_in' h g3
    refine go_irem hC dX11_divisor_11 g3 ?_
    obtain ⟨v2, S1, e2, h⟩ := mt_ob2 h
    refine go_callSi hC [.int x1, .int (x0 - x0 / x1 * x1)] [] (hr _ _ _ _ _ e2) mt_csX11_85 dX11_divisor_12 rfl rfl (by omega) (Nat.le_of_ble_eq_true rfl) ⟨Nat.le_refl _, Nat.le_refl _⟩ ?_
    exact go_iret hC (mt_rei h hE) dX11_divisor_15
  · have h := mt_ip h hc
    refine go_iload_n hC 0 dX11_divisor_4 rfl rfl ?_
    refine go_goto hC (tgt := 15) dX11_divisor_5 (by decide) ?_
    exact go_iret hC (mt_rei h hE) dX11_divisor_15
set_option maxHeartbeats 4000000 in
set_option maxRecDepth 100000 in
theorem mr_X11_divisor {B : mt_B} : ∀ (n : Nat) (x0 : Int32) (x1 : Int32) (S : mt_S) (r : Int32) (S' : mt_S), f_X11_divisor n x0 x1 S = some (r, S') → mt_M B yX11_divisor cX11_divisor 2 (some .int) (1 * n) [.int x0, .int x1] S (some (.int r)) S' := by
  intro n
  induction n with
  | zero =>
    intro x0 x1 S r S' h
    cases h
  | succ n ih =>
    intro x0 x1 S r S' h
    have h : f_X11_divisors (f_X11_divisor n) x0 x1 S = some (r, S') := h
    have h2 := ms_X11_divisor (rr := f_X11_divisor n) (dr := 1 * n) ih trivial h
    rw [show 1 * (n + 1) = 1 * n + 1 from by omega]
    exact h2
theorem m_X11_divisor {B : mt_B} {x0 : Int32} {x1 : Int32} {S : mt_S} {r : Int32} {S' : mt_S} (h : f_X11_divisor 40 x0 x1 S = some (r, S')) : mt_M B yX11_divisor cX11_divisor 2 (some .int) 40 [.int x0, .int x1] S (some (.int r)) S' := mr_X11_divisor 40 _ _ _ _ _ h
set_option maxHeartbeats 4000000 in
set_option maxRecDepth 100000 in
theorem ovs_X11_divisor {T : mt_S} {rr : Int32 → Int32 → mt_S → Option (Int32 × mt_S)} (hr : ∀ (x0 : Int32) (x1 : Int32) (S : mt_S) (r : Int32) (S' : mt_S), mt_cp S T → rr x0 x1 S = some (r, S') → rr x0 x1 (mt_ov S T) = some (r, mt_ov S' T) ∧ mt_cp S' T) {x0 : Int32} {x1 : Int32} {S : mt_S} {r : Int32} {S' : mt_S} (hp : mt_cp S T) (h : f_X11_divisors rr x0 x1 S = some (r, S')) : f_X11_divisors rr x0 x1 (mt_ov S T) = some (r, mt_ov S' T) ∧ mt_cp S' T := by
  unfold f_X11_divisors at h ⊢
  by_cases hc : x1 = 0
  · have h := mt_ip h hc
    refine ov_t hc ?_
    exact ov_ret hp h
  · have h := mt_in' h hc
    refine ov_f hc ?_
    have hz : ¬ x1 = 0 := fun q => by rw [if_pos q] at h; cases h
    have h := mt_in' h hz
    refine ov_f hz ?_
    obtain ⟨v2, S1, e2, h⟩ := mt_ob2 h
    obtain ⟨o_, hp⟩ := hr _ _ _ _ _ hp e2
    refine ov_b2 o_ ?_
    exact ov_ret hp h
set_option maxHeartbeats 4000000 in
set_option maxRecDepth 100000 in
theorem ovr_X11_divisor {T : mt_S} : ∀ (n : Nat) (x0 : Int32) (x1 : Int32) (S : mt_S) (r : Int32) (S' : mt_S), mt_cp S T → f_X11_divisor n x0 x1 S = some (r, S') → f_X11_divisor n x0 x1 (mt_ov S T) = some (r, mt_ov S' T) ∧ mt_cp S' T := by
  intro n
  induction n with
  | zero =>
    intro x0 x1 S r S' hp h
    cases h
  | succ n ih =>
    intro x0 x1 S r S' hp h
    exact ovs_X11_divisor (rr := f_X11_divisor n) ih hp h
theorem ov_X11_divisor {T : mt_S} {x0 : Int32} {x1 : Int32} {S : mt_S} {r : Int32} {S' : mt_S} (hp : mt_cp S T) (h : f_X11_divisor 40 x0 x1 S = some (r, S')) : f_X11_divisor 40 x0 x1 (mt_ov S T) = some (r, mt_ov S' T) ∧ mt_cp S' T := ovr_X11_divisor 40 _ _ _ _ _ hp h
def f_X11_isPlace (x0 : Int32) (x1 : Int32) (S : mt_S) : Option (Int32 × mt_S) :=
  mt_b2 (f_X11_isIn x0.toInt64 1 22 S) fun v2 S1 =>
  if v2 = 0 then
   some (0, S1)
  else
   mt_b2 (f_X11_isIn x1.toInt64 1 22 S1) fun v4 S3 =>
   if v4 = 0 then
    some (0, S3)
   else
   if 22 < (x0 + x1) then
    some (0, S3)
   else
    mt_b2 (f_X11_divisor 40 x0 x1 S3) fun v6 S5 =>
    if v6 = 1 then
     some (1, S5)
    else
     some (0, S5)
set_option maxHeartbeats 4000000 in
set_option maxRecDepth 100000 in
theorem m_X11_isPlace {B : mt_B}  {x0 : Int32} {x1 : Int32} {S : mt_S} {r : Int32} {S' : mt_S} (h : f_X11_isPlace x0 x1 S = some (r, S')) : mt_M B yX11_isPlace cX11_isPlace 2 (some .boolean) 41 [.int x0, .int x1] S (some (.int r)) S' := by
  unfold f_X11_isPlace at h
  refine mt_M.of (by decide) (Nat.le_of_ble_eq_true rfl) (fun E hC hE => ?_)
  refine go_iload_n hC 0 dX11_isPlace_0 rfl rfl ?_
  refine go_i2l hC dX11_isPlace_1 ?_
  refine go_lconst (v := 1) hC dX11_isPlace_2 (by decide) ?_
  refine go_ldc2 hC dX11_isPlace_3 mt_kX11_89 ?_
  obtain ⟨v2, S1, e2, h⟩ := mt_ob2 h
  refine go_callSi hC [.long x0.toInt64, .long 1, .long 22] [] (m_X11_isIn e2) mt_csX11_91 dX11_isPlace_6 rfl rfl (by decide) (Nat.le_of_ble_eq_true rfl) ⟨Nat.le_refl _, Nat.le_refl _⟩ ?_
  refine go_if_eq hC (tgt := 45) dX11_isPlace_9 (by decide) (fun hc => ?_) (fun hc => ?_)
  · have h := mt_ip h hc
    refine go_iconst (v := 0) hC dX11_isPlace_45 (by decide) ?_
    exact go_zret hC (mt_rei h hE) (Or.inl rfl) dX11_isPlace_46
  · have h := mt_in' h hc
    refine go_iload_n hC 1 dX11_isPlace_12 rfl rfl ?_
    refine go_i2l hC dX11_isPlace_13 ?_
    refine go_lconst (v := 1) hC dX11_isPlace_14 (by decide) ?_
    refine go_ldc2 hC dX11_isPlace_15 mt_kX11_89 ?_
    obtain ⟨v4, S3, e4, h⟩ := mt_ob2 h
    refine go_callSi hC [.long x1.toInt64, .long 1, .long 22] [] (m_X11_isIn e4) mt_csX11_91 dX11_isPlace_18 rfl rfl (by decide) (Nat.le_of_ble_eq_true rfl) ⟨Nat.le_refl _, Nat.le_refl _⟩ ?_
    refine go_if_eq hC (tgt := 45) dX11_isPlace_21 (by decide) (fun hc => ?_) (fun hc => ?_)
    · have h := mt_ip h hc
      refine go_iconst (v := 0) hC dX11_isPlace_45 (by decide) ?_
      exact go_zret hC (mt_rei h hE) (Or.inl rfl) dX11_isPlace_46
    · have h := mt_in' h hc
      refine go_iload_n hC 0 dX11_isPlace_24 rfl rfl ?_
      refine go_iload_n hC 1 dX11_isPlace_25 rfl rfl ?_
      refine go_iadd hC dX11_isPlace_26 ?_
      refine go_bipush (v := 22) hC dX11_isPlace_27 (by decide) ?_
      refine go_icmp_gt hC (tgt := 45) dX11_isPlace_29 (by decide) (fun hc => ?_) (fun hc => ?_)
      · have h := mt_ip h hc
        refine go_iconst (v := 0) hC dX11_isPlace_45 (by decide) ?_
        exact go_zret hC (mt_rei h hE) (Or.inl rfl) dX11_isPlace_46
      · have h := mt_in' h hc
        refine go_iload_n hC 0 dX11_isPlace_32 rfl rfl ?_
        refine go_iload_n hC 1 dX11_isPlace_33 rfl rfl ?_
        obtain ⟨v6, S5, e6, h⟩ := mt_ob2 h
        refine go_callSi hC [.int x0, .int x1] [] (m_X11_divisor e6) mt_csX11_85 dX11_isPlace_34 rfl rfl (by decide) (Nat.le_of_ble_eq_true rfl) ⟨Nat.le_refl _, Nat.le_refl _⟩ ?_
        refine go_iconst (v := 1) hC dX11_isPlace_37 (by decide) ?_
        refine go_icmp_ne hC (tgt := 45) dX11_isPlace_38 (by decide) (fun hc => ?_) (fun hc => ?_)
        · have h := mt_in' h hc
          refine go_iconst (v := 0) hC dX11_isPlace_45 (by decide) ?_
          exact go_zret hC (mt_rei h hE) (Or.inl rfl) dX11_isPlace_46
        · have h := mt_ip h hc
          refine go_iconst (v := 1) hC dX11_isPlace_41 (by decide) ?_
          refine go_goto hC (tgt := 46) dX11_isPlace_42 (by decide) ?_
          exact go_zret hC (mt_rei h hE) (Or.inr rfl) dX11_isPlace_46
set_option maxHeartbeats 4000000 in
set_option maxRecDepth 100000 in
theorem ov_X11_isPlace {T : mt_S}  {x0 : Int32} {x1 : Int32} {S : mt_S} {r : Int32} {S' : mt_S} (hp : mt_cp S T) (h : f_X11_isPlace x0 x1 S = some (r, S')) : f_X11_isPlace x0 x1 (mt_ov S T) = some (r, mt_ov S' T) ∧ mt_cp S' T := by
  unfold f_X11_isPlace at h ⊢
  obtain ⟨v2, S1, e2, h⟩ := mt_ob2 h
  obtain ⟨o_, hp⟩ := ov_X11_isIn hp e2
  refine ov_b2 o_ ?_
  by_cases hc : v2 = 0
  · have h := mt_ip h hc
    refine ov_t hc ?_
    exact ov_ret hp h
  · have h := mt_in' h hc
    refine ov_f hc ?_
    obtain ⟨v4, S3, e4, h⟩ := mt_ob2 h
    obtain ⟨o_, hp⟩ := ov_X11_isIn hp e4
    refine ov_b2 o_ ?_
    by_cases hc : v4 = 0
    · have h := mt_ip h hc
      refine ov_t hc ?_
      exact ov_ret hp h
    · have h := mt_in' h hc
      refine ov_f hc ?_
      by_cases hc : 22 < (x0 + x1)
      · have h := mt_ip h hc
        refine ov_t hc ?_
        exact ov_ret hp h
      · have h := mt_in' h hc
        refine ov_f hc ?_
        obtain ⟨v6, S5, e6, h⟩ := mt_ob2 h
        obtain ⟨o_, hp⟩ := ov_X11_divisor hp e6
        refine ov_b2 o_ ?_
        by_cases hc : v6 = 1
        · have h := mt_ip h hc
          refine ov_t hc ?_
          exact ov_ret hp h
        · have h := mt_in' h hc
          refine ov_f hc ?_
          exact ov_ret hp h
def f_X11_becomes (x0 : Nat) (x1 : Int32) (x2 : Int32) (S : mt_S) : Option (mt_S) :=
  if mt_isK S x0 11 = true then
   Option.bind (mt_rR S x0 11 3) fun v1 =>
   Option.bind (mt_sI S v1 13 0 x1) fun S2 =>
   Option.bind (mt_rR S2 x0 11 3) fun v3 =>
   Option.bind (mt_sI S2 v3 13 1 x2) fun S4 =>
   some S4
  else none
theorem k_X11_becomes {x0 : Nat} {x1 : Int32} {x2 : Int32} {S : mt_S} {S' : mt_S} (h : f_X11_becomes x0 x1 x2 S = some S') : mt_isK S x0 11 = true := by
  unfold f_X11_becomes at h
  exact (mt_gd h).1
set_option maxHeartbeats 4000000 in
set_option maxRecDepth 100000 in
theorem m_X11_becomes {B : mt_B}  {x0 : Nat} {x1 : Int32} {x2 : Int32} {S : mt_S} {S' : mt_S} (h : f_X11_becomes x0 x1 x2 S = some S') : mt_M B yX11_becomes cX11_becomes 3 none 1 [mt_rf B x0, .int x1, .int x2] S none S' := by
  unfold f_X11_becomes at h
  refine mt_M.of (by decide) (Nat.le_of_ble_eq_true rfl) (fun E hC hE => ?_)
  obtain ⟨hk0, h⟩ := mt_gd h
  refine go_aload_n hC 0 dX11_becomes_0 rfl rfl ?_
  obtain ⟨v1, e1, h⟩ := mt_ob h
  refine go_getR hC mt_flX11_24 e1 dX11_becomes_1 ?_
  refine go_iconst (v := 0) hC dX11_becomes_4 (by decide) ?_
  refine go_iload_n hC 1 dX11_becomes_5 rfl rfl ?_
  obtain ⟨S2, e2, h⟩ := mt_ob h
  refine go_iast hC e2 dX11_becomes_6 ?_
  refine go_aload_n hC 0 dX11_becomes_7 rfl rfl ?_
  obtain ⟨v3, e3, h⟩ := mt_ob h
  refine go_getR hC mt_flX11_24 e3 dX11_becomes_8 ?_
  refine go_iconst (v := 1) hC dX11_becomes_11 (by decide) ?_
  refine go_iload_n hC 2 dX11_becomes_12 rfl rfl ?_
  obtain ⟨S4, e4, h⟩ := mt_ob h
  refine go_iast hC e4 dX11_becomes_13 ?_
  exact go_vret hC (mt_rev h hE) dX11_becomes_14
set_option maxHeartbeats 4000000 in
set_option maxRecDepth 100000 in
theorem ov_X11_becomes {T : mt_S}  {x0 : Nat} {x1 : Int32} {x2 : Int32} {S : mt_S} {S' : mt_S} (hp : mt_cp S T) (h : f_X11_becomes x0 x1 x2 S = some S') : f_X11_becomes x0 x1 x2 (mt_ov S T) = some (mt_ov S' T) ∧ mt_cp S' T := by
  unfold f_X11_becomes at h ⊢
  obtain ⟨hg, h⟩ := mt_gd h
  refine ov_t (ov_K hp hg) ?_
  obtain ⟨v1, e1, h⟩ := mt_ob h
  refine ov_b (ov_rR hp e1) ?_
  obtain ⟨S2, e2, h⟩ := mt_ob h
  obtain ⟨o_, hp⟩ := ov_sI hp e2
  refine ov_b o_ ?_
  obtain ⟨v3, e3, h⟩ := mt_ob h
  refine ov_b (ov_rR hp e3) ?_
  obtain ⟨S4, e4, h⟩ := mt_ob h
  obtain ⟨o_, hp⟩ := ov_sI hp e4
  refine ov_b o_ ?_
  exact ov_retv hp h
def f_X11_steps (x0 : Nat) (x1 : Int32) (S : mt_S) : Option (Int32 × mt_S) :=
  if mt_isK S x0 11 = true then
   Option.bind (f_X11_lays x0 S) fun S1 =>
   Option.bind (mt_rR S1 x0 11 3) fun v2 =>
   Option.bind (mt_aI S1 v2 13 0) fun v3 =>
   Option.bind (mt_rR S1 x0 11 3) fun v4 =>
   Option.bind (mt_aI S1 v4 13 1) fun v5 =>
   if x1 = 108 then
    Option.bind (mt_rI S1 x0 11 10) fun v6 =>
    Option.bind (mt_rI S1 x0 11 11) fun v7 =>
    if (((v3 + v5) + v6) + v7) ≤ 22 then
     Option.bind (mt_rI S1 x0 11 10) fun v8 =>
     Option.bind (mt_rI S1 x0 11 11) fun v9 =>
     Option.bind (f_X11_becomes x0 (v3 + v8) (v5 + v9) S1) fun S10 =>
     some (1, S10)
    else
     some (0, S1)
   else
   if x1 = 114 then
    Option.bind (mt_rI S1 x0 11 12) fun v11 =>
    Option.bind (mt_rI S1 x0 11 13) fun v12 =>
    if (((v3 + v5) + v11) + v12) ≤ 22 then
     Option.bind (mt_rI S1 x0 11 12) fun v13 =>
     Option.bind (mt_rI S1 x0 11 13) fun v14 =>
     Option.bind (f_X11_becomes x0 (v3 + v13) (v5 + v14) S1) fun S15 =>
     some (1, S15)
    else
     some (0, S1)
   else
   if x1 = 117 then
    Option.bind (mt_rI S1 x0 11 14) fun v16 =>
    if v16 = 0 then
     some (0, S1)
    else
     Option.bind (mt_rI S1 x0 11 10) fun v17 =>
     Option.bind (mt_rI S1 x0 11 11) fun v18 =>
     Option.bind (mt_rI S1 x0 11 12) fun v19 =>
     Option.bind (mt_rI S1 x0 11 13) fun v20 =>
     if (v17 + v18) ≤ (v19 + v20) then
      Option.bind (mt_rI S1 x0 11 12) fun v21 =>
      Option.bind (mt_rI S1 x0 11 13) fun v22 =>
      Option.bind (f_X11_becomes x0 v21 v22 S1) fun S23 =>
      some (1, S23)
     else
      Option.bind (mt_rI S1 x0 11 10) fun v24 =>
      Option.bind (mt_rI S1 x0 11 11) fun v25 =>
      Option.bind (f_X11_becomes x0 v24 v25 S1) fun S26 =>
      some (1, S26)
   else
    Option.bind (f_X11_becomes x0 1 1 S1) fun S27 =>
    some (1, S27)
  else none
theorem k_X11_steps {x0 : Nat} {x1 : Int32} {S : mt_S} {r : Int32} {S' : mt_S} (h : f_X11_steps x0 x1 S = some (r, S')) : mt_isK S x0 11 = true := by
  unfold f_X11_steps at h
  exact (mt_gd h).1
set_option maxHeartbeats 4000000 in
set_option maxRecDepth 100000 in
theorem m_X11_steps {B : mt_B}  {x0 : Nat} {x1 : Int32} {S : mt_S} {r : Int32} {S' : mt_S} (h : f_X11_steps x0 x1 S = some (r, S')) : mt_M B yX11_steps cX11_steps 4 (some .boolean) 3 [mt_rf B x0, .int x1] S (some (.int r)) S' := by
  unfold f_X11_steps at h
  refine mt_M.of (by decide) (Nat.le_of_ble_eq_true rfl) (fun E hC hE => ?_)
  obtain ⟨hk0, h⟩ := mt_gd h
  refine go_aload_n hC 0 dX11_steps_0 rfl rfl ?_
  obtain ⟨S1, e1, h⟩ := mt_ob h
  refine go_callVv hC [] [] (m_X11_lays e1) mt_cvX11_95 (k_X11_lays e1) dX11_steps_1 rfl rfl (by decide) (Nat.le_of_ble_eq_true rfl) ⟨Nat.le_refl _, Nat.le_refl _⟩ ?_
  refine go_aload_n hC 0 dX11_steps_4 rfl rfl ?_
  obtain ⟨v2, e2, h⟩ := mt_ob h
  refine go_getR hC mt_flX11_24 e2 dX11_steps_5 ?_
  refine go_iconst (v := 0) hC dX11_steps_8 (by decide) ?_
  obtain ⟨v3, e3, h⟩ := mt_ob h
  refine go_iald hC e3 dX11_steps_9 ?_
  refine go_istore_n hC [1, 2, 0] (lv1 := [(0, mt_rf B x0), (1, .int x1), (2, .int v3)]) dX11_steps_10 rfl (by decide) rfl ?_
  refine go_aload_n hC 0 dX11_steps_11 rfl rfl ?_
  obtain ⟨v4, e4, h⟩ := mt_ob h
  refine go_getR hC mt_flX11_24 e4 dX11_steps_12 ?_
  refine go_iconst (v := 1) hC dX11_steps_15 (by decide) ?_
  obtain ⟨v5, e5, h⟩ := mt_ob h
  refine go_iald hC e5 dX11_steps_16 ?_
  refine go_istore_n hC [1, 2, 3, 0] (lv1 := [(0, mt_rf B x0), (1, .int x1), (2, .int v3), (3, .int v5)]) dX11_steps_17 rfl (by decide) rfl ?_
  refine go_iload_n hC 1 dX11_steps_18 rfl rfl ?_
  by_cases hc0 : x1 = 108
  · have h := mt_ip h hc0
    refine go_look hC (off := 33) (tgt := 52) dX11_steps_19 (by decide +kernel) (by rw [hc0]; decide +kernel) (by decide) ?_
    refine go_iload_n hC 2 dX11_steps_52 rfl rfl ?_
    refine go_iload_n hC 3 dX11_steps_53 rfl rfl ?_
    refine go_iadd hC dX11_steps_54 ?_
    refine go_aload_n hC 0 dX11_steps_55 rfl rfl ?_
    obtain ⟨v6, e6, h⟩ := mt_ob h
    refine go_getI hC mt_flX11_66 e6 dX11_steps_56 ?_
    refine go_iadd hC dX11_steps_59 ?_
    refine go_aload_n hC 0 dX11_steps_60 rfl rfl ?_
    obtain ⟨v7, e7, h⟩ := mt_ob h
    refine go_getI hC mt_flX11_69 e7 dX11_steps_61 ?_
    refine go_iadd hC dX11_steps_64 ?_
    refine go_bipush (v := 22) hC dX11_steps_65 (by decide) ?_
    refine go_icmp_le hC (tgt := 72) dX11_steps_67 (by decide) (fun hc => ?_) (fun hc => ?_)
    · have h := mt_ip h hc
      refine go_aload_n hC 0 dX11_steps_72 rfl rfl ?_
      refine go_iload_n hC 2 dX11_steps_73 rfl rfl ?_
      refine go_aload_n hC 0 dX11_steps_74 rfl rfl ?_
      obtain ⟨v8, e8, h⟩ := mt_ob h
      refine go_getI hC mt_flX11_66 e8 dX11_steps_75 ?_
      refine go_iadd hC dX11_steps_78 ?_
      refine go_iload_n hC 3 dX11_steps_79 rfl rfl ?_
      refine go_aload_n hC 0 dX11_steps_80 rfl rfl ?_
      obtain ⟨v9, e9, h⟩ := mt_ob h
      refine go_getI hC mt_flX11_69 e9 dX11_steps_81 ?_
      refine go_iadd hC dX11_steps_84 ?_
      obtain ⟨S10, e10, h⟩ := mt_ob h
      refine go_callVv hC [.int (v3 + v8), .int (v5 + v9)] [] (m_X11_becomes e10) mt_cvX11_98 (k_X11_becomes e10) dX11_steps_85 rfl rfl (by decide) (Nat.le_of_ble_eq_true rfl) ⟨Nat.le_refl _, Nat.le_refl _⟩ ?_
      refine go_iconst (v := 1) hC dX11_steps_88 (by decide) ?_
      exact go_zret hC (mt_rei h hE) (Or.inr rfl) dX11_steps_89
    · have h := mt_in' h hc
      refine go_iconst (v := 0) hC dX11_steps_70 (by decide) ?_
      exact go_zret hC (mt_rei h hE) (Or.inl rfl) dX11_steps_71
  · have h := mt_in' h hc0
    by_cases hc1 : x1 = 114
    · have h := mt_ip h hc1
      refine go_look hC (off := 71) (tgt := 90) dX11_steps_19 (by decide +kernel) (by rw [hc1]; decide +kernel) (by decide) ?_
      refine go_iload_n hC 2 dX11_steps_90 rfl rfl ?_
      refine go_iload_n hC 3 dX11_steps_91 rfl rfl ?_
      refine go_iadd hC dX11_steps_92 ?_
      refine go_aload_n hC 0 dX11_steps_93 rfl rfl ?_
      obtain ⟨v11, e11, h⟩ := mt_ob h
      refine go_getI hC mt_flX11_72 e11 dX11_steps_94 ?_
      refine go_iadd hC dX11_steps_97 ?_
      refine go_aload_n hC 0 dX11_steps_98 rfl rfl ?_
      obtain ⟨v12, e12, h⟩ := mt_ob h
      refine go_getI hC mt_flX11_75 e12 dX11_steps_99 ?_
      refine go_iadd hC dX11_steps_102 ?_
      refine go_bipush (v := 22) hC dX11_steps_103 (by decide) ?_
      refine go_icmp_le hC (tgt := 110) dX11_steps_105 (by decide) (fun hc => ?_) (fun hc => ?_)
      · have h := mt_ip h hc
        refine go_aload_n hC 0 dX11_steps_110 rfl rfl ?_
        refine go_iload_n hC 2 dX11_steps_111 rfl rfl ?_
        refine go_aload_n hC 0 dX11_steps_112 rfl rfl ?_
        obtain ⟨v13, e13, h⟩ := mt_ob h
        refine go_getI hC mt_flX11_72 e13 dX11_steps_113 ?_
        refine go_iadd hC dX11_steps_116 ?_
        refine go_iload_n hC 3 dX11_steps_117 rfl rfl ?_
        refine go_aload_n hC 0 dX11_steps_118 rfl rfl ?_
        obtain ⟨v14, e14, h⟩ := mt_ob h
        refine go_getI hC mt_flX11_75 e14 dX11_steps_119 ?_
        refine go_iadd hC dX11_steps_122 ?_
        obtain ⟨S15, e15, h⟩ := mt_ob h
        refine go_callVv hC [.int (v3 + v13), .int (v5 + v14)] [] (m_X11_becomes e15) mt_cvX11_98 (k_X11_becomes e15) dX11_steps_123 rfl rfl (by decide) (Nat.le_of_ble_eq_true rfl) ⟨Nat.le_refl _, Nat.le_refl _⟩ ?_
        refine go_iconst (v := 1) hC dX11_steps_126 (by decide) ?_
        exact go_zret hC (mt_rei h hE) (Or.inr rfl) dX11_steps_127
      · have h := mt_in' h hc
        refine go_iconst (v := 0) hC dX11_steps_108 (by decide) ?_
        exact go_zret hC (mt_rei h hE) (Or.inl rfl) dX11_steps_109
    · have h := mt_in' h hc1
      by_cases hc2 : x1 = 117
      · have h := mt_ip h hc2
        refine go_look hC (off := 109) (tgt := 128) dX11_steps_19 (by decide +kernel) (by rw [hc2]; decide +kernel) (by decide) ?_
        refine go_aload_n hC 0 dX11_steps_128 rfl rfl ?_
        obtain ⟨v16, e16, h⟩ := mt_ob h
        refine go_getI hC mt_flX11_78 e16 dX11_steps_129 ?_
        refine go_if_ne hC (tgt := 137) dX11_steps_132 (by decide) (fun hc => ?_) (fun hc => ?_)
        · have h := mt_in' h hc
          refine go_aload_n hC 0 dX11_steps_137 rfl rfl ?_
          obtain ⟨v17, e17, h⟩ := mt_ob h
          refine go_getI hC mt_flX11_66 e17 dX11_steps_138 ?_
          refine go_aload_n hC 0 dX11_steps_141 rfl rfl ?_
          obtain ⟨v18, e18, h⟩ := mt_ob h
          refine go_getI hC mt_flX11_69 e18 dX11_steps_142 ?_
          refine go_iadd hC dX11_steps_145 ?_
          refine go_aload_n hC 0 dX11_steps_146 rfl rfl ?_
          obtain ⟨v19, e19, h⟩ := mt_ob h
          refine go_getI hC mt_flX11_72 e19 dX11_steps_147 ?_
          refine go_aload_n hC 0 dX11_steps_150 rfl rfl ?_
          obtain ⟨v20, e20, h⟩ := mt_ob h
          refine go_getI hC mt_flX11_75 e20 dX11_steps_151 ?_
          refine go_iadd hC dX11_steps_154 ?_
          refine go_icmp_le hC (tgt := 173) dX11_steps_155 (by decide) (fun hc => ?_) (fun hc => ?_)
          · have h := mt_ip h hc
            refine go_aload_n hC 0 dX11_steps_173 rfl rfl ?_
            refine go_aload_n hC 0 dX11_steps_174 rfl rfl ?_
            obtain ⟨v21, e21, h⟩ := mt_ob h
            refine go_getI hC mt_flX11_72 e21 dX11_steps_175 ?_
            refine go_aload_n hC 0 dX11_steps_178 rfl rfl ?_
            obtain ⟨v22, e22, h⟩ := mt_ob h
            refine go_getI hC mt_flX11_75 e22 dX11_steps_179 ?_
            obtain ⟨S23, e23, h⟩ := mt_ob h
            refine go_callVv hC [.int v21, .int v22] [] (m_X11_becomes e23) mt_cvX11_98 (k_X11_becomes e23) dX11_steps_182 rfl rfl (by decide) (Nat.le_of_ble_eq_true rfl) ⟨Nat.le_refl _, Nat.le_refl _⟩ ?_
            refine go_iconst (v := 1) hC dX11_steps_185 (by decide) ?_
            exact go_zret hC (mt_rei h hE) (Or.inr rfl) dX11_steps_186
          · have h := mt_in' h hc
            refine go_aload_n hC 0 dX11_steps_158 rfl rfl ?_
            refine go_aload_n hC 0 dX11_steps_159 rfl rfl ?_
            obtain ⟨v24, e24, h⟩ := mt_ob h
            refine go_getI hC mt_flX11_66 e24 dX11_steps_160 ?_
            refine go_aload_n hC 0 dX11_steps_163 rfl rfl ?_
            obtain ⟨v25, e25, h⟩ := mt_ob h
            refine go_getI hC mt_flX11_69 e25 dX11_steps_164 ?_
            obtain ⟨S26, e26, h⟩ := mt_ob h
            refine go_callVv hC [.int v24, .int v25] [] (m_X11_becomes e26) mt_cvX11_98 (k_X11_becomes e26) dX11_steps_167 rfl rfl (by decide) (Nat.le_of_ble_eq_true rfl) ⟨Nat.le_refl _, Nat.le_refl _⟩ ?_
            refine go_goto hC (tgt := 185) dX11_steps_170 (by decide) ?_
            refine go_iconst (v := 1) hC dX11_steps_185 (by decide) ?_
            exact go_zret hC (mt_rei h hE) (Or.inr rfl) dX11_steps_186
        · have h := mt_ip h hc
          refine go_iconst (v := 0) hC dX11_steps_135 (by decide) ?_
          exact go_zret hC (mt_rei h hE) (Or.inl rfl) dX11_steps_136
      · have h := mt_in' h hc2
        refine go_look hC (off := 168) (tgt := 187) dX11_steps_19 (by decide +kernel) (by show Op.lookupswitch.offset [(108, 33), (114, 71), (117, 109)] 168 _ = _; rw [lv_osw hc0 (a := 108) rfl, lv_osw hc1 (a := 114) rfl, lv_osw hc2 (a := 117) rfl]; rfl) (by decide) ?_
        refine go_aload_n hC 0 dX11_steps_187 rfl rfl ?_
        refine go_iconst (v := 1) hC dX11_steps_188 (by decide) ?_
        refine go_iconst (v := 1) hC dX11_steps_189 (by decide) ?_
        obtain ⟨S27, e27, h⟩ := mt_ob h
        refine go_callVv hC [.int 1, .int 1] [] (m_X11_becomes e27) mt_cvX11_98 (k_X11_becomes e27) dX11_steps_190 rfl rfl (by decide) (Nat.le_of_ble_eq_true rfl) ⟨Nat.le_refl _, Nat.le_refl _⟩ ?_
        refine go_iconst (v := 1) hC dX11_steps_193 (by decide) ?_
        exact go_zret hC (mt_rei h hE) (Or.inr rfl) dX11_steps_194
set_option maxHeartbeats 4000000 in
set_option maxRecDepth 100000 in
theorem ov_X11_steps {T : mt_S}  {x0 : Nat} {x1 : Int32} {S : mt_S} {r : Int32} {S' : mt_S} (hp : mt_cp S T) (h : f_X11_steps x0 x1 S = some (r, S')) : f_X11_steps x0 x1 (mt_ov S T) = some (r, mt_ov S' T) ∧ mt_cp S' T := by
  unfold f_X11_steps at h ⊢
  obtain ⟨hg, h⟩ := mt_gd h
  refine ov_t (ov_K hp hg) ?_
  obtain ⟨S1, e1, h⟩ := mt_ob h
  obtain ⟨o_, hp⟩ := ov_X11_lays hp e1
  refine ov_b o_ ?_
  obtain ⟨v2, e2, h⟩ := mt_ob h
  refine ov_b (ov_rR hp e2) ?_
  obtain ⟨v3, e3, h⟩ := mt_ob h
  refine ov_b (ov_aI hp e3) ?_
  obtain ⟨v4, e4, h⟩ := mt_ob h
  refine ov_b (ov_rR hp e4) ?_
  obtain ⟨v5, e5, h⟩ := mt_ob h
  refine ov_b (ov_aI hp e5) ?_
  by_cases hc : x1 = 108
  · have h := mt_ip h hc
    refine ov_t hc ?_
    obtain ⟨v6, e6, h⟩ := mt_ob h
    refine ov_b (ov_rI hp e6) ?_
    obtain ⟨v7, e7, h⟩ := mt_ob h
    refine ov_b (ov_rI hp e7) ?_
    by_cases hc : (((v3 + v5) + v6) + v7) ≤ 22
    · have h := mt_ip h hc
      refine ov_t hc ?_
      obtain ⟨v8, e8, h⟩ := mt_ob h
      refine ov_b (ov_rI hp e8) ?_
      obtain ⟨v9, e9, h⟩ := mt_ob h
      refine ov_b (ov_rI hp e9) ?_
      obtain ⟨S10, e10, h⟩ := mt_ob h
      obtain ⟨o_, hp⟩ := ov_X11_becomes hp e10
      refine ov_b o_ ?_
      exact ov_ret hp h
    · have h := mt_in' h hc
      refine ov_f hc ?_
      exact ov_ret hp h
  · have h := mt_in' h hc
    refine ov_f hc ?_
    by_cases hc : x1 = 114
    · have h := mt_ip h hc
      refine ov_t hc ?_
      obtain ⟨v11, e11, h⟩ := mt_ob h
      refine ov_b (ov_rI hp e11) ?_
      obtain ⟨v12, e12, h⟩ := mt_ob h
      refine ov_b (ov_rI hp e12) ?_
      by_cases hc : (((v3 + v5) + v11) + v12) ≤ 22
      · have h := mt_ip h hc
        refine ov_t hc ?_
        obtain ⟨v13, e13, h⟩ := mt_ob h
        refine ov_b (ov_rI hp e13) ?_
        obtain ⟨v14, e14, h⟩ := mt_ob h
        refine ov_b (ov_rI hp e14) ?_
        obtain ⟨S15, e15, h⟩ := mt_ob h
        obtain ⟨o_, hp⟩ := ov_X11_becomes hp e15
        refine ov_b o_ ?_
        exact ov_ret hp h
      · have h := mt_in' h hc
        refine ov_f hc ?_
        exact ov_ret hp h
    · have h := mt_in' h hc
      refine ov_f hc ?_
      by_cases hc : x1 = 117
      · have h := mt_ip h hc
        refine ov_t hc ?_
        obtain ⟨v16, e16, h⟩ := mt_ob h
        refine ov_b (ov_rI hp e16) ?_
        by_cases hc : v16 = 0
        · have h := mt_ip h hc
          refine ov_t hc ?_
          exact ov_ret hp h
        · have h := mt_in' h hc
          refine ov_f hc ?_
          obtain ⟨v17, e17, h⟩ := mt_ob h
          refine ov_b (ov_rI hp e17) ?_
          obtain ⟨v18, e18, h⟩ := mt_ob h
          refine ov_b (ov_rI hp e18) ?_
          obtain ⟨v19, e19, h⟩ := mt_ob h
          refine ov_b (ov_rI hp e19) ?_
          obtain ⟨v20, e20, h⟩ := mt_ob h
          refine ov_b (ov_rI hp e20) ?_
          by_cases hc : (v17 + v18) ≤ (v19 + v20)
          · have h := mt_ip h hc
            refine ov_t hc ?_
            obtain ⟨v21, e21, h⟩ := mt_ob h
            refine ov_b (ov_rI hp e21) ?_
            obtain ⟨v22, e22, h⟩ := mt_ob h
            refine ov_b (ov_rI hp e22) ?_
            obtain ⟨S23, e23, h⟩ := mt_ob h
            obtain ⟨o_, hp⟩ := ov_X11_becomes hp e23
            refine ov_b o_ ?_
            exact ov_ret hp h
          · have h := mt_in' h hc
            refine ov_f hc ?_
            obtain ⟨v24, e24, h⟩ := mt_ob h
            refine ov_b (ov_rI hp e24) ?_
            obtain ⟨v25, e25, h⟩ := mt_ob h
            refine ov_b (ov_rI hp e25) ?_
            obtain ⟨S26, e26, h⟩ := mt_ob h
            obtain ⟨o_, hp⟩ := ov_X11_becomes hp e26
            refine ov_b o_ ?_
            exact ov_ret hp h
      · have h := mt_in' h hc
        refine ov_f hc ?_
        obtain ⟨S27, e27, h⟩ := mt_ob h
        obtain ⟨o_, hp⟩ := ov_X11_becomes hp e27
        refine ov_b o_ ?_
        exact ov_ret hp h
def f_X11_stepsOnce (x0 : Nat) (x1 : Int32) (S : mt_S) : Option (Int32 × mt_S) :=
  if mt_isK S x0 11 = true then
   Option.bind (mt_wI S x0 11 0 0) fun S1 =>
   Option.bind (mt_rR S1 x0 11 3) fun v2 =>
   Option.bind (mt_rR S1 x0 11 6) fun v3 =>
   Option.bind (f_X11_copy v2 0 v3 0 S1) fun S4 =>
   mt_b2 (f_X11_steps x0 x1 S4) fun v6 S5 =>
   if v6 = 0 then
    some ((-1), S5)
   else
    Option.bind (f_X11_stay x0 S5) fun S7 =>
    Option.bind (mt_rR S7 x0 11 3) fun v8 =>
    Option.bind (mt_aI S7 v8 13 0) fun v9 =>
    Option.bind (mt_rR S7 x0 11 3) fun v10 =>
    Option.bind (mt_aI S7 v10 13 1) fun v11 =>
    some (v9 + v11, S7)
  else none
theorem k_X11_stepsOnce {x0 : Nat} {x1 : Int32} {S : mt_S} {r : Int32} {S' : mt_S} (h : f_X11_stepsOnce x0 x1 S = some (r, S')) : mt_isK S x0 11 = true := by
  unfold f_X11_stepsOnce at h
  exact (mt_gd h).1
set_option maxHeartbeats 4000000 in
set_option maxRecDepth 100000 in
theorem m_X11_stepsOnce {B : mt_B}  {x0 : Nat} {x1 : Int32} {S : mt_S} {r : Int32} {S' : mt_S} (h : f_X11_stepsOnce x0 x1 S = some (r, S')) : mt_M B yX11_stepsOnce cX11_stepsOnce 2 (some .int) 4 [mt_rf B x0, .int x1] S (some (.int r)) S' := by
  unfold f_X11_stepsOnce at h
  refine mt_M.of (by decide) (Nat.le_of_ble_eq_true rfl) (fun E hC hE => ?_)
  obtain ⟨hk0, h⟩ := mt_gd h
  refine go_aload_n hC 0 dX11_stepsOnce_0 rfl rfl ?_
  refine go_iconst (v := 0) hC dX11_stepsOnce_1 (by decide) ?_
  obtain ⟨S1, e1, h⟩ := mt_ob h
  refine go_putI hC mt_flX11_1 e1 dX11_stepsOnce_2 ?_
  refine go_aload_n hC 0 dX11_stepsOnce_5 rfl rfl ?_
  obtain ⟨v2, e2, h⟩ := mt_ob h
  refine go_getR hC mt_flX11_24 e2 dX11_stepsOnce_6 ?_
  refine go_iconst (v := 0) hC dX11_stepsOnce_9 (by decide) ?_
  refine go_aload_n hC 0 dX11_stepsOnce_10 rfl rfl ?_
  obtain ⟨v3, e3, h⟩ := mt_ob h
  refine go_getR hC mt_flX11_33 e3 dX11_stepsOnce_11 ?_
  refine go_iconst (v := 0) hC dX11_stepsOnce_14 (by decide) ?_
  obtain ⟨S4, e4, h⟩ := mt_ob h
  refine go_callSv hC [mt_rf B v2, .int 0, mt_rf B v3, .int 0] [] (m_X11_copy e4) mt_csX11_59 dX11_stepsOnce_15 rfl rfl (by decide) (Nat.le_of_ble_eq_true rfl) ⟨Nat.le_refl _, Nat.le_refl _⟩ ?_
  refine go_aload_n hC 0 dX11_stepsOnce_18 rfl rfl ?_
  refine go_iload_n hC 1 dX11_stepsOnce_19 rfl rfl ?_
  obtain ⟨v6, S5, e6, h⟩ := mt_ob2 h
  refine go_callVi hC [.int x1] [] (m_X11_steps e6) mt_cvX11_101 (k_X11_steps e6) dX11_stepsOnce_20 rfl rfl (by decide) (Nat.le_of_ble_eq_true rfl) ⟨Nat.le_refl _, Nat.le_refl _⟩ ?_
  refine go_if_ne hC (tgt := 28) dX11_stepsOnce_23 (by decide) (fun hc => ?_) (fun hc => ?_)
  · have h := mt_in' h hc
    refine go_aload_n hC 0 dX11_stepsOnce_28 rfl rfl ?_
    obtain ⟨S7, e7, h⟩ := mt_ob h
    refine go_callVv hC [] [] (m_X11_stay e7) mt_cvX11_105 (k_X11_stay e7) dX11_stepsOnce_29 rfl rfl (by decide) (Nat.le_of_ble_eq_true rfl) ⟨Nat.le_refl _, Nat.le_refl _⟩ ?_
    refine go_aload_n hC 0 dX11_stepsOnce_32 rfl rfl ?_
    obtain ⟨v8, e8, h⟩ := mt_ob h
    refine go_getR hC mt_flX11_24 e8 dX11_stepsOnce_33 ?_
    refine go_iconst (v := 0) hC dX11_stepsOnce_36 (by decide) ?_
    obtain ⟨v9, e9, h⟩ := mt_ob h
    refine go_iald hC e9 dX11_stepsOnce_37 ?_
    refine go_aload_n hC 0 dX11_stepsOnce_38 rfl rfl ?_
    obtain ⟨v10, e10, h⟩ := mt_ob h
    refine go_getR hC mt_flX11_24 e10 dX11_stepsOnce_39 ?_
    refine go_iconst (v := 1) hC dX11_stepsOnce_42 (by decide) ?_
    obtain ⟨v11, e11, h⟩ := mt_ob h
    refine go_iald hC e11 dX11_stepsOnce_43 ?_
    refine go_iadd hC dX11_stepsOnce_44 ?_
    exact go_iret hC (mt_rei h hE) dX11_stepsOnce_45
  · have h := mt_ip h hc
    refine go_iconst (v := (-1)) hC dX11_stepsOnce_26 (by decide) ?_
    exact go_iret hC (mt_rei h hE) dX11_stepsOnce_27
set_option maxHeartbeats 4000000 in
set_option maxRecDepth 100000 in
theorem ov_X11_stepsOnce {T : mt_S}  {x0 : Nat} {x1 : Int32} {S : mt_S} {r : Int32} {S' : mt_S} (hp : mt_cp S T) (h : f_X11_stepsOnce x0 x1 S = some (r, S')) : f_X11_stepsOnce x0 x1 (mt_ov S T) = some (r, mt_ov S' T) ∧ mt_cp S' T := by
  unfold f_X11_stepsOnce at h ⊢
  obtain ⟨hg, h⟩ := mt_gd h
  refine ov_t (ov_K hp hg) ?_
  obtain ⟨S1, e1, h⟩ := mt_ob h
  obtain ⟨o_, hp⟩ := ov_wI hp e1
  refine ov_b o_ ?_
  obtain ⟨v2, e2, h⟩ := mt_ob h
  refine ov_b (ov_rR hp e2) ?_
  obtain ⟨v3, e3, h⟩ := mt_ob h
  refine ov_b (ov_rR hp e3) ?_
  obtain ⟨S4, e4, h⟩ := mt_ob h
  obtain ⟨o_, hp⟩ := ov_X11_copy hp e4
  refine ov_b o_ ?_
  obtain ⟨v6, S5, e6, h⟩ := mt_ob2 h
  obtain ⟨o_, hp⟩ := ov_X11_steps hp e6
  refine ov_b2 o_ ?_
  by_cases hc : v6 = 0
  · have h := mt_ip h hc
    refine ov_t hc ?_
    exact ov_ret hp h
  · have h := mt_in' h hc
    refine ov_f hc ?_
    obtain ⟨S7, e7, h⟩ := mt_ob h
    obtain ⟨o_, hp⟩ := ov_X11_stay hp e7
    refine ov_b o_ ?_
    obtain ⟨v8, e8, h⟩ := mt_ob h
    refine ov_b (ov_rR hp e8) ?_
    obtain ⟨v9, e9, h⟩ := mt_ob h
    refine ov_b (ov_aI hp e9) ?_
    obtain ⟨v10, e10, h⟩ := mt_ob h
    refine ov_b (ov_rR hp e10) ?_
    obtain ⟨v11, e11, h⟩ := mt_ob h
    refine ov_b (ov_aI hp e11) ?_
    exact ov_ret hp h
def f_X11_left (x0 : Nat) (S : mt_S) : Option (Int32 × mt_S) :=
  if mt_isK S x0 11 = true then
   mt_b2 (f_X11_stepsOnce x0 108 S) fun v2 S1 =>
   some (v2, S1)
  else none
theorem k_X11_left {x0 : Nat} {S : mt_S} {r : Int32} {S' : mt_S} (h : f_X11_left x0 S = some (r, S')) : mt_isK S x0 11 = true := by
  unfold f_X11_left at h
  exact (mt_gd h).1
set_option maxHeartbeats 4000000 in
set_option maxRecDepth 100000 in
theorem m_X11_left {B : mt_B}  {x0 : Nat} {S : mt_S} {r : Int32} {S' : mt_S} (h : f_X11_left x0 S = some (r, S')) : mt_M B yX11_left cX11_left 1 (some .int) 5 [mt_rf B x0] S (some (.int r)) S' := by
  unfold f_X11_left at h
  refine mt_M.of (by decide) (Nat.le_of_ble_eq_true rfl) (fun E hC hE => ?_)
  obtain ⟨hk0, h⟩ := mt_gd h
  refine go_aload_n hC 0 dX11_left_0 rfl rfl ?_
  refine go_bipush (v := 108) hC dX11_left_1 (by decide) ?_
  obtain ⟨v2, S1, e2, h⟩ := mt_ob2 h
  refine go_callVi hC [.int 108] [] (m_X11_stepsOnce e2) mt_cvX11_108 (k_X11_stepsOnce e2) dX11_left_3 rfl rfl (by decide) (Nat.le_of_ble_eq_true rfl) ⟨Nat.le_refl _, Nat.le_refl _⟩ ?_
  exact go_iret hC (mt_rei h hE) dX11_left_6
set_option maxHeartbeats 4000000 in
set_option maxRecDepth 100000 in
theorem ov_X11_left {T : mt_S}  {x0 : Nat} {S : mt_S} {r : Int32} {S' : mt_S} (hp : mt_cp S T) (h : f_X11_left x0 S = some (r, S')) : f_X11_left x0 (mt_ov S T) = some (r, mt_ov S' T) ∧ mt_cp S' T := by
  unfold f_X11_left at h ⊢
  obtain ⟨hg, h⟩ := mt_gd h
  refine ov_t (ov_K hp hg) ?_
  obtain ⟨v2, S1, e2, h⟩ := mt_ob2 h
  obtain ⟨o_, hp⟩ := ov_X11_stepsOnce hp e2
  refine ov_b2 o_ ?_
  exact ov_ret hp h
def f_X11_right (x0 : Nat) (S : mt_S) : Option (Int32 × mt_S) :=
  if mt_isK S x0 11 = true then
   mt_b2 (f_X11_stepsOnce x0 114 S) fun v2 S1 =>
   some (v2, S1)
  else none
theorem k_X11_right {x0 : Nat} {S : mt_S} {r : Int32} {S' : mt_S} (h : f_X11_right x0 S = some (r, S')) : mt_isK S x0 11 = true := by
  unfold f_X11_right at h
  exact (mt_gd h).1
set_option maxHeartbeats 4000000 in
set_option maxRecDepth 100000 in
theorem m_X11_right {B : mt_B}  {x0 : Nat} {S : mt_S} {r : Int32} {S' : mt_S} (h : f_X11_right x0 S = some (r, S')) : mt_M B yX11_right cX11_right 1 (some .int) 5 [mt_rf B x0] S (some (.int r)) S' := by
  unfold f_X11_right at h
  refine mt_M.of (by decide) (Nat.le_of_ble_eq_true rfl) (fun E hC hE => ?_)
  obtain ⟨hk0, h⟩ := mt_gd h
  refine go_aload_n hC 0 dX11_right_0 rfl rfl ?_
  refine go_bipush (v := 114) hC dX11_right_1 (by decide) ?_
  obtain ⟨v2, S1, e2, h⟩ := mt_ob2 h
  refine go_callVi hC [.int 114] [] (m_X11_stepsOnce e2) mt_cvX11_108 (k_X11_stepsOnce e2) dX11_right_3 rfl rfl (by decide) (Nat.le_of_ble_eq_true rfl) ⟨Nat.le_refl _, Nat.le_refl _⟩ ?_
  exact go_iret hC (mt_rei h hE) dX11_right_6
set_option maxHeartbeats 4000000 in
set_option maxRecDepth 100000 in
theorem ov_X11_right {T : mt_S}  {x0 : Nat} {S : mt_S} {r : Int32} {S' : mt_S} (hp : mt_cp S T) (h : f_X11_right x0 S = some (r, S')) : f_X11_right x0 (mt_ov S T) = some (r, mt_ov S' T) ∧ mt_cp S' T := by
  unfold f_X11_right at h ⊢
  obtain ⟨hg, h⟩ := mt_gd h
  refine ov_t (ov_K hp hg) ?_
  obtain ⟨v2, S1, e2, h⟩ := mt_ob2 h
  obtain ⟨o_, hp⟩ := ov_X11_stepsOnce hp e2
  refine ov_b2 o_ ?_
  exact ov_ret hp h
def f_X11_up (x0 : Nat) (S : mt_S) : Option (Int32 × mt_S) :=
  if mt_isK S x0 11 = true then
   mt_b2 (f_X11_stepsOnce x0 117 S) fun v2 S1 =>
   some (v2, S1)
  else none
theorem k_X11_up {x0 : Nat} {S : mt_S} {r : Int32} {S' : mt_S} (h : f_X11_up x0 S = some (r, S')) : mt_isK S x0 11 = true := by
  unfold f_X11_up at h
  exact (mt_gd h).1
set_option maxHeartbeats 4000000 in
set_option maxRecDepth 100000 in
theorem m_X11_up {B : mt_B}  {x0 : Nat} {S : mt_S} {r : Int32} {S' : mt_S} (h : f_X11_up x0 S = some (r, S')) : mt_M B yX11_up cX11_up 1 (some .int) 5 [mt_rf B x0] S (some (.int r)) S' := by
  unfold f_X11_up at h
  refine mt_M.of (by decide) (Nat.le_of_ble_eq_true rfl) (fun E hC hE => ?_)
  obtain ⟨hk0, h⟩ := mt_gd h
  refine go_aload_n hC 0 dX11_up_0 rfl rfl ?_
  refine go_bipush (v := 117) hC dX11_up_1 (by decide) ?_
  obtain ⟨v2, S1, e2, h⟩ := mt_ob2 h
  refine go_callVi hC [.int 117] [] (m_X11_stepsOnce e2) mt_cvX11_108 (k_X11_stepsOnce e2) dX11_up_3 rfl rfl (by decide) (Nat.le_of_ble_eq_true rfl) ⟨Nat.le_refl _, Nat.le_refl _⟩ ?_
  exact go_iret hC (mt_rei h hE) dX11_up_6
set_option maxHeartbeats 4000000 in
set_option maxRecDepth 100000 in
theorem ov_X11_up {T : mt_S}  {x0 : Nat} {S : mt_S} {r : Int32} {S' : mt_S} (hp : mt_cp S T) (h : f_X11_up x0 S = some (r, S')) : f_X11_up x0 (mt_ov S T) = some (r, mt_ov S' T) ∧ mt_cp S' T := by
  unfold f_X11_up at h ⊢
  obtain ⟨hg, h⟩ := mt_gd h
  refine ov_t (ov_K hp hg) ?_
  obtain ⟨v2, S1, e2, h⟩ := mt_ob2 h
  obtain ⟨o_, hp⟩ := ov_X11_stepsOnce hp e2
  refine ov_b2 o_ ?_
  exact ov_ret hp h
def f_X11_depth (x0 : Nat) (S : mt_S) : Option (Int32 × mt_S) :=
  if mt_isK S x0 11 = true then
   Option.bind (f_X11_lays x0 S) fun S1 =>
   Option.bind (mt_rI S1 x0 11 14) fun v2 =>
   some (v2, S1)
  else none
theorem k_X11_depth {x0 : Nat} {S : mt_S} {r : Int32} {S' : mt_S} (h : f_X11_depth x0 S = some (r, S')) : mt_isK S x0 11 = true := by
  unfold f_X11_depth at h
  exact (mt_gd h).1
set_option maxHeartbeats 4000000 in
set_option maxRecDepth 100000 in
theorem m_X11_depth {B : mt_B}  {x0 : Nat} {S : mt_S} {r : Int32} {S' : mt_S} (h : f_X11_depth x0 S = some (r, S')) : mt_M B yX11_depth cX11_depth 1 (some .int) 3 [mt_rf B x0] S (some (.int r)) S' := by
  unfold f_X11_depth at h
  refine mt_M.of (by decide) (Nat.le_of_ble_eq_true rfl) (fun E hC hE => ?_)
  obtain ⟨hk0, h⟩ := mt_gd h
  refine go_aload_n hC 0 dX11_depth_0 rfl rfl ?_
  obtain ⟨S1, e1, h⟩ := mt_ob h
  refine go_callVv hC [] [] (m_X11_lays e1) mt_cvX11_95 (k_X11_lays e1) dX11_depth_1 rfl rfl (by decide) (Nat.le_of_ble_eq_true rfl) ⟨Nat.le_refl _, Nat.le_refl _⟩ ?_
  refine go_aload_n hC 0 dX11_depth_4 rfl rfl ?_
  obtain ⟨v2, e2, h⟩ := mt_ob h
  refine go_getI hC mt_flX11_78 e2 dX11_depth_5 ?_
  exact go_iret hC (mt_rei h hE) dX11_depth_8
set_option maxHeartbeats 4000000 in
set_option maxRecDepth 100000 in
theorem ov_X11_depth {T : mt_S}  {x0 : Nat} {S : mt_S} {r : Int32} {S' : mt_S} (hp : mt_cp S T) (h : f_X11_depth x0 S = some (r, S')) : f_X11_depth x0 (mt_ov S T) = some (r, mt_ov S' T) ∧ mt_cp S' T := by
  unfold f_X11_depth at h ⊢
  obtain ⟨hg, h⟩ := mt_gd h
  refine ov_t (ov_K hp hg) ?_
  obtain ⟨S1, e1, h⟩ := mt_ob h
  obtain ⟨o_, hp⟩ := ov_X11_lays hp e1
  refine ov_b o_ ?_
  obtain ⟨v2, e2, h⟩ := mt_ob h
  refine ov_b (ov_rI hp e2) ?_
  exact ov_ret hp h
def f_X11_goesThere (x0 : Nat) (x1 : Int32) (x2 : Int32) (S : mt_S) : Option (Int32 × mt_S) :=
  if mt_isK S x0 11 = true then
   Option.bind (mt_rR S x0 11 3) fun v1 =>
   Option.bind (mt_aI S v1 13 0) fun v2 =>
   if v2 = x1 then
    Option.bind (mt_rR S x0 11 3) fun v7 =>
    Option.bind (mt_aI S v7 13 1) fun v8 =>
    if v8 = x2 then
     some ((-1), S)
    else
     Option.bind (f_X11_snap x0 S) fun S9 =>
     Option.bind (f_X11_becomes x0 x1 x2 S9) fun S10 =>
     mt_b2 (f_X11_depth x0 S10) fun v12 S11 =>
     some (v12, S11)
   else
    Option.bind (f_X11_snap x0 S) fun S3 =>
    Option.bind (f_X11_becomes x0 x1 x2 S3) fun S4 =>
    mt_b2 (f_X11_depth x0 S4) fun v6 S5 =>
    some (v6, S5)
  else none
theorem k_X11_goesThere {x0 : Nat} {x1 : Int32} {x2 : Int32} {S : mt_S} {r : Int32} {S' : mt_S} (h : f_X11_goesThere x0 x1 x2 S = some (r, S')) : mt_isK S x0 11 = true := by
  unfold f_X11_goesThere at h
  exact (mt_gd h).1
set_option maxHeartbeats 4000000 in
set_option maxRecDepth 100000 in
theorem m_X11_goesThere {B : mt_B}  {x0 : Nat} {x1 : Int32} {x2 : Int32} {S : mt_S} {r : Int32} {S' : mt_S} (h : f_X11_goesThere x0 x1 x2 S = some (r, S')) : mt_M B yX11_goesThere cX11_goesThere 3 (some .int) 4 [mt_rf B x0, .int x1, .int x2] S (some (.int r)) S' := by
  unfold f_X11_goesThere at h
  refine mt_M.of (by decide) (Nat.le_of_ble_eq_true rfl) (fun E hC hE => ?_)
  obtain ⟨hk0, h⟩ := mt_gd h
  refine go_aload_n hC 0 dX11_goesThere_0 rfl rfl ?_
  obtain ⟨v1, e1, h⟩ := mt_ob h
  refine go_getR hC mt_flX11_24 e1 dX11_goesThere_1 ?_
  refine go_iconst (v := 0) hC dX11_goesThere_4 (by decide) ?_
  obtain ⟨v2, e2, h⟩ := mt_ob h
  refine go_iald hC e2 dX11_goesThere_5 ?_
  refine go_iload_n hC 1 dX11_goesThere_6 rfl rfl ?_
  refine go_icmp_ne hC (tgt := 22) dX11_goesThere_7 (by decide) (fun hc => ?_) (fun hc => ?_)
  · have h := mt_in' h hc
    refine go_aload_n hC 0 dX11_goesThere_22 rfl rfl ?_
    obtain ⟨S3, e3, h⟩ := mt_ob h
    refine go_callVv hC [] [] (m_X11_snap e3) mt_cvX11_63 (k_X11_snap e3) dX11_goesThere_23 rfl rfl (by decide) (Nat.le_of_ble_eq_true rfl) ⟨Nat.le_refl _, Nat.le_refl _⟩ ?_
    refine go_aload_n hC 0 dX11_goesThere_26 rfl rfl ?_
    refine go_iload_n hC 1 dX11_goesThere_27 rfl rfl ?_
    refine go_iload_n hC 2 dX11_goesThere_28 rfl rfl ?_
    obtain ⟨S4, e4, h⟩ := mt_ob h
    refine go_callVv hC [.int x1, .int x2] [] (m_X11_becomes e4) mt_cvX11_98 (k_X11_becomes e4) dX11_goesThere_29 rfl rfl (by decide) (Nat.le_of_ble_eq_true rfl) ⟨Nat.le_refl _, Nat.le_refl _⟩ ?_
    refine go_aload_n hC 0 dX11_goesThere_32 rfl rfl ?_
    obtain ⟨v6, S5, e6, h⟩ := mt_ob2 h
    refine go_callVi hC [] [] (m_X11_depth e6) mt_cvX11_112 (k_X11_depth e6) dX11_goesThere_33 rfl rfl (by decide) (Nat.le_of_ble_eq_true rfl) ⟨Nat.le_refl _, Nat.le_refl _⟩ ?_
    exact go_iret hC (mt_rei h hE) dX11_goesThere_36
  · have h := mt_ip h hc
    refine go_aload_n hC 0 dX11_goesThere_10 rfl rfl ?_
    obtain ⟨v7, e7, h⟩ := mt_ob h
    refine go_getR hC mt_flX11_24 e7 dX11_goesThere_11 ?_
    refine go_iconst (v := 1) hC dX11_goesThere_14 (by decide) ?_
    obtain ⟨v8, e8, h⟩ := mt_ob h
    refine go_iald hC e8 dX11_goesThere_15 ?_
    refine go_iload_n hC 2 dX11_goesThere_16 rfl rfl ?_
    refine go_icmp_ne hC (tgt := 22) dX11_goesThere_17 (by decide) (fun hc => ?_) (fun hc => ?_)
    · have h := mt_in' h hc
      refine go_aload_n hC 0 dX11_goesThere_22 rfl rfl ?_
      obtain ⟨S9, e9, h⟩ := mt_ob h
      refine go_callVv hC [] [] (m_X11_snap e9) mt_cvX11_63 (k_X11_snap e9) dX11_goesThere_23 rfl rfl (by decide) (Nat.le_of_ble_eq_true rfl) ⟨Nat.le_refl _, Nat.le_refl _⟩ ?_
      refine go_aload_n hC 0 dX11_goesThere_26 rfl rfl ?_
      refine go_iload_n hC 1 dX11_goesThere_27 rfl rfl ?_
      refine go_iload_n hC 2 dX11_goesThere_28 rfl rfl ?_
      obtain ⟨S10, e10, h⟩ := mt_ob h
      refine go_callVv hC [.int x1, .int x2] [] (m_X11_becomes e10) mt_cvX11_98 (k_X11_becomes e10) dX11_goesThere_29 rfl rfl (by decide) (Nat.le_of_ble_eq_true rfl) ⟨Nat.le_refl _, Nat.le_refl _⟩ ?_
      refine go_aload_n hC 0 dX11_goesThere_32 rfl rfl ?_
      obtain ⟨v12, S11, e12, h⟩ := mt_ob2 h
      refine go_callVi hC [] [] (m_X11_depth e12) mt_cvX11_112 (k_X11_depth e12) dX11_goesThere_33 rfl rfl (by decide) (Nat.le_of_ble_eq_true rfl) ⟨Nat.le_refl _, Nat.le_refl _⟩ ?_
      exact go_iret hC (mt_rei h hE) dX11_goesThere_36
    · have h := mt_ip h hc
      refine go_iconst (v := (-1)) hC dX11_goesThere_20 (by decide) ?_
      exact go_iret hC (mt_rei h hE) dX11_goesThere_21
set_option maxHeartbeats 4000000 in
set_option maxRecDepth 100000 in
theorem ov_X11_goesThere {T : mt_S}  {x0 : Nat} {x1 : Int32} {x2 : Int32} {S : mt_S} {r : Int32} {S' : mt_S} (hp : mt_cp S T) (h : f_X11_goesThere x0 x1 x2 S = some (r, S')) : f_X11_goesThere x0 x1 x2 (mt_ov S T) = some (r, mt_ov S' T) ∧ mt_cp S' T := by
  unfold f_X11_goesThere at h ⊢
  obtain ⟨hg, h⟩ := mt_gd h
  refine ov_t (ov_K hp hg) ?_
  obtain ⟨v1, e1, h⟩ := mt_ob h
  refine ov_b (ov_rR hp e1) ?_
  obtain ⟨v2, e2, h⟩ := mt_ob h
  refine ov_b (ov_aI hp e2) ?_
  by_cases hc : v2 = x1
  · have h := mt_ip h hc
    refine ov_t hc ?_
    obtain ⟨v7, e7, h⟩ := mt_ob h
    refine ov_b (ov_rR hp e7) ?_
    obtain ⟨v8, e8, h⟩ := mt_ob h
    refine ov_b (ov_aI hp e8) ?_
    by_cases hc : v8 = x2
    · have h := mt_ip h hc
      refine ov_t hc ?_
      exact ov_ret hp h
    · have h := mt_in' h hc
      refine ov_f hc ?_
      obtain ⟨S9, e9, h⟩ := mt_ob h
      obtain ⟨o_, hp⟩ := ov_X11_snap hp e9
      refine ov_b o_ ?_
      obtain ⟨S10, e10, h⟩ := mt_ob h
      obtain ⟨o_, hp⟩ := ov_X11_becomes hp e10
      refine ov_b o_ ?_
      obtain ⟨v12, S11, e12, h⟩ := mt_ob2 h
      obtain ⟨o_, hp⟩ := ov_X11_depth hp e12
      refine ov_b2 o_ ?_
      exact ov_ret hp h
  · have h := mt_in' h hc
    refine ov_f hc ?_
    obtain ⟨S3, e3, h⟩ := mt_ob h
    obtain ⟨o_, hp⟩ := ov_X11_snap hp e3
    refine ov_b o_ ?_
    obtain ⟨S4, e4, h⟩ := mt_ob h
    obtain ⟨o_, hp⟩ := ov_X11_becomes hp e4
    refine ov_b o_ ?_
    obtain ⟨v6, S5, e6, h⟩ := mt_ob2 h
    obtain ⟨o_, hp⟩ := ov_X11_depth hp e6
    refine ov_b2 o_ ?_
    exact ov_ret hp h
def f_X11_go (x0 : Nat) (x1 : Int32) (x2 : Int32) (S : mt_S) : Option (Int32 × mt_S) :=
  if mt_isK S x0 11 = true then
   Option.bind (mt_wI S x0 11 0 0) fun S1 =>
   mt_b2 (f_X11_isPlace x1 x2 S1) fun v3 S2 =>
   if v3 = 0 then
    some ((-1), S2)
   else
    mt_b2 (f_X11_goesThere x0 x1 x2 S2) fun v5 S4 =>
    some (v5, S4)
  else none
theorem k_X11_go {x0 : Nat} {x1 : Int32} {x2 : Int32} {S : mt_S} {r : Int32} {S' : mt_S} (h : f_X11_go x0 x1 x2 S = some (r, S')) : mt_isK S x0 11 = true := by
  unfold f_X11_go at h
  exact (mt_gd h).1
set_option maxHeartbeats 4000000 in
set_option maxRecDepth 100000 in
theorem m_X11_go {B : mt_B}  {x0 : Nat} {x1 : Int32} {x2 : Int32} {S : mt_S} {r : Int32} {S' : mt_S} (h : f_X11_go x0 x1 x2 S = some (r, S')) : mt_M B yX11_go cX11_go 3 (some .int) 42 [mt_rf B x0, .int x1, .int x2] S (some (.int r)) S' := by
  unfold f_X11_go at h
  refine mt_M.of (by decide) (Nat.le_of_ble_eq_true rfl) (fun E hC hE => ?_)
  obtain ⟨hk0, h⟩ := mt_gd h
  refine go_aload_n hC 0 dX11_go_0 rfl rfl ?_
  refine go_iconst (v := 0) hC dX11_go_1 (by decide) ?_
  obtain ⟨S1, e1, h⟩ := mt_ob h
  refine go_putI hC mt_flX11_1 e1 dX11_go_2 ?_
  refine go_iload_n hC 1 dX11_go_5 rfl rfl ?_
  refine go_iload_n hC 2 dX11_go_6 rfl rfl ?_
  obtain ⟨v3, S2, e3, h⟩ := mt_ob2 h
  refine go_callSi hC [.int x1, .int x2] [] (m_X11_isPlace e3) mt_csX11_116 dX11_go_7 rfl rfl (by decide) (Nat.le_of_ble_eq_true rfl) ⟨Nat.le_refl _, Nat.le_refl _⟩ ?_
  refine go_if_eq hC (tgt := 22) dX11_go_10 (by decide) (fun hc => ?_) (fun hc => ?_)
  · have h := mt_ip h hc
    refine go_iconst (v := (-1)) hC dX11_go_22 (by decide) ?_
    exact go_iret hC (mt_rei h hE) dX11_go_23
  · have h := mt_in' h hc
    refine go_aload_n hC 0 dX11_go_13 rfl rfl ?_
    refine go_iload_n hC 1 dX11_go_14 rfl rfl ?_
    refine go_iload_n hC 2 dX11_go_15 rfl rfl ?_
    obtain ⟨v5, S4, e5, h⟩ := mt_ob2 h
    refine go_callVi hC [.int x1, .int x2] [] (m_X11_goesThere e5) mt_cvX11_120 (k_X11_goesThere e5) dX11_go_16 rfl rfl (by decide) (Nat.le_of_ble_eq_true rfl) ⟨Nat.le_refl _, Nat.le_refl _⟩ ?_
    refine go_goto hC (tgt := 23) dX11_go_19 (by decide) ?_
    exact go_iret hC (mt_rei h hE) dX11_go_23
set_option maxHeartbeats 4000000 in
set_option maxRecDepth 100000 in
theorem ov_X11_go {T : mt_S}  {x0 : Nat} {x1 : Int32} {x2 : Int32} {S : mt_S} {r : Int32} {S' : mt_S} (hp : mt_cp S T) (h : f_X11_go x0 x1 x2 S = some (r, S')) : f_X11_go x0 x1 x2 (mt_ov S T) = some (r, mt_ov S' T) ∧ mt_cp S' T := by
  unfold f_X11_go at h ⊢
  obtain ⟨hg, h⟩ := mt_gd h
  refine ov_t (ov_K hp hg) ?_
  obtain ⟨S1, e1, h⟩ := mt_ob h
  obtain ⟨o_, hp⟩ := ov_wI hp e1
  refine ov_b o_ ?_
  obtain ⟨v3, S2, e3, h⟩ := mt_ob2 h
  obtain ⟨o_, hp⟩ := ov_X11_isPlace hp e3
  refine ov_b2 o_ ?_
  by_cases hc : v3 = 0
  · have h := mt_ip h hc
    refine ov_t hc ?_
    exact ov_ret hp h
  · have h := mt_in' h hc
    refine ov_f hc ?_
    obtain ⟨v5, S4, e5, h⟩ := mt_ob2 h
    obtain ⟨o_, hp⟩ := ov_X11_goesThere hp e5
    refine ov_b2 o_ ?_
    exact ov_ret hp h
def f_X11_isA (x0 : Int32) (x1 : Int32) (x2 : Int32) (S : mt_S) : Option (Int32 × mt_S) :=
  if x1 = 1 then
   if x0 = 0 then
    some (1, S)
   else
    some (0, S)
  else
   if x1 = 0 then none else
   if x1 = 0 then none else
   if ((x2 * x0) - (x2 * x0) / x1 * x1) ≤ (((x2 - 1) * x0) - ((x2 - 1) * x0) / x1 * x1) then
    some (0, S)
   else
    some (1, S)
set_option maxHeartbeats 4000000 in
set_option maxRecDepth 100000 in
theorem m_X11_isA {B : mt_B}  {x0 : Int32} {x1 : Int32} {x2 : Int32} {S : mt_S} {r : Int32} {S' : mt_S} (h : f_X11_isA x0 x1 x2 S = some (r, S')) : mt_M B yX11_isA cX11_isA 3 (some .boolean) 1 [.int x0, .int x1, .int x2] S (some (.int r)) S' := by
  unfold f_X11_isA at h
  refine mt_M.of (by decide) (Nat.le_of_ble_eq_true rfl) (fun E hC hE => ?_)
  refine go_iload_n hC 1 dX11_isA_0 rfl rfl ?_
  refine go_iconst (v := 1) hC dX11_isA_1 (by decide) ?_
  refine go_icmp_ne hC (tgt := 17) dX11_isA_2 (by decide) (fun hc => ?_) (fun hc => ?_)
  · have h := mt_in' h hc
    refine go_iload_n hC 2 dX11_isA_17 rfl rfl ?_
    refine go_iload_n hC 0 dX11_isA_18 rfl rfl ?_
    refine go_imul hC dX11_isA_19 ?_
    refine go_iload_n hC 1 dX11_isA_20 rfl rfl ?_
    have g2 : ¬ x1 = 0 := fun q => by rw [if_pos q] at h; cases h
    have h := mt_in' h g2
    refine go_irem hC dX11_isA_21 g2 ?_
    refine go_iload_n hC 2 dX11_isA_22 rfl rfl ?_
    refine go_iconst (v := 1) hC dX11_isA_23 (by decide) ?_
    refine go_isub hC dX11_isA_24 ?_
    refine go_iload_n hC 0 dX11_isA_25 rfl rfl ?_
    refine go_imul hC dX11_isA_26 ?_
    refine go_iload_n hC 1 dX11_isA_27 rfl rfl ?_
    have g1 : ¬ x1 = 0 := fun q => by rw [if_pos q] at h; cases h
    have h := mt_in' h g1
    refine go_irem hC dX11_isA_28 g1 ?_
    refine go_icmp_le hC (tgt := 36) dX11_isA_29 (by decide) (fun hc => ?_) (fun hc => ?_)
    · have h := mt_ip h hc
      refine go_iconst (v := 0) hC dX11_isA_36 (by decide) ?_
      exact go_zret hC (mt_rei h hE) (Or.inl rfl) dX11_isA_37
    · have h := mt_in' h hc
      refine go_iconst (v := 1) hC dX11_isA_32 (by decide) ?_
      refine go_goto hC (tgt := 37) dX11_isA_33 (by decide) ?_
      exact go_zret hC (mt_rei h hE) (Or.inr rfl) dX11_isA_37
  · have h := mt_ip h hc
    refine go_iload_n hC 0 dX11_isA_5 rfl rfl ?_
    refine go_if_ne hC (tgt := 13) dX11_isA_6 (by decide) (fun hc => ?_) (fun hc => ?_)
    · have h := mt_in' h hc
      refine go_iconst (v := 0) hC dX11_isA_13 (by decide) ?_
      refine go_goto hC (tgt := 37) dX11_isA_14 (by decide) ?_
      exact go_zret hC (mt_rei h hE) (Or.inl rfl) dX11_isA_37
    · have h := mt_ip h hc
      refine go_iconst (v := 1) hC dX11_isA_9 (by decide) ?_
      refine go_goto hC (tgt := 37) dX11_isA_10 (by decide) ?_
      exact go_zret hC (mt_rei h hE) (Or.inr rfl) dX11_isA_37
set_option maxHeartbeats 4000000 in
set_option maxRecDepth 100000 in
theorem ov_X11_isA {T : mt_S}  {x0 : Int32} {x1 : Int32} {x2 : Int32} {S : mt_S} {r : Int32} {S' : mt_S} (hp : mt_cp S T) (h : f_X11_isA x0 x1 x2 S = some (r, S')) : f_X11_isA x0 x1 x2 (mt_ov S T) = some (r, mt_ov S' T) ∧ mt_cp S' T := by
  unfold f_X11_isA at h ⊢
  by_cases hc : x1 = 1
  · have h := mt_ip h hc
    refine ov_t hc ?_
    by_cases hc : x0 = 0
    · have h := mt_ip h hc
      refine ov_t hc ?_
      exact ov_ret hp h
    · have h := mt_in' h hc
      refine ov_f hc ?_
      exact ov_ret hp h
  · have h := mt_in' h hc
    refine ov_f hc ?_
    have hz : ¬ x1 = 0 := fun q => by rw [if_pos q] at h; cases h
    have h := mt_in' h hz
    refine ov_f hz ?_
    have hz : ¬ x1 = 0 := fun q => by rw [if_pos q] at h; cases h
    have h := mt_in' h hz
    refine ov_f hz ?_
    by_cases hc : ((x2 * x0) - (x2 * x0) / x1 * x1) ≤ (((x2 - 1) * x0) - ((x2 - 1) * x0) / x1 * x1)
    · have h := mt_ip h hc
      refine ov_t hc ?_
      exact ov_ret hp h
    · have h := mt_in' h hc
      refine ov_f hc ?_
      exact ov_ret hp h
def f_X11_laysMatrix_L80s (K147 : Nat → Int32 → Int32 → Int32 → mt_S → Option (mt_S)) (rc : Nat → Int32 → Int32 → Int32 → Int64 → Int64 → Int32 → mt_S → Option (mt_S)) (x0 : Nat) (x1 : Int32) (x2 : Int32) (x3 : Int32) (x5 : Int64) (x7 : Int64) (x9 : Int32) (S : mt_S) : Option (mt_S) :=
  if 4 ≤ x9 then
   K147 x0 x1 x2 x3 S
  else
   Option.bind (mt_rR S x0 11 16) fun v11 =>
   Option.bind (mt_aL S v11 x9) fun v12 =>
   Option.bind (mt_rR S x0 11 16) fun v13 =>
   Option.bind (mt_aL S v13 (x9 + 1)) fun v14 =>
   Option.bind (mt_rR S x0 11 16) fun v15 =>
   Option.bind (mt_sL S v15 x9 ((v12 * x5) + (v14 * x7))) fun S16 =>
   Option.bind (mt_rR S16 x0 11 16) fun v17 =>
   Option.bind (mt_sL S16 v17 (x9 + 1) ((v12 * x7) + v14)) fun S18 =>
   rc x0 x1 x2 x3 x5 x7 (x9 + 2) S18
def f_X11_laysMatrix_L80 (K147 : Nat → Int32 → Int32 → Int32 → mt_S → Option (mt_S)) : Nat → Nat → Int32 → Int32 → Int32 → Int64 → Int64 → Int32 → mt_S → Option (mt_S)
  | 0 => fun _ _ _ _ _ _ _ _ => none
  | n + 1 => f_X11_laysMatrix_L80s K147 (f_X11_laysMatrix_L80 K147 n)
set_option maxHeartbeats 4000000 in
set_option maxRecDepth 100000 in
theorem m_X11_laysMatrix_L80 {B : mt_B} {E : mt_E} {S' : mt_S} (hC : mt_Cx B E cX11_laysMatrix RX11 none 14 2 0 0) (hE : mt_End B E (0, 0) none S') (K147 : Nat → Int32 → Int32 → Int32 → mt_S → Option (mt_S)) (hK147 : ∀ (x0 : Nat) (x1 : Int32) (x2 : Int32) (x3 : Int32) (S : mt_S), K147 x0 x1 x2 x3 S = some S' → mt_Go B E (0, 0) S 147 [(0, mt_rf B x0), (1, .int x1), (2, .int x2), (3, .int x3)] []) : ∀ (n : Nat) (x0 : Nat) (x1 : Int32) (x2 : Int32) (x3 : Int32) (x5 : Int64) (x7 : Int64) (x9 : Int32) (S : mt_S), f_X11_laysMatrix_L80 K147 n x0 x1 x2 x3 x5 x7 x9 S = some S' → mt_Go B E (0, 0) S 80 [(0, mt_rf B x0), (1, .int x1), (2, .int x2), (3, .int x3), (5, .long x5), (7, .long x7), (9, .int x9)] [] := by
  intro n
  induction n with
  | zero =>
    intro x0 x1 x2 x3 x5 x7 x9 S h
    cases h
  | succ n ih =>
    intro x0 x1 x2 x3 x5 x7 x9 S h
    have h : f_X11_laysMatrix_L80s K147 (f_X11_laysMatrix_L80 K147 n) x0 x1 x2 x3 x5 x7 x9 S = some S' := h
    unfold f_X11_laysMatrix_L80s at h
    refine go_iload hC 6 dX11_laysMatrix_80 rfl ?_
    refine go_iconst (v := 4) hC dX11_laysMatrix_82 (by decide) ?_
    refine go_icmp_ge hC (tgt := 147) dX11_laysMatrix_83 (by decide) (fun hc => ?_) (fun hc => ?_)
    · have h := mt_ip h hc
      refine go_sub [0, 1, 2, 3] (lv1 := [(0, mt_rf B x0), (1, .int x1), (2, .int x2), (3, .int x3)]) rfl ?_
      exact hK147 _ _ _ _ _ h
    · have h := mt_in' h hc
      refine go_aload_n hC 0 dX11_laysMatrix_86 rfl rfl ?_
      obtain ⟨v11, e11, h⟩ := mt_ob h
      refine go_getR hC mt_flX11_46 e11 dX11_laysMatrix_87 ?_
      refine go_iload hC 6 dX11_laysMatrix_90 rfl ?_
      obtain ⟨v12, e12, h⟩ := mt_ob h
      refine go_lald hC e12 dX11_laysMatrix_92 ?_
      refine go_lstore hC [1, 2, 3, 4, 5, 6, 7, 0] (lv1 := [(0, mt_rf B x0), (1, .int x1), (2, .int x2), (3, .int x3), (5, .long x5), (7, .long x7), (9, .int x9), (10, .long v12)]) dX11_laysMatrix_93 (by decide) rfl ?_
      refine go_aload_n hC 0 dX11_laysMatrix_95 rfl rfl ?_
      obtain ⟨v13, e13, h⟩ := mt_ob h
      refine go_getR hC mt_flX11_46 e13 dX11_laysMatrix_96 ?_
      refine go_iload hC 6 dX11_laysMatrix_99 rfl ?_
      refine go_iconst (v := 1) hC dX11_laysMatrix_101 (by decide) ?_
      refine go_iadd hC dX11_laysMatrix_102 ?_
      obtain ⟨v14, e14, h⟩ := mt_ob h
      refine go_lald hC e14 dX11_laysMatrix_103 ?_
      refine go_lstore hC [1, 2, 3, 4, 5, 6, 7, 8, 0] (lv1 := [(0, mt_rf B x0), (1, .int x1), (2, .int x2), (3, .int x3), (5, .long x5), (7, .long x7), (9, .int x9), (10, .long v12), (12, .long v14)]) dX11_laysMatrix_104 (by decide) rfl ?_
      refine go_aload_n hC 0 dX11_laysMatrix_106 rfl rfl ?_
      obtain ⟨v15, e15, h⟩ := mt_ob h
      refine go_getR hC mt_flX11_46 e15 dX11_laysMatrix_107 ?_
      refine go_iload hC 6 dX11_laysMatrix_110 rfl ?_
      refine go_lload hC 7 dX11_laysMatrix_112 rfl ?_
      refine go_lload hC 4 dX11_laysMatrix_114 rfl ?_
      refine go_lmul hC dX11_laysMatrix_116 ?_
      refine go_lload hC 8 dX11_laysMatrix_117 rfl ?_
      refine go_lload hC 5 dX11_laysMatrix_119 rfl ?_
      refine go_lmul hC dX11_laysMatrix_121 ?_
      refine go_ladd hC dX11_laysMatrix_122 ?_
      obtain ⟨S16, e16, h⟩ := mt_ob h
      refine go_last hC e16 dX11_laysMatrix_123 ?_
      refine go_aload_n hC 0 dX11_laysMatrix_124 rfl rfl ?_
      obtain ⟨v17, e17, h⟩ := mt_ob h
      refine go_getR hC mt_flX11_46 e17 dX11_laysMatrix_125 ?_
      refine go_iload hC 6 dX11_laysMatrix_128 rfl ?_
      refine go_iconst (v := 1) hC dX11_laysMatrix_130 (by decide) ?_
      refine go_iadd hC dX11_laysMatrix_131 ?_
      refine go_lload hC 7 dX11_laysMatrix_132 rfl ?_
      refine go_lload hC 5 dX11_laysMatrix_134 rfl ?_
      refine go_lmul hC dX11_laysMatrix_136 ?_
      refine go_lload hC 8 dX11_laysMatrix_137 rfl ?_
      refine go_ladd hC dX11_laysMatrix_139 ?_
      obtain ⟨S18, e18, h⟩ := mt_ob h
      refine go_last hC e18 dX11_laysMatrix_140 ?_
      refine go_iinc hC 6 [1, 2, 3, 4, 5, 6, 0, 7, 8] (v := x9 + 2) (lv1 := [(0, mt_rf B x0), (1, .int x1), (2, .int x2), (3, .int x3), (5, .long x5), (7, .long x7), (9, .int (x9 + 2)), (10, .long v12), (12, .long v14)]) dX11_laysMatrix_141 rfl rfl (by decide) rfl ?_
      refine go_goto hC (tgt := 80) dX11_laysMatrix_144 (by decide) ?_
      refine go_sub [0, 1, 2, 3, 4, 5, 6] (lv1 := [(0, mt_rf B x0), (1, .int x1), (2, .int x2), (3, .int x3), (5, .long x5), (7, .long x7), (9, .int (x9 + 2))]) rfl ?_
      exact ih _ _ _ _ _ _ _ _ h
set_option maxHeartbeats 4000000 in
set_option maxRecDepth 100000 in
theorem ov_X11_laysMatrix_L80 {T : mt_S} {S' : mt_S} {K147 : Nat → Int32 → Int32 → Int32 → mt_S → Option (mt_S)} (hK147 : ∀ (x0 : Nat) (x1 : Int32) (x2 : Int32) (x3 : Int32) (S : mt_S), mt_cp S T → K147 x0 x1 x2 x3 S = some S' → K147 x0 x1 x2 x3 (mt_ov S T) = some (mt_ov S' T) ∧ mt_cp S' T) : ∀ (n : Nat) (x0 : Nat) (x1 : Int32) (x2 : Int32) (x3 : Int32) (x5 : Int64) (x7 : Int64) (x9 : Int32) (S : mt_S), mt_cp S T → f_X11_laysMatrix_L80 K147 n x0 x1 x2 x3 x5 x7 x9 S = some S' → f_X11_laysMatrix_L80 K147 n x0 x1 x2 x3 x5 x7 x9 (mt_ov S T) = some (mt_ov S' T) ∧ mt_cp S' T := by
  intro n
  induction n with
  | zero =>
    intro x0 x1 x2 x3 x5 x7 x9 S hp h
    cases h
  | succ n ih =>
    intro x0 x1 x2 x3 x5 x7 x9 S hp h
    have h : f_X11_laysMatrix_L80s K147 (f_X11_laysMatrix_L80 K147 n) x0 x1 x2 x3 x5 x7 x9 S = some S' := h
    show f_X11_laysMatrix_L80s K147 (f_X11_laysMatrix_L80 K147 n) x0 x1 x2 x3 x5 x7 x9 (mt_ov S T) = some (mt_ov S' T) ∧ mt_cp S' T
    unfold f_X11_laysMatrix_L80s at h ⊢
    by_cases hc : 4 ≤ x9
    · have h := mt_ip h hc
      refine ov_t hc ?_
      exact hK147 _ _ _ _ _ hp h
    · have h := mt_in' h hc
      refine ov_f hc ?_
      obtain ⟨v11, e11, h⟩ := mt_ob h
      refine ov_b (ov_rR hp e11) ?_
      obtain ⟨v12, e12, h⟩ := mt_ob h
      refine ov_b (ov_aL hp e12) ?_
      obtain ⟨v13, e13, h⟩ := mt_ob h
      refine ov_b (ov_rR hp e13) ?_
      obtain ⟨v14, e14, h⟩ := mt_ob h
      refine ov_b (ov_aL hp e14) ?_
      obtain ⟨v15, e15, h⟩ := mt_ob h
      refine ov_b (ov_rR hp e15) ?_
      obtain ⟨S16, e16, h⟩ := mt_ob h
      obtain ⟨o_, hp⟩ := ov_sL hp e16
      refine ov_b o_ ?_
      obtain ⟨v17, e17, h⟩ := mt_ob h
      refine ov_b (ov_rR hp e17) ?_
      obtain ⟨S18, e18, h⟩ := mt_ob h
      obtain ⟨o_, hp⟩ := ov_sL hp e18
      refine ov_b o_ ?_
      exact ih _ _ _ _ _ _ _ _ hp h
def f_X11_laysMatrix_L30s (rc : Nat → Int32 → Int32 → Int32 → mt_S → Option (mt_S)) (x0 : Nat) (x1 : Int32) (x2 : Int32) (x3 : Int32) (S : mt_S) : Option (mt_S) :=
  if (x1 + x2) < x3 then
   some S
  else
   mt_b2 (f_X11_isA x1 (x1 + x2) x3 S) fun v10 S9 =>
   if v10 = 0 then
    if v10 = 0 then
     f_X11_laysMatrix_L80 (fun z147_0 z147_1 z147_2 z147_3 S19 =>
      rc z147_0 z147_1 z147_2 (z147_3 + 1) S19) 1000 x0 x1 x2 x3 5 2 0 S9
    else
     f_X11_laysMatrix_L80 (fun z147_0 z147_1 z147_2 z147_3 S20 =>
      rc z147_0 z147_1 z147_2 (z147_3 + 1) S20) 1000 x0 x1 x2 x3 5 1 0 S9
   else
   if v10 = 0 then
    f_X11_laysMatrix_L80 (fun z147_0 z147_1 z147_2 z147_3 S21 =>
     rc z147_0 z147_1 z147_2 (z147_3 + 1) S21) 1000 x0 x1 x2 x3 2 2 0 S9
   else
    f_X11_laysMatrix_L80 (fun z147_0 z147_1 z147_2 z147_3 S22 =>
     rc z147_0 z147_1 z147_2 (z147_3 + 1) S22) 1000 x0 x1 x2 x3 2 1 0 S9
def f_X11_laysMatrix_L30 : Nat → Nat → Int32 → Int32 → Int32 → mt_S → Option (mt_S)
  | 0 => fun _ _ _ _ _ => none
  | n + 1 => f_X11_laysMatrix_L30s (f_X11_laysMatrix_L30 n)
set_option maxHeartbeats 4000000 in
set_option maxRecDepth 100000 in
theorem m_X11_laysMatrix_L30 {B : mt_B} {E : mt_E} {S' : mt_S} (hC : mt_Cx B E cX11_laysMatrix RX11 none 14 2 0 0) (hE : mt_End B E (0, 0) none S') : ∀ (n : Nat) (x0 : Nat) (x1 : Int32) (x2 : Int32) (x3 : Int32) (S : mt_S), f_X11_laysMatrix_L30 n x0 x1 x2 x3 S = some S' → mt_Go B E (0, 0) S 30 [(0, mt_rf B x0), (1, .int x1), (2, .int x2), (3, .int x3)] [] := by
  intro n
  induction n with
  | zero =>
    intro x0 x1 x2 x3 S h
    cases h
  | succ n ih =>
    intro x0 x1 x2 x3 S h
    have h : f_X11_laysMatrix_L30s (f_X11_laysMatrix_L30 n) x0 x1 x2 x3 S = some S' := h
    unfold f_X11_laysMatrix_L30s at h
    refine go_iload_n hC 3 dX11_laysMatrix_30 rfl rfl ?_
    refine go_iload_n hC 1 dX11_laysMatrix_31 rfl rfl ?_
    refine go_iload_n hC 2 dX11_laysMatrix_32 rfl rfl ?_
    refine go_iadd hC dX11_laysMatrix_33 ?_
    refine go_icmp_gt hC (tgt := 153) dX11_laysMatrix_34 (by decide) (fun hc => ?_) (fun hc => ?_)
    · have h := mt_ip h hc
      exact go_vret hC (mt_rev h hE) dX11_laysMatrix_153
    · have h := mt_in' h hc
      refine go_iload_n hC 1 dX11_laysMatrix_37 rfl rfl ?_
      refine go_iload_n hC 1 dX11_laysMatrix_38 rfl rfl ?_
      refine go_iload_n hC 2 dX11_laysMatrix_39 rfl rfl ?_
      refine go_iadd hC dX11_laysMatrix_40 ?_
      refine go_iload_n hC 3 dX11_laysMatrix_41 rfl rfl ?_
      obtain ⟨v10, S9, e10, h⟩ := mt_ob2 h
      refine go_callSi hC [.int x1, .int (x1 + x2), .int x3] [] (m_X11_isA e10) mt_csX11_123 dX11_laysMatrix_42 rfl rfl (by decide) (Nat.le_of_ble_eq_true rfl) ⟨Nat.le_refl _, Nat.le_refl _⟩ ?_
      refine go_istore hC [1, 2, 3, 4, 0] (lv1 := [(0, mt_rf B x0), (1, .int x1), (2, .int x2), (3, .int x3), (4, .int v10)]) dX11_laysMatrix_45 (by decide) rfl ?_
      refine go_iload hC 4 dX11_laysMatrix_47 rfl ?_
      refine go_if_eq hC (tgt := 58) dX11_laysMatrix_49 (by decide) (fun hc => ?_) (fun hc => ?_)
      · have h := mt_ip h hc
        refine go_ldc2 hC dX11_laysMatrix_58 mt_kX11_129 ?_
        refine go_lstore hC [1, 2, 3, 4, 5, 0] (lv1 := [(0, mt_rf B x0), (1, .int x1), (2, .int x2), (3, .int x3), (4, .int v10), (5, .long 5)]) dX11_laysMatrix_61 (by decide) rfl ?_
        refine go_iload hC 4 dX11_laysMatrix_63 rfl ?_
        refine go_if_eq hC (tgt := 72) dX11_laysMatrix_65 (by decide) (fun hc => ?_) (fun hc => ?_)
        · have h := mt_ip h hc
          refine go_ldc2 hC dX11_laysMatrix_72 mt_kX11_127 ?_
          refine go_lstore hC [1, 2, 3, 4, 5, 6, 0] (lv1 := [(0, mt_rf B x0), (1, .int x1), (2, .int x2), (3, .int x3), (4, .int v10), (5, .long 5), (7, .long 2)]) dX11_laysMatrix_75 (by decide) rfl ?_
          refine go_iconst (v := 0) hC dX11_laysMatrix_77 (by decide) ?_
          refine go_istore hC [1, 2, 3, 4, 5, 6, 7, 0] (lv1 := [(0, mt_rf B x0), (1, .int x1), (2, .int x2), (3, .int x3), (4, .int v10), (5, .long 5), (7, .long 2), (9, .int 0)]) dX11_laysMatrix_78 (by decide) rfl ?_
          refine go_sub [0, 1, 2, 3, 5, 6, 7] (lv1 := [(0, mt_rf B x0), (1, .int x1), (2, .int x2), (3, .int x3), (5, .long 5), (7, .long 2), (9, .int 0)]) rfl ?_
          refine m_X11_laysMatrix_L80 hC hE _ ?_ 1000 _ _ _ _ _ _ _ _ h
          · intro z147_0 z147_1 z147_2 z147_3 S19 h
            refine go_iinc hC 3 [1, 2, 3, 0] (v := z147_3 + 1) (lv1 := [(0, mt_rf B z147_0), (1, .int z147_1), (2, .int z147_2), (3, .int (z147_3 + 1))]) dX11_laysMatrix_147 rfl rfl (by decide) rfl ?_
            refine go_goto hC (tgt := 30) dX11_laysMatrix_150 (by decide) ?_
            exact ih _ _ _ _ _ h
        · have h := mt_in' h hc
          refine go_lconst (v := 1) hC dX11_laysMatrix_68 (by decide) ?_
          refine go_goto hC (tgt := 75) dX11_laysMatrix_69 (by decide) ?_
          refine go_lstore hC [1, 2, 3, 4, 5, 6, 0] (lv1 := [(0, mt_rf B x0), (1, .int x1), (2, .int x2), (3, .int x3), (4, .int v10), (5, .long 5), (7, .long 1)]) dX11_laysMatrix_75 (by decide) rfl ?_
          refine go_iconst (v := 0) hC dX11_laysMatrix_77 (by decide) ?_
          refine go_istore hC [1, 2, 3, 4, 5, 6, 7, 0] (lv1 := [(0, mt_rf B x0), (1, .int x1), (2, .int x2), (3, .int x3), (4, .int v10), (5, .long 5), (7, .long 1), (9, .int 0)]) dX11_laysMatrix_78 (by decide) rfl ?_
          refine go_sub [0, 1, 2, 3, 5, 6, 7] (lv1 := [(0, mt_rf B x0), (1, .int x1), (2, .int x2), (3, .int x3), (5, .long 5), (7, .long 1), (9, .int 0)]) rfl ?_
          refine m_X11_laysMatrix_L80 hC hE _ ?_ 1000 _ _ _ _ _ _ _ _ h
          · intro z147_0 z147_1 z147_2 z147_3 S20 h
            refine go_iinc hC 3 [1, 2, 3, 0] (v := z147_3 + 1) (lv1 := [(0, mt_rf B z147_0), (1, .int z147_1), (2, .int z147_2), (3, .int (z147_3 + 1))]) dX11_laysMatrix_147 rfl rfl (by decide) rfl ?_
            refine go_goto hC (tgt := 30) dX11_laysMatrix_150 (by decide) ?_
            exact ih _ _ _ _ _ h
      · have h := mt_in' h hc
        refine go_ldc2 hC dX11_laysMatrix_52 mt_kX11_127 ?_
        refine go_goto hC (tgt := 61) dX11_laysMatrix_55 (by decide) ?_
        refine go_lstore hC [1, 2, 3, 4, 5, 0] (lv1 := [(0, mt_rf B x0), (1, .int x1), (2, .int x2), (3, .int x3), (4, .int v10), (5, .long 2)]) dX11_laysMatrix_61 (by decide) rfl ?_
        refine go_iload hC 4 dX11_laysMatrix_63 rfl ?_
        refine go_if_eq hC (tgt := 72) dX11_laysMatrix_65 (by decide) (fun hc => ?_) (fun hc => ?_)
        · have h := mt_ip h hc
          refine go_ldc2 hC dX11_laysMatrix_72 mt_kX11_127 ?_
          refine go_lstore hC [1, 2, 3, 4, 5, 6, 0] (lv1 := [(0, mt_rf B x0), (1, .int x1), (2, .int x2), (3, .int x3), (4, .int v10), (5, .long 2), (7, .long 2)]) dX11_laysMatrix_75 (by decide) rfl ?_
          refine go_iconst (v := 0) hC dX11_laysMatrix_77 (by decide) ?_
          refine go_istore hC [1, 2, 3, 4, 5, 6, 7, 0] (lv1 := [(0, mt_rf B x0), (1, .int x1), (2, .int x2), (3, .int x3), (4, .int v10), (5, .long 2), (7, .long 2), (9, .int 0)]) dX11_laysMatrix_78 (by decide) rfl ?_
          refine go_sub [0, 1, 2, 3, 5, 6, 7] (lv1 := [(0, mt_rf B x0), (1, .int x1), (2, .int x2), (3, .int x3), (5, .long 2), (7, .long 2), (9, .int 0)]) rfl ?_
          refine m_X11_laysMatrix_L80 hC hE _ ?_ 1000 _ _ _ _ _ _ _ _ h
          · intro z147_0 z147_1 z147_2 z147_3 S21 h
            refine go_iinc hC 3 [1, 2, 3, 0] (v := z147_3 + 1) (lv1 := [(0, mt_rf B z147_0), (1, .int z147_1), (2, .int z147_2), (3, .int (z147_3 + 1))]) dX11_laysMatrix_147 rfl rfl (by decide) rfl ?_
            refine go_goto hC (tgt := 30) dX11_laysMatrix_150 (by decide) ?_
            exact ih _ _ _ _ _ h
        · have h := mt_in' h hc
          refine go_lconst (v := 1) hC dX11_laysMatrix_68 (by decide) ?_
          refine go_goto hC (tgt := 75) dX11_laysMatrix_69 (by decide) ?_
          refine go_lstore hC [1, 2, 3, 4, 5, 6, 0] (lv1 := [(0, mt_rf B x0), (1, .int x1), (2, .int x2), (3, .int x3), (4, .int v10), (5, .long 2), (7, .long 1)]) dX11_laysMatrix_75 (by decide) rfl ?_
          refine go_iconst (v := 0) hC dX11_laysMatrix_77 (by decide) ?_
          refine go_istore hC [1, 2, 3, 4, 5, 6, 7, 0] (lv1 := [(0, mt_rf B x0), (1, .int x1), (2, .int x2), (3, .int x3), (4, .int v10), (5, .long 2), (7, .long 1), (9, .int 0)]) dX11_laysMatrix_78 (by decide) rfl ?_
          refine go_sub [0, 1, 2, 3, 5, 6, 7] (lv1 := [(0, mt_rf B x0), (1, .int x1), (2, .int x2), (3, .int x3), (5, .long 2), (7, .long 1), (9, .int 0)]) rfl ?_
          refine m_X11_laysMatrix_L80 hC hE _ ?_ 1000 _ _ _ _ _ _ _ _ h
          · intro z147_0 z147_1 z147_2 z147_3 S22 h
            refine go_iinc hC 3 [1, 2, 3, 0] (v := z147_3 + 1) (lv1 := [(0, mt_rf B z147_0), (1, .int z147_1), (2, .int z147_2), (3, .int (z147_3 + 1))]) dX11_laysMatrix_147 rfl rfl (by decide) rfl ?_
            refine go_goto hC (tgt := 30) dX11_laysMatrix_150 (by decide) ?_
            exact ih _ _ _ _ _ h
set_option maxHeartbeats 4000000 in
set_option maxRecDepth 100000 in
theorem ov_X11_laysMatrix_L30 {T : mt_S} {S' : mt_S} : ∀ (n : Nat) (x0 : Nat) (x1 : Int32) (x2 : Int32) (x3 : Int32) (S : mt_S), mt_cp S T → f_X11_laysMatrix_L30 n x0 x1 x2 x3 S = some S' → f_X11_laysMatrix_L30 n x0 x1 x2 x3 (mt_ov S T) = some (mt_ov S' T) ∧ mt_cp S' T := by
  intro n
  induction n with
  | zero =>
    intro x0 x1 x2 x3 S hp h
    cases h
  | succ n ih =>
    intro x0 x1 x2 x3 S hp h
    have h : f_X11_laysMatrix_L30s (f_X11_laysMatrix_L30 n) x0 x1 x2 x3 S = some S' := h
    show f_X11_laysMatrix_L30s (f_X11_laysMatrix_L30 n) x0 x1 x2 x3 (mt_ov S T) = some (mt_ov S' T) ∧ mt_cp S' T
    unfold f_X11_laysMatrix_L30s at h ⊢
    by_cases hc : (x1 + x2) < x3
    · have h := mt_ip h hc
      refine ov_t hc ?_
      exact ov_retv hp h
    · have h := mt_in' h hc
      refine ov_f hc ?_
      obtain ⟨v10, S9, e10, h⟩ := mt_ob2 h
      obtain ⟨o_, hp⟩ := ov_X11_isA hp e10
      refine ov_b2 o_ ?_
      by_cases hc : v10 = 0
      · have h := mt_ip h hc
        refine ov_t hc ?_
        by_cases hc : v10 = 0
        · have h := mt_ip h hc
          refine ov_t hc ?_
          refine ov_X11_laysMatrix_L80 ?_ 1000 _ _ _ _ _ _ _ _ hp h
          · intro z147_0 z147_1 z147_2 z147_3 S19 hp h
            exact ih _ _ _ _ _ hp h
        · have h := mt_in' h hc
          refine ov_f hc ?_
          refine ov_X11_laysMatrix_L80 ?_ 1000 _ _ _ _ _ _ _ _ hp h
          · intro z147_0 z147_1 z147_2 z147_3 S20 hp h
            exact ih _ _ _ _ _ hp h
      · have h := mt_in' h hc
        refine ov_f hc ?_
        by_cases hc : v10 = 0
        · have h := mt_ip h hc
          refine ov_t hc ?_
          refine ov_X11_laysMatrix_L80 ?_ 1000 _ _ _ _ _ _ _ _ hp h
          · intro z147_0 z147_1 z147_2 z147_3 S21 hp h
            exact ih _ _ _ _ _ hp h
        · have h := mt_in' h hc
          refine ov_f hc ?_
          refine ov_X11_laysMatrix_L80 ?_ 1000 _ _ _ _ _ _ _ _ hp h
          · intro z147_0 z147_1 z147_2 z147_3 S22 hp h
            exact ih _ _ _ _ _ hp h
def f_X11_laysMatrix (x0 : Nat) (x1 : Int32) (x2 : Int32) (S : mt_S) : Option (mt_S) :=
  if mt_isK S x0 11 = true then
   Option.bind (mt_rR S x0 11 16) fun v1 =>
   Option.bind (mt_sL S v1 0 1) fun S2 =>
   Option.bind (mt_rR S2 x0 11 16) fun v3 =>
   Option.bind (mt_sL S2 v3 1 0) fun S4 =>
   Option.bind (mt_rR S4 x0 11 16) fun v5 =>
   Option.bind (mt_sL S4 v5 2 0) fun S6 =>
   Option.bind (mt_rR S6 x0 11 16) fun v7 =>
   Option.bind (mt_sL S6 v7 3 1) fun S8 =>
   f_X11_laysMatrix_L30 1000 x0 x1 x2 1 S8
  else none
theorem k_X11_laysMatrix {x0 : Nat} {x1 : Int32} {x2 : Int32} {S : mt_S} {S' : mt_S} (h : f_X11_laysMatrix x0 x1 x2 S = some S') : mt_isK S x0 11 = true := by
  unfold f_X11_laysMatrix at h
  exact (mt_gd h).1
set_option maxHeartbeats 4000000 in
set_option maxRecDepth 100000 in
theorem m_X11_laysMatrix {B : mt_B}  {x0 : Nat} {x1 : Int32} {x2 : Int32} {S : mt_S} {S' : mt_S} (h : f_X11_laysMatrix x0 x1 x2 S = some S') : mt_M B yX11_laysMatrix cX11_laysMatrix 14 none 2 [mt_rf B x0, .int x1, .int x2] S none S' := by
  unfold f_X11_laysMatrix at h
  refine mt_M.of (by decide) (Nat.le_of_ble_eq_true rfl) (fun E hC hE => ?_)
  obtain ⟨hk0, h⟩ := mt_gd h
  refine go_aload_n hC 0 dX11_laysMatrix_0 rfl rfl ?_
  obtain ⟨v1, e1, h⟩ := mt_ob h
  refine go_getR hC mt_flX11_46 e1 dX11_laysMatrix_1 ?_
  refine go_iconst (v := 0) hC dX11_laysMatrix_4 (by decide) ?_
  refine go_lconst (v := 1) hC dX11_laysMatrix_5 (by decide) ?_
  obtain ⟨S2, e2, h⟩ := mt_ob h
  refine go_last hC e2 dX11_laysMatrix_6 ?_
  refine go_aload_n hC 0 dX11_laysMatrix_7 rfl rfl ?_
  obtain ⟨v3, e3, h⟩ := mt_ob h
  refine go_getR hC mt_flX11_46 e3 dX11_laysMatrix_8 ?_
  refine go_iconst (v := 1) hC dX11_laysMatrix_11 (by decide) ?_
  refine go_lconst (v := 0) hC dX11_laysMatrix_12 (by decide) ?_
  obtain ⟨S4, e4, h⟩ := mt_ob h
  refine go_last hC e4 dX11_laysMatrix_13 ?_
  refine go_aload_n hC 0 dX11_laysMatrix_14 rfl rfl ?_
  obtain ⟨v5, e5, h⟩ := mt_ob h
  refine go_getR hC mt_flX11_46 e5 dX11_laysMatrix_15 ?_
  refine go_iconst (v := 2) hC dX11_laysMatrix_18 (by decide) ?_
  refine go_lconst (v := 0) hC dX11_laysMatrix_19 (by decide) ?_
  obtain ⟨S6, e6, h⟩ := mt_ob h
  refine go_last hC e6 dX11_laysMatrix_20 ?_
  refine go_aload_n hC 0 dX11_laysMatrix_21 rfl rfl ?_
  obtain ⟨v7, e7, h⟩ := mt_ob h
  refine go_getR hC mt_flX11_46 e7 dX11_laysMatrix_22 ?_
  refine go_iconst (v := 3) hC dX11_laysMatrix_25 (by decide) ?_
  refine go_lconst (v := 1) hC dX11_laysMatrix_26 (by decide) ?_
  obtain ⟨S8, e8, h⟩ := mt_ob h
  refine go_last hC e8 dX11_laysMatrix_27 ?_
  refine go_iconst (v := 1) hC dX11_laysMatrix_28 (by decide) ?_
  refine go_istore_n hC [1, 2, 3, 0] (lv1 := [(0, mt_rf B x0), (1, .int x1), (2, .int x2), (3, .int 1)]) dX11_laysMatrix_29 rfl (by decide) rfl ?_
  exact m_X11_laysMatrix_L30 hC hE 1000 _ _ _ _ _ h
set_option maxHeartbeats 4000000 in
set_option maxRecDepth 100000 in
theorem ov_X11_laysMatrix {T : mt_S}  {x0 : Nat} {x1 : Int32} {x2 : Int32} {S : mt_S} {S' : mt_S} (hp : mt_cp S T) (h : f_X11_laysMatrix x0 x1 x2 S = some S') : f_X11_laysMatrix x0 x1 x2 (mt_ov S T) = some (mt_ov S' T) ∧ mt_cp S' T := by
  unfold f_X11_laysMatrix at h ⊢
  obtain ⟨hg, h⟩ := mt_gd h
  refine ov_t (ov_K hp hg) ?_
  obtain ⟨v1, e1, h⟩ := mt_ob h
  refine ov_b (ov_rR hp e1) ?_
  obtain ⟨S2, e2, h⟩ := mt_ob h
  obtain ⟨o_, hp⟩ := ov_sL hp e2
  refine ov_b o_ ?_
  obtain ⟨v3, e3, h⟩ := mt_ob h
  refine ov_b (ov_rR hp e3) ?_
  obtain ⟨S4, e4, h⟩ := mt_ob h
  obtain ⟨o_, hp⟩ := ov_sL hp e4
  refine ov_b o_ ?_
  obtain ⟨v5, e5, h⟩ := mt_ob h
  refine ov_b (ov_rR hp e5) ?_
  obtain ⟨S6, e6, h⟩ := mt_ob h
  obtain ⟨o_, hp⟩ := ov_sL hp e6
  refine ov_b o_ ?_
  obtain ⟨v7, e7, h⟩ := mt_ob h
  refine ov_b (ov_rR hp e7) ?_
  obtain ⟨S8, e8, h⟩ := mt_ob h
  obtain ⟨o_, hp⟩ := ov_sL hp e8
  refine ov_b o_ ?_
  exact ov_X11_laysMatrix_L30 1000 _ _ _ _ _ hp h
def f_X11_numberOf (x0 : Nat) (x1 : Int32) (x2 : Int32) (S : mt_S) : Option (Int64 × mt_S) :=
  if mt_isK S x0 11 = true then
   Option.bind (f_X11_laysMatrix x0 x1 x2 S) fun S1 =>
   Option.bind (mt_rR S1 x0 11 16) fun v2 =>
   Option.bind (mt_aL S1 v2 1) fun v3 =>
   some (v3, S1)
  else none
theorem k_X11_numberOf {x0 : Nat} {x1 : Int32} {x2 : Int32} {S : mt_S} {r : Int64} {S' : mt_S} (h : f_X11_numberOf x0 x1 x2 S = some (r, S')) : mt_isK S x0 11 = true := by
  unfold f_X11_numberOf at h
  exact (mt_gd h).1
set_option maxHeartbeats 4000000 in
set_option maxRecDepth 100000 in
theorem m_X11_numberOf {B : mt_B}  {x0 : Nat} {x1 : Int32} {x2 : Int32} {S : mt_S} {r : Int64} {S' : mt_S} (h : f_X11_numberOf x0 x1 x2 S = some (r, S')) : mt_M B yX11_numberOf cX11_numberOf 3 (some .long) 3 [mt_rf B x0, .int x1, .int x2] S (some (.long r)) S' := by
  unfold f_X11_numberOf at h
  refine mt_M.of (by decide) (Nat.le_of_ble_eq_true rfl) (fun E hC hE => ?_)
  obtain ⟨hk0, h⟩ := mt_gd h
  refine go_aload_n hC 0 dX11_numberOf_0 rfl rfl ?_
  refine go_iload_n hC 1 dX11_numberOf_1 rfl rfl ?_
  refine go_iload_n hC 2 dX11_numberOf_2 rfl rfl ?_
  obtain ⟨S1, e1, h⟩ := mt_ob h
  refine go_callVv hC [.int x1, .int x2] [] (m_X11_laysMatrix e1) mt_cvX11_131 (k_X11_laysMatrix e1) dX11_numberOf_3 rfl rfl (by decide) (Nat.le_of_ble_eq_true rfl) ⟨Nat.le_refl _, Nat.le_refl _⟩ ?_
  refine go_aload_n hC 0 dX11_numberOf_6 rfl rfl ?_
  obtain ⟨v2, e2, h⟩ := mt_ob h
  refine go_getR hC mt_flX11_46 e2 dX11_numberOf_7 ?_
  refine go_iconst (v := 1) hC dX11_numberOf_10 (by decide) ?_
  obtain ⟨v3, e3, h⟩ := mt_ob h
  refine go_lald hC e3 dX11_numberOf_11 ?_
  exact go_lret hC (mt_rel h hE) dX11_numberOf_12
set_option maxHeartbeats 4000000 in
set_option maxRecDepth 100000 in
theorem ov_X11_numberOf {T : mt_S}  {x0 : Nat} {x1 : Int32} {x2 : Int32} {S : mt_S} {r : Int64} {S' : mt_S} (hp : mt_cp S T) (h : f_X11_numberOf x0 x1 x2 S = some (r, S')) : f_X11_numberOf x0 x1 x2 (mt_ov S T) = some (r, mt_ov S' T) ∧ mt_cp S' T := by
  unfold f_X11_numberOf at h ⊢
  obtain ⟨hg, h⟩ := mt_gd h
  refine ov_t (ov_K hp hg) ?_
  obtain ⟨S1, e1, h⟩ := mt_ob h
  obtain ⟨o_, hp⟩ := ov_X11_laysMatrix hp e1
  refine ov_b o_ ?_
  obtain ⟨v2, e2, h⟩ := mt_ob h
  refine ov_b (ov_rR hp e2) ?_
  obtain ⟨v3, e3, h⟩ := mt_ob h
  refine ov_b (ov_aL hp e3) ?_
  exact ov_ret hp h
def f_X11_number (x0 : Nat) (S : mt_S) : Option (Int64 × mt_S) :=
  if mt_isK S x0 11 = true then
   Option.bind (mt_rR S x0 11 3) fun v1 =>
   Option.bind (mt_aI S v1 13 0) fun v2 =>
   Option.bind (mt_rR S x0 11 3) fun v3 =>
   Option.bind (mt_aI S v3 13 1) fun v4 =>
   mt_b2 (f_X11_numberOf x0 v2 v4 S) fun v6 S5 =>
   some (v6, S5)
  else none
theorem k_X11_number {x0 : Nat} {S : mt_S} {r : Int64} {S' : mt_S} (h : f_X11_number x0 S = some (r, S')) : mt_isK S x0 11 = true := by
  unfold f_X11_number at h
  exact (mt_gd h).1
set_option maxHeartbeats 4000000 in
set_option maxRecDepth 100000 in
theorem m_X11_number {B : mt_B}  {x0 : Nat} {S : mt_S} {r : Int64} {S' : mt_S} (h : f_X11_number x0 S = some (r, S')) : mt_M B yX11_number cX11_number 1 (some .long) 4 [mt_rf B x0] S (some (.long r)) S' := by
  unfold f_X11_number at h
  refine mt_M.of (by decide) (Nat.le_of_ble_eq_true rfl) (fun E hC hE => ?_)
  obtain ⟨hk0, h⟩ := mt_gd h
  refine go_aload_n hC 0 dX11_number_0 rfl rfl ?_
  refine go_aload_n hC 0 dX11_number_1 rfl rfl ?_
  obtain ⟨v1, e1, h⟩ := mt_ob h
  refine go_getR hC mt_flX11_24 e1 dX11_number_2 ?_
  refine go_iconst (v := 0) hC dX11_number_5 (by decide) ?_
  obtain ⟨v2, e2, h⟩ := mt_ob h
  refine go_iald hC e2 dX11_number_6 ?_
  refine go_aload_n hC 0 dX11_number_7 rfl rfl ?_
  obtain ⟨v3, e3, h⟩ := mt_ob h
  refine go_getR hC mt_flX11_24 e3 dX11_number_8 ?_
  refine go_iconst (v := 1) hC dX11_number_11 (by decide) ?_
  obtain ⟨v4, e4, h⟩ := mt_ob h
  refine go_iald hC e4 dX11_number_12 ?_
  obtain ⟨v6, S5, e6, h⟩ := mt_ob2 h
  refine go_callVl hC [.int v2, .int v4] [] (m_X11_numberOf e6) mt_cvX11_134 (k_X11_numberOf e6) dX11_number_13 rfl rfl (by decide) (Nat.le_of_ble_eq_true rfl) ⟨Nat.le_refl _, Nat.le_refl _⟩ ?_
  exact go_lret hC (mt_rel h hE) dX11_number_16
set_option maxHeartbeats 4000000 in
set_option maxRecDepth 100000 in
theorem ov_X11_number {T : mt_S}  {x0 : Nat} {S : mt_S} {r : Int64} {S' : mt_S} (hp : mt_cp S T) (h : f_X11_number x0 S = some (r, S')) : f_X11_number x0 (mt_ov S T) = some (r, mt_ov S' T) ∧ mt_cp S' T := by
  unfold f_X11_number at h ⊢
  obtain ⟨hg, h⟩ := mt_gd h
  refine ov_t (ov_K hp hg) ?_
  obtain ⟨v1, e1, h⟩ := mt_ob h
  refine ov_b (ov_rR hp e1) ?_
  obtain ⟨v2, e2, h⟩ := mt_ob h
  refine ov_b (ov_aI hp e2) ?_
  obtain ⟨v3, e3, h⟩ := mt_ob h
  refine ov_b (ov_rR hp e3) ?_
  obtain ⟨v4, e4, h⟩ := mt_ob h
  refine ov_b (ov_aI hp e4) ?_
  obtain ⟨v6, S5, e6, h⟩ := mt_ob2 h
  obtain ⟨o_, hp⟩ := ov_X11_numberOf hp e6
  refine ov_b2 o_ ?_
  exact ov_ret hp h
def f_X11_triple (x0 : Nat) (x1 : Int32) (S : mt_S) : Option (Int64 × mt_S) :=
  if mt_isK S x0 11 = true then
   Option.bind (mt_wI S x0 11 0 0) fun S1 =>
   Option.bind (f_X11_lays x0 S1) fun S2 =>
   if x1 = 0 then
    Option.bind (mt_rI S2 x0 11 10) fun v3 =>
    Option.bind (mt_rI S2 x0 11 11) fun v4 =>
    mt_b2 (f_X11_numberOf x0 v3 v4 S2) fun v6 S5 =>
    some (v6, S5)
   else
   if x1 = 1 then
    Option.bind (mt_rI S2 x0 11 12) fun v7 =>
    Option.bind (mt_rI S2 x0 11 13) fun v8 =>
    mt_b2 (f_X11_numberOf x0 v7 v8 S2) fun v10 S9 =>
    some (v10, S9)
   else
   if x1 = 2 then
    mt_b2 (f_X11_number x0 S2) fun v12 S11 =>
    some (v12, S11)
   else
    mt_b2 (f_X11_refuse x0 S2) fun v14 S13 =>
    some (v14.toInt64, S13)
  else none
theorem k_X11_triple {x0 : Nat} {x1 : Int32} {S : mt_S} {r : Int64} {S' : mt_S} (h : f_X11_triple x0 x1 S = some (r, S')) : mt_isK S x0 11 = true := by
  unfold f_X11_triple at h
  exact (mt_gd h).1
set_option maxHeartbeats 4000000 in
set_option maxRecDepth 100000 in
theorem m_X11_triple {B : mt_B}  {x0 : Nat} {x1 : Int32} {S : mt_S} {r : Int64} {S' : mt_S} (h : f_X11_triple x0 x1 S = some (r, S')) : mt_M B yX11_triple cX11_triple 2 (some .long) 5 [mt_rf B x0, .int x1] S (some (.long r)) S' := by
  unfold f_X11_triple at h
  refine mt_M.of (by decide) (Nat.le_of_ble_eq_true rfl) (fun E hC hE => ?_)
  obtain ⟨hk0, h⟩ := mt_gd h
  refine go_aload_n hC 0 dX11_triple_0 rfl rfl ?_
  refine go_iconst (v := 0) hC dX11_triple_1 (by decide) ?_
  obtain ⟨S1, e1, h⟩ := mt_ob h
  refine go_putI hC mt_flX11_1 e1 dX11_triple_2 ?_
  refine go_aload_n hC 0 dX11_triple_5 rfl rfl ?_
  obtain ⟨S2, e2, h⟩ := mt_ob h
  refine go_callVv hC [] [] (m_X11_lays e2) mt_cvX11_95 (k_X11_lays e2) dX11_triple_6 rfl rfl (by decide) (Nat.le_of_ble_eq_true rfl) ⟨Nat.le_refl _, Nat.le_refl _⟩ ?_
  refine go_iload_n hC 1 dX11_triple_9 rfl rfl ?_
  by_cases hc0 : x1 = 0
  · have h := mt_ip h hc0
    refine go_tabIn hC (v := 0) (off := 26) (tgt := 36) dX11_triple_10 hc0 (by decide) (by decide) (by decide +kernel) (by decide) ?_
    refine go_aload_n hC 0 dX11_triple_36 rfl rfl ?_
    refine go_aload_n hC 0 dX11_triple_37 rfl rfl ?_
    obtain ⟨v3, e3, h⟩ := mt_ob h
    refine go_getI hC mt_flX11_66 e3 dX11_triple_38 ?_
    refine go_aload_n hC 0 dX11_triple_41 rfl rfl ?_
    obtain ⟨v4, e4, h⟩ := mt_ob h
    refine go_getI hC mt_flX11_69 e4 dX11_triple_42 ?_
    obtain ⟨v6, S5, e6, h⟩ := mt_ob2 h
    refine go_callVl hC [.int v3, .int v4] [] (m_X11_numberOf e6) mt_cvX11_134 (k_X11_numberOf e6) dX11_triple_45 rfl rfl (by decide) (Nat.le_of_ble_eq_true rfl) ⟨Nat.le_refl _, Nat.le_refl _⟩ ?_
    exact go_lret hC (mt_rel h hE) dX11_triple_48
  · have h := mt_in' h hc0
    by_cases hc1 : x1 = 1
    · have h := mt_ip h hc1
      refine go_tabIn hC (v := 1) (off := 39) (tgt := 49) dX11_triple_10 hc1 (by decide) (by decide) (by decide +kernel) (by decide) ?_
      refine go_aload_n hC 0 dX11_triple_49 rfl rfl ?_
      refine go_aload_n hC 0 dX11_triple_50 rfl rfl ?_
      obtain ⟨v7, e7, h⟩ := mt_ob h
      refine go_getI hC mt_flX11_72 e7 dX11_triple_51 ?_
      refine go_aload_n hC 0 dX11_triple_54 rfl rfl ?_
      obtain ⟨v8, e8, h⟩ := mt_ob h
      refine go_getI hC mt_flX11_75 e8 dX11_triple_55 ?_
      obtain ⟨v10, S9, e10, h⟩ := mt_ob2 h
      refine go_callVl hC [.int v7, .int v8] [] (m_X11_numberOf e10) mt_cvX11_134 (k_X11_numberOf e10) dX11_triple_58 rfl rfl (by decide) (Nat.le_of_ble_eq_true rfl) ⟨Nat.le_refl _, Nat.le_refl _⟩ ?_
      exact go_lret hC (mt_rel h hE) dX11_triple_61
    · have h := mt_in' h hc1
      by_cases hc2 : x1 = 2
      · have h := mt_ip h hc2
        refine go_tabIn hC (v := 2) (off := 52) (tgt := 62) dX11_triple_10 hc2 (by decide) (by decide) (by decide +kernel) (by decide) ?_
        refine go_aload_n hC 0 dX11_triple_62 rfl rfl ?_
        obtain ⟨v12, S11, e12, h⟩ := mt_ob2 h
        refine go_callVl hC [] [] (m_X11_number e12) mt_cvX11_138 (k_X11_number e12) dX11_triple_63 rfl rfl (by decide) (Nat.le_of_ble_eq_true rfl) ⟨Nat.le_refl _, Nat.le_refl _⟩ ?_
        exact go_lret hC (mt_rel h hE) dX11_triple_66
      · have h := mt_in' h hc2
        have t0 := lv_neT hc0 (a := 0) rfl
        have t1 := lv_neT hc1 (a := 1) rfl
        have t2 := lv_neT hc2 (a := 2) rfl
        refine go_tabOut hC (tgt := 67) dX11_triple_10 (by omega) (by decide) ?_
        refine go_aload_n hC 0 dX11_triple_67 rfl rfl ?_
        obtain ⟨v14, S13, e14, h⟩ := mt_ob2 h
        refine go_callVi hC [] [] (m_X11_refuse e14) mt_cvX11_142 (k_X11_refuse e14) dX11_triple_68 rfl rfl (by decide) (Nat.le_of_ble_eq_true rfl) ⟨Nat.le_refl _, Nat.le_refl _⟩ ?_
        refine go_i2l hC dX11_triple_71 ?_
        exact go_lret hC (mt_rel h hE) dX11_triple_72
set_option maxHeartbeats 4000000 in
set_option maxRecDepth 100000 in
theorem ov_X11_triple {T : mt_S}  {x0 : Nat} {x1 : Int32} {S : mt_S} {r : Int64} {S' : mt_S} (hp : mt_cp S T) (h : f_X11_triple x0 x1 S = some (r, S')) : f_X11_triple x0 x1 (mt_ov S T) = some (r, mt_ov S' T) ∧ mt_cp S' T := by
  unfold f_X11_triple at h ⊢
  obtain ⟨hg, h⟩ := mt_gd h
  refine ov_t (ov_K hp hg) ?_
  obtain ⟨S1, e1, h⟩ := mt_ob h
  obtain ⟨o_, hp⟩ := ov_wI hp e1
  refine ov_b o_ ?_
  obtain ⟨S2, e2, h⟩ := mt_ob h
  obtain ⟨o_, hp⟩ := ov_X11_lays hp e2
  refine ov_b o_ ?_
  by_cases hc : x1 = 0
  · have h := mt_ip h hc
    refine ov_t hc ?_
    obtain ⟨v3, e3, h⟩ := mt_ob h
    refine ov_b (ov_rI hp e3) ?_
    obtain ⟨v4, e4, h⟩ := mt_ob h
    refine ov_b (ov_rI hp e4) ?_
    obtain ⟨v6, S5, e6, h⟩ := mt_ob2 h
    obtain ⟨o_, hp⟩ := ov_X11_numberOf hp e6
    refine ov_b2 o_ ?_
    exact ov_ret hp h
  · have h := mt_in' h hc
    refine ov_f hc ?_
    by_cases hc : x1 = 1
    · have h := mt_ip h hc
      refine ov_t hc ?_
      obtain ⟨v7, e7, h⟩ := mt_ob h
      refine ov_b (ov_rI hp e7) ?_
      obtain ⟨v8, e8, h⟩ := mt_ob h
      refine ov_b (ov_rI hp e8) ?_
      obtain ⟨v10, S9, e10, h⟩ := mt_ob2 h
      obtain ⟨o_, hp⟩ := ov_X11_numberOf hp e10
      refine ov_b2 o_ ?_
      exact ov_ret hp h
    · have h := mt_in' h hc
      refine ov_f hc ?_
      by_cases hc : x1 = 2
      · have h := mt_ip h hc
        refine ov_t hc ?_
        obtain ⟨v12, S11, e12, h⟩ := mt_ob2 h
        obtain ⟨o_, hp⟩ := ov_X11_number hp e12
        refine ov_b2 o_ ?_
        exact ov_ret hp h
      · have h := mt_in' h hc
        refine ov_f hc ?_
        obtain ⟨v14, S13, e14, h⟩ := mt_ob2 h
        obtain ⟨o_, hp⟩ := ov_X11_refuse hp e14
        refine ov_b2 o_ ?_
        exact ov_ret hp h
def f_X11_letter (x0 : Nat) (x1 : Int32) (S : mt_S) : Option (Int32 × mt_S) :=
  if mt_isK S x0 11 = true then
   Option.bind (mt_wI S x0 11 0 0) fun S1 =>
   Option.bind (mt_rR S1 x0 11 3) fun v2 =>
   Option.bind (mt_aI S1 v2 13 0) fun v3 =>
   Option.bind (mt_rR S1 x0 11 3) fun v4 =>
   Option.bind (mt_aI S1 v4 13 1) fun v5 =>
   mt_b2 (f_X11_isIn x1.toInt64 1 ((v3 + v5).toInt64) S1) fun v7 S6 =>
   if v7 = 0 then
    some ((-1), S6)
   else
    Option.bind (mt_rR S6 x0 11 3) fun v8 =>
    Option.bind (mt_aI S6 v8 13 0) fun v9 =>
    mt_b2 (f_X11_isA v9 (v3 + v5) x1 S6) fun v11 S10 =>
    if v11 = 0 then
     some (98, S10)
    else
     some (97, S10)
  else none
theorem k_X11_letter {x0 : Nat} {x1 : Int32} {S : mt_S} {r : Int32} {S' : mt_S} (h : f_X11_letter x0 x1 S = some (r, S')) : mt_isK S x0 11 = true := by
  unfold f_X11_letter at h
  exact (mt_gd h).1
set_option maxHeartbeats 4000000 in
set_option maxRecDepth 100000 in
theorem m_X11_letter {B : mt_B}  {x0 : Nat} {x1 : Int32} {S : mt_S} {r : Int32} {S' : mt_S} (h : f_X11_letter x0 x1 S = some (r, S')) : mt_M B yX11_letter cX11_letter 3 (some .int) 2 [mt_rf B x0, .int x1] S (some (.int r)) S' := by
  unfold f_X11_letter at h
  refine mt_M.of (by decide) (Nat.le_of_ble_eq_true rfl) (fun E hC hE => ?_)
  obtain ⟨hk0, h⟩ := mt_gd h
  refine go_aload_n hC 0 dX11_letter_0 rfl rfl ?_
  refine go_iconst (v := 0) hC dX11_letter_1 (by decide) ?_
  obtain ⟨S1, e1, h⟩ := mt_ob h
  refine go_putI hC mt_flX11_1 e1 dX11_letter_2 ?_
  refine go_aload_n hC 0 dX11_letter_5 rfl rfl ?_
  obtain ⟨v2, e2, h⟩ := mt_ob h
  refine go_getR hC mt_flX11_24 e2 dX11_letter_6 ?_
  refine go_iconst (v := 0) hC dX11_letter_9 (by decide) ?_
  obtain ⟨v3, e3, h⟩ := mt_ob h
  refine go_iald hC e3 dX11_letter_10 ?_
  refine go_aload_n hC 0 dX11_letter_11 rfl rfl ?_
  obtain ⟨v4, e4, h⟩ := mt_ob h
  refine go_getR hC mt_flX11_24 e4 dX11_letter_12 ?_
  refine go_iconst (v := 1) hC dX11_letter_15 (by decide) ?_
  obtain ⟨v5, e5, h⟩ := mt_ob h
  refine go_iald hC e5 dX11_letter_16 ?_
  refine go_iadd hC dX11_letter_17 ?_
  refine go_istore_n hC [1, 2, 0] (lv1 := [(0, mt_rf B x0), (1, .int x1), (2, .int (v3 + v5))]) dX11_letter_18 rfl (by decide) rfl ?_
  refine go_iload_n hC 1 dX11_letter_19 rfl rfl ?_
  refine go_i2l hC dX11_letter_20 ?_
  refine go_lconst (v := 1) hC dX11_letter_21 (by decide) ?_
  refine go_iload_n hC 2 dX11_letter_22 rfl rfl ?_
  refine go_i2l hC dX11_letter_23 ?_
  obtain ⟨v7, S6, e7, h⟩ := mt_ob2 h
  refine go_callSi hC [.long x1.toInt64, .long 1, .long ((v3 + v5).toInt64)] [] (m_X11_isIn e7) mt_csX11_91 dX11_letter_24 rfl rfl (by decide) (Nat.le_of_ble_eq_true rfl) ⟨Nat.le_refl _, Nat.le_refl _⟩ ?_
  refine go_if_ne hC (tgt := 34) dX11_letter_27 (by decide) (fun hc => ?_) (fun hc => ?_)
  · have h := mt_in' h hc
    refine go_aload_n hC 0 dX11_letter_34 rfl rfl ?_
    obtain ⟨v8, e8, h⟩ := mt_ob h
    refine go_getR hC mt_flX11_24 e8 dX11_letter_35 ?_
    refine go_iconst (v := 0) hC dX11_letter_38 (by decide) ?_
    obtain ⟨v9, e9, h⟩ := mt_ob h
    refine go_iald hC e9 dX11_letter_39 ?_
    refine go_iload_n hC 2 dX11_letter_40 rfl rfl ?_
    refine go_iload_n hC 1 dX11_letter_41 rfl rfl ?_
    obtain ⟨v11, S10, e11, h⟩ := mt_ob2 h
    refine go_callSi hC [.int v9, .int (v3 + v5), .int x1] [] (m_X11_isA e11) mt_csX11_123 dX11_letter_42 rfl rfl (by decide) (Nat.le_of_ble_eq_true rfl) ⟨Nat.le_refl _, Nat.le_refl _⟩ ?_
    refine go_if_eq hC (tgt := 53) dX11_letter_45 (by decide) (fun hc => ?_) (fun hc => ?_)
    · have h := mt_ip h hc
      refine go_bipush (v := 98) hC dX11_letter_53 (by decide) ?_
      exact go_iret hC (mt_rei h hE) dX11_letter_55
    · have h := mt_in' h hc
      refine go_bipush (v := 97) hC dX11_letter_48 (by decide) ?_
      refine go_goto hC (tgt := 55) dX11_letter_50 (by decide) ?_
      exact go_iret hC (mt_rei h hE) dX11_letter_55
  · have h := mt_ip h hc
    refine go_iconst (v := (-1)) hC dX11_letter_30 (by decide) ?_
    refine go_goto hC (tgt := 55) dX11_letter_31 (by decide) ?_
    exact go_iret hC (mt_rei h hE) dX11_letter_55
set_option maxHeartbeats 4000000 in
set_option maxRecDepth 100000 in
theorem ov_X11_letter {T : mt_S}  {x0 : Nat} {x1 : Int32} {S : mt_S} {r : Int32} {S' : mt_S} (hp : mt_cp S T) (h : f_X11_letter x0 x1 S = some (r, S')) : f_X11_letter x0 x1 (mt_ov S T) = some (r, mt_ov S' T) ∧ mt_cp S' T := by
  unfold f_X11_letter at h ⊢
  obtain ⟨hg, h⟩ := mt_gd h
  refine ov_t (ov_K hp hg) ?_
  obtain ⟨S1, e1, h⟩ := mt_ob h
  obtain ⟨o_, hp⟩ := ov_wI hp e1
  refine ov_b o_ ?_
  obtain ⟨v2, e2, h⟩ := mt_ob h
  refine ov_b (ov_rR hp e2) ?_
  obtain ⟨v3, e3, h⟩ := mt_ob h
  refine ov_b (ov_aI hp e3) ?_
  obtain ⟨v4, e4, h⟩ := mt_ob h
  refine ov_b (ov_rR hp e4) ?_
  obtain ⟨v5, e5, h⟩ := mt_ob h
  refine ov_b (ov_aI hp e5) ?_
  obtain ⟨v7, S6, e7, h⟩ := mt_ob2 h
  obtain ⟨o_, hp⟩ := ov_X11_isIn hp e7
  refine ov_b2 o_ ?_
  by_cases hc : v7 = 0
  · have h := mt_ip h hc
    refine ov_t hc ?_
    exact ov_ret hp h
  · have h := mt_in' h hc
    refine ov_f hc ?_
    obtain ⟨v8, e8, h⟩ := mt_ob h
    refine ov_b (ov_rR hp e8) ?_
    obtain ⟨v9, e9, h⟩ := mt_ob h
    refine ov_b (ov_aI hp e9) ?_
    obtain ⟨v11, S10, e11, h⟩ := mt_ob2 h
    obtain ⟨o_, hp⟩ := ov_X11_isA hp e11
    refine ov_b2 o_ ?_
    by_cases hc : v11 = 0
    · have h := mt_ip h hc
      refine ov_t hc ?_
      exact ov_ret hp h
    · have h := mt_in' h hc
      refine ov_f hc ?_
      exact ov_ret hp h
def f_X11_cut_L7s (rc : Nat → Int32 → mt_S → Option (Int32 × mt_S)) (x0 : Nat) (x1 : Int32) (S : mt_S) : Option (Int32 × mt_S) :=
  Option.bind (mt_rR S x0 11 3) fun v2 =>
  Option.bind (mt_aI S v2 13 0) fun v3 =>
  Option.bind (mt_rR S x0 11 3) fun v4 =>
  Option.bind (mt_aI S v4 13 0) fun v5 =>
  Option.bind (mt_rR S x0 11 3) fun v6 =>
  Option.bind (mt_aI S v6 13 1) fun v7 =>
  if (v5 + v7) = 0 then none else
  if ((x1 * v3) - (x1 * v3) / (v5 + v7) * (v5 + v7)) = 1 then
   some (x1, S)
  else
   rc x0 (x1 + 1) S
def f_X11_cut_L7 : Nat → Nat → Int32 → mt_S → Option (Int32 × mt_S)
  | 0 => fun _ _ _ => none
  | n + 1 => f_X11_cut_L7s (f_X11_cut_L7 n)
set_option maxHeartbeats 4000000 in
set_option maxRecDepth 100000 in
theorem m_X11_cut_L7 {B : mt_B} {E : mt_E} {r : Int32} {S' : mt_S} (hC : mt_Cx B E cX11_cut RX11 (some .int) 2 1 0 0) (hE : mt_End B E (0, 0) (some (.int r)) S') : ∀ (n : Nat) (x0 : Nat) (x1 : Int32) (S : mt_S), f_X11_cut_L7 n x0 x1 S = some (r, S') → mt_Go B E (0, 0) S 7 [(0, mt_rf B x0), (1, .int x1)] [] := by
  intro n
  induction n with
  | zero =>
    intro x0 x1 S h
    cases h
  | succ n ih =>
    intro x0 x1 S h
    have h : f_X11_cut_L7s (f_X11_cut_L7 n) x0 x1 S = some (r, S') := h
    unfold f_X11_cut_L7s at h
    refine go_iload_n hC 1 dX11_cut_7 rfl rfl ?_
    refine go_aload_n hC 0 dX11_cut_8 rfl rfl ?_
    obtain ⟨v2, e2, h⟩ := mt_ob h
    refine go_getR hC mt_flX11_24 e2 dX11_cut_9 ?_
    refine go_iconst (v := 0) hC dX11_cut_12 (by decide) ?_
    obtain ⟨v3, e3, h⟩ := mt_ob h
    refine go_iald hC e3 dX11_cut_13 ?_
    refine go_imul hC dX11_cut_14 ?_
    refine go_aload_n hC 0 dX11_cut_15 rfl rfl ?_
    obtain ⟨v4, e4, h⟩ := mt_ob h
    refine go_getR hC mt_flX11_24 e4 dX11_cut_16 ?_
    refine go_iconst (v := 0) hC dX11_cut_19 (by decide) ?_
    obtain ⟨v5, e5, h⟩ := mt_ob h
    refine go_iald hC e5 dX11_cut_20 ?_
    refine go_aload_n hC 0 dX11_cut_21 rfl rfl ?_
    obtain ⟨v6, e6, h⟩ := mt_ob h
    refine go_getR hC mt_flX11_24 e6 dX11_cut_22 ?_
    refine go_iconst (v := 1) hC dX11_cut_25 (by decide) ?_
    obtain ⟨v7, e7, h⟩ := mt_ob h
    refine go_iald hC e7 dX11_cut_26 ?_
    refine go_iadd hC dX11_cut_27 ?_
    have g8 : ¬ (v5 + v7) = 0 := fun q => by rw [if_pos q] at h; cases h
    have h := mt_in' h g8
    refine go_irem hC dX11_cut_28 g8 ?_
    refine go_iconst (v := 1) hC dX11_cut_29 (by decide) ?_
    refine go_icmp_eq hC (tgt := 39) dX11_cut_30 (by decide) (fun hc => ?_) (fun hc => ?_)
    · have h := mt_ip h hc
      refine go_iload_n hC 1 dX11_cut_39 rfl rfl ?_
      exact go_iret hC (mt_rei h hE) dX11_cut_40
    · have h := mt_in' h hc
      refine go_iinc hC 1 [1, 0] (v := x1 + 1) (lv1 := [(0, mt_rf B x0), (1, .int (x1 + 1))]) dX11_cut_33 rfl rfl (by decide) rfl ?_
      refine go_goto hC (tgt := 7) dX11_cut_36 (by decide) ?_
      exact ih _ _ _ h
set_option maxHeartbeats 4000000 in
set_option maxRecDepth 100000 in
theorem ov_X11_cut_L7 {T : mt_S} {r : Int32} {S' : mt_S} : ∀ (n : Nat) (x0 : Nat) (x1 : Int32) (S : mt_S), mt_cp S T → f_X11_cut_L7 n x0 x1 S = some (r, S') → f_X11_cut_L7 n x0 x1 (mt_ov S T) = some (r, mt_ov S' T) ∧ mt_cp S' T := by
  intro n
  induction n with
  | zero =>
    intro x0 x1 S hp h
    cases h
  | succ n ih =>
    intro x0 x1 S hp h
    have h : f_X11_cut_L7s (f_X11_cut_L7 n) x0 x1 S = some (r, S') := h
    show f_X11_cut_L7s (f_X11_cut_L7 n) x0 x1 (mt_ov S T) = some (r, mt_ov S' T) ∧ mt_cp S' T
    unfold f_X11_cut_L7s at h ⊢
    obtain ⟨v2, e2, h⟩ := mt_ob h
    refine ov_b (ov_rR hp e2) ?_
    obtain ⟨v3, e3, h⟩ := mt_ob h
    refine ov_b (ov_aI hp e3) ?_
    obtain ⟨v4, e4, h⟩ := mt_ob h
    refine ov_b (ov_rR hp e4) ?_
    obtain ⟨v5, e5, h⟩ := mt_ob h
    refine ov_b (ov_aI hp e5) ?_
    obtain ⟨v6, e6, h⟩ := mt_ob h
    refine ov_b (ov_rR hp e6) ?_
    obtain ⟨v7, e7, h⟩ := mt_ob h
    refine ov_b (ov_aI hp e7) ?_
    have hz : ¬ (v5 + v7) = 0 := fun q => by rw [if_pos q] at h; cases h
    have h := mt_in' h hz
    refine ov_f hz ?_
    by_cases hc : ((x1 * v3) - (x1 * v3) / (v5 + v7) * (v5 + v7)) = 1
    · have h := mt_ip h hc
      refine ov_t hc ?_
      exact ov_ret hp h
    · have h := mt_in' h hc
      refine ov_f hc ?_
      exact ih _ _ _ hp h
def f_X11_cut (x0 : Nat) (S : mt_S) : Option (Int32 × mt_S) :=
  if mt_isK S x0 11 = true then
   Option.bind (mt_wI S x0 11 0 0) fun S1 =>
   f_X11_cut_L7 1000 x0 1 S1
  else none
theorem k_X11_cut {x0 : Nat} {S : mt_S} {r : Int32} {S' : mt_S} (h : f_X11_cut x0 S = some (r, S')) : mt_isK S x0 11 = true := by
  unfold f_X11_cut at h
  exact (mt_gd h).1
set_option maxHeartbeats 4000000 in
set_option maxRecDepth 100000 in
theorem m_X11_cut {B : mt_B}  {x0 : Nat} {S : mt_S} {r : Int32} {S' : mt_S} (h : f_X11_cut x0 S = some (r, S')) : mt_M B yX11_cut cX11_cut 2 (some .int) 1 [mt_rf B x0] S (some (.int r)) S' := by
  unfold f_X11_cut at h
  refine mt_M.of (by decide) (Nat.le_of_ble_eq_true rfl) (fun E hC hE => ?_)
  obtain ⟨hk0, h⟩ := mt_gd h
  refine go_aload_n hC 0 dX11_cut_0 rfl rfl ?_
  refine go_iconst (v := 0) hC dX11_cut_1 (by decide) ?_
  obtain ⟨S1, e1, h⟩ := mt_ob h
  refine go_putI hC mt_flX11_1 e1 dX11_cut_2 ?_
  refine go_iconst (v := 1) hC dX11_cut_5 (by decide) ?_
  refine go_istore_n hC [1, 0] (lv1 := [(0, mt_rf B x0), (1, .int 1)]) dX11_cut_6 rfl (by decide) rfl ?_
  exact m_X11_cut_L7 hC hE 1000 _ _ _ h
set_option maxHeartbeats 4000000 in
set_option maxRecDepth 100000 in
theorem ov_X11_cut {T : mt_S}  {x0 : Nat} {S : mt_S} {r : Int32} {S' : mt_S} (hp : mt_cp S T) (h : f_X11_cut x0 S = some (r, S')) : f_X11_cut x0 (mt_ov S T) = some (r, mt_ov S' T) ∧ mt_cp S' T := by
  unfold f_X11_cut at h ⊢
  obtain ⟨hg, h⟩ := mt_gd h
  refine ov_t (ov_K hp hg) ?_
  obtain ⟨S1, e1, h⟩ := mt_ob h
  obtain ⟨o_, hp⟩ := ov_wI hp e1
  refine ov_b o_ ?_
  exact ov_X11_cut_L7 1000 _ _ _ hp h
def f_X11_matrix (x0 : Nat) (x1 : Int32) (x2 : Int32) (S : mt_S) : Option (Int64 × mt_S) :=
  if mt_isK S x0 11 = true then
   Option.bind (mt_wI S x0 11 0 0) fun S1 =>
   mt_b2 (f_X11_isIn x1.toInt64 0 1 S1) fun v3 S2 =>
   if v3 = 0 then
    mt_b2 (f_X11_refuse x0 S2) fun v5 S4 =>
    some (v5.toInt64, S4)
   else
    mt_b2 (f_X11_isIn x2.toInt64 0 1 S2) fun v7 S6 =>
    if v7 = 0 then
     mt_b2 (f_X11_refuse x0 S6) fun v16 S15 =>
     some (v16.toInt64, S15)
    else
     Option.bind (mt_rR S6 x0 11 3) fun v8 =>
     Option.bind (mt_aI S6 v8 13 0) fun v9 =>
     Option.bind (mt_rR S6 x0 11 3) fun v10 =>
     Option.bind (mt_aI S6 v10 13 1) fun v11 =>
     Option.bind (f_X11_laysMatrix x0 v9 v11 S6) fun S12 =>
     Option.bind (mt_rR S12 x0 11 16) fun v13 =>
     Option.bind (mt_aL S12 v13 ((2 * x1) + x2)) fun v14 =>
     some (v14, S12)
  else none
theorem k_X11_matrix {x0 : Nat} {x1 : Int32} {x2 : Int32} {S : mt_S} {r : Int64} {S' : mt_S} (h : f_X11_matrix x0 x1 x2 S = some (r, S')) : mt_isK S x0 11 = true := by
  unfold f_X11_matrix at h
  exact (mt_gd h).1
set_option maxHeartbeats 4000000 in
set_option maxRecDepth 100000 in
theorem m_X11_matrix {B : mt_B}  {x0 : Nat} {x1 : Int32} {x2 : Int32} {S : mt_S} {r : Int64} {S' : mt_S} (h : f_X11_matrix x0 x1 x2 S = some (r, S')) : mt_M B yX11_matrix cX11_matrix 3 (some .long) 3 [mt_rf B x0, .int x1, .int x2] S (some (.long r)) S' := by
  unfold f_X11_matrix at h
  refine mt_M.of (by decide) (Nat.le_of_ble_eq_true rfl) (fun E hC hE => ?_)
  obtain ⟨hk0, h⟩ := mt_gd h
  refine go_aload_n hC 0 dX11_matrix_0 rfl rfl ?_
  refine go_iconst (v := 0) hC dX11_matrix_1 (by decide) ?_
  obtain ⟨S1, e1, h⟩ := mt_ob h
  refine go_putI hC mt_flX11_1 e1 dX11_matrix_2 ?_
  refine go_iload_n hC 1 dX11_matrix_5 rfl rfl ?_
  refine go_i2l hC dX11_matrix_6 ?_
  refine go_lconst (v := 0) hC dX11_matrix_7 (by decide) ?_
  refine go_lconst (v := 1) hC dX11_matrix_8 (by decide) ?_
  obtain ⟨v3, S2, e3, h⟩ := mt_ob2 h
  refine go_callSi hC [.long x1.toInt64, .long 0, .long 1] [] (m_X11_isIn e3) mt_csX11_91 dX11_matrix_9 rfl rfl (by decide) (Nat.le_of_ble_eq_true rfl) ⟨Nat.le_refl _, Nat.le_refl _⟩ ?_
  refine go_if_eq hC (tgt := 25) dX11_matrix_12 (by decide) (fun hc => ?_) (fun hc => ?_)
  · have h := mt_ip h hc
    refine go_aload_n hC 0 dX11_matrix_25 rfl rfl ?_
    obtain ⟨v5, S4, e5, h⟩ := mt_ob2 h
    refine go_callVi hC [] [] (m_X11_refuse e5) mt_cvX11_142 (k_X11_refuse e5) dX11_matrix_26 rfl rfl (by decide) (Nat.le_of_ble_eq_true rfl) ⟨Nat.le_refl _, Nat.le_refl _⟩ ?_
    refine go_i2l hC dX11_matrix_29 ?_
    exact go_lret hC (mt_rel h hE) dX11_matrix_30
  · have h := mt_in' h hc
    refine go_iload_n hC 2 dX11_matrix_15 rfl rfl ?_
    refine go_i2l hC dX11_matrix_16 ?_
    refine go_lconst (v := 0) hC dX11_matrix_17 (by decide) ?_
    refine go_lconst (v := 1) hC dX11_matrix_18 (by decide) ?_
    obtain ⟨v7, S6, e7, h⟩ := mt_ob2 h
    refine go_callSi hC [.long x2.toInt64, .long 0, .long 1] [] (m_X11_isIn e7) mt_csX11_91 dX11_matrix_19 rfl rfl (by decide) (Nat.le_of_ble_eq_true rfl) ⟨Nat.le_refl _, Nat.le_refl _⟩ ?_
    refine go_if_ne hC (tgt := 31) dX11_matrix_22 (by decide) (fun hc => ?_) (fun hc => ?_)
    · have h := mt_in' h hc
      refine go_aload_n hC 0 dX11_matrix_31 rfl rfl ?_
      refine go_aload_n hC 0 dX11_matrix_32 rfl rfl ?_
      obtain ⟨v8, e8, h⟩ := mt_ob h
      refine go_getR hC mt_flX11_24 e8 dX11_matrix_33 ?_
      refine go_iconst (v := 0) hC dX11_matrix_36 (by decide) ?_
      obtain ⟨v9, e9, h⟩ := mt_ob h
      refine go_iald hC e9 dX11_matrix_37 ?_
      refine go_aload_n hC 0 dX11_matrix_38 rfl rfl ?_
      obtain ⟨v10, e10, h⟩ := mt_ob h
      refine go_getR hC mt_flX11_24 e10 dX11_matrix_39 ?_
      refine go_iconst (v := 1) hC dX11_matrix_42 (by decide) ?_
      obtain ⟨v11, e11, h⟩ := mt_ob h
      refine go_iald hC e11 dX11_matrix_43 ?_
      obtain ⟨S12, e12, h⟩ := mt_ob h
      refine go_callVv hC [.int v9, .int v11] [] (m_X11_laysMatrix e12) mt_cvX11_131 (k_X11_laysMatrix e12) dX11_matrix_44 rfl rfl (by decide) (Nat.le_of_ble_eq_true rfl) ⟨Nat.le_refl _, Nat.le_refl _⟩ ?_
      refine go_aload_n hC 0 dX11_matrix_47 rfl rfl ?_
      obtain ⟨v13, e13, h⟩ := mt_ob h
      refine go_getR hC mt_flX11_46 e13 dX11_matrix_48 ?_
      refine go_iconst (v := 2) hC dX11_matrix_51 (by decide) ?_
      refine go_iload_n hC 1 dX11_matrix_52 rfl rfl ?_
      refine go_imul hC dX11_matrix_53 ?_
      refine go_iload_n hC 2 dX11_matrix_54 rfl rfl ?_
      refine go_iadd hC dX11_matrix_55 ?_
      obtain ⟨v14, e14, h⟩ := mt_ob h
      refine go_lald hC e14 dX11_matrix_56 ?_
      exact go_lret hC (mt_rel h hE) dX11_matrix_57
    · have h := mt_ip h hc
      refine go_aload_n hC 0 dX11_matrix_25 rfl rfl ?_
      obtain ⟨v16, S15, e16, h⟩ := mt_ob2 h
      refine go_callVi hC [] [] (m_X11_refuse e16) mt_cvX11_142 (k_X11_refuse e16) dX11_matrix_26 rfl rfl (by decide) (Nat.le_of_ble_eq_true rfl) ⟨Nat.le_refl _, Nat.le_refl _⟩ ?_
      refine go_i2l hC dX11_matrix_29 ?_
      exact go_lret hC (mt_rel h hE) dX11_matrix_30
set_option maxHeartbeats 4000000 in
set_option maxRecDepth 100000 in
theorem ov_X11_matrix {T : mt_S}  {x0 : Nat} {x1 : Int32} {x2 : Int32} {S : mt_S} {r : Int64} {S' : mt_S} (hp : mt_cp S T) (h : f_X11_matrix x0 x1 x2 S = some (r, S')) : f_X11_matrix x0 x1 x2 (mt_ov S T) = some (r, mt_ov S' T) ∧ mt_cp S' T := by
  unfold f_X11_matrix at h ⊢
  obtain ⟨hg, h⟩ := mt_gd h
  refine ov_t (ov_K hp hg) ?_
  obtain ⟨S1, e1, h⟩ := mt_ob h
  obtain ⟨o_, hp⟩ := ov_wI hp e1
  refine ov_b o_ ?_
  obtain ⟨v3, S2, e3, h⟩ := mt_ob2 h
  obtain ⟨o_, hp⟩ := ov_X11_isIn hp e3
  refine ov_b2 o_ ?_
  by_cases hc : v3 = 0
  · have h := mt_ip h hc
    refine ov_t hc ?_
    obtain ⟨v5, S4, e5, h⟩ := mt_ob2 h
    obtain ⟨o_, hp⟩ := ov_X11_refuse hp e5
    refine ov_b2 o_ ?_
    exact ov_ret hp h
  · have h := mt_in' h hc
    refine ov_f hc ?_
    obtain ⟨v7, S6, e7, h⟩ := mt_ob2 h
    obtain ⟨o_, hp⟩ := ov_X11_isIn hp e7
    refine ov_b2 o_ ?_
    by_cases hc : v7 = 0
    · have h := mt_ip h hc
      refine ov_t hc ?_
      obtain ⟨v16, S15, e16, h⟩ := mt_ob2 h
      obtain ⟨o_, hp⟩ := ov_X11_refuse hp e16
      refine ov_b2 o_ ?_
      exact ov_ret hp h
    · have h := mt_in' h hc
      refine ov_f hc ?_
      obtain ⟨v8, e8, h⟩ := mt_ob h
      refine ov_b (ov_rR hp e8) ?_
      obtain ⟨v9, e9, h⟩ := mt_ob h
      refine ov_b (ov_aI hp e9) ?_
      obtain ⟨v10, e10, h⟩ := mt_ob h
      refine ov_b (ov_rR hp e10) ?_
      obtain ⟨v11, e11, h⟩ := mt_ob h
      refine ov_b (ov_aI hp e11) ?_
      obtain ⟨S12, e12, h⟩ := mt_ob h
      obtain ⟨o_, hp⟩ := ov_X11_laysMatrix hp e12
      refine ov_b o_ ?_
      obtain ⟨v13, e13, h⟩ := mt_ob h
      refine ov_b (ov_rR hp e13) ?_
      obtain ⟨v14, e14, h⟩ := mt_ob h
      refine ov_b (ov_aL hp e14) ?_
      exact ov_ret hp h
def f_X11_laysForm_L84s (rc : Nat → Int64 → mt_S → Option (Int32 × mt_S)) (x0 : Nat) (x5 : Int64) (S : mt_S) : Option (Int32 × mt_S) :=
  if x5 ≤ 0 then
   some (1, S)
  else
   Option.bind (mt_rL S x0 11 21) fun v10 =>
   if 3037000499 < (v10 + x5) then
    rc x0 (x5 >>> ((1 : Int32).toInt64 &&& 63)) S
   else
    Option.bind (mt_rL S x0 11 21) fun v11 =>
    Option.bind (mt_rL S x0 11 21) fun v12 =>
    Option.bind (mt_rL S x0 11 20) fun v13 =>
    if v13 < ((v11 + x5) * (v12 + x5)) then
     rc x0 (x5 >>> ((1 : Int32).toInt64 &&& 63)) S
    else
     Option.bind (mt_rL S x0 11 21) fun v14 =>
     Option.bind (mt_wL S x0 11 21 (v14 + x5)) fun S15 =>
     rc x0 (x5 >>> ((1 : Int32).toInt64 &&& 63)) S15
def f_X11_laysForm_L84 : Nat → Nat → Int64 → mt_S → Option (Int32 × mt_S)
  | 0 => fun _ _ _ => none
  | n + 1 => f_X11_laysForm_L84s (f_X11_laysForm_L84 n)
set_option maxHeartbeats 4000000 in
set_option maxRecDepth 100000 in
theorem m_X11_laysForm_L84 {B : mt_B} {E : mt_E} {r : Int32} {S' : mt_S} (hC : mt_Cx B E cX11_laysForm RX11 (some .boolean) 7 5 0 0) (hE : mt_End B E (0, 0) (some (.int r)) S') : ∀ (n : Nat) (x0 : Nat) (x5 : Int64) (S : mt_S), f_X11_laysForm_L84 n x0 x5 S = some (r, S') → mt_Go B E (0, 0) S 84 [(0, mt_rf B x0), (5, .long x5)] [] := by
  intro n
  induction n with
  | zero =>
    intro x0 x5 S h
    cases h
  | succ n ih =>
    intro x0 x5 S h
    have h : f_X11_laysForm_L84s (f_X11_laysForm_L84 n) x0 x5 S = some (r, S') := h
    unfold f_X11_laysForm_L84s at h
    refine go_lload hC 1 dX11_laysForm_84 rfl ?_
    refine go_lconst (v := 0) hC dX11_laysForm_86 (by decide) ?_
    refine go_lcmp_le hC (tgt := 148) dX11_laysForm_87 dX11_laysForm_88 (by decide) (fun hc => ?_) (fun hc => ?_)
    · have h := mt_ip h hc
      refine go_iconst (v := 1) hC dX11_laysForm_148 (by decide) ?_
      exact go_zret hC (mt_rei h hE) (Or.inr rfl) dX11_laysForm_149
    · have h := mt_in' h hc
      refine go_aload_n hC 0 dX11_laysForm_91 rfl rfl ?_
      obtain ⟨v10, e10, h⟩ := mt_ob h
      refine go_getL hC mt_flX11_166 e10 dX11_laysForm_92 ?_
      refine go_lload hC 1 dX11_laysForm_95 rfl ?_
      refine go_ladd hC dX11_laysForm_97 ?_
      refine go_ldc2 hC dX11_laysForm_98 mt_kX11_171 ?_
      refine go_lcmp_gt hC (tgt := 139) dX11_laysForm_101 dX11_laysForm_102 (by decide) (fun hc => ?_) (fun hc => ?_)
      · have h := mt_ip h hc
        refine go_lload hC 1 dX11_laysForm_139 rfl ?_
        refine go_iconst (v := 1) hC dX11_laysForm_141 (by decide) ?_
        refine go_lshr hC dX11_laysForm_142 ?_
        refine go_lstore hC [1, 0] (lv1 := [(0, mt_rf B x0), (5, .long (x5 >>> ((1 : Int32).toInt64 &&& 63)))]) dX11_laysForm_143 (by decide) rfl ?_
        refine go_goto hC (tgt := 84) dX11_laysForm_145 (by decide) ?_
        exact ih _ _ _ h
      · have h := mt_in' h hc
        refine go_aload_n hC 0 dX11_laysForm_105 rfl rfl ?_
        obtain ⟨v11, e11, h⟩ := mt_ob h
        refine go_getL hC mt_flX11_166 e11 dX11_laysForm_106 ?_
        refine go_lload hC 1 dX11_laysForm_109 rfl ?_
        refine go_ladd hC dX11_laysForm_111 ?_
        refine go_aload_n hC 0 dX11_laysForm_112 rfl rfl ?_
        obtain ⟨v12, e12, h⟩ := mt_ob h
        refine go_getL hC mt_flX11_166 e12 dX11_laysForm_113 ?_
        refine go_lload hC 1 dX11_laysForm_116 rfl ?_
        refine go_ladd hC dX11_laysForm_118 ?_
        refine go_lmul hC dX11_laysForm_119 ?_
        refine go_aload_n hC 0 dX11_laysForm_120 rfl rfl ?_
        obtain ⟨v13, e13, h⟩ := mt_ob h
        refine go_getL hC mt_flX11_163 e13 dX11_laysForm_121 ?_
        refine go_lcmp_gt hC (tgt := 139) dX11_laysForm_124 dX11_laysForm_125 (by decide) (fun hc => ?_) (fun hc => ?_)
        · have h := mt_ip h hc
          refine go_lload hC 1 dX11_laysForm_139 rfl ?_
          refine go_iconst (v := 1) hC dX11_laysForm_141 (by decide) ?_
          refine go_lshr hC dX11_laysForm_142 ?_
          refine go_lstore hC [1, 0] (lv1 := [(0, mt_rf B x0), (5, .long (x5 >>> ((1 : Int32).toInt64 &&& 63)))]) dX11_laysForm_143 (by decide) rfl ?_
          refine go_goto hC (tgt := 84) dX11_laysForm_145 (by decide) ?_
          exact ih _ _ _ h
        · have h := mt_in' h hc
          refine go_aload_n hC 0 dX11_laysForm_128 rfl rfl ?_
          refine go_dup hC dX11_laysForm_129 rfl ?_
          obtain ⟨v14, e14, h⟩ := mt_ob h
          refine go_getL hC mt_flX11_166 e14 dX11_laysForm_130 ?_
          refine go_lload hC 1 dX11_laysForm_133 rfl ?_
          refine go_ladd hC dX11_laysForm_135 ?_
          obtain ⟨S15, e15, h⟩ := mt_ob h
          refine go_putL hC mt_flX11_166 e15 dX11_laysForm_136 ?_
          refine go_lload hC 1 dX11_laysForm_139 rfl ?_
          refine go_iconst (v := 1) hC dX11_laysForm_141 (by decide) ?_
          refine go_lshr hC dX11_laysForm_142 ?_
          refine go_lstore hC [1, 0] (lv1 := [(0, mt_rf B x0), (5, .long (x5 >>> ((1 : Int32).toInt64 &&& 63)))]) dX11_laysForm_143 (by decide) rfl ?_
          refine go_goto hC (tgt := 84) dX11_laysForm_145 (by decide) ?_
          exact ih _ _ _ h
set_option maxHeartbeats 4000000 in
set_option maxRecDepth 100000 in
theorem ov_X11_laysForm_L84 {T : mt_S} {r : Int32} {S' : mt_S} : ∀ (n : Nat) (x0 : Nat) (x5 : Int64) (S : mt_S), mt_cp S T → f_X11_laysForm_L84 n x0 x5 S = some (r, S') → f_X11_laysForm_L84 n x0 x5 (mt_ov S T) = some (r, mt_ov S' T) ∧ mt_cp S' T := by
  intro n
  induction n with
  | zero =>
    intro x0 x5 S hp h
    cases h
  | succ n ih =>
    intro x0 x5 S hp h
    have h : f_X11_laysForm_L84s (f_X11_laysForm_L84 n) x0 x5 S = some (r, S') := h
    show f_X11_laysForm_L84s (f_X11_laysForm_L84 n) x0 x5 (mt_ov S T) = some (r, mt_ov S' T) ∧ mt_cp S' T
    unfold f_X11_laysForm_L84s at h ⊢
    by_cases hc : x5 ≤ 0
    · have h := mt_ip h hc
      refine ov_t hc ?_
      exact ov_ret hp h
    · have h := mt_in' h hc
      refine ov_f hc ?_
      obtain ⟨v10, e10, h⟩ := mt_ob h
      refine ov_b (ov_rL hp e10) ?_
      by_cases hc : 3037000499 < (v10 + x5)
      · have h := mt_ip h hc
        refine ov_t hc ?_
        exact ih _ _ _ hp h
      · have h := mt_in' h hc
        refine ov_f hc ?_
        obtain ⟨v11, e11, h⟩ := mt_ob h
        refine ov_b (ov_rL hp e11) ?_
        obtain ⟨v12, e12, h⟩ := mt_ob h
        refine ov_b (ov_rL hp e12) ?_
        obtain ⟨v13, e13, h⟩ := mt_ob h
        refine ov_b (ov_rL hp e13) ?_
        by_cases hc : v13 < ((v11 + x5) * (v12 + x5))
        · have h := mt_ip h hc
          refine ov_t hc ?_
          exact ih _ _ _ hp h
        · have h := mt_in' h hc
          refine ov_f hc ?_
          obtain ⟨v14, e14, h⟩ := mt_ob h
          refine ov_b (ov_rL hp e14) ?_
          obtain ⟨S15, e15, h⟩ := mt_ob h
          obtain ⟨o_, hp⟩ := ov_wL hp e15
          refine ov_b o_ ?_
          exact ih _ _ _ hp h
def f_X11_laysForm (x0 : Nat) (S : mt_S) : Option (Int32 × mt_S) :=
  if mt_isK S x0 11 = true then
   mt_b2 (f_X11_number x0 S) fun v2 S1 =>
   if v2 ≤ 1000000000 then
    Option.bind (mt_rR S1 x0 11 16) fun v3 =>
    Option.bind (mt_aL S1 v3 3) fun v4 =>
    Option.bind (mt_wL S1 x0 11 17 v2) fun S5 =>
    Option.bind (mt_wL S5 x0 11 18 ((3 * v2) - (2 * v4))) fun S6 =>
    if v2 = 0 then none else
    Option.bind (mt_wL S6 x0 11 19 ((((v4 * v4) + 1) / v2) - (3 * v4))) fun S7 =>
    Option.bind (mt_wL S7 x0 11 20 (((9 * v2) * v2) - 4)) fun S8 =>
    Option.bind (mt_wL S8 x0 11 21 0) fun S9 =>
    f_X11_laysForm_L84 1000 x0 2147483648 S9
   else
    some (0, S1)
  else none
theorem k_X11_laysForm {x0 : Nat} {S : mt_S} {r : Int32} {S' : mt_S} (h : f_X11_laysForm x0 S = some (r, S')) : mt_isK S x0 11 = true := by
  unfold f_X11_laysForm at h
  exact (mt_gd h).1
set_option maxHeartbeats 4000000 in
set_option maxRecDepth 100000 in
theorem m_X11_laysForm {B : mt_B}  {x0 : Nat} {S : mt_S} {r : Int32} {S' : mt_S} (h : f_X11_laysForm x0 S = some (r, S')) : mt_M B yX11_laysForm cX11_laysForm 7 (some .boolean) 5 [mt_rf B x0] S (some (.int r)) S' := by
  unfold f_X11_laysForm at h
  refine mt_M.of (by decide) (Nat.le_of_ble_eq_true rfl) (fun E hC hE => ?_)
  obtain ⟨hk0, h⟩ := mt_gd h
  refine go_aload_n hC 0 dX11_laysForm_0 rfl rfl ?_
  obtain ⟨v2, S1, e2, h⟩ := mt_ob2 h
  refine go_callVl hC [] [] (m_X11_number e2) mt_cvX11_138 (k_X11_number e2) dX11_laysForm_1 rfl rfl (by decide) (Nat.le_of_ble_eq_true rfl) ⟨Nat.le_refl _, Nat.le_refl _⟩ ?_
  refine go_lstore_n hC [1, 0] (lv1 := [(0, mt_rf B x0), (1, .long v2)]) dX11_laysForm_4 rfl (by decide) rfl ?_
  refine go_lload_n hC 1 dX11_laysForm_5 rfl rfl ?_
  refine go_ldc2 hC dX11_laysForm_6 mt_kX11_145 ?_
  refine go_lcmp_le hC (tgt := 15) dX11_laysForm_9 dX11_laysForm_10 (by decide) (fun hc => ?_) (fun hc => ?_)
  · have h := mt_ip h hc
    refine go_aload_n hC 0 dX11_laysForm_15 rfl rfl ?_
    obtain ⟨v3, e3, h⟩ := mt_ob h
    refine go_getR hC mt_flX11_46 e3 dX11_laysForm_16 ?_
    refine go_iconst (v := 3) hC dX11_laysForm_19 (by decide) ?_
    obtain ⟨v4, e4, h⟩ := mt_ob h
    refine go_lald hC e4 dX11_laysForm_20 ?_
    refine go_lstore_n hC [1, 2, 0] (lv1 := [(0, mt_rf B x0), (1, .long v2), (3, .long v4)]) dX11_laysForm_21 rfl (by decide) rfl ?_
    refine go_aload_n hC 0 dX11_laysForm_22 rfl rfl ?_
    refine go_lload_n hC 1 dX11_laysForm_23 rfl rfl ?_
    obtain ⟨S5, e5, h⟩ := mt_ob h
    refine go_putL hC mt_flX11_147 e5 dX11_laysForm_24 ?_
    refine go_aload_n hC 0 dX11_laysForm_27 rfl rfl ?_
    refine go_ldc2 hC dX11_laysForm_28 mt_kX11_151 ?_
    refine go_lload_n hC 1 dX11_laysForm_31 rfl rfl ?_
    refine go_lmul hC dX11_laysForm_32 ?_
    refine go_ldc2 hC dX11_laysForm_33 mt_kX11_127 ?_
    refine go_lload_n hC 2 dX11_laysForm_36 rfl rfl ?_
    refine go_lmul hC dX11_laysForm_37 ?_
    refine go_lsub hC dX11_laysForm_38 ?_
    obtain ⟨S6, e6, h⟩ := mt_ob h
    refine go_putL hC mt_flX11_153 e6 dX11_laysForm_39 ?_
    refine go_aload_n hC 0 dX11_laysForm_42 rfl rfl ?_
    refine go_lload_n hC 2 dX11_laysForm_43 rfl rfl ?_
    refine go_lload_n hC 2 dX11_laysForm_44 rfl rfl ?_
    refine go_lmul hC dX11_laysForm_45 ?_
    refine go_lconst (v := 1) hC dX11_laysForm_46 (by decide) ?_
    refine go_ladd hC dX11_laysForm_47 ?_
    refine go_lload_n hC 1 dX11_laysForm_48 rfl rfl ?_
    have g16 : ¬ v2 = 0 := fun q => by rw [if_pos q] at h; cases h
    have h := mt_in' h g16
    refine go_ldiv hC dX11_laysForm_49 g16 ?_
    refine go_ldc2 hC dX11_laysForm_50 mt_kX11_151 ?_
    refine go_lload_n hC 2 dX11_laysForm_53 rfl rfl ?_
    refine go_lmul hC dX11_laysForm_54 ?_
    refine go_lsub hC dX11_laysForm_55 ?_
    obtain ⟨S7, e7, h⟩ := mt_ob h
    refine go_putL hC mt_flX11_156 e7 dX11_laysForm_56 ?_
    refine go_aload_n hC 0 dX11_laysForm_59 rfl rfl ?_
    refine go_ldc2 hC dX11_laysForm_60 mt_kX11_159 ?_
    refine go_lload_n hC 1 dX11_laysForm_63 rfl rfl ?_
    refine go_lmul hC dX11_laysForm_64 ?_
    refine go_lload_n hC 1 dX11_laysForm_65 rfl rfl ?_
    refine go_lmul hC dX11_laysForm_66 ?_
    refine go_ldc2 hC dX11_laysForm_67 mt_kX11_161 ?_
    refine go_lsub hC dX11_laysForm_70 ?_
    obtain ⟨S8, e8, h⟩ := mt_ob h
    refine go_putL hC mt_flX11_163 e8 dX11_laysForm_71 ?_
    refine go_aload_n hC 0 dX11_laysForm_74 rfl rfl ?_
    refine go_lconst (v := 0) hC dX11_laysForm_75 (by decide) ?_
    obtain ⟨S9, e9, h⟩ := mt_ob h
    refine go_putL hC mt_flX11_166 e9 dX11_laysForm_76 ?_
    refine go_ldc2 hC dX11_laysForm_79 mt_kX11_169 ?_
    refine go_lstore hC [1, 2, 3, 0] (lv1 := [(0, mt_rf B x0), (1, .long v2), (3, .long v4), (5, .long 2147483648)]) dX11_laysForm_82 (by decide) rfl ?_
    refine go_sub [0, 3] (lv1 := [(0, mt_rf B x0), (5, .long 2147483648)]) rfl ?_
    exact m_X11_laysForm_L84 hC hE 1000 _ _ _ h
  · have h := mt_in' h hc
    refine go_iconst (v := 0) hC dX11_laysForm_13 (by decide) ?_
    exact go_zret hC (mt_rei h hE) (Or.inl rfl) dX11_laysForm_14
set_option maxHeartbeats 4000000 in
set_option maxRecDepth 100000 in
theorem ov_X11_laysForm {T : mt_S}  {x0 : Nat} {S : mt_S} {r : Int32} {S' : mt_S} (hp : mt_cp S T) (h : f_X11_laysForm x0 S = some (r, S')) : f_X11_laysForm x0 (mt_ov S T) = some (r, mt_ov S' T) ∧ mt_cp S' T := by
  unfold f_X11_laysForm at h ⊢
  obtain ⟨hg, h⟩ := mt_gd h
  refine ov_t (ov_K hp hg) ?_
  obtain ⟨v2, S1, e2, h⟩ := mt_ob2 h
  obtain ⟨o_, hp⟩ := ov_X11_number hp e2
  refine ov_b2 o_ ?_
  by_cases hc : v2 ≤ 1000000000
  · have h := mt_ip h hc
    refine ov_t hc ?_
    obtain ⟨v3, e3, h⟩ := mt_ob h
    refine ov_b (ov_rR hp e3) ?_
    obtain ⟨v4, e4, h⟩ := mt_ob h
    refine ov_b (ov_aL hp e4) ?_
    obtain ⟨S5, e5, h⟩ := mt_ob h
    obtain ⟨o_, hp⟩ := ov_wL hp e5
    refine ov_b o_ ?_
    obtain ⟨S6, e6, h⟩ := mt_ob h
    obtain ⟨o_, hp⟩ := ov_wL hp e6
    refine ov_b o_ ?_
    have hz : ¬ v2 = 0 := fun q => by rw [if_pos q] at h; cases h
    have h := mt_in' h hz
    refine ov_f hz ?_
    obtain ⟨S7, e7, h⟩ := mt_ob h
    obtain ⟨o_, hp⟩ := ov_wL hp e7
    refine ov_b o_ ?_
    obtain ⟨S8, e8, h⟩ := mt_ob h
    obtain ⟨o_, hp⟩ := ov_wL hp e8
    refine ov_b o_ ?_
    obtain ⟨S9, e9, h⟩ := mt_ob h
    obtain ⟨o_, hp⟩ := ov_wL hp e9
    refine ov_b o_ ?_
    exact ov_X11_laysForm_L84 1000 _ _ _ hp h
  · have h := mt_in' h hc
    refine ov_f hc ?_
    exact ov_ret hp h
def f_X11_form (x0 : Nat) (x1 : Int32) (S : mt_S) : Option (Int64 × mt_S) :=
  if mt_isK S x0 11 = true then
   Option.bind (mt_wI S x0 11 0 0) fun S1 =>
   mt_b2 (f_X11_isIn x1.toInt64 0 2 S1) fun v3 S2 =>
   if v3 = 0 then
    mt_b2 (f_X11_refuse x0 S2) fun v5 S4 =>
    some (v5.toInt64, S4)
   else
    mt_b2 (f_X11_laysForm x0 S2) fun v7 S6 =>
    if v7 = 0 then
     mt_b2 (f_X11_refuse x0 S6) fun v12 S11 =>
     some (v12.toInt64, S11)
    else
    if x1 = 0 then
     Option.bind (mt_rL S6 x0 11 17) fun v10 =>
     some (v10, S6)
    else
    if x1 = 1 then
     Option.bind (mt_rL S6 x0 11 18) fun v9 =>
     some (v9, S6)
    else
     Option.bind (mt_rL S6 x0 11 19) fun v8 =>
     some (v8, S6)
  else none
theorem k_X11_form {x0 : Nat} {x1 : Int32} {S : mt_S} {r : Int64} {S' : mt_S} (h : f_X11_form x0 x1 S = some (r, S')) : mt_isK S x0 11 = true := by
  unfold f_X11_form at h
  exact (mt_gd h).1
set_option maxHeartbeats 4000000 in
set_option maxRecDepth 100000 in
theorem m_X11_form {B : mt_B}  {x0 : Nat} {x1 : Int32} {S : mt_S} {r : Int64} {S' : mt_S} (h : f_X11_form x0 x1 S = some (r, S')) : mt_M B yX11_form cX11_form 2 (some .long) 6 [mt_rf B x0, .int x1] S (some (.long r)) S' := by
  unfold f_X11_form at h
  refine mt_M.of (by decide) (Nat.le_of_ble_eq_true rfl) (fun E hC hE => ?_)
  obtain ⟨hk0, h⟩ := mt_gd h
  refine go_aload_n hC 0 dX11_form_0 rfl rfl ?_
  refine go_iconst (v := 0) hC dX11_form_1 (by decide) ?_
  obtain ⟨S1, e1, h⟩ := mt_ob h
  refine go_putI hC mt_flX11_1 e1 dX11_form_2 ?_
  refine go_iload_n hC 1 dX11_form_5 rfl rfl ?_
  refine go_i2l hC dX11_form_6 ?_
  refine go_lconst (v := 0) hC dX11_form_7 (by decide) ?_
  refine go_ldc2 hC dX11_form_8 mt_kX11_127 ?_
  obtain ⟨v3, S2, e3, h⟩ := mt_ob2 h
  refine go_callSi hC [.long x1.toInt64, .long 0, .long 2] [] (m_X11_isIn e3) mt_csX11_91 dX11_form_11 rfl rfl (by decide) (Nat.le_of_ble_eq_true rfl) ⟨Nat.le_refl _, Nat.le_refl _⟩ ?_
  refine go_if_eq hC (tgt := 24) dX11_form_14 (by decide) (fun hc => ?_) (fun hc => ?_)
  · have h := mt_ip h hc
    refine go_aload_n hC 0 dX11_form_24 rfl rfl ?_
    obtain ⟨v5, S4, e5, h⟩ := mt_ob2 h
    refine go_callVi hC [] [] (m_X11_refuse e5) mt_cvX11_142 (k_X11_refuse e5) dX11_form_25 rfl rfl (by decide) (Nat.le_of_ble_eq_true rfl) ⟨Nat.le_refl _, Nat.le_refl _⟩ ?_
    refine go_i2l hC dX11_form_28 ?_
    exact go_lret hC (mt_rel h hE) dX11_form_29
  · have h := mt_in' h hc
    refine go_aload_n hC 0 dX11_form_17 rfl rfl ?_
    obtain ⟨v7, S6, e7, h⟩ := mt_ob2 h
    refine go_callVi hC [] [] (m_X11_laysForm e7) mt_cvX11_173 (k_X11_laysForm e7) dX11_form_18 rfl rfl (by decide) (Nat.le_of_ble_eq_true rfl) ⟨Nat.le_refl _, Nat.le_refl _⟩ ?_
    refine go_if_ne hC (tgt := 30) dX11_form_21 (by decide) (fun hc => ?_) (fun hc => ?_)
    · have h := mt_in' h hc
      refine go_iload_n hC 1 dX11_form_30 rfl rfl ?_
      refine go_if_ne hC (tgt := 41) dX11_form_31 (by decide) (fun hc => ?_) (fun hc => ?_)
      · have h := mt_in' h hc
        refine go_iload_n hC 1 dX11_form_41 rfl rfl ?_
        refine go_iconst (v := 1) hC dX11_form_42 (by decide) ?_
        refine go_icmp_ne hC (tgt := 53) dX11_form_43 (by decide) (fun hc => ?_) (fun hc => ?_)
        · have h := mt_in' h hc
          refine go_aload_n hC 0 dX11_form_53 rfl rfl ?_
          obtain ⟨v8, e8, h⟩ := mt_ob h
          refine go_getL hC mt_flX11_156 e8 dX11_form_54 ?_
          exact go_lret hC (mt_rel h hE) dX11_form_57
        · have h := mt_ip h hc
          refine go_aload_n hC 0 dX11_form_46 rfl rfl ?_
          obtain ⟨v9, e9, h⟩ := mt_ob h
          refine go_getL hC mt_flX11_153 e9 dX11_form_47 ?_
          refine go_goto hC (tgt := 57) dX11_form_50 (by decide) ?_
          exact go_lret hC (mt_rel h hE) dX11_form_57
      · have h := mt_ip h hc
        refine go_aload_n hC 0 dX11_form_34 rfl rfl ?_
        obtain ⟨v10, e10, h⟩ := mt_ob h
        refine go_getL hC mt_flX11_147 e10 dX11_form_35 ?_
        refine go_goto hC (tgt := 57) dX11_form_38 (by decide) ?_
        exact go_lret hC (mt_rel h hE) dX11_form_57
    · have h := mt_ip h hc
      refine go_aload_n hC 0 dX11_form_24 rfl rfl ?_
      obtain ⟨v12, S11, e12, h⟩ := mt_ob2 h
      refine go_callVi hC [] [] (m_X11_refuse e12) mt_cvX11_142 (k_X11_refuse e12) dX11_form_25 rfl rfl (by decide) (Nat.le_of_ble_eq_true rfl) ⟨Nat.le_refl _, Nat.le_refl _⟩ ?_
      refine go_i2l hC dX11_form_28 ?_
      exact go_lret hC (mt_rel h hE) dX11_form_29
set_option maxHeartbeats 4000000 in
set_option maxRecDepth 100000 in
theorem ov_X11_form {T : mt_S}  {x0 : Nat} {x1 : Int32} {S : mt_S} {r : Int64} {S' : mt_S} (hp : mt_cp S T) (h : f_X11_form x0 x1 S = some (r, S')) : f_X11_form x0 x1 (mt_ov S T) = some (r, mt_ov S' T) ∧ mt_cp S' T := by
  unfold f_X11_form at h ⊢
  obtain ⟨hg, h⟩ := mt_gd h
  refine ov_t (ov_K hp hg) ?_
  obtain ⟨S1, e1, h⟩ := mt_ob h
  obtain ⟨o_, hp⟩ := ov_wI hp e1
  refine ov_b o_ ?_
  obtain ⟨v3, S2, e3, h⟩ := mt_ob2 h
  obtain ⟨o_, hp⟩ := ov_X11_isIn hp e3
  refine ov_b2 o_ ?_
  by_cases hc : v3 = 0
  · have h := mt_ip h hc
    refine ov_t hc ?_
    obtain ⟨v5, S4, e5, h⟩ := mt_ob2 h
    obtain ⟨o_, hp⟩ := ov_X11_refuse hp e5
    refine ov_b2 o_ ?_
    exact ov_ret hp h
  · have h := mt_in' h hc
    refine ov_f hc ?_
    obtain ⟨v7, S6, e7, h⟩ := mt_ob2 h
    obtain ⟨o_, hp⟩ := ov_X11_laysForm hp e7
    refine ov_b2 o_ ?_
    by_cases hc : v7 = 0
    · have h := mt_ip h hc
      refine ov_t hc ?_
      obtain ⟨v12, S11, e12, h⟩ := mt_ob2 h
      obtain ⟨o_, hp⟩ := ov_X11_refuse hp e12
      refine ov_b2 o_ ?_
      exact ov_ret hp h
    · have h := mt_in' h hc
      refine ov_f hc ?_
      by_cases hc : x1 = 0
      · have h := mt_ip h hc
        refine ov_t hc ?_
        obtain ⟨v10, e10, h⟩ := mt_ob h
        refine ov_b (ov_rL hp e10) ?_
        exact ov_ret hp h
      · have h := mt_in' h hc
        refine ov_f hc ?_
        by_cases hc : x1 = 1
        · have h := mt_ip h hc
          refine ov_t hc ?_
          obtain ⟨v9, e9, h⟩ := mt_ob h
          refine ov_b (ov_rL hp e9) ?_
          exact ov_ret hp h
        · have h := mt_in' h hc
          refine ov_f hc ?_
          obtain ⟨v8, e8, h⟩ := mt_ob h
          refine ov_b (ov_rL hp e8) ?_
          exact ov_ret hp h
def f_X11_value (x0 : Nat) (x1 : Int32) (x2 : Int32) (S : mt_S) : Option (Int64 × mt_S) :=
  if mt_isK S x0 11 = true then
   Option.bind (mt_wI S x0 11 0 0) fun S1 =>
   mt_b2 (f_X11_isIn x1.toInt64 (-999) 999 S1) fun v3 S2 =>
   if v3 = 0 then
    some ((-1000000000000000000), S2)
   else
    mt_b2 (f_X11_isIn x2.toInt64 (-999) 999 S2) fun v5 S4 =>
    if v5 = 0 then
     some ((-1000000000000000000), S4)
    else
     mt_b2 (f_X11_laysForm x0 S4) fun v7 S6 =>
     if v7 = 0 then
      some ((-1000000000000000000), S6)
     else
      Option.bind (mt_rL S6 x0 11 17) fun v8 =>
      Option.bind (mt_rL S6 x0 11 18) fun v9 =>
      Option.bind (mt_rL S6 x0 11 19) fun v10 =>
      some ((((v8 * x1.toInt64) * x1.toInt64) + ((v9 * x1.toInt64) * x2.toInt64)) + ((v10 * x2.toInt64) * x2.toInt64), S6)
  else none
theorem k_X11_value {x0 : Nat} {x1 : Int32} {x2 : Int32} {S : mt_S} {r : Int64} {S' : mt_S} (h : f_X11_value x0 x1 x2 S = some (r, S')) : mt_isK S x0 11 = true := by
  unfold f_X11_value at h
  exact (mt_gd h).1
set_option maxHeartbeats 4000000 in
set_option maxRecDepth 100000 in
theorem m_X11_value {B : mt_B}  {x0 : Nat} {x1 : Int32} {x2 : Int32} {S : mt_S} {r : Int64} {S' : mt_S} (h : f_X11_value x0 x1 x2 S = some (r, S')) : mt_M B yX11_value cX11_value 3 (some .long) 6 [mt_rf B x0, .int x1, .int x2] S (some (.long r)) S' := by
  unfold f_X11_value at h
  refine mt_M.of (by decide) (Nat.le_of_ble_eq_true rfl) (fun E hC hE => ?_)
  obtain ⟨hk0, h⟩ := mt_gd h
  refine go_aload_n hC 0 dX11_value_0 rfl rfl ?_
  refine go_iconst (v := 0) hC dX11_value_1 (by decide) ?_
  obtain ⟨S1, e1, h⟩ := mt_ob h
  refine go_putI hC mt_flX11_1 e1 dX11_value_2 ?_
  refine go_iload_n hC 1 dX11_value_5 rfl rfl ?_
  refine go_i2l hC dX11_value_6 ?_
  refine go_ldc2 hC dX11_value_7 mt_kX11_177 ?_
  refine go_ldc2 hC dX11_value_10 mt_kX11_179 ?_
  obtain ⟨v3, S2, e3, h⟩ := mt_ob2 h
  refine go_callSi hC [.long x1.toInt64, .long (-999), .long 999] [] (m_X11_isIn e3) mt_csX11_91 dX11_value_13 rfl rfl (by decide) (Nat.le_of_ble_eq_true rfl) ⟨Nat.le_refl _, Nat.le_refl _⟩ ?_
  refine go_if_eq hC (tgt := 40) dX11_value_16 (by decide) (fun hc => ?_) (fun hc => ?_)
  · have h := mt_ip h hc
    refine go_ldc2 hC dX11_value_40 mt_kX11_181 ?_
    exact go_lret hC (mt_rel h hE) dX11_value_43
  · have h := mt_in' h hc
    refine go_iload_n hC 2 dX11_value_19 rfl rfl ?_
    refine go_i2l hC dX11_value_20 ?_
    refine go_ldc2 hC dX11_value_21 mt_kX11_177 ?_
    refine go_ldc2 hC dX11_value_24 mt_kX11_179 ?_
    obtain ⟨v5, S4, e5, h⟩ := mt_ob2 h
    refine go_callSi hC [.long x2.toInt64, .long (-999), .long 999] [] (m_X11_isIn e5) mt_csX11_91 dX11_value_27 rfl rfl (by decide) (Nat.le_of_ble_eq_true rfl) ⟨Nat.le_refl _, Nat.le_refl _⟩ ?_
    refine go_if_eq hC (tgt := 40) dX11_value_30 (by decide) (fun hc => ?_) (fun hc => ?_)
    · have h := mt_ip h hc
      refine go_ldc2 hC dX11_value_40 mt_kX11_181 ?_
      exact go_lret hC (mt_rel h hE) dX11_value_43
    · have h := mt_in' h hc
      refine go_aload_n hC 0 dX11_value_33 rfl rfl ?_
      obtain ⟨v7, S6, e7, h⟩ := mt_ob2 h
      refine go_callVi hC [] [] (m_X11_laysForm e7) mt_cvX11_173 (k_X11_laysForm e7) dX11_value_34 rfl rfl (by decide) (Nat.le_of_ble_eq_true rfl) ⟨Nat.le_refl _, Nat.le_refl _⟩ ?_
      refine go_if_ne hC (tgt := 44) dX11_value_37 (by decide) (fun hc => ?_) (fun hc => ?_)
      · have h := mt_in' h hc
        refine go_aload_n hC 0 dX11_value_44 rfl rfl ?_
        obtain ⟨v8, e8, h⟩ := mt_ob h
        refine go_getL hC mt_flX11_147 e8 dX11_value_45 ?_
        refine go_iload_n hC 1 dX11_value_48 rfl rfl ?_
        refine go_i2l hC dX11_value_49 ?_
        refine go_lmul hC dX11_value_50 ?_
        refine go_iload_n hC 1 dX11_value_51 rfl rfl ?_
        refine go_i2l hC dX11_value_52 ?_
        refine go_lmul hC dX11_value_53 ?_
        refine go_aload_n hC 0 dX11_value_54 rfl rfl ?_
        obtain ⟨v9, e9, h⟩ := mt_ob h
        refine go_getL hC mt_flX11_153 e9 dX11_value_55 ?_
        refine go_iload_n hC 1 dX11_value_58 rfl rfl ?_
        refine go_i2l hC dX11_value_59 ?_
        refine go_lmul hC dX11_value_60 ?_
        refine go_iload_n hC 2 dX11_value_61 rfl rfl ?_
        refine go_i2l hC dX11_value_62 ?_
        refine go_lmul hC dX11_value_63 ?_
        refine go_ladd hC dX11_value_64 ?_
        refine go_aload_n hC 0 dX11_value_65 rfl rfl ?_
        obtain ⟨v10, e10, h⟩ := mt_ob h
        refine go_getL hC mt_flX11_156 e10 dX11_value_66 ?_
        refine go_iload_n hC 2 dX11_value_69 rfl rfl ?_
        refine go_i2l hC dX11_value_70 ?_
        refine go_lmul hC dX11_value_71 ?_
        refine go_iload_n hC 2 dX11_value_72 rfl rfl ?_
        refine go_i2l hC dX11_value_73 ?_
        refine go_lmul hC dX11_value_74 ?_
        refine go_ladd hC dX11_value_75 ?_
        exact go_lret hC (mt_rel h hE) dX11_value_76
      · have h := mt_ip h hc
        refine go_ldc2 hC dX11_value_40 mt_kX11_181 ?_
        exact go_lret hC (mt_rel h hE) dX11_value_43
set_option maxHeartbeats 4000000 in
set_option maxRecDepth 100000 in
theorem ov_X11_value {T : mt_S}  {x0 : Nat} {x1 : Int32} {x2 : Int32} {S : mt_S} {r : Int64} {S' : mt_S} (hp : mt_cp S T) (h : f_X11_value x0 x1 x2 S = some (r, S')) : f_X11_value x0 x1 x2 (mt_ov S T) = some (r, mt_ov S' T) ∧ mt_cp S' T := by
  unfold f_X11_value at h ⊢
  obtain ⟨hg, h⟩ := mt_gd h
  refine ov_t (ov_K hp hg) ?_
  obtain ⟨S1, e1, h⟩ := mt_ob h
  obtain ⟨o_, hp⟩ := ov_wI hp e1
  refine ov_b o_ ?_
  obtain ⟨v3, S2, e3, h⟩ := mt_ob2 h
  obtain ⟨o_, hp⟩ := ov_X11_isIn hp e3
  refine ov_b2 o_ ?_
  by_cases hc : v3 = 0
  · have h := mt_ip h hc
    refine ov_t hc ?_
    exact ov_ret hp h
  · have h := mt_in' h hc
    refine ov_f hc ?_
    obtain ⟨v5, S4, e5, h⟩ := mt_ob2 h
    obtain ⟨o_, hp⟩ := ov_X11_isIn hp e5
    refine ov_b2 o_ ?_
    by_cases hc : v5 = 0
    · have h := mt_ip h hc
      refine ov_t hc ?_
      exact ov_ret hp h
    · have h := mt_in' h hc
      refine ov_f hc ?_
      obtain ⟨v7, S6, e7, h⟩ := mt_ob2 h
      obtain ⟨o_, hp⟩ := ov_X11_laysForm hp e7
      refine ov_b2 o_ ?_
      by_cases hc : v7 = 0
      · have h := mt_ip h hc
        refine ov_t hc ?_
        exact ov_ret hp h
      · have h := mt_in' h hc
        refine ov_f hc ?_
        obtain ⟨v8, e8, h⟩ := mt_ob h
        refine ov_b (ov_rL hp e8) ?_
        obtain ⟨v9, e9, h⟩ := mt_ob h
        refine ov_b (ov_rL hp e9) ?_
        obtain ⟨v10, e10, h⟩ := mt_ob h
        refine ov_b (ov_rL hp e10) ?_
        exact ov_ret hp h
def f_X11_formOn (x0 : Nat) (S : mt_S) : Option (mt_S) :=
  if mt_isK S x0 11 = true then
   Option.bind (mt_rL S x0 11 19) fun v1 =>
   if 0 ≤ v1 then
    Option.bind (mt_rL S x0 11 19) fun v2 =>
    Option.bind (mt_rL S x0 11 21) fun v3 =>
    Option.bind (mt_rL S x0 11 18) fun v4 =>
    if (2 * v2) = 0 then none else
    if 0 ≤ ((v3 + v4) - (v3 + v4) / (2 * v2) * (2 * v2)) then
     Option.bind (mt_rL S x0 11 21) fun v5 =>
     Option.bind (mt_rL S x0 11 20) fun v6 =>
     Option.bind (mt_rL S x0 11 19) fun v7 =>
     if (4 * v7) = 0 then none else
     Option.bind (mt_rL S x0 11 19) fun v8 =>
     Option.bind (mt_wL S x0 11 17 v8) fun S9 =>
     Option.bind (mt_wL S9 x0 11 18 (v5 - ((v3 + v4) - (v3 + v4) / (2 * v2) * (2 * v2)))) fun S10 =>
     Option.bind (mt_wL S10 x0 11 19 ((((v5 - ((v3 + v4) - (v3 + v4) / (2 * v2) * (2 * v2))) * (v5 - ((v3 + v4) - (v3 + v4) / (2 * v2) * (2 * v2)))) - v6) / (4 * v7))) fun S11 =>
     some S11
    else
     Option.bind (mt_rL S x0 11 21) fun v13 =>
     Option.bind (mt_rL S x0 11 20) fun v14 =>
     Option.bind (mt_rL S x0 11 19) fun v15 =>
     if (4 * v15) = 0 then none else
     Option.bind (mt_rL S x0 11 19) fun v16 =>
     Option.bind (mt_wL S x0 11 17 v16) fun S17 =>
     Option.bind (mt_wL S17 x0 11 18 (v13 - (((v3 + v4) - (v3 + v4) / (2 * v2) * (2 * v2)) + (2 * v2)))) fun S18 =>
     Option.bind (mt_wL S18 x0 11 19 ((((v13 - (((v3 + v4) - (v3 + v4) / (2 * v2) * (2 * v2)) + (2 * v2))) * (v13 - (((v3 + v4) - (v3 + v4) / (2 * v2) * (2 * v2)) + (2 * v2)))) - v14) / (4 * v15))) fun S19 =>
     some S19
   else
    Option.bind (mt_rL S x0 11 19) fun v22 =>
    Option.bind (mt_rL S x0 11 21) fun v23 =>
    Option.bind (mt_rL S x0 11 18) fun v24 =>
    if (2 * (-v22)) = 0 then none else
    if 0 ≤ ((v23 + v24) - (v23 + v24) / (2 * (-v22)) * (2 * (-v22))) then
     Option.bind (mt_rL S x0 11 21) fun v25 =>
     Option.bind (mt_rL S x0 11 20) fun v26 =>
     Option.bind (mt_rL S x0 11 19) fun v27 =>
     if (4 * v27) = 0 then none else
     Option.bind (mt_rL S x0 11 19) fun v28 =>
     Option.bind (mt_wL S x0 11 17 v28) fun S29 =>
     Option.bind (mt_wL S29 x0 11 18 (v25 - ((v23 + v24) - (v23 + v24) / (2 * (-v22)) * (2 * (-v22))))) fun S30 =>
     Option.bind (mt_wL S30 x0 11 19 ((((v25 - ((v23 + v24) - (v23 + v24) / (2 * (-v22)) * (2 * (-v22)))) * (v25 - ((v23 + v24) - (v23 + v24) / (2 * (-v22)) * (2 * (-v22))))) - v26) / (4 * v27))) fun S31 =>
     some S31
    else
     Option.bind (mt_rL S x0 11 21) fun v33 =>
     Option.bind (mt_rL S x0 11 20) fun v34 =>
     Option.bind (mt_rL S x0 11 19) fun v35 =>
     if (4 * v35) = 0 then none else
     Option.bind (mt_rL S x0 11 19) fun v36 =>
     Option.bind (mt_wL S x0 11 17 v36) fun S37 =>
     Option.bind (mt_wL S37 x0 11 18 (v33 - (((v23 + v24) - (v23 + v24) / (2 * (-v22)) * (2 * (-v22))) + (2 * (-v22))))) fun S38 =>
     Option.bind (mt_wL S38 x0 11 19 ((((v33 - (((v23 + v24) - (v23 + v24) / (2 * (-v22)) * (2 * (-v22))) + (2 * (-v22)))) * (v33 - (((v23 + v24) - (v23 + v24) / (2 * (-v22)) * (2 * (-v22))) + (2 * (-v22))))) - v34) / (4 * v35))) fun S39 =>
     some S39
  else none
theorem k_X11_formOn {x0 : Nat} {S : mt_S} {S' : mt_S} (h : f_X11_formOn x0 S = some S') : mt_isK S x0 11 = true := by
  unfold f_X11_formOn at h
  exact (mt_gd h).1
set_option maxHeartbeats 4000000 in
set_option maxRecDepth 100000 in
theorem m_X11_formOn {B : mt_B}  {x0 : Nat} {S : mt_S} {S' : mt_S} (h : f_X11_formOn x0 S = some S') : mt_M B yX11_formOn cX11_formOn 9 none 1 [mt_rf B x0] S none S' := by
  unfold f_X11_formOn at h
  refine mt_M.of (by decide) (Nat.le_of_ble_eq_true rfl) (fun E hC hE => ?_)
  obtain ⟨hk0, h⟩ := mt_gd h
  refine go_ldc2 hC dX11_formOn_0 mt_kX11_127 ?_
  refine go_aload_n hC 0 dX11_formOn_3 rfl rfl ?_
  obtain ⟨v1, e1, h⟩ := mt_ob h
  refine go_getL hC mt_flX11_156 e1 dX11_formOn_4 ?_
  refine go_lconst (v := 0) hC dX11_formOn_7 (by decide) ?_
  refine go_lcmp_ge hC (tgt := 20) dX11_formOn_8 dX11_formOn_9 (by decide) (fun hc => ?_) (fun hc => ?_)
  · have h := mt_ip h hc
    refine go_aload_n hC 0 dX11_formOn_20 rfl rfl ?_
    obtain ⟨v2, e2, h⟩ := mt_ob h
    refine go_getL hC mt_flX11_156 e2 dX11_formOn_21 ?_
    refine go_lmul hC dX11_formOn_24 ?_
    refine go_lstore_n hC [1, 0] (lv1 := [(0, mt_rf B x0), (1, .long (2 * v2))]) dX11_formOn_25 rfl (by decide) rfl ?_
    refine go_aload_n hC 0 dX11_formOn_26 rfl rfl ?_
    obtain ⟨v3, e3, h⟩ := mt_ob h
    refine go_getL hC mt_flX11_166 e3 dX11_formOn_27 ?_
    refine go_aload_n hC 0 dX11_formOn_30 rfl rfl ?_
    obtain ⟨v4, e4, h⟩ := mt_ob h
    refine go_getL hC mt_flX11_153 e4 dX11_formOn_31 ?_
    refine go_ladd hC dX11_formOn_34 ?_
    refine go_lload_n hC 1 dX11_formOn_35 rfl rfl ?_
    have g21 : ¬ (2 * v2) = 0 := fun q => by rw [if_pos q] at h; cases h
    have h := mt_in' h g21
    refine go_lrem hC dX11_formOn_36 g21 ?_
    refine go_lstore_n hC [1, 2, 0] (lv1 := [(0, mt_rf B x0), (1, .long (2 * v2)), (3, .long ((v3 + v4) - (v3 + v4) / (2 * v2) * (2 * v2)))]) dX11_formOn_37 rfl (by decide) rfl ?_
    refine go_lload_n hC 2 dX11_formOn_38 rfl rfl ?_
    refine go_lconst (v := 0) hC dX11_formOn_39 (by decide) ?_
    refine go_lcmp_ge hC (tgt := 48) dX11_formOn_40 dX11_formOn_41 (by decide) (fun hc => ?_) (fun hc => ?_)
    · have h := mt_ip h hc
      refine go_aload_n hC 0 dX11_formOn_48 rfl rfl ?_
      obtain ⟨v5, e5, h⟩ := mt_ob h
      refine go_getL hC mt_flX11_166 e5 dX11_formOn_49 ?_
      refine go_lload_n hC 2 dX11_formOn_52 rfl rfl ?_
      refine go_lsub hC dX11_formOn_53 ?_
      refine go_lstore hC [1, 2, 3, 0] (lv1 := [(0, mt_rf B x0), (1, .long (2 * v2)), (3, .long ((v3 + v4) - (v3 + v4) / (2 * v2) * (2 * v2))), (5, .long (v5 - ((v3 + v4) - (v3 + v4) / (2 * v2) * (2 * v2))))]) dX11_formOn_54 (by decide) rfl ?_
      refine go_lload hC 3 dX11_formOn_56 rfl ?_
      refine go_lload hC 3 dX11_formOn_58 rfl ?_
      refine go_lmul hC dX11_formOn_60 ?_
      refine go_aload_n hC 0 dX11_formOn_61 rfl rfl ?_
      obtain ⟨v6, e6, h⟩ := mt_ob h
      refine go_getL hC mt_flX11_163 e6 dX11_formOn_62 ?_
      refine go_lsub hC dX11_formOn_65 ?_
      refine go_ldc2 hC dX11_formOn_66 mt_kX11_161 ?_
      refine go_aload_n hC 0 dX11_formOn_69 rfl rfl ?_
      obtain ⟨v7, e7, h⟩ := mt_ob h
      refine go_getL hC mt_flX11_156 e7 dX11_formOn_70 ?_
      refine go_lmul hC dX11_formOn_73 ?_
      have g12 : ¬ (4 * v7) = 0 := fun q => by rw [if_pos q] at h; cases h
      have h := mt_in' h g12
      refine go_ldiv hC dX11_formOn_74 g12 ?_
      refine go_lstore hC [1, 2, 3, 4, 0] (lv1 := [(0, mt_rf B x0), (1, .long (2 * v2)), (3, .long ((v3 + v4) - (v3 + v4) / (2 * v2) * (2 * v2))), (5, .long (v5 - ((v3 + v4) - (v3 + v4) / (2 * v2) * (2 * v2)))), (7, .long ((((v5 - ((v3 + v4) - (v3 + v4) / (2 * v2) * (2 * v2))) * (v5 - ((v3 + v4) - (v3 + v4) / (2 * v2) * (2 * v2)))) - v6) / (4 * v7)))]) dX11_formOn_75 (by decide) rfl ?_
      refine go_aload_n hC 0 dX11_formOn_77 rfl rfl ?_
      refine go_aload_n hC 0 dX11_formOn_78 rfl rfl ?_
      obtain ⟨v8, e8, h⟩ := mt_ob h
      refine go_getL hC mt_flX11_156 e8 dX11_formOn_79 ?_
      obtain ⟨S9, e9, h⟩ := mt_ob h
      refine go_putL hC mt_flX11_147 e9 dX11_formOn_82 ?_
      refine go_aload_n hC 0 dX11_formOn_85 rfl rfl ?_
      refine go_lload hC 3 dX11_formOn_86 rfl ?_
      obtain ⟨S10, e10, h⟩ := mt_ob h
      refine go_putL hC mt_flX11_153 e10 dX11_formOn_88 ?_
      refine go_aload_n hC 0 dX11_formOn_91 rfl rfl ?_
      refine go_lload hC 4 dX11_formOn_92 rfl ?_
      obtain ⟨S11, e11, h⟩ := mt_ob h
      refine go_putL hC mt_flX11_156 e11 dX11_formOn_94 ?_
      exact go_vret hC (mt_rev h hE) dX11_formOn_97
    · have h := mt_in' h hc
      refine go_lload_n hC 2 dX11_formOn_44 rfl rfl ?_
      refine go_lload_n hC 1 dX11_formOn_45 rfl rfl ?_
      refine go_ladd hC dX11_formOn_46 ?_
      refine go_lstore_n hC [1, 2, 0] (lv1 := [(0, mt_rf B x0), (1, .long (2 * v2)), (3, .long (((v3 + v4) - (v3 + v4) / (2 * v2) * (2 * v2)) + (2 * v2)))]) dX11_formOn_47 rfl (by decide) rfl ?_
      refine go_aload_n hC 0 dX11_formOn_48 rfl rfl ?_
      obtain ⟨v13, e13, h⟩ := mt_ob h
      refine go_getL hC mt_flX11_166 e13 dX11_formOn_49 ?_
      refine go_lload_n hC 2 dX11_formOn_52 rfl rfl ?_
      refine go_lsub hC dX11_formOn_53 ?_
      refine go_lstore hC [1, 2, 3, 0] (lv1 := [(0, mt_rf B x0), (1, .long (2 * v2)), (3, .long (((v3 + v4) - (v3 + v4) / (2 * v2) * (2 * v2)) + (2 * v2))), (5, .long (v13 - (((v3 + v4) - (v3 + v4) / (2 * v2) * (2 * v2)) + (2 * v2))))]) dX11_formOn_54 (by decide) rfl ?_
      refine go_lload hC 3 dX11_formOn_56 rfl ?_
      refine go_lload hC 3 dX11_formOn_58 rfl ?_
      refine go_lmul hC dX11_formOn_60 ?_
      refine go_aload_n hC 0 dX11_formOn_61 rfl rfl ?_
      obtain ⟨v14, e14, h⟩ := mt_ob h
      refine go_getL hC mt_flX11_163 e14 dX11_formOn_62 ?_
      refine go_lsub hC dX11_formOn_65 ?_
      refine go_ldc2 hC dX11_formOn_66 mt_kX11_161 ?_
      refine go_aload_n hC 0 dX11_formOn_69 rfl rfl ?_
      obtain ⟨v15, e15, h⟩ := mt_ob h
      refine go_getL hC mt_flX11_156 e15 dX11_formOn_70 ?_
      refine go_lmul hC dX11_formOn_73 ?_
      have g20 : ¬ (4 * v15) = 0 := fun q => by rw [if_pos q] at h; cases h
      have h := mt_in' h g20
      refine go_ldiv hC dX11_formOn_74 g20 ?_
      refine go_lstore hC [1, 2, 3, 4, 0] (lv1 := [(0, mt_rf B x0), (1, .long (2 * v2)), (3, .long (((v3 + v4) - (v3 + v4) / (2 * v2) * (2 * v2)) + (2 * v2))), (5, .long (v13 - (((v3 + v4) - (v3 + v4) / (2 * v2) * (2 * v2)) + (2 * v2)))), (7, .long ((((v13 - (((v3 + v4) - (v3 + v4) / (2 * v2) * (2 * v2)) + (2 * v2))) * (v13 - (((v3 + v4) - (v3 + v4) / (2 * v2) * (2 * v2)) + (2 * v2)))) - v14) / (4 * v15)))]) dX11_formOn_75 (by decide) rfl ?_
      refine go_aload_n hC 0 dX11_formOn_77 rfl rfl ?_
      refine go_aload_n hC 0 dX11_formOn_78 rfl rfl ?_
      obtain ⟨v16, e16, h⟩ := mt_ob h
      refine go_getL hC mt_flX11_156 e16 dX11_formOn_79 ?_
      obtain ⟨S17, e17, h⟩ := mt_ob h
      refine go_putL hC mt_flX11_147 e17 dX11_formOn_82 ?_
      refine go_aload_n hC 0 dX11_formOn_85 rfl rfl ?_
      refine go_lload hC 3 dX11_formOn_86 rfl ?_
      obtain ⟨S18, e18, h⟩ := mt_ob h
      refine go_putL hC mt_flX11_153 e18 dX11_formOn_88 ?_
      refine go_aload_n hC 0 dX11_formOn_91 rfl rfl ?_
      refine go_lload hC 4 dX11_formOn_92 rfl ?_
      obtain ⟨S19, e19, h⟩ := mt_ob h
      refine go_putL hC mt_flX11_156 e19 dX11_formOn_94 ?_
      exact go_vret hC (mt_rev h hE) dX11_formOn_97
  · have h := mt_in' h hc
    refine go_aload_n hC 0 dX11_formOn_12 rfl rfl ?_
    obtain ⟨v22, e22, h⟩ := mt_ob h
    refine go_getL hC mt_flX11_156 e22 dX11_formOn_13 ?_
    refine go_lneg hC dX11_formOn_16 ?_
    refine go_goto hC (tgt := 24) dX11_formOn_17 (by decide) ?_
    refine go_lmul hC dX11_formOn_24 ?_
    refine go_lstore_n hC [1, 0] (lv1 := [(0, mt_rf B x0), (1, .long (2 * (-v22)))]) dX11_formOn_25 rfl (by decide) rfl ?_
    refine go_aload_n hC 0 dX11_formOn_26 rfl rfl ?_
    obtain ⟨v23, e23, h⟩ := mt_ob h
    refine go_getL hC mt_flX11_166 e23 dX11_formOn_27 ?_
    refine go_aload_n hC 0 dX11_formOn_30 rfl rfl ?_
    obtain ⟨v24, e24, h⟩ := mt_ob h
    refine go_getL hC mt_flX11_153 e24 dX11_formOn_31 ?_
    refine go_ladd hC dX11_formOn_34 ?_
    refine go_lload_n hC 1 dX11_formOn_35 rfl rfl ?_
    have g41 : ¬ (2 * (-v22)) = 0 := fun q => by rw [if_pos q] at h; cases h
    have h := mt_in' h g41
    refine go_lrem hC dX11_formOn_36 g41 ?_
    refine go_lstore_n hC [1, 2, 0] (lv1 := [(0, mt_rf B x0), (1, .long (2 * (-v22))), (3, .long ((v23 + v24) - (v23 + v24) / (2 * (-v22)) * (2 * (-v22))))]) dX11_formOn_37 rfl (by decide) rfl ?_
    refine go_lload_n hC 2 dX11_formOn_38 rfl rfl ?_
    refine go_lconst (v := 0) hC dX11_formOn_39 (by decide) ?_
    refine go_lcmp_ge hC (tgt := 48) dX11_formOn_40 dX11_formOn_41 (by decide) (fun hc => ?_) (fun hc => ?_)
    · have h := mt_ip h hc
      refine go_aload_n hC 0 dX11_formOn_48 rfl rfl ?_
      obtain ⟨v25, e25, h⟩ := mt_ob h
      refine go_getL hC mt_flX11_166 e25 dX11_formOn_49 ?_
      refine go_lload_n hC 2 dX11_formOn_52 rfl rfl ?_
      refine go_lsub hC dX11_formOn_53 ?_
      refine go_lstore hC [1, 2, 3, 0] (lv1 := [(0, mt_rf B x0), (1, .long (2 * (-v22))), (3, .long ((v23 + v24) - (v23 + v24) / (2 * (-v22)) * (2 * (-v22)))), (5, .long (v25 - ((v23 + v24) - (v23 + v24) / (2 * (-v22)) * (2 * (-v22)))))]) dX11_formOn_54 (by decide) rfl ?_
      refine go_lload hC 3 dX11_formOn_56 rfl ?_
      refine go_lload hC 3 dX11_formOn_58 rfl ?_
      refine go_lmul hC dX11_formOn_60 ?_
      refine go_aload_n hC 0 dX11_formOn_61 rfl rfl ?_
      obtain ⟨v26, e26, h⟩ := mt_ob h
      refine go_getL hC mt_flX11_163 e26 dX11_formOn_62 ?_
      refine go_lsub hC dX11_formOn_65 ?_
      refine go_ldc2 hC dX11_formOn_66 mt_kX11_161 ?_
      refine go_aload_n hC 0 dX11_formOn_69 rfl rfl ?_
      obtain ⟨v27, e27, h⟩ := mt_ob h
      refine go_getL hC mt_flX11_156 e27 dX11_formOn_70 ?_
      refine go_lmul hC dX11_formOn_73 ?_
      have g32 : ¬ (4 * v27) = 0 := fun q => by rw [if_pos q] at h; cases h
      have h := mt_in' h g32
      refine go_ldiv hC dX11_formOn_74 g32 ?_
      refine go_lstore hC [1, 2, 3, 4, 0] (lv1 := [(0, mt_rf B x0), (1, .long (2 * (-v22))), (3, .long ((v23 + v24) - (v23 + v24) / (2 * (-v22)) * (2 * (-v22)))), (5, .long (v25 - ((v23 + v24) - (v23 + v24) / (2 * (-v22)) * (2 * (-v22))))), (7, .long ((((v25 - ((v23 + v24) - (v23 + v24) / (2 * (-v22)) * (2 * (-v22)))) * (v25 - ((v23 + v24) - (v23 + v24) / (2 * (-v22)) * (2 * (-v22))))) - v26) / (4 * v27)))]) dX11_formOn_75 (by decide) rfl ?_
      refine go_aload_n hC 0 dX11_formOn_77 rfl rfl ?_
      refine go_aload_n hC 0 dX11_formOn_78 rfl rfl ?_
      obtain ⟨v28, e28, h⟩ := mt_ob h
      refine go_getL hC mt_flX11_156 e28 dX11_formOn_79 ?_
      obtain ⟨S29, e29, h⟩ := mt_ob h
      refine go_putL hC mt_flX11_147 e29 dX11_formOn_82 ?_
      refine go_aload_n hC 0 dX11_formOn_85 rfl rfl ?_
      refine go_lload hC 3 dX11_formOn_86 rfl ?_
      obtain ⟨S30, e30, h⟩ := mt_ob h
      refine go_putL hC mt_flX11_153 e30 dX11_formOn_88 ?_
      refine go_aload_n hC 0 dX11_formOn_91 rfl rfl ?_
      refine go_lload hC 4 dX11_formOn_92 rfl ?_
      obtain ⟨S31, e31, h⟩ := mt_ob h
      refine go_putL hC mt_flX11_156 e31 dX11_formOn_94 ?_
      exact go_vret hC (mt_rev h hE) dX11_formOn_97
    · have h := mt_in' h hc
      refine go_lload_n hC 2 dX11_formOn_44 rfl rfl ?_
      refine go_lload_n hC 1 dX11_formOn_45 rfl rfl ?_
      refine go_ladd hC dX11_formOn_46 ?_
      refine go_lstore_n hC [1, 2, 0] (lv1 := [(0, mt_rf B x0), (1, .long (2 * (-v22))), (3, .long (((v23 + v24) - (v23 + v24) / (2 * (-v22)) * (2 * (-v22))) + (2 * (-v22))))]) dX11_formOn_47 rfl (by decide) rfl ?_
      refine go_aload_n hC 0 dX11_formOn_48 rfl rfl ?_
      obtain ⟨v33, e33, h⟩ := mt_ob h
      refine go_getL hC mt_flX11_166 e33 dX11_formOn_49 ?_
      refine go_lload_n hC 2 dX11_formOn_52 rfl rfl ?_
      refine go_lsub hC dX11_formOn_53 ?_
      refine go_lstore hC [1, 2, 3, 0] (lv1 := [(0, mt_rf B x0), (1, .long (2 * (-v22))), (3, .long (((v23 + v24) - (v23 + v24) / (2 * (-v22)) * (2 * (-v22))) + (2 * (-v22)))), (5, .long (v33 - (((v23 + v24) - (v23 + v24) / (2 * (-v22)) * (2 * (-v22))) + (2 * (-v22)))))]) dX11_formOn_54 (by decide) rfl ?_
      refine go_lload hC 3 dX11_formOn_56 rfl ?_
      refine go_lload hC 3 dX11_formOn_58 rfl ?_
      refine go_lmul hC dX11_formOn_60 ?_
      refine go_aload_n hC 0 dX11_formOn_61 rfl rfl ?_
      obtain ⟨v34, e34, h⟩ := mt_ob h
      refine go_getL hC mt_flX11_163 e34 dX11_formOn_62 ?_
      refine go_lsub hC dX11_formOn_65 ?_
      refine go_ldc2 hC dX11_formOn_66 mt_kX11_161 ?_
      refine go_aload_n hC 0 dX11_formOn_69 rfl rfl ?_
      obtain ⟨v35, e35, h⟩ := mt_ob h
      refine go_getL hC mt_flX11_156 e35 dX11_formOn_70 ?_
      refine go_lmul hC dX11_formOn_73 ?_
      have g40 : ¬ (4 * v35) = 0 := fun q => by rw [if_pos q] at h; cases h
      have h := mt_in' h g40
      refine go_ldiv hC dX11_formOn_74 g40 ?_
      refine go_lstore hC [1, 2, 3, 4, 0] (lv1 := [(0, mt_rf B x0), (1, .long (2 * (-v22))), (3, .long (((v23 + v24) - (v23 + v24) / (2 * (-v22)) * (2 * (-v22))) + (2 * (-v22)))), (5, .long (v33 - (((v23 + v24) - (v23 + v24) / (2 * (-v22)) * (2 * (-v22))) + (2 * (-v22))))), (7, .long ((((v33 - (((v23 + v24) - (v23 + v24) / (2 * (-v22)) * (2 * (-v22))) + (2 * (-v22)))) * (v33 - (((v23 + v24) - (v23 + v24) / (2 * (-v22)) * (2 * (-v22))) + (2 * (-v22))))) - v34) / (4 * v35)))]) dX11_formOn_75 (by decide) rfl ?_
      refine go_aload_n hC 0 dX11_formOn_77 rfl rfl ?_
      refine go_aload_n hC 0 dX11_formOn_78 rfl rfl ?_
      obtain ⟨v36, e36, h⟩ := mt_ob h
      refine go_getL hC mt_flX11_156 e36 dX11_formOn_79 ?_
      obtain ⟨S37, e37, h⟩ := mt_ob h
      refine go_putL hC mt_flX11_147 e37 dX11_formOn_82 ?_
      refine go_aload_n hC 0 dX11_formOn_85 rfl rfl ?_
      refine go_lload hC 3 dX11_formOn_86 rfl ?_
      obtain ⟨S38, e38, h⟩ := mt_ob h
      refine go_putL hC mt_flX11_153 e38 dX11_formOn_88 ?_
      refine go_aload_n hC 0 dX11_formOn_91 rfl rfl ?_
      refine go_lload hC 4 dX11_formOn_92 rfl ?_
      obtain ⟨S39, e39, h⟩ := mt_ob h
      refine go_putL hC mt_flX11_156 e39 dX11_formOn_94 ?_
      exact go_vret hC (mt_rev h hE) dX11_formOn_97
set_option maxHeartbeats 4000000 in
set_option maxRecDepth 100000 in
theorem ov_X11_formOn {T : mt_S}  {x0 : Nat} {S : mt_S} {S' : mt_S} (hp : mt_cp S T) (h : f_X11_formOn x0 S = some S') : f_X11_formOn x0 (mt_ov S T) = some (mt_ov S' T) ∧ mt_cp S' T := by
  unfold f_X11_formOn at h ⊢
  obtain ⟨hg, h⟩ := mt_gd h
  refine ov_t (ov_K hp hg) ?_
  obtain ⟨v1, e1, h⟩ := mt_ob h
  refine ov_b (ov_rL hp e1) ?_
  by_cases hc : 0 ≤ v1
  · have h := mt_ip h hc
    refine ov_t hc ?_
    obtain ⟨v2, e2, h⟩ := mt_ob h
    refine ov_b (ov_rL hp e2) ?_
    obtain ⟨v3, e3, h⟩ := mt_ob h
    refine ov_b (ov_rL hp e3) ?_
    obtain ⟨v4, e4, h⟩ := mt_ob h
    refine ov_b (ov_rL hp e4) ?_
    have hz : ¬ (2 * v2) = 0 := fun q => by rw [if_pos q] at h; cases h
    have h := mt_in' h hz
    refine ov_f hz ?_
    by_cases hc : 0 ≤ ((v3 + v4) - (v3 + v4) / (2 * v2) * (2 * v2))
    · have h := mt_ip h hc
      refine ov_t hc ?_
      obtain ⟨v5, e5, h⟩ := mt_ob h
      refine ov_b (ov_rL hp e5) ?_
      obtain ⟨v6, e6, h⟩ := mt_ob h
      refine ov_b (ov_rL hp e6) ?_
      obtain ⟨v7, e7, h⟩ := mt_ob h
      refine ov_b (ov_rL hp e7) ?_
      have hz : ¬ (4 * v7) = 0 := fun q => by rw [if_pos q] at h; cases h
      have h := mt_in' h hz
      refine ov_f hz ?_
      obtain ⟨v8, e8, h⟩ := mt_ob h
      refine ov_b (ov_rL hp e8) ?_
      obtain ⟨S9, e9, h⟩ := mt_ob h
      obtain ⟨o_, hp⟩ := ov_wL hp e9
      refine ov_b o_ ?_
      obtain ⟨S10, e10, h⟩ := mt_ob h
      obtain ⟨o_, hp⟩ := ov_wL hp e10
      refine ov_b o_ ?_
      obtain ⟨S11, e11, h⟩ := mt_ob h
      obtain ⟨o_, hp⟩ := ov_wL hp e11
      refine ov_b o_ ?_
      exact ov_retv hp h
    · have h := mt_in' h hc
      refine ov_f hc ?_
      obtain ⟨v13, e13, h⟩ := mt_ob h
      refine ov_b (ov_rL hp e13) ?_
      obtain ⟨v14, e14, h⟩ := mt_ob h
      refine ov_b (ov_rL hp e14) ?_
      obtain ⟨v15, e15, h⟩ := mt_ob h
      refine ov_b (ov_rL hp e15) ?_
      have hz : ¬ (4 * v15) = 0 := fun q => by rw [if_pos q] at h; cases h
      have h := mt_in' h hz
      refine ov_f hz ?_
      obtain ⟨v16, e16, h⟩ := mt_ob h
      refine ov_b (ov_rL hp e16) ?_
      obtain ⟨S17, e17, h⟩ := mt_ob h
      obtain ⟨o_, hp⟩ := ov_wL hp e17
      refine ov_b o_ ?_
      obtain ⟨S18, e18, h⟩ := mt_ob h
      obtain ⟨o_, hp⟩ := ov_wL hp e18
      refine ov_b o_ ?_
      obtain ⟨S19, e19, h⟩ := mt_ob h
      obtain ⟨o_, hp⟩ := ov_wL hp e19
      refine ov_b o_ ?_
      exact ov_retv hp h
  · have h := mt_in' h hc
    refine ov_f hc ?_
    obtain ⟨v22, e22, h⟩ := mt_ob h
    refine ov_b (ov_rL hp e22) ?_
    obtain ⟨v23, e23, h⟩ := mt_ob h
    refine ov_b (ov_rL hp e23) ?_
    obtain ⟨v24, e24, h⟩ := mt_ob h
    refine ov_b (ov_rL hp e24) ?_
    have hz : ¬ (2 * (-v22)) = 0 := fun q => by rw [if_pos q] at h; cases h
    have h := mt_in' h hz
    refine ov_f hz ?_
    by_cases hc : 0 ≤ ((v23 + v24) - (v23 + v24) / (2 * (-v22)) * (2 * (-v22)))
    · have h := mt_ip h hc
      refine ov_t hc ?_
      obtain ⟨v25, e25, h⟩ := mt_ob h
      refine ov_b (ov_rL hp e25) ?_
      obtain ⟨v26, e26, h⟩ := mt_ob h
      refine ov_b (ov_rL hp e26) ?_
      obtain ⟨v27, e27, h⟩ := mt_ob h
      refine ov_b (ov_rL hp e27) ?_
      have hz : ¬ (4 * v27) = 0 := fun q => by rw [if_pos q] at h; cases h
      have h := mt_in' h hz
      refine ov_f hz ?_
      obtain ⟨v28, e28, h⟩ := mt_ob h
      refine ov_b (ov_rL hp e28) ?_
      obtain ⟨S29, e29, h⟩ := mt_ob h
      obtain ⟨o_, hp⟩ := ov_wL hp e29
      refine ov_b o_ ?_
      obtain ⟨S30, e30, h⟩ := mt_ob h
      obtain ⟨o_, hp⟩ := ov_wL hp e30
      refine ov_b o_ ?_
      obtain ⟨S31, e31, h⟩ := mt_ob h
      obtain ⟨o_, hp⟩ := ov_wL hp e31
      refine ov_b o_ ?_
      exact ov_retv hp h
    · have h := mt_in' h hc
      refine ov_f hc ?_
      obtain ⟨v33, e33, h⟩ := mt_ob h
      refine ov_b (ov_rL hp e33) ?_
      obtain ⟨v34, e34, h⟩ := mt_ob h
      refine ov_b (ov_rL hp e34) ?_
      obtain ⟨v35, e35, h⟩ := mt_ob h
      refine ov_b (ov_rL hp e35) ?_
      have hz : ¬ (4 * v35) = 0 := fun q => by rw [if_pos q] at h; cases h
      have h := mt_in' h hz
      refine ov_f hz ?_
      obtain ⟨v36, e36, h⟩ := mt_ob h
      refine ov_b (ov_rL hp e36) ?_
      obtain ⟨S37, e37, h⟩ := mt_ob h
      obtain ⟨o_, hp⟩ := ov_wL hp e37
      refine ov_b o_ ?_
      obtain ⟨S38, e38, h⟩ := mt_ob h
      obtain ⟨o_, hp⟩ := ov_wL hp e38
      refine ov_b o_ ?_
      obtain ⟨S39, e39, h⟩ := mt_ob h
      obtain ⟨o_, hp⟩ := ov_wL hp e39
      refine ov_b o_ ?_
      exact ov_retv hp h
def f_X11_laysRound_L132s (rc : Nat → Int64 → Int64 → Int64 → Int32 → mt_S → Option (Int32 × mt_S)) (x0 : Nat) (x1 : Int64) (x3 : Int64) (x5 : Int64) (x7 : Int32) (S : mt_S) : Option (Int32 × mt_S) :=
  Option.bind (mt_rL S x0 11 17) fun v23 =>
  if 0 ≤ v23 then
   Option.bind (mt_rL S x0 11 17) fun v24 =>
   if x7 = 0 then
    Option.bind (mt_wL S x0 11 22 v24) fun S25 =>
    Option.bind (f_X11_formOn x0 S25) fun S26 =>
    Option.bind (mt_rL S26 x0 11 17) fun v27 =>
    if v27 = x1 then
     Option.bind (mt_rL S26 x0 11 18) fun v28 =>
     if v28 = x3 then
      Option.bind (mt_rL S26 x0 11 19) fun v29 =>
      if v29 = x5 then
       some (x7 + 1, S26)
      else
       rc x0 x1 x3 x5 (x7 + 1) S26
     else
      rc x0 x1 x3 x5 (x7 + 1) S26
    else
     rc x0 x1 x3 x5 (x7 + 1) S26
   else
    Option.bind (mt_rL S x0 11 22) fun v30 =>
    if v30 ≤ v24 then
     Option.bind (f_X11_formOn x0 S) fun S31 =>
     Option.bind (mt_rL S31 x0 11 17) fun v32 =>
     if v32 = x1 then
      Option.bind (mt_rL S31 x0 11 18) fun v33 =>
      if v33 = x3 then
       Option.bind (mt_rL S31 x0 11 19) fun v34 =>
       if v34 = x5 then
        some (x7 + 1, S31)
       else
        rc x0 x1 x3 x5 (x7 + 1) S31
      else
       rc x0 x1 x3 x5 (x7 + 1) S31
     else
      rc x0 x1 x3 x5 (x7 + 1) S31
    else
     Option.bind (mt_wL S x0 11 22 v24) fun S35 =>
     Option.bind (f_X11_formOn x0 S35) fun S36 =>
     Option.bind (mt_rL S36 x0 11 17) fun v37 =>
     if v37 = x1 then
      Option.bind (mt_rL S36 x0 11 18) fun v38 =>
      if v38 = x3 then
       Option.bind (mt_rL S36 x0 11 19) fun v39 =>
       if v39 = x5 then
        some (x7 + 1, S36)
       else
        rc x0 x1 x3 x5 (x7 + 1) S36
      else
       rc x0 x1 x3 x5 (x7 + 1) S36
     else
      rc x0 x1 x3 x5 (x7 + 1) S36
  else
   Option.bind (mt_rL S x0 11 17) fun v40 =>
   if x7 = 0 then
    Option.bind (mt_wL S x0 11 22 (-v40)) fun S41 =>
    Option.bind (f_X11_formOn x0 S41) fun S42 =>
    Option.bind (mt_rL S42 x0 11 17) fun v43 =>
    if v43 = x1 then
     Option.bind (mt_rL S42 x0 11 18) fun v44 =>
     if v44 = x3 then
      Option.bind (mt_rL S42 x0 11 19) fun v45 =>
      if v45 = x5 then
       some (x7 + 1, S42)
      else
       rc x0 x1 x3 x5 (x7 + 1) S42
     else
      rc x0 x1 x3 x5 (x7 + 1) S42
    else
     rc x0 x1 x3 x5 (x7 + 1) S42
   else
    Option.bind (mt_rL S x0 11 22) fun v46 =>
    if v46 ≤ (-v40) then
     Option.bind (f_X11_formOn x0 S) fun S47 =>
     Option.bind (mt_rL S47 x0 11 17) fun v48 =>
     if v48 = x1 then
      Option.bind (mt_rL S47 x0 11 18) fun v49 =>
      if v49 = x3 then
       Option.bind (mt_rL S47 x0 11 19) fun v50 =>
       if v50 = x5 then
        some (x7 + 1, S47)
       else
        rc x0 x1 x3 x5 (x7 + 1) S47
      else
       rc x0 x1 x3 x5 (x7 + 1) S47
     else
      rc x0 x1 x3 x5 (x7 + 1) S47
    else
     Option.bind (mt_wL S x0 11 22 (-v40)) fun S51 =>
     Option.bind (f_X11_formOn x0 S51) fun S52 =>
     Option.bind (mt_rL S52 x0 11 17) fun v53 =>
     if v53 = x1 then
      Option.bind (mt_rL S52 x0 11 18) fun v54 =>
      if v54 = x3 then
       Option.bind (mt_rL S52 x0 11 19) fun v55 =>
       if v55 = x5 then
        some (x7 + 1, S52)
       else
        rc x0 x1 x3 x5 (x7 + 1) S52
      else
       rc x0 x1 x3 x5 (x7 + 1) S52
     else
      rc x0 x1 x3 x5 (x7 + 1) S52
def f_X11_laysRound_L132 : Nat → Nat → Int64 → Int64 → Int64 → Int32 → mt_S → Option (Int32 × mt_S)
  | 0 => fun _ _ _ _ _ _ => none
  | n + 1 => f_X11_laysRound_L132s (f_X11_laysRound_L132 n)
set_option maxHeartbeats 4000000 in
set_option maxRecDepth 100000 in
theorem m_X11_laysRound_L132 {B : mt_B} {E : mt_E} {r : Int32} {S' : mt_S} (hC : mt_Cx B E cX11_laysRound RX11 (some .int) 13 2 0 0) (hE : mt_End B E (0, 0) (some (.int r)) S') : ∀ (n : Nat) (x0 : Nat) (x1 : Int64) (x3 : Int64) (x5 : Int64) (x7 : Int32) (S : mt_S), f_X11_laysRound_L132 n x0 x1 x3 x5 x7 S = some (r, S') → mt_Go B E (0, 0) S 132 [(0, mt_rf B x0), (1, .long x1), (3, .long x3), (5, .long x5), (7, .int x7)] [] := by
  intro n
  induction n with
  | zero =>
    intro x0 x1 x3 x5 x7 S h
    cases h
  | succ n ih =>
    intro x0 x1 x3 x5 x7 S h
    have h : f_X11_laysRound_L132s (f_X11_laysRound_L132 n) x0 x1 x3 x5 x7 S = some (r, S') := h
    unfold f_X11_laysRound_L132s at h
    refine go_aload_n hC 0 dX11_laysRound_132 rfl rfl ?_
    obtain ⟨v23, e23, h⟩ := mt_ob h
    refine go_getL hC mt_flX11_147 e23 dX11_laysRound_133 ?_
    refine go_lconst (v := 0) hC dX11_laysRound_136 (by decide) ?_
    refine go_lcmp_ge hC (tgt := 149) dX11_laysRound_137 dX11_laysRound_138 (by decide) (fun hc => ?_) (fun hc => ?_)
    · have h := mt_ip h hc
      refine go_aload_n hC 0 dX11_laysRound_149 rfl rfl ?_
      obtain ⟨v24, e24, h⟩ := mt_ob h
      refine go_getL hC mt_flX11_147 e24 dX11_laysRound_150 ?_
      refine go_lstore hC [1, 2, 3, 4, 5, 0] (lv1 := [(0, mt_rf B x0), (1, .long x1), (3, .long x3), (5, .long x5), (7, .int x7), (8, .long v24)]) dX11_laysRound_153 (by decide) rfl ?_
      refine go_iload hC 4 dX11_laysRound_155 rfl ?_
      refine go_if_eq hC (tgt := 170) dX11_laysRound_157 (by decide) (fun hc => ?_) (fun hc => ?_)
      · have h := mt_ip h hc
        refine go_aload_n hC 0 dX11_laysRound_170 rfl rfl ?_
        refine go_lload hC 5 dX11_laysRound_171 rfl ?_
        obtain ⟨S25, e25, h⟩ := mt_ob h
        refine go_putL hC mt_flX11_186 e25 dX11_laysRound_173 ?_
        refine go_iinc hC 4 [1, 2, 3, 4, 0, 5] (v := x7 + 1) (lv1 := [(0, mt_rf B x0), (1, .long x1), (3, .long x3), (5, .long x5), (7, .int (x7 + 1)), (8, .long v24)]) dX11_laysRound_176 rfl rfl (by decide) rfl ?_
        refine go_aload_n hC 0 dX11_laysRound_179 rfl rfl ?_
        obtain ⟨S26, e26, h⟩ := mt_ob h
        refine go_callVv hC [] [] (m_X11_formOn e26) mt_cvX11_183 (k_X11_formOn e26) dX11_laysRound_180 rfl rfl (by decide) (Nat.le_of_ble_eq_true rfl) ⟨Nat.le_refl _, Nat.le_refl _⟩ ?_
        refine go_aload_n hC 0 dX11_laysRound_183 rfl rfl ?_
        obtain ⟨v27, e27, h⟩ := mt_ob h
        refine go_getL hC mt_flX11_147 e27 dX11_laysRound_184 ?_
        refine go_lload_n hC 1 dX11_laysRound_187 rfl rfl ?_
        refine go_lcmp_ne hC (tgt := 132) dX11_laysRound_188 dX11_laysRound_189 (by decide) (fun hc => ?_) (fun hc => ?_)
        · have h := mt_in' h hc
          refine go_sub [0, 1, 2, 3, 4] (lv1 := [(0, mt_rf B x0), (1, .long x1), (3, .long x3), (5, .long x5), (7, .int (x7 + 1))]) rfl ?_
          exact ih _ _ _ _ _ _ h
        · have h := mt_ip h hc
          refine go_aload_n hC 0 dX11_laysRound_192 rfl rfl ?_
          obtain ⟨v28, e28, h⟩ := mt_ob h
          refine go_getL hC mt_flX11_153 e28 dX11_laysRound_193 ?_
          refine go_lload_n hC 2 dX11_laysRound_196 rfl rfl ?_
          refine go_lcmp_ne hC (tgt := 132) dX11_laysRound_197 dX11_laysRound_198 (by decide) (fun hc => ?_) (fun hc => ?_)
          · have h := mt_in' h hc
            refine go_sub [0, 1, 2, 3, 4] (lv1 := [(0, mt_rf B x0), (1, .long x1), (3, .long x3), (5, .long x5), (7, .int (x7 + 1))]) rfl ?_
            exact ih _ _ _ _ _ _ h
          · have h := mt_ip h hc
            refine go_aload_n hC 0 dX11_laysRound_201 rfl rfl ?_
            obtain ⟨v29, e29, h⟩ := mt_ob h
            refine go_getL hC mt_flX11_156 e29 dX11_laysRound_202 ?_
            refine go_lload hC 3 dX11_laysRound_205 rfl ?_
            refine go_lcmp_ne hC (tgt := 132) dX11_laysRound_207 dX11_laysRound_208 (by decide) (fun hc => ?_) (fun hc => ?_)
            · have h := mt_in' h hc
              refine go_sub [0, 1, 2, 3, 4] (lv1 := [(0, mt_rf B x0), (1, .long x1), (3, .long x3), (5, .long x5), (7, .int (x7 + 1))]) rfl ?_
              exact ih _ _ _ _ _ _ h
            · have h := mt_ip h hc
              refine go_iload hC 4 dX11_laysRound_211 rfl ?_
              exact go_iret hC (mt_rei h hE) dX11_laysRound_213
      · have h := mt_in' h hc
        refine go_lload hC 5 dX11_laysRound_160 rfl ?_
        refine go_aload_n hC 0 dX11_laysRound_162 rfl rfl ?_
        obtain ⟨v30, e30, h⟩ := mt_ob h
        refine go_getL hC mt_flX11_186 e30 dX11_laysRound_163 ?_
        refine go_lcmp_ge hC (tgt := 176) dX11_laysRound_166 dX11_laysRound_167 (by decide) (fun hc => ?_) (fun hc => ?_)
        · have h := mt_ip h hc
          refine go_iinc hC 4 [1, 2, 3, 4, 0, 5] (v := x7 + 1) (lv1 := [(0, mt_rf B x0), (1, .long x1), (3, .long x3), (5, .long x5), (7, .int (x7 + 1)), (8, .long v24)]) dX11_laysRound_176 rfl rfl (by decide) rfl ?_
          refine go_aload_n hC 0 dX11_laysRound_179 rfl rfl ?_
          obtain ⟨S31, e31, h⟩ := mt_ob h
          refine go_callVv hC [] [] (m_X11_formOn e31) mt_cvX11_183 (k_X11_formOn e31) dX11_laysRound_180 rfl rfl (by decide) (Nat.le_of_ble_eq_true rfl) ⟨Nat.le_refl _, Nat.le_refl _⟩ ?_
          refine go_aload_n hC 0 dX11_laysRound_183 rfl rfl ?_
          obtain ⟨v32, e32, h⟩ := mt_ob h
          refine go_getL hC mt_flX11_147 e32 dX11_laysRound_184 ?_
          refine go_lload_n hC 1 dX11_laysRound_187 rfl rfl ?_
          refine go_lcmp_ne hC (tgt := 132) dX11_laysRound_188 dX11_laysRound_189 (by decide) (fun hc => ?_) (fun hc => ?_)
          · have h := mt_in' h hc
            refine go_sub [0, 1, 2, 3, 4] (lv1 := [(0, mt_rf B x0), (1, .long x1), (3, .long x3), (5, .long x5), (7, .int (x7 + 1))]) rfl ?_
            exact ih _ _ _ _ _ _ h
          · have h := mt_ip h hc
            refine go_aload_n hC 0 dX11_laysRound_192 rfl rfl ?_
            obtain ⟨v33, e33, h⟩ := mt_ob h
            refine go_getL hC mt_flX11_153 e33 dX11_laysRound_193 ?_
            refine go_lload_n hC 2 dX11_laysRound_196 rfl rfl ?_
            refine go_lcmp_ne hC (tgt := 132) dX11_laysRound_197 dX11_laysRound_198 (by decide) (fun hc => ?_) (fun hc => ?_)
            · have h := mt_in' h hc
              refine go_sub [0, 1, 2, 3, 4] (lv1 := [(0, mt_rf B x0), (1, .long x1), (3, .long x3), (5, .long x5), (7, .int (x7 + 1))]) rfl ?_
              exact ih _ _ _ _ _ _ h
            · have h := mt_ip h hc
              refine go_aload_n hC 0 dX11_laysRound_201 rfl rfl ?_
              obtain ⟨v34, e34, h⟩ := mt_ob h
              refine go_getL hC mt_flX11_156 e34 dX11_laysRound_202 ?_
              refine go_lload hC 3 dX11_laysRound_205 rfl ?_
              refine go_lcmp_ne hC (tgt := 132) dX11_laysRound_207 dX11_laysRound_208 (by decide) (fun hc => ?_) (fun hc => ?_)
              · have h := mt_in' h hc
                refine go_sub [0, 1, 2, 3, 4] (lv1 := [(0, mt_rf B x0), (1, .long x1), (3, .long x3), (5, .long x5), (7, .int (x7 + 1))]) rfl ?_
                exact ih _ _ _ _ _ _ h
              · have h := mt_ip h hc
                refine go_iload hC 4 dX11_laysRound_211 rfl ?_
                exact go_iret hC (mt_rei h hE) dX11_laysRound_213
        · have h := mt_in' h hc
          refine go_aload_n hC 0 dX11_laysRound_170 rfl rfl ?_
          refine go_lload hC 5 dX11_laysRound_171 rfl ?_
          obtain ⟨S35, e35, h⟩ := mt_ob h
          refine go_putL hC mt_flX11_186 e35 dX11_laysRound_173 ?_
          refine go_iinc hC 4 [1, 2, 3, 4, 0, 5] (v := x7 + 1) (lv1 := [(0, mt_rf B x0), (1, .long x1), (3, .long x3), (5, .long x5), (7, .int (x7 + 1)), (8, .long v24)]) dX11_laysRound_176 rfl rfl (by decide) rfl ?_
          refine go_aload_n hC 0 dX11_laysRound_179 rfl rfl ?_
          obtain ⟨S36, e36, h⟩ := mt_ob h
          refine go_callVv hC [] [] (m_X11_formOn e36) mt_cvX11_183 (k_X11_formOn e36) dX11_laysRound_180 rfl rfl (by decide) (Nat.le_of_ble_eq_true rfl) ⟨Nat.le_refl _, Nat.le_refl _⟩ ?_
          refine go_aload_n hC 0 dX11_laysRound_183 rfl rfl ?_
          obtain ⟨v37, e37, h⟩ := mt_ob h
          refine go_getL hC mt_flX11_147 e37 dX11_laysRound_184 ?_
          refine go_lload_n hC 1 dX11_laysRound_187 rfl rfl ?_
          refine go_lcmp_ne hC (tgt := 132) dX11_laysRound_188 dX11_laysRound_189 (by decide) (fun hc => ?_) (fun hc => ?_)
          · have h := mt_in' h hc
            refine go_sub [0, 1, 2, 3, 4] (lv1 := [(0, mt_rf B x0), (1, .long x1), (3, .long x3), (5, .long x5), (7, .int (x7 + 1))]) rfl ?_
            exact ih _ _ _ _ _ _ h
          · have h := mt_ip h hc
            refine go_aload_n hC 0 dX11_laysRound_192 rfl rfl ?_
            obtain ⟨v38, e38, h⟩ := mt_ob h
            refine go_getL hC mt_flX11_153 e38 dX11_laysRound_193 ?_
            refine go_lload_n hC 2 dX11_laysRound_196 rfl rfl ?_
            refine go_lcmp_ne hC (tgt := 132) dX11_laysRound_197 dX11_laysRound_198 (by decide) (fun hc => ?_) (fun hc => ?_)
            · have h := mt_in' h hc
              refine go_sub [0, 1, 2, 3, 4] (lv1 := [(0, mt_rf B x0), (1, .long x1), (3, .long x3), (5, .long x5), (7, .int (x7 + 1))]) rfl ?_
              exact ih _ _ _ _ _ _ h
            · have h := mt_ip h hc
              refine go_aload_n hC 0 dX11_laysRound_201 rfl rfl ?_
              obtain ⟨v39, e39, h⟩ := mt_ob h
              refine go_getL hC mt_flX11_156 e39 dX11_laysRound_202 ?_
              refine go_lload hC 3 dX11_laysRound_205 rfl ?_
              refine go_lcmp_ne hC (tgt := 132) dX11_laysRound_207 dX11_laysRound_208 (by decide) (fun hc => ?_) (fun hc => ?_)
              · have h := mt_in' h hc
                refine go_sub [0, 1, 2, 3, 4] (lv1 := [(0, mt_rf B x0), (1, .long x1), (3, .long x3), (5, .long x5), (7, .int (x7 + 1))]) rfl ?_
                exact ih _ _ _ _ _ _ h
              · have h := mt_ip h hc
                refine go_iload hC 4 dX11_laysRound_211 rfl ?_
                exact go_iret hC (mt_rei h hE) dX11_laysRound_213
    · have h := mt_in' h hc
      refine go_aload_n hC 0 dX11_laysRound_141 rfl rfl ?_
      obtain ⟨v40, e40, h⟩ := mt_ob h
      refine go_getL hC mt_flX11_147 e40 dX11_laysRound_142 ?_
      refine go_lneg hC dX11_laysRound_145 ?_
      refine go_goto hC (tgt := 153) dX11_laysRound_146 (by decide) ?_
      refine go_lstore hC [1, 2, 3, 4, 5, 0] (lv1 := [(0, mt_rf B x0), (1, .long x1), (3, .long x3), (5, .long x5), (7, .int x7), (8, .long (-v40))]) dX11_laysRound_153 (by decide) rfl ?_
      refine go_iload hC 4 dX11_laysRound_155 rfl ?_
      refine go_if_eq hC (tgt := 170) dX11_laysRound_157 (by decide) (fun hc => ?_) (fun hc => ?_)
      · have h := mt_ip h hc
        refine go_aload_n hC 0 dX11_laysRound_170 rfl rfl ?_
        refine go_lload hC 5 dX11_laysRound_171 rfl ?_
        obtain ⟨S41, e41, h⟩ := mt_ob h
        refine go_putL hC mt_flX11_186 e41 dX11_laysRound_173 ?_
        refine go_iinc hC 4 [1, 2, 3, 4, 0, 5] (v := x7 + 1) (lv1 := [(0, mt_rf B x0), (1, .long x1), (3, .long x3), (5, .long x5), (7, .int (x7 + 1)), (8, .long (-v40))]) dX11_laysRound_176 rfl rfl (by decide) rfl ?_
        refine go_aload_n hC 0 dX11_laysRound_179 rfl rfl ?_
        obtain ⟨S42, e42, h⟩ := mt_ob h
        refine go_callVv hC [] [] (m_X11_formOn e42) mt_cvX11_183 (k_X11_formOn e42) dX11_laysRound_180 rfl rfl (by decide) (Nat.le_of_ble_eq_true rfl) ⟨Nat.le_refl _, Nat.le_refl _⟩ ?_
        refine go_aload_n hC 0 dX11_laysRound_183 rfl rfl ?_
        obtain ⟨v43, e43, h⟩ := mt_ob h
        refine go_getL hC mt_flX11_147 e43 dX11_laysRound_184 ?_
        refine go_lload_n hC 1 dX11_laysRound_187 rfl rfl ?_
        refine go_lcmp_ne hC (tgt := 132) dX11_laysRound_188 dX11_laysRound_189 (by decide) (fun hc => ?_) (fun hc => ?_)
        · have h := mt_in' h hc
          refine go_sub [0, 1, 2, 3, 4] (lv1 := [(0, mt_rf B x0), (1, .long x1), (3, .long x3), (5, .long x5), (7, .int (x7 + 1))]) rfl ?_
          exact ih _ _ _ _ _ _ h
        · have h := mt_ip h hc
          refine go_aload_n hC 0 dX11_laysRound_192 rfl rfl ?_
          obtain ⟨v44, e44, h⟩ := mt_ob h
          refine go_getL hC mt_flX11_153 e44 dX11_laysRound_193 ?_
          refine go_lload_n hC 2 dX11_laysRound_196 rfl rfl ?_
          refine go_lcmp_ne hC (tgt := 132) dX11_laysRound_197 dX11_laysRound_198 (by decide) (fun hc => ?_) (fun hc => ?_)
          · have h := mt_in' h hc
            refine go_sub [0, 1, 2, 3, 4] (lv1 := [(0, mt_rf B x0), (1, .long x1), (3, .long x3), (5, .long x5), (7, .int (x7 + 1))]) rfl ?_
            exact ih _ _ _ _ _ _ h
          · have h := mt_ip h hc
            refine go_aload_n hC 0 dX11_laysRound_201 rfl rfl ?_
            obtain ⟨v45, e45, h⟩ := mt_ob h
            refine go_getL hC mt_flX11_156 e45 dX11_laysRound_202 ?_
            refine go_lload hC 3 dX11_laysRound_205 rfl ?_
            refine go_lcmp_ne hC (tgt := 132) dX11_laysRound_207 dX11_laysRound_208 (by decide) (fun hc => ?_) (fun hc => ?_)
            · have h := mt_in' h hc
              refine go_sub [0, 1, 2, 3, 4] (lv1 := [(0, mt_rf B x0), (1, .long x1), (3, .long x3), (5, .long x5), (7, .int (x7 + 1))]) rfl ?_
              exact ih _ _ _ _ _ _ h
            · have h := mt_ip h hc
              refine go_iload hC 4 dX11_laysRound_211 rfl ?_
              exact go_iret hC (mt_rei h hE) dX11_laysRound_213
      · have h := mt_in' h hc
        refine go_lload hC 5 dX11_laysRound_160 rfl ?_
        refine go_aload_n hC 0 dX11_laysRound_162 rfl rfl ?_
        obtain ⟨v46, e46, h⟩ := mt_ob h
        refine go_getL hC mt_flX11_186 e46 dX11_laysRound_163 ?_
        refine go_lcmp_ge hC (tgt := 176) dX11_laysRound_166 dX11_laysRound_167 (by decide) (fun hc => ?_) (fun hc => ?_)
        · have h := mt_ip h hc
          refine go_iinc hC 4 [1, 2, 3, 4, 0, 5] (v := x7 + 1) (lv1 := [(0, mt_rf B x0), (1, .long x1), (3, .long x3), (5, .long x5), (7, .int (x7 + 1)), (8, .long (-v40))]) dX11_laysRound_176 rfl rfl (by decide) rfl ?_
          refine go_aload_n hC 0 dX11_laysRound_179 rfl rfl ?_
          obtain ⟨S47, e47, h⟩ := mt_ob h
          refine go_callVv hC [] [] (m_X11_formOn e47) mt_cvX11_183 (k_X11_formOn e47) dX11_laysRound_180 rfl rfl (by decide) (Nat.le_of_ble_eq_true rfl) ⟨Nat.le_refl _, Nat.le_refl _⟩ ?_
          refine go_aload_n hC 0 dX11_laysRound_183 rfl rfl ?_
          obtain ⟨v48, e48, h⟩ := mt_ob h
          refine go_getL hC mt_flX11_147 e48 dX11_laysRound_184 ?_
          refine go_lload_n hC 1 dX11_laysRound_187 rfl rfl ?_
          refine go_lcmp_ne hC (tgt := 132) dX11_laysRound_188 dX11_laysRound_189 (by decide) (fun hc => ?_) (fun hc => ?_)
          · have h := mt_in' h hc
            refine go_sub [0, 1, 2, 3, 4] (lv1 := [(0, mt_rf B x0), (1, .long x1), (3, .long x3), (5, .long x5), (7, .int (x7 + 1))]) rfl ?_
            exact ih _ _ _ _ _ _ h
          · have h := mt_ip h hc
            refine go_aload_n hC 0 dX11_laysRound_192 rfl rfl ?_
            obtain ⟨v49, e49, h⟩ := mt_ob h
            refine go_getL hC mt_flX11_153 e49 dX11_laysRound_193 ?_
            refine go_lload_n hC 2 dX11_laysRound_196 rfl rfl ?_
            refine go_lcmp_ne hC (tgt := 132) dX11_laysRound_197 dX11_laysRound_198 (by decide) (fun hc => ?_) (fun hc => ?_)
            · have h := mt_in' h hc
              refine go_sub [0, 1, 2, 3, 4] (lv1 := [(0, mt_rf B x0), (1, .long x1), (3, .long x3), (5, .long x5), (7, .int (x7 + 1))]) rfl ?_
              exact ih _ _ _ _ _ _ h
            · have h := mt_ip h hc
              refine go_aload_n hC 0 dX11_laysRound_201 rfl rfl ?_
              obtain ⟨v50, e50, h⟩ := mt_ob h
              refine go_getL hC mt_flX11_156 e50 dX11_laysRound_202 ?_
              refine go_lload hC 3 dX11_laysRound_205 rfl ?_
              refine go_lcmp_ne hC (tgt := 132) dX11_laysRound_207 dX11_laysRound_208 (by decide) (fun hc => ?_) (fun hc => ?_)
              · have h := mt_in' h hc
                refine go_sub [0, 1, 2, 3, 4] (lv1 := [(0, mt_rf B x0), (1, .long x1), (3, .long x3), (5, .long x5), (7, .int (x7 + 1))]) rfl ?_
                exact ih _ _ _ _ _ _ h
              · have h := mt_ip h hc
                refine go_iload hC 4 dX11_laysRound_211 rfl ?_
                exact go_iret hC (mt_rei h hE) dX11_laysRound_213
        · have h := mt_in' h hc
          refine go_aload_n hC 0 dX11_laysRound_170 rfl rfl ?_
          refine go_lload hC 5 dX11_laysRound_171 rfl ?_
          obtain ⟨S51, e51, h⟩ := mt_ob h
          refine go_putL hC mt_flX11_186 e51 dX11_laysRound_173 ?_
          refine go_iinc hC 4 [1, 2, 3, 4, 0, 5] (v := x7 + 1) (lv1 := [(0, mt_rf B x0), (1, .long x1), (3, .long x3), (5, .long x5), (7, .int (x7 + 1)), (8, .long (-v40))]) dX11_laysRound_176 rfl rfl (by decide) rfl ?_
          refine go_aload_n hC 0 dX11_laysRound_179 rfl rfl ?_
          obtain ⟨S52, e52, h⟩ := mt_ob h
          refine go_callVv hC [] [] (m_X11_formOn e52) mt_cvX11_183 (k_X11_formOn e52) dX11_laysRound_180 rfl rfl (by decide) (Nat.le_of_ble_eq_true rfl) ⟨Nat.le_refl _, Nat.le_refl _⟩ ?_
          refine go_aload_n hC 0 dX11_laysRound_183 rfl rfl ?_
          obtain ⟨v53, e53, h⟩ := mt_ob h
          refine go_getL hC mt_flX11_147 e53 dX11_laysRound_184 ?_
          refine go_lload_n hC 1 dX11_laysRound_187 rfl rfl ?_
          refine go_lcmp_ne hC (tgt := 132) dX11_laysRound_188 dX11_laysRound_189 (by decide) (fun hc => ?_) (fun hc => ?_)
          · have h := mt_in' h hc
            refine go_sub [0, 1, 2, 3, 4] (lv1 := [(0, mt_rf B x0), (1, .long x1), (3, .long x3), (5, .long x5), (7, .int (x7 + 1))]) rfl ?_
            exact ih _ _ _ _ _ _ h
          · have h := mt_ip h hc
            refine go_aload_n hC 0 dX11_laysRound_192 rfl rfl ?_
            obtain ⟨v54, e54, h⟩ := mt_ob h
            refine go_getL hC mt_flX11_153 e54 dX11_laysRound_193 ?_
            refine go_lload_n hC 2 dX11_laysRound_196 rfl rfl ?_
            refine go_lcmp_ne hC (tgt := 132) dX11_laysRound_197 dX11_laysRound_198 (by decide) (fun hc => ?_) (fun hc => ?_)
            · have h := mt_in' h hc
              refine go_sub [0, 1, 2, 3, 4] (lv1 := [(0, mt_rf B x0), (1, .long x1), (3, .long x3), (5, .long x5), (7, .int (x7 + 1))]) rfl ?_
              exact ih _ _ _ _ _ _ h
            · have h := mt_ip h hc
              refine go_aload_n hC 0 dX11_laysRound_201 rfl rfl ?_
              obtain ⟨v55, e55, h⟩ := mt_ob h
              refine go_getL hC mt_flX11_156 e55 dX11_laysRound_202 ?_
              refine go_lload hC 3 dX11_laysRound_205 rfl ?_
              refine go_lcmp_ne hC (tgt := 132) dX11_laysRound_207 dX11_laysRound_208 (by decide) (fun hc => ?_) (fun hc => ?_)
              · have h := mt_in' h hc
                refine go_sub [0, 1, 2, 3, 4] (lv1 := [(0, mt_rf B x0), (1, .long x1), (3, .long x3), (5, .long x5), (7, .int (x7 + 1))]) rfl ?_
                exact ih _ _ _ _ _ _ h
              · have h := mt_ip h hc
                refine go_iload hC 4 dX11_laysRound_211 rfl ?_
                exact go_iret hC (mt_rei h hE) dX11_laysRound_213
set_option maxHeartbeats 4000000 in
set_option maxRecDepth 100000 in
theorem ov_X11_laysRound_L132 {T : mt_S} {r : Int32} {S' : mt_S} : ∀ (n : Nat) (x0 : Nat) (x1 : Int64) (x3 : Int64) (x5 : Int64) (x7 : Int32) (S : mt_S), mt_cp S T → f_X11_laysRound_L132 n x0 x1 x3 x5 x7 S = some (r, S') → f_X11_laysRound_L132 n x0 x1 x3 x5 x7 (mt_ov S T) = some (r, mt_ov S' T) ∧ mt_cp S' T := by
  intro n
  induction n with
  | zero =>
    intro x0 x1 x3 x5 x7 S hp h
    cases h
  | succ n ih =>
    intro x0 x1 x3 x5 x7 S hp h
    have h : f_X11_laysRound_L132s (f_X11_laysRound_L132 n) x0 x1 x3 x5 x7 S = some (r, S') := h
    show f_X11_laysRound_L132s (f_X11_laysRound_L132 n) x0 x1 x3 x5 x7 (mt_ov S T) = some (r, mt_ov S' T) ∧ mt_cp S' T
    unfold f_X11_laysRound_L132s at h ⊢
    obtain ⟨v23, e23, h⟩ := mt_ob h
    refine ov_b (ov_rL hp e23) ?_
    by_cases hc : 0 ≤ v23
    · have h := mt_ip h hc
      refine ov_t hc ?_
      obtain ⟨v24, e24, h⟩ := mt_ob h
      refine ov_b (ov_rL hp e24) ?_
      by_cases hc : x7 = 0
      · have h := mt_ip h hc
        refine ov_t hc ?_
        obtain ⟨S25, e25, h⟩ := mt_ob h
        obtain ⟨o_, hp⟩ := ov_wL hp e25
        refine ov_b o_ ?_
        obtain ⟨S26, e26, h⟩ := mt_ob h
        obtain ⟨o_, hp⟩ := ov_X11_formOn hp e26
        refine ov_b o_ ?_
        obtain ⟨v27, e27, h⟩ := mt_ob h
        refine ov_b (ov_rL hp e27) ?_
        by_cases hc : v27 = x1
        · have h := mt_ip h hc
          refine ov_t hc ?_
          obtain ⟨v28, e28, h⟩ := mt_ob h
          refine ov_b (ov_rL hp e28) ?_
          by_cases hc : v28 = x3
          · have h := mt_ip h hc
            refine ov_t hc ?_
            obtain ⟨v29, e29, h⟩ := mt_ob h
            refine ov_b (ov_rL hp e29) ?_
            by_cases hc : v29 = x5
            · have h := mt_ip h hc
              refine ov_t hc ?_
              exact ov_ret hp h
            · have h := mt_in' h hc
              refine ov_f hc ?_
              exact ih _ _ _ _ _ _ hp h
          · have h := mt_in' h hc
            refine ov_f hc ?_
            exact ih _ _ _ _ _ _ hp h
        · have h := mt_in' h hc
          refine ov_f hc ?_
          exact ih _ _ _ _ _ _ hp h
      · have h := mt_in' h hc
        refine ov_f hc ?_
        obtain ⟨v30, e30, h⟩ := mt_ob h
        refine ov_b (ov_rL hp e30) ?_
        by_cases hc : v30 ≤ v24
        · have h := mt_ip h hc
          refine ov_t hc ?_
          obtain ⟨S31, e31, h⟩ := mt_ob h
          obtain ⟨o_, hp⟩ := ov_X11_formOn hp e31
          refine ov_b o_ ?_
          obtain ⟨v32, e32, h⟩ := mt_ob h
          refine ov_b (ov_rL hp e32) ?_
          by_cases hc : v32 = x1
          · have h := mt_ip h hc
            refine ov_t hc ?_
            obtain ⟨v33, e33, h⟩ := mt_ob h
            refine ov_b (ov_rL hp e33) ?_
            by_cases hc : v33 = x3
            · have h := mt_ip h hc
              refine ov_t hc ?_
              obtain ⟨v34, e34, h⟩ := mt_ob h
              refine ov_b (ov_rL hp e34) ?_
              by_cases hc : v34 = x5
              · have h := mt_ip h hc
                refine ov_t hc ?_
                exact ov_ret hp h
              · have h := mt_in' h hc
                refine ov_f hc ?_
                exact ih _ _ _ _ _ _ hp h
            · have h := mt_in' h hc
              refine ov_f hc ?_
              exact ih _ _ _ _ _ _ hp h
          · have h := mt_in' h hc
            refine ov_f hc ?_
            exact ih _ _ _ _ _ _ hp h
        · have h := mt_in' h hc
          refine ov_f hc ?_
          obtain ⟨S35, e35, h⟩ := mt_ob h
          obtain ⟨o_, hp⟩ := ov_wL hp e35
          refine ov_b o_ ?_
          obtain ⟨S36, e36, h⟩ := mt_ob h
          obtain ⟨o_, hp⟩ := ov_X11_formOn hp e36
          refine ov_b o_ ?_
          obtain ⟨v37, e37, h⟩ := mt_ob h
          refine ov_b (ov_rL hp e37) ?_
          by_cases hc : v37 = x1
          · have h := mt_ip h hc
            refine ov_t hc ?_
            obtain ⟨v38, e38, h⟩ := mt_ob h
            refine ov_b (ov_rL hp e38) ?_
            by_cases hc : v38 = x3
            · have h := mt_ip h hc
              refine ov_t hc ?_
              obtain ⟨v39, e39, h⟩ := mt_ob h
              refine ov_b (ov_rL hp e39) ?_
              by_cases hc : v39 = x5
              · have h := mt_ip h hc
                refine ov_t hc ?_
                exact ov_ret hp h
              · have h := mt_in' h hc
                refine ov_f hc ?_
                exact ih _ _ _ _ _ _ hp h
            · have h := mt_in' h hc
              refine ov_f hc ?_
              exact ih _ _ _ _ _ _ hp h
          · have h := mt_in' h hc
            refine ov_f hc ?_
            exact ih _ _ _ _ _ _ hp h
    · have h := mt_in' h hc
      refine ov_f hc ?_
      obtain ⟨v40, e40, h⟩ := mt_ob h
      refine ov_b (ov_rL hp e40) ?_
      by_cases hc : x7 = 0
      · have h := mt_ip h hc
        refine ov_t hc ?_
        obtain ⟨S41, e41, h⟩ := mt_ob h
        obtain ⟨o_, hp⟩ := ov_wL hp e41
        refine ov_b o_ ?_
        obtain ⟨S42, e42, h⟩ := mt_ob h
        obtain ⟨o_, hp⟩ := ov_X11_formOn hp e42
        refine ov_b o_ ?_
        obtain ⟨v43, e43, h⟩ := mt_ob h
        refine ov_b (ov_rL hp e43) ?_
        by_cases hc : v43 = x1
        · have h := mt_ip h hc
          refine ov_t hc ?_
          obtain ⟨v44, e44, h⟩ := mt_ob h
          refine ov_b (ov_rL hp e44) ?_
          by_cases hc : v44 = x3
          · have h := mt_ip h hc
            refine ov_t hc ?_
            obtain ⟨v45, e45, h⟩ := mt_ob h
            refine ov_b (ov_rL hp e45) ?_
            by_cases hc : v45 = x5
            · have h := mt_ip h hc
              refine ov_t hc ?_
              exact ov_ret hp h
            · have h := mt_in' h hc
              refine ov_f hc ?_
              exact ih _ _ _ _ _ _ hp h
          · have h := mt_in' h hc
            refine ov_f hc ?_
            exact ih _ _ _ _ _ _ hp h
        · have h := mt_in' h hc
          refine ov_f hc ?_
          exact ih _ _ _ _ _ _ hp h
      · have h := mt_in' h hc
        refine ov_f hc ?_
        obtain ⟨v46, e46, h⟩ := mt_ob h
        refine ov_b (ov_rL hp e46) ?_
        by_cases hc : v46 ≤ (-v40)
        · have h := mt_ip h hc
          refine ov_t hc ?_
          obtain ⟨S47, e47, h⟩ := mt_ob h
          obtain ⟨o_, hp⟩ := ov_X11_formOn hp e47
          refine ov_b o_ ?_
          obtain ⟨v48, e48, h⟩ := mt_ob h
          refine ov_b (ov_rL hp e48) ?_
          by_cases hc : v48 = x1
          · have h := mt_ip h hc
            refine ov_t hc ?_
            obtain ⟨v49, e49, h⟩ := mt_ob h
            refine ov_b (ov_rL hp e49) ?_
            by_cases hc : v49 = x3
            · have h := mt_ip h hc
              refine ov_t hc ?_
              obtain ⟨v50, e50, h⟩ := mt_ob h
              refine ov_b (ov_rL hp e50) ?_
              by_cases hc : v50 = x5
              · have h := mt_ip h hc
                refine ov_t hc ?_
                exact ov_ret hp h
              · have h := mt_in' h hc
                refine ov_f hc ?_
                exact ih _ _ _ _ _ _ hp h
            · have h := mt_in' h hc
              refine ov_f hc ?_
              exact ih _ _ _ _ _ _ hp h
          · have h := mt_in' h hc
            refine ov_f hc ?_
            exact ih _ _ _ _ _ _ hp h
        · have h := mt_in' h hc
          refine ov_f hc ?_
          obtain ⟨S51, e51, h⟩ := mt_ob h
          obtain ⟨o_, hp⟩ := ov_wL hp e51
          refine ov_b o_ ?_
          obtain ⟨S52, e52, h⟩ := mt_ob h
          obtain ⟨o_, hp⟩ := ov_X11_formOn hp e52
          refine ov_b o_ ?_
          obtain ⟨v53, e53, h⟩ := mt_ob h
          refine ov_b (ov_rL hp e53) ?_
          by_cases hc : v53 = x1
          · have h := mt_ip h hc
            refine ov_t hc ?_
            obtain ⟨v54, e54, h⟩ := mt_ob h
            refine ov_b (ov_rL hp e54) ?_
            by_cases hc : v54 = x3
            · have h := mt_ip h hc
              refine ov_t hc ?_
              obtain ⟨v55, e55, h⟩ := mt_ob h
              refine ov_b (ov_rL hp e55) ?_
              by_cases hc : v55 = x5
              · have h := mt_ip h hc
                refine ov_t hc ?_
                exact ov_ret hp h
              · have h := mt_in' h hc
                refine ov_f hc ?_
                exact ih _ _ _ _ _ _ hp h
            · have h := mt_in' h hc
              refine ov_f hc ?_
              exact ih _ _ _ _ _ _ hp h
          · have h := mt_in' h hc
            refine ov_f hc ?_
            exact ih _ _ _ _ _ _ hp h
def f_X11_laysRound_L16s (rc : Nat → Int64 → Int64 → Int64 → mt_S → Option (Int32 × mt_S)) (x0 : Nat) (x1 : Int64) (x3 : Int64) (x5 : Int64) (S : mt_S) : Option (Int32 × mt_S) :=
  Option.bind (mt_rL S x0 11 17) fun v4 =>
  Option.bind (mt_rL S x0 11 18) fun v5 =>
  Option.bind (mt_rL S x0 11 19) fun v6 =>
  Option.bind (mt_wL S x0 11 17 x1) fun S7 =>
  Option.bind (mt_wL S7 x0 11 18 x3) fun S8 =>
  Option.bind (mt_wL S8 x0 11 19 x5) fun S9 =>
  Option.bind (f_X11_formOn x0 S9) fun S10 =>
  Option.bind (mt_rL S10 x0 11 17) fun v11 =>
  Option.bind (mt_rL S10 x0 11 18) fun v12 =>
  Option.bind (mt_rL S10 x0 11 19) fun v13 =>
  Option.bind (mt_wL S10 x0 11 17 v4) fun S14 =>
  Option.bind (mt_wL S14 x0 11 18 v5) fun S15 =>
  Option.bind (mt_wL S15 x0 11 19 v6) fun S16 =>
  Option.bind (f_X11_formOn x0 S16) fun S17 =>
  Option.bind (f_X11_formOn x0 S17) fun S18 =>
  Option.bind (mt_rL S18 x0 11 17) fun v19 =>
  if v19 = v11 then
   Option.bind (mt_rL S18 x0 11 18) fun v20 =>
   if v20 = v12 then
    Option.bind (mt_rL S18 x0 11 19) fun v21 =>
    if v21 = v13 then
     Option.bind (mt_wL S18 x0 11 22 0) fun S22 =>
     f_X11_laysRound_L132 1000 x0 v11 v12 v13 0 S22
    else
     rc x0 v11 v12 v13 S18
   else
    rc x0 v11 v12 v13 S18
  else
   rc x0 v11 v12 v13 S18
def f_X11_laysRound_L16 : Nat → Nat → Int64 → Int64 → Int64 → mt_S → Option (Int32 × mt_S)
  | 0 => fun _ _ _ _ _ => none
  | n + 1 => f_X11_laysRound_L16s (f_X11_laysRound_L16 n)
set_option maxHeartbeats 4000000 in
set_option maxRecDepth 100000 in
theorem m_X11_laysRound_L16 {B : mt_B} {E : mt_E} {r : Int32} {S' : mt_S} (hC : mt_Cx B E cX11_laysRound RX11 (some .int) 13 2 0 0) (hE : mt_End B E (0, 0) (some (.int r)) S') : ∀ (n : Nat) (x0 : Nat) (x1 : Int64) (x3 : Int64) (x5 : Int64) (S : mt_S), f_X11_laysRound_L16 n x0 x1 x3 x5 S = some (r, S') → mt_Go B E (0, 0) S 16 [(0, mt_rf B x0), (1, .long x1), (3, .long x3), (5, .long x5)] [] := by
  intro n
  induction n with
  | zero =>
    intro x0 x1 x3 x5 S h
    cases h
  | succ n ih =>
    intro x0 x1 x3 x5 S h
    have h : f_X11_laysRound_L16s (f_X11_laysRound_L16 n) x0 x1 x3 x5 S = some (r, S') := h
    unfold f_X11_laysRound_L16s at h
    refine go_aload_n hC 0 dX11_laysRound_16 rfl rfl ?_
    obtain ⟨v4, e4, h⟩ := mt_ob h
    refine go_getL hC mt_flX11_147 e4 dX11_laysRound_17 ?_
    refine go_lstore hC [1, 2, 3, 4, 0] (lv1 := [(0, mt_rf B x0), (1, .long x1), (3, .long x3), (5, .long x5), (7, .long v4)]) dX11_laysRound_20 (by decide) rfl ?_
    refine go_aload_n hC 0 dX11_laysRound_22 rfl rfl ?_
    obtain ⟨v5, e5, h⟩ := mt_ob h
    refine go_getL hC mt_flX11_153 e5 dX11_laysRound_23 ?_
    refine go_lstore hC [1, 2, 3, 4, 5, 0] (lv1 := [(0, mt_rf B x0), (1, .long x1), (3, .long x3), (5, .long x5), (7, .long v4), (9, .long v5)]) dX11_laysRound_26 (by decide) rfl ?_
    refine go_aload_n hC 0 dX11_laysRound_28 rfl rfl ?_
    obtain ⟨v6, e6, h⟩ := mt_ob h
    refine go_getL hC mt_flX11_156 e6 dX11_laysRound_29 ?_
    refine go_lstore hC [1, 2, 3, 4, 5, 6, 0] (lv1 := [(0, mt_rf B x0), (1, .long x1), (3, .long x3), (5, .long x5), (7, .long v4), (9, .long v5), (11, .long v6)]) dX11_laysRound_32 (by decide) rfl ?_
    refine go_aload_n hC 0 dX11_laysRound_34 rfl rfl ?_
    refine go_lload_n hC 1 dX11_laysRound_35 rfl rfl ?_
    obtain ⟨S7, e7, h⟩ := mt_ob h
    refine go_putL hC mt_flX11_147 e7 dX11_laysRound_36 ?_
    refine go_aload_n hC 0 dX11_laysRound_39 rfl rfl ?_
    refine go_lload_n hC 2 dX11_laysRound_40 rfl rfl ?_
    obtain ⟨S8, e8, h⟩ := mt_ob h
    refine go_putL hC mt_flX11_153 e8 dX11_laysRound_41 ?_
    refine go_aload_n hC 0 dX11_laysRound_44 rfl rfl ?_
    refine go_lload hC 3 dX11_laysRound_45 rfl ?_
    obtain ⟨S9, e9, h⟩ := mt_ob h
    refine go_putL hC mt_flX11_156 e9 dX11_laysRound_47 ?_
    refine go_aload_n hC 0 dX11_laysRound_50 rfl rfl ?_
    obtain ⟨S10, e10, h⟩ := mt_ob h
    refine go_callVv hC [] [] (m_X11_formOn e10) mt_cvX11_183 (k_X11_formOn e10) dX11_laysRound_51 rfl rfl (by decide) (Nat.le_of_ble_eq_true rfl) ⟨Nat.le_refl _, Nat.le_refl _⟩ ?_
    refine go_aload_n hC 0 dX11_laysRound_54 rfl rfl ?_
    obtain ⟨v11, e11, h⟩ := mt_ob h
    refine go_getL hC mt_flX11_147 e11 dX11_laysRound_55 ?_
    refine go_lstore_n hC [1, 0, 2, 3, 4, 5, 6] (lv1 := [(0, mt_rf B x0), (1, .long v11), (3, .long x3), (5, .long x5), (7, .long v4), (9, .long v5), (11, .long v6)]) dX11_laysRound_58 rfl (by decide) rfl ?_
    refine go_aload_n hC 0 dX11_laysRound_59 rfl rfl ?_
    obtain ⟨v12, e12, h⟩ := mt_ob h
    refine go_getL hC mt_flX11_153 e12 dX11_laysRound_60 ?_
    refine go_lstore_n hC [1, 2, 0, 3, 4, 5, 6] (lv1 := [(0, mt_rf B x0), (1, .long v11), (3, .long v12), (5, .long x5), (7, .long v4), (9, .long v5), (11, .long v6)]) dX11_laysRound_63 rfl (by decide) rfl ?_
    refine go_aload_n hC 0 dX11_laysRound_64 rfl rfl ?_
    obtain ⟨v13, e13, h⟩ := mt_ob h
    refine go_getL hC mt_flX11_156 e13 dX11_laysRound_65 ?_
    refine go_lstore hC [1, 2, 3, 0, 4, 5, 6] (lv1 := [(0, mt_rf B x0), (1, .long v11), (3, .long v12), (5, .long v13), (7, .long v4), (9, .long v5), (11, .long v6)]) dX11_laysRound_68 (by decide) rfl ?_
    refine go_aload_n hC 0 dX11_laysRound_70 rfl rfl ?_
    refine go_lload hC 4 dX11_laysRound_71 rfl ?_
    obtain ⟨S14, e14, h⟩ := mt_ob h
    refine go_putL hC mt_flX11_147 e14 dX11_laysRound_73 ?_
    refine go_aload_n hC 0 dX11_laysRound_76 rfl rfl ?_
    refine go_lload hC 5 dX11_laysRound_77 rfl ?_
    obtain ⟨S15, e15, h⟩ := mt_ob h
    refine go_putL hC mt_flX11_153 e15 dX11_laysRound_79 ?_
    refine go_aload_n hC 0 dX11_laysRound_82 rfl rfl ?_
    refine go_lload hC 6 dX11_laysRound_83 rfl ?_
    obtain ⟨S16, e16, h⟩ := mt_ob h
    refine go_putL hC mt_flX11_156 e16 dX11_laysRound_85 ?_
    refine go_aload_n hC 0 dX11_laysRound_88 rfl rfl ?_
    obtain ⟨S17, e17, h⟩ := mt_ob h
    refine go_callVv hC [] [] (m_X11_formOn e17) mt_cvX11_183 (k_X11_formOn e17) dX11_laysRound_89 rfl rfl (by decide) (Nat.le_of_ble_eq_true rfl) ⟨Nat.le_refl _, Nat.le_refl _⟩ ?_
    refine go_aload_n hC 0 dX11_laysRound_92 rfl rfl ?_
    obtain ⟨S18, e18, h⟩ := mt_ob h
    refine go_callVv hC [] [] (m_X11_formOn e18) mt_cvX11_183 (k_X11_formOn e18) dX11_laysRound_93 rfl rfl (by decide) (Nat.le_of_ble_eq_true rfl) ⟨Nat.le_refl _, Nat.le_refl _⟩ ?_
    refine go_aload_n hC 0 dX11_laysRound_96 rfl rfl ?_
    obtain ⟨v19, e19, h⟩ := mt_ob h
    refine go_getL hC mt_flX11_147 e19 dX11_laysRound_97 ?_
    refine go_lload_n hC 1 dX11_laysRound_100 rfl rfl ?_
    refine go_lcmp_ne hC (tgt := 16) dX11_laysRound_101 dX11_laysRound_102 (by decide) (fun hc => ?_) (fun hc => ?_)
    · have h := mt_in' h hc
      refine go_sub [0, 1, 2, 3] (lv1 := [(0, mt_rf B x0), (1, .long v11), (3, .long v12), (5, .long v13)]) rfl ?_
      exact ih _ _ _ _ _ h
    · have h := mt_ip h hc
      refine go_aload_n hC 0 dX11_laysRound_105 rfl rfl ?_
      obtain ⟨v20, e20, h⟩ := mt_ob h
      refine go_getL hC mt_flX11_153 e20 dX11_laysRound_106 ?_
      refine go_lload_n hC 2 dX11_laysRound_109 rfl rfl ?_
      refine go_lcmp_ne hC (tgt := 16) dX11_laysRound_110 dX11_laysRound_111 (by decide) (fun hc => ?_) (fun hc => ?_)
      · have h := mt_in' h hc
        refine go_sub [0, 1, 2, 3] (lv1 := [(0, mt_rf B x0), (1, .long v11), (3, .long v12), (5, .long v13)]) rfl ?_
        exact ih _ _ _ _ _ h
      · have h := mt_ip h hc
        refine go_aload_n hC 0 dX11_laysRound_114 rfl rfl ?_
        obtain ⟨v21, e21, h⟩ := mt_ob h
        refine go_getL hC mt_flX11_156 e21 dX11_laysRound_115 ?_
        refine go_lload hC 3 dX11_laysRound_118 rfl ?_
        refine go_lcmp_ne hC (tgt := 16) dX11_laysRound_120 dX11_laysRound_121 (by decide) (fun hc => ?_) (fun hc => ?_)
        · have h := mt_in' h hc
          refine go_sub [0, 1, 2, 3] (lv1 := [(0, mt_rf B x0), (1, .long v11), (3, .long v12), (5, .long v13)]) rfl ?_
          exact ih _ _ _ _ _ h
        · have h := mt_ip h hc
          refine go_iconst (v := 0) hC dX11_laysRound_124 (by decide) ?_
          refine go_istore hC [1, 2, 3, 4, 0, 5, 6] (lv1 := [(0, mt_rf B x0), (1, .long v11), (3, .long v12), (5, .long v13), (7, .int 0), (9, .long v5), (11, .long v6)]) dX11_laysRound_125 (by decide) rfl ?_
          refine go_aload_n hC 0 dX11_laysRound_127 rfl rfl ?_
          refine go_lconst (v := 0) hC dX11_laysRound_128 (by decide) ?_
          obtain ⟨S22, e22, h⟩ := mt_ob h
          refine go_putL hC mt_flX11_186 e22 dX11_laysRound_129 ?_
          refine go_sub [0, 1, 2, 3, 4] (lv1 := [(0, mt_rf B x0), (1, .long v11), (3, .long v12), (5, .long v13), (7, .int 0)]) rfl ?_
          exact m_X11_laysRound_L132 hC hE 1000 _ _ _ _ _ _ h
set_option maxHeartbeats 4000000 in
set_option maxRecDepth 100000 in
theorem ov_X11_laysRound_L16 {T : mt_S} {r : Int32} {S' : mt_S} : ∀ (n : Nat) (x0 : Nat) (x1 : Int64) (x3 : Int64) (x5 : Int64) (S : mt_S), mt_cp S T → f_X11_laysRound_L16 n x0 x1 x3 x5 S = some (r, S') → f_X11_laysRound_L16 n x0 x1 x3 x5 (mt_ov S T) = some (r, mt_ov S' T) ∧ mt_cp S' T := by
  intro n
  induction n with
  | zero =>
    intro x0 x1 x3 x5 S hp h
    cases h
  | succ n ih =>
    intro x0 x1 x3 x5 S hp h
    have h : f_X11_laysRound_L16s (f_X11_laysRound_L16 n) x0 x1 x3 x5 S = some (r, S') := h
    show f_X11_laysRound_L16s (f_X11_laysRound_L16 n) x0 x1 x3 x5 (mt_ov S T) = some (r, mt_ov S' T) ∧ mt_cp S' T
    unfold f_X11_laysRound_L16s at h ⊢
    obtain ⟨v4, e4, h⟩ := mt_ob h
    refine ov_b (ov_rL hp e4) ?_
    obtain ⟨v5, e5, h⟩ := mt_ob h
    refine ov_b (ov_rL hp e5) ?_
    obtain ⟨v6, e6, h⟩ := mt_ob h
    refine ov_b (ov_rL hp e6) ?_
    obtain ⟨S7, e7, h⟩ := mt_ob h
    obtain ⟨o_, hp⟩ := ov_wL hp e7
    refine ov_b o_ ?_
    obtain ⟨S8, e8, h⟩ := mt_ob h
    obtain ⟨o_, hp⟩ := ov_wL hp e8
    refine ov_b o_ ?_
    obtain ⟨S9, e9, h⟩ := mt_ob h
    obtain ⟨o_, hp⟩ := ov_wL hp e9
    refine ov_b o_ ?_
    obtain ⟨S10, e10, h⟩ := mt_ob h
    obtain ⟨o_, hp⟩ := ov_X11_formOn hp e10
    refine ov_b o_ ?_
    obtain ⟨v11, e11, h⟩ := mt_ob h
    refine ov_b (ov_rL hp e11) ?_
    obtain ⟨v12, e12, h⟩ := mt_ob h
    refine ov_b (ov_rL hp e12) ?_
    obtain ⟨v13, e13, h⟩ := mt_ob h
    refine ov_b (ov_rL hp e13) ?_
    obtain ⟨S14, e14, h⟩ := mt_ob h
    obtain ⟨o_, hp⟩ := ov_wL hp e14
    refine ov_b o_ ?_
    obtain ⟨S15, e15, h⟩ := mt_ob h
    obtain ⟨o_, hp⟩ := ov_wL hp e15
    refine ov_b o_ ?_
    obtain ⟨S16, e16, h⟩ := mt_ob h
    obtain ⟨o_, hp⟩ := ov_wL hp e16
    refine ov_b o_ ?_
    obtain ⟨S17, e17, h⟩ := mt_ob h
    obtain ⟨o_, hp⟩ := ov_X11_formOn hp e17
    refine ov_b o_ ?_
    obtain ⟨S18, e18, h⟩ := mt_ob h
    obtain ⟨o_, hp⟩ := ov_X11_formOn hp e18
    refine ov_b o_ ?_
    obtain ⟨v19, e19, h⟩ := mt_ob h
    refine ov_b (ov_rL hp e19) ?_
    by_cases hc : v19 = v11
    · have h := mt_ip h hc
      refine ov_t hc ?_
      obtain ⟨v20, e20, h⟩ := mt_ob h
      refine ov_b (ov_rL hp e20) ?_
      by_cases hc : v20 = v12
      · have h := mt_ip h hc
        refine ov_t hc ?_
        obtain ⟨v21, e21, h⟩ := mt_ob h
        refine ov_b (ov_rL hp e21) ?_
        by_cases hc : v21 = v13
        · have h := mt_ip h hc
          refine ov_t hc ?_
          obtain ⟨S22, e22, h⟩ := mt_ob h
          obtain ⟨o_, hp⟩ := ov_wL hp e22
          refine ov_b o_ ?_
          exact ov_X11_laysRound_L132 1000 _ _ _ _ _ _ hp h
        · have h := mt_in' h hc
          refine ov_f hc ?_
          exact ih _ _ _ _ _ hp h
      · have h := mt_in' h hc
        refine ov_f hc ?_
        exact ih _ _ _ _ _ hp h
    · have h := mt_in' h hc
      refine ov_f hc ?_
      exact ih _ _ _ _ _ hp h
def f_X11_laysRound (x0 : Nat) (S : mt_S) : Option (Int32 × mt_S) :=
  if mt_isK S x0 11 = true then
   Option.bind (mt_rL S x0 11 17) fun v1 =>
   Option.bind (mt_rL S x0 11 18) fun v2 =>
   Option.bind (mt_rL S x0 11 19) fun v3 =>
   f_X11_laysRound_L16 1000 x0 v1 v2 v3 S
  else none
theorem k_X11_laysRound {x0 : Nat} {S : mt_S} {r : Int32} {S' : mt_S} (h : f_X11_laysRound x0 S = some (r, S')) : mt_isK S x0 11 = true := by
  unfold f_X11_laysRound at h
  exact (mt_gd h).1
set_option maxHeartbeats 4000000 in
set_option maxRecDepth 100000 in
theorem m_X11_laysRound {B : mt_B}  {x0 : Nat} {S : mt_S} {r : Int32} {S' : mt_S} (h : f_X11_laysRound x0 S = some (r, S')) : mt_M B yX11_laysRound cX11_laysRound 13 (some .int) 2 [mt_rf B x0] S (some (.int r)) S' := by
  unfold f_X11_laysRound at h
  refine mt_M.of (by decide) (Nat.le_of_ble_eq_true rfl) (fun E hC hE => ?_)
  obtain ⟨hk0, h⟩ := mt_gd h
  refine go_aload_n hC 0 dX11_laysRound_0 rfl rfl ?_
  obtain ⟨v1, e1, h⟩ := mt_ob h
  refine go_getL hC mt_flX11_147 e1 dX11_laysRound_1 ?_
  refine go_lstore_n hC [1, 0] (lv1 := [(0, mt_rf B x0), (1, .long v1)]) dX11_laysRound_4 rfl (by decide) rfl ?_
  refine go_aload_n hC 0 dX11_laysRound_5 rfl rfl ?_
  obtain ⟨v2, e2, h⟩ := mt_ob h
  refine go_getL hC mt_flX11_153 e2 dX11_laysRound_6 ?_
  refine go_lstore_n hC [1, 2, 0] (lv1 := [(0, mt_rf B x0), (1, .long v1), (3, .long v2)]) dX11_laysRound_9 rfl (by decide) rfl ?_
  refine go_aload_n hC 0 dX11_laysRound_10 rfl rfl ?_
  obtain ⟨v3, e3, h⟩ := mt_ob h
  refine go_getL hC mt_flX11_156 e3 dX11_laysRound_11 ?_
  refine go_lstore hC [1, 2, 3, 0] (lv1 := [(0, mt_rf B x0), (1, .long v1), (3, .long v2), (5, .long v3)]) dX11_laysRound_14 (by decide) rfl ?_
  exact m_X11_laysRound_L16 hC hE 1000 _ _ _ _ _ h
set_option maxHeartbeats 4000000 in
set_option maxRecDepth 100000 in
theorem ov_X11_laysRound {T : mt_S}  {x0 : Nat} {S : mt_S} {r : Int32} {S' : mt_S} (hp : mt_cp S T) (h : f_X11_laysRound x0 S = some (r, S')) : f_X11_laysRound x0 (mt_ov S T) = some (r, mt_ov S' T) ∧ mt_cp S' T := by
  unfold f_X11_laysRound at h ⊢
  obtain ⟨hg, h⟩ := mt_gd h
  refine ov_t (ov_K hp hg) ?_
  obtain ⟨v1, e1, h⟩ := mt_ob h
  refine ov_b (ov_rL hp e1) ?_
  obtain ⟨v2, e2, h⟩ := mt_ob h
  refine ov_b (ov_rL hp e2) ?_
  obtain ⟨v3, e3, h⟩ := mt_ob h
  refine ov_b (ov_rL hp e3) ?_
  exact ov_X11_laysRound_L16 1000 _ _ _ _ _ hp h
def f_X11_round (x0 : Nat) (S : mt_S) : Option (Int32 × mt_S) :=
  if mt_isK S x0 11 = true then
   Option.bind (mt_wI S x0 11 0 0) fun S1 =>
   mt_b2 (f_X11_laysForm x0 S1) fun v3 S2 =>
   if v3 = 0 then
    some ((-1), S2)
   else
    mt_b2 (f_X11_laysRound x0 S2) fun v5 S4 =>
    some (v5, S4)
  else none
theorem k_X11_round {x0 : Nat} {S : mt_S} {r : Int32} {S' : mt_S} (h : f_X11_round x0 S = some (r, S')) : mt_isK S x0 11 = true := by
  unfold f_X11_round at h
  exact (mt_gd h).1
set_option maxHeartbeats 4000000 in
set_option maxRecDepth 100000 in
theorem m_X11_round {B : mt_B}  {x0 : Nat} {S : mt_S} {r : Int32} {S' : mt_S} (h : f_X11_round x0 S = some (r, S')) : mt_M B yX11_round cX11_round 1 (some .int) 6 [mt_rf B x0] S (some (.int r)) S' := by
  unfold f_X11_round at h
  refine mt_M.of (by decide) (Nat.le_of_ble_eq_true rfl) (fun E hC hE => ?_)
  obtain ⟨hk0, h⟩ := mt_gd h
  refine go_aload_n hC 0 dX11_round_0 rfl rfl ?_
  refine go_iconst (v := 0) hC dX11_round_1 (by decide) ?_
  obtain ⟨S1, e1, h⟩ := mt_ob h
  refine go_putI hC mt_flX11_1 e1 dX11_round_2 ?_
  refine go_aload_n hC 0 dX11_round_5 rfl rfl ?_
  obtain ⟨v3, S2, e3, h⟩ := mt_ob2 h
  refine go_callVi hC [] [] (m_X11_laysForm e3) mt_cvX11_173 (k_X11_laysForm e3) dX11_round_6 rfl rfl (by decide) (Nat.le_of_ble_eq_true rfl) ⟨Nat.le_refl _, Nat.le_refl _⟩ ?_
  refine go_if_eq hC (tgt := 19) dX11_round_9 (by decide) (fun hc => ?_) (fun hc => ?_)
  · have h := mt_ip h hc
    refine go_iconst (v := (-1)) hC dX11_round_19 (by decide) ?_
    exact go_iret hC (mt_rei h hE) dX11_round_20
  · have h := mt_in' h hc
    refine go_aload_n hC 0 dX11_round_12 rfl rfl ?_
    obtain ⟨v5, S4, e5, h⟩ := mt_ob2 h
    refine go_callVi hC [] [] (m_X11_laysRound e5) mt_cvX11_189 (k_X11_laysRound e5) dX11_round_13 rfl rfl (by decide) (Nat.le_of_ble_eq_true rfl) ⟨Nat.le_refl _, Nat.le_refl _⟩ ?_
    refine go_goto hC (tgt := 20) dX11_round_16 (by decide) ?_
    exact go_iret hC (mt_rei h hE) dX11_round_20
set_option maxHeartbeats 4000000 in
set_option maxRecDepth 100000 in
theorem ov_X11_round {T : mt_S}  {x0 : Nat} {S : mt_S} {r : Int32} {S' : mt_S} (hp : mt_cp S T) (h : f_X11_round x0 S = some (r, S')) : f_X11_round x0 (mt_ov S T) = some (r, mt_ov S' T) ∧ mt_cp S' T := by
  unfold f_X11_round at h ⊢
  obtain ⟨hg, h⟩ := mt_gd h
  refine ov_t (ov_K hp hg) ?_
  obtain ⟨S1, e1, h⟩ := mt_ob h
  obtain ⟨o_, hp⟩ := ov_wI hp e1
  refine ov_b o_ ?_
  obtain ⟨v3, S2, e3, h⟩ := mt_ob2 h
  obtain ⟨o_, hp⟩ := ov_X11_laysForm hp e3
  refine ov_b2 o_ ?_
  by_cases hc : v3 = 0
  · have h := mt_ip h hc
    refine ov_t hc ?_
    exact ov_ret hp h
  · have h := mt_in' h hc
    refine ov_f hc ?_
    obtain ⟨v5, S4, e5, h⟩ := mt_ob2 h
    obtain ⟨o_, hp⟩ := ov_X11_laysRound hp e5
    refine ov_b2 o_ ?_
    exact ov_ret hp h
def f_X11_least (x0 : Nat) (S : mt_S) : Option (Int64 × mt_S) :=
  if mt_isK S x0 11 = true then
   Option.bind (mt_wI S x0 11 0 0) fun S1 =>
   mt_b2 (f_X11_laysForm x0 S1) fun v3 S2 =>
   if v3 = 0 then
    some ((-1), S2)
   else
    mt_b2 (f_X11_laysRound x0 S2) fun v5 S4 =>
    Option.bind (mt_rL S4 x0 11 22) fun v6 =>
    some (v6, S4)
  else none
theorem k_X11_least {x0 : Nat} {S : mt_S} {r : Int64} {S' : mt_S} (h : f_X11_least x0 S = some (r, S')) : mt_isK S x0 11 = true := by
  unfold f_X11_least at h
  exact (mt_gd h).1
set_option maxHeartbeats 4000000 in
set_option maxRecDepth 100000 in
theorem m_X11_least {B : mt_B}  {x0 : Nat} {S : mt_S} {r : Int64} {S' : mt_S} (h : f_X11_least x0 S = some (r, S')) : mt_M B yX11_least cX11_least 1 (some .long) 6 [mt_rf B x0] S (some (.long r)) S' := by
  unfold f_X11_least at h
  refine mt_M.of (by decide) (Nat.le_of_ble_eq_true rfl) (fun E hC hE => ?_)
  obtain ⟨hk0, h⟩ := mt_gd h
  refine go_aload_n hC 0 dX11_least_0 rfl rfl ?_
  refine go_iconst (v := 0) hC dX11_least_1 (by decide) ?_
  obtain ⟨S1, e1, h⟩ := mt_ob h
  refine go_putI hC mt_flX11_1 e1 dX11_least_2 ?_
  refine go_aload_n hC 0 dX11_least_5 rfl rfl ?_
  obtain ⟨v3, S2, e3, h⟩ := mt_ob2 h
  refine go_callVi hC [] [] (m_X11_laysForm e3) mt_cvX11_173 (k_X11_laysForm e3) dX11_least_6 rfl rfl (by decide) (Nat.le_of_ble_eq_true rfl) ⟨Nat.le_refl _, Nat.le_refl _⟩ ?_
  refine go_if_ne hC (tgt := 16) dX11_least_9 (by decide) (fun hc => ?_) (fun hc => ?_)
  · have h := mt_in' h hc
    refine go_aload_n hC 0 dX11_least_16 rfl rfl ?_
    obtain ⟨v5, S4, e5, h⟩ := mt_ob2 h
    refine go_callVi hC [] [] (m_X11_laysRound e5) mt_cvX11_189 (k_X11_laysRound e5) dX11_least_17 rfl rfl (by decide) (Nat.le_of_ble_eq_true rfl) ⟨Nat.le_refl _, Nat.le_refl _⟩ ?_
    refine go_pop hC dX11_least_20 rfl ?_
    refine go_aload_n hC 0 dX11_least_21 rfl rfl ?_
    obtain ⟨v6, e6, h⟩ := mt_ob h
    refine go_getL hC mt_flX11_186 e6 dX11_least_22 ?_
    exact go_lret hC (mt_rel h hE) dX11_least_25
  · have h := mt_ip h hc
    refine go_ldc2 hC dX11_least_12 mt_kX11_192 ?_
    exact go_lret hC (mt_rel h hE) dX11_least_15
set_option maxHeartbeats 4000000 in
set_option maxRecDepth 100000 in
theorem ov_X11_least {T : mt_S}  {x0 : Nat} {S : mt_S} {r : Int64} {S' : mt_S} (hp : mt_cp S T) (h : f_X11_least x0 S = some (r, S')) : f_X11_least x0 (mt_ov S T) = some (r, mt_ov S' T) ∧ mt_cp S' T := by
  unfold f_X11_least at h ⊢
  obtain ⟨hg, h⟩ := mt_gd h
  refine ov_t (ov_K hp hg) ?_
  obtain ⟨S1, e1, h⟩ := mt_ob h
  obtain ⟨o_, hp⟩ := ov_wI hp e1
  refine ov_b o_ ?_
  obtain ⟨v3, S2, e3, h⟩ := mt_ob2 h
  obtain ⟨o_, hp⟩ := ov_X11_laysForm hp e3
  refine ov_b2 o_ ?_
  by_cases hc : v3 = 0
  · have h := mt_ip h hc
    refine ov_t hc ?_
    exact ov_ret hp h
  · have h := mt_in' h hc
    refine ov_f hc ?_
    obtain ⟨v5, S4, e5, h⟩ := mt_ob2 h
    obtain ⟨o_, hp⟩ := ov_X11_laysRound hp e5
    refine ov_b2 o_ ?_
    obtain ⟨v6, e6, h⟩ := mt_ob h
    refine ov_b (ov_rL hp e6) ?_
    exact ov_ret hp h
def f_X11_comes_L53s (rc : Nat → Int64 → Int32 → Int32 → mt_S → Option (mt_S)) (x0 : Nat) (x1 : Int64) (x3 : Int32) (x4 : Int32) (S : mt_S) : Option (mt_S) :=
  if x4 ≤ x3 then
   Option.bind (mt_rR S x0 11 23) fun v4 =>
   Option.bind (mt_sL S v4 x3 x1) fun S5 =>
   Option.bind (mt_rI S5 x0 11 24) fun v6 =>
   Option.bind (mt_wI S5 x0 11 24 (v6 + 1)) fun S7 =>
   some S7
  else
   Option.bind (mt_rR S x0 11 23) fun v8 =>
   Option.bind (mt_rR S x0 11 23) fun v9 =>
   Option.bind (mt_aL S v9 (x4 - 1)) fun v10 =>
   Option.bind (mt_sL S v8 x4 v10) fun S11 =>
   rc x0 x1 x3 (x4 + (-1)) S11
def f_X11_comes_L53 : Nat → Nat → Int64 → Int32 → Int32 → mt_S → Option (mt_S)
  | 0 => fun _ _ _ _ _ => none
  | n + 1 => f_X11_comes_L53s (f_X11_comes_L53 n)
set_option maxHeartbeats 4000000 in
set_option maxRecDepth 100000 in
theorem m_X11_comes_L53 {B : mt_B} {E : mt_E} {S' : mt_S} (hC : mt_Cx B E cX11_comes RX11 none 5 1 0 0) (hE : mt_End B E (0, 0) none S') : ∀ (n : Nat) (x0 : Nat) (x1 : Int64) (x3 : Int32) (x4 : Int32) (S : mt_S), f_X11_comes_L53 n x0 x1 x3 x4 S = some S' → mt_Go B E (0, 0) S 53 [(0, mt_rf B x0), (1, .long x1), (3, .int x3), (4, .int x4)] [] := by
  intro n
  induction n with
  | zero =>
    intro x0 x1 x3 x4 S h
    cases h
  | succ n ih =>
    intro x0 x1 x3 x4 S h
    have h : f_X11_comes_L53s (f_X11_comes_L53 n) x0 x1 x3 x4 S = some S' := h
    unfold f_X11_comes_L53s at h
    refine go_iload hC 3 dX11_comes_53 rfl ?_
    refine go_iload_n hC 2 dX11_comes_55 rfl rfl ?_
    refine go_icmp_le hC (tgt := 81) dX11_comes_56 (by decide) (fun hc => ?_) (fun hc => ?_)
    · have h := mt_ip h hc
      refine go_aload_n hC 0 dX11_comes_81 rfl rfl ?_
      obtain ⟨v4, e4, h⟩ := mt_ob h
      refine go_getR hC mt_flX11_50 e4 dX11_comes_82 ?_
      refine go_iload_n hC 2 dX11_comes_85 rfl rfl ?_
      refine go_lload_n hC 1 dX11_comes_86 rfl rfl ?_
      obtain ⟨S5, e5, h⟩ := mt_ob h
      refine go_last hC e5 dX11_comes_87 ?_
      refine go_aload_n hC 0 dX11_comes_88 rfl rfl ?_
      refine go_dup hC dX11_comes_89 rfl ?_
      obtain ⟨v6, e6, h⟩ := mt_ob h
      refine go_getI hC mt_flX11_194 e6 dX11_comes_90 ?_
      refine go_iconst (v := 1) hC dX11_comes_93 (by decide) ?_
      refine go_iadd hC dX11_comes_94 ?_
      obtain ⟨S7, e7, h⟩ := mt_ob h
      refine go_putI hC mt_flX11_194 e7 dX11_comes_95 ?_
      exact go_vret hC (mt_rev h hE) dX11_comes_98
    · have h := mt_in' h hc
      refine go_aload_n hC 0 dX11_comes_59 rfl rfl ?_
      obtain ⟨v8, e8, h⟩ := mt_ob h
      refine go_getR hC mt_flX11_50 e8 dX11_comes_60 ?_
      refine go_iload hC 3 dX11_comes_63 rfl ?_
      refine go_aload_n hC 0 dX11_comes_65 rfl rfl ?_
      obtain ⟨v9, e9, h⟩ := mt_ob h
      refine go_getR hC mt_flX11_50 e9 dX11_comes_66 ?_
      refine go_iload hC 3 dX11_comes_69 rfl ?_
      refine go_iconst (v := 1) hC dX11_comes_71 (by decide) ?_
      refine go_isub hC dX11_comes_72 ?_
      obtain ⟨v10, e10, h⟩ := mt_ob h
      refine go_lald hC e10 dX11_comes_73 ?_
      obtain ⟨S11, e11, h⟩ := mt_ob h
      refine go_last hC e11 dX11_comes_74 ?_
      refine go_iinc hC 3 [1, 2, 3, 0] (v := x4 + (-1)) (lv1 := [(0, mt_rf B x0), (1, .long x1), (3, .int x3), (4, .int (x4 + (-1)))]) dX11_comes_75 rfl rfl (by decide) rfl ?_
      refine go_goto hC (tgt := 53) dX11_comes_78 (by decide) ?_
      exact ih _ _ _ _ _ h
set_option maxHeartbeats 4000000 in
set_option maxRecDepth 100000 in
theorem ov_X11_comes_L53 {T : mt_S} {S' : mt_S} : ∀ (n : Nat) (x0 : Nat) (x1 : Int64) (x3 : Int32) (x4 : Int32) (S : mt_S), mt_cp S T → f_X11_comes_L53 n x0 x1 x3 x4 S = some S' → f_X11_comes_L53 n x0 x1 x3 x4 (mt_ov S T) = some (mt_ov S' T) ∧ mt_cp S' T := by
  intro n
  induction n with
  | zero =>
    intro x0 x1 x3 x4 S hp h
    cases h
  | succ n ih =>
    intro x0 x1 x3 x4 S hp h
    have h : f_X11_comes_L53s (f_X11_comes_L53 n) x0 x1 x3 x4 S = some S' := h
    show f_X11_comes_L53s (f_X11_comes_L53 n) x0 x1 x3 x4 (mt_ov S T) = some (mt_ov S' T) ∧ mt_cp S' T
    unfold f_X11_comes_L53s at h ⊢
    by_cases hc : x4 ≤ x3
    · have h := mt_ip h hc
      refine ov_t hc ?_
      obtain ⟨v4, e4, h⟩ := mt_ob h
      refine ov_b (ov_rR hp e4) ?_
      obtain ⟨S5, e5, h⟩ := mt_ob h
      obtain ⟨o_, hp⟩ := ov_sL hp e5
      refine ov_b o_ ?_
      obtain ⟨v6, e6, h⟩ := mt_ob h
      refine ov_b (ov_rI hp e6) ?_
      obtain ⟨S7, e7, h⟩ := mt_ob h
      obtain ⟨o_, hp⟩ := ov_wI hp e7
      refine ov_b o_ ?_
      exact ov_retv hp h
    · have h := mt_in' h hc
      refine ov_f hc ?_
      obtain ⟨v8, e8, h⟩ := mt_ob h
      refine ov_b (ov_rR hp e8) ?_
      obtain ⟨v9, e9, h⟩ := mt_ob h
      refine ov_b (ov_rR hp e9) ?_
      obtain ⟨v10, e10, h⟩ := mt_ob h
      refine ov_b (ov_aL hp e10) ?_
      obtain ⟨S11, e11, h⟩ := mt_ob h
      obtain ⟨o_, hp⟩ := ov_sL hp e11
      refine ov_b o_ ?_
      exact ih _ _ _ _ _ hp h
def f_X11_comes_L2s (rc : Nat → Int64 → Int32 → mt_S → Option (mt_S)) (x0 : Nat) (x1 : Int64) (x3 : Int32) (S : mt_S) : Option (mt_S) :=
  Option.bind (mt_rI S x0 11 24) fun v1 =>
  if v1 ≤ x3 then
   Option.bind (mt_rI S x0 11 24) fun v2 =>
   if v2 ≤ x3 then
    Option.bind (mt_rI S x0 11 24) fun v3 =>
    f_X11_comes_L53 1000 x0 x1 x3 v3 S
   else
    Option.bind (mt_rR S x0 11 23) fun v12 =>
    Option.bind (mt_aL S v12 x3) fun v13 =>
    if v13 = x1 then
     some S
    else
     Option.bind (mt_rI S x0 11 24) fun v14 =>
     f_X11_comes_L53 1000 x0 x1 x3 v14 S
  else
   Option.bind (mt_rR S x0 11 23) fun v15 =>
   Option.bind (mt_aL S v15 x3) fun v16 =>
   if x1 ≤ v16 then
    Option.bind (mt_rI S x0 11 24) fun v17 =>
    if v17 ≤ x3 then
     Option.bind (mt_rI S x0 11 24) fun v18 =>
     f_X11_comes_L53 1000 x0 x1 x3 v18 S
    else
     Option.bind (mt_rR S x0 11 23) fun v19 =>
     Option.bind (mt_aL S v19 x3) fun v20 =>
     if v20 = x1 then
      some S
     else
      Option.bind (mt_rI S x0 11 24) fun v21 =>
      f_X11_comes_L53 1000 x0 x1 x3 v21 S
   else
    rc x0 x1 (x3 + 1) S
def f_X11_comes_L2 : Nat → Nat → Int64 → Int32 → mt_S → Option (mt_S)
  | 0 => fun _ _ _ _ => none
  | n + 1 => f_X11_comes_L2s (f_X11_comes_L2 n)
set_option maxHeartbeats 4000000 in
set_option maxRecDepth 100000 in
theorem m_X11_comes_L2 {B : mt_B} {E : mt_E} {S' : mt_S} (hC : mt_Cx B E cX11_comes RX11 none 5 1 0 0) (hE : mt_End B E (0, 0) none S') : ∀ (n : Nat) (x0 : Nat) (x1 : Int64) (x3 : Int32) (S : mt_S), f_X11_comes_L2 n x0 x1 x3 S = some S' → mt_Go B E (0, 0) S 2 [(0, mt_rf B x0), (1, .long x1), (3, .int x3)] [] := by
  intro n
  induction n with
  | zero =>
    intro x0 x1 x3 S h
    cases h
  | succ n ih =>
    intro x0 x1 x3 S h
    have h : f_X11_comes_L2s (f_X11_comes_L2 n) x0 x1 x3 S = some S' := h
    unfold f_X11_comes_L2s at h
    refine go_iload_n hC 2 dX11_comes_2 rfl rfl ?_
    refine go_aload_n hC 0 dX11_comes_3 rfl rfl ?_
    obtain ⟨v1, e1, h⟩ := mt_ob h
    refine go_getI hC mt_flX11_194 e1 dX11_comes_4 ?_
    refine go_icmp_ge hC (tgt := 27) dX11_comes_7 (by decide) (fun hc => ?_) (fun hc => ?_)
    · have h := mt_ip h hc
      refine go_iload_n hC 2 dX11_comes_27 rfl rfl ?_
      refine go_aload_n hC 0 dX11_comes_28 rfl rfl ?_
      obtain ⟨v2, e2, h⟩ := mt_ob h
      refine go_getI hC mt_flX11_194 e2 dX11_comes_29 ?_
      refine go_icmp_ge hC (tgt := 47) dX11_comes_32 (by decide) (fun hc => ?_) (fun hc => ?_)
      · have h := mt_ip h hc
        refine go_aload_n hC 0 dX11_comes_47 rfl rfl ?_
        obtain ⟨v3, e3, h⟩ := mt_ob h
        refine go_getI hC mt_flX11_194 e3 dX11_comes_48 ?_
        refine go_istore hC [1, 2, 3, 0] (lv1 := [(0, mt_rf B x0), (1, .long x1), (3, .int x3), (4, .int v3)]) dX11_comes_51 (by decide) rfl ?_
        exact m_X11_comes_L53 hC hE 1000 _ _ _ _ _ h
      · have h := mt_in' h hc
        refine go_aload_n hC 0 dX11_comes_35 rfl rfl ?_
        obtain ⟨v12, e12, h⟩ := mt_ob h
        refine go_getR hC mt_flX11_50 e12 dX11_comes_36 ?_
        refine go_iload_n hC 2 dX11_comes_39 rfl rfl ?_
        obtain ⟨v13, e13, h⟩ := mt_ob h
        refine go_lald hC e13 dX11_comes_40 ?_
        refine go_lload_n hC 1 dX11_comes_41 rfl rfl ?_
        refine go_lcmp_ne hC (tgt := 47) dX11_comes_42 dX11_comes_43 (by decide) (fun hc => ?_) (fun hc => ?_)
        · have h := mt_in' h hc
          refine go_aload_n hC 0 dX11_comes_47 rfl rfl ?_
          obtain ⟨v14, e14, h⟩ := mt_ob h
          refine go_getI hC mt_flX11_194 e14 dX11_comes_48 ?_
          refine go_istore hC [1, 2, 3, 0] (lv1 := [(0, mt_rf B x0), (1, .long x1), (3, .int x3), (4, .int v14)]) dX11_comes_51 (by decide) rfl ?_
          exact m_X11_comes_L53 hC hE 1000 _ _ _ _ _ h
        · have h := mt_ip h hc
          exact go_vret hC (mt_rev h hE) dX11_comes_46
    · have h := mt_in' h hc
      refine go_aload_n hC 0 dX11_comes_10 rfl rfl ?_
      obtain ⟨v15, e15, h⟩ := mt_ob h
      refine go_getR hC mt_flX11_50 e15 dX11_comes_11 ?_
      refine go_iload_n hC 2 dX11_comes_14 rfl rfl ?_
      obtain ⟨v16, e16, h⟩ := mt_ob h
      refine go_lald hC e16 dX11_comes_15 ?_
      refine go_lload_n hC 1 dX11_comes_16 rfl rfl ?_
      refine go_lcmp_ge hC (tgt := 27) dX11_comes_17 dX11_comes_18 (by decide) (fun hc => ?_) (fun hc => ?_)
      · have h := mt_ip h hc
        refine go_iload_n hC 2 dX11_comes_27 rfl rfl ?_
        refine go_aload_n hC 0 dX11_comes_28 rfl rfl ?_
        obtain ⟨v17, e17, h⟩ := mt_ob h
        refine go_getI hC mt_flX11_194 e17 dX11_comes_29 ?_
        refine go_icmp_ge hC (tgt := 47) dX11_comes_32 (by decide) (fun hc => ?_) (fun hc => ?_)
        · have h := mt_ip h hc
          refine go_aload_n hC 0 dX11_comes_47 rfl rfl ?_
          obtain ⟨v18, e18, h⟩ := mt_ob h
          refine go_getI hC mt_flX11_194 e18 dX11_comes_48 ?_
          refine go_istore hC [1, 2, 3, 0] (lv1 := [(0, mt_rf B x0), (1, .long x1), (3, .int x3), (4, .int v18)]) dX11_comes_51 (by decide) rfl ?_
          exact m_X11_comes_L53 hC hE 1000 _ _ _ _ _ h
        · have h := mt_in' h hc
          refine go_aload_n hC 0 dX11_comes_35 rfl rfl ?_
          obtain ⟨v19, e19, h⟩ := mt_ob h
          refine go_getR hC mt_flX11_50 e19 dX11_comes_36 ?_
          refine go_iload_n hC 2 dX11_comes_39 rfl rfl ?_
          obtain ⟨v20, e20, h⟩ := mt_ob h
          refine go_lald hC e20 dX11_comes_40 ?_
          refine go_lload_n hC 1 dX11_comes_41 rfl rfl ?_
          refine go_lcmp_ne hC (tgt := 47) dX11_comes_42 dX11_comes_43 (by decide) (fun hc => ?_) (fun hc => ?_)
          · have h := mt_in' h hc
            refine go_aload_n hC 0 dX11_comes_47 rfl rfl ?_
            obtain ⟨v21, e21, h⟩ := mt_ob h
            refine go_getI hC mt_flX11_194 e21 dX11_comes_48 ?_
            refine go_istore hC [1, 2, 3, 0] (lv1 := [(0, mt_rf B x0), (1, .long x1), (3, .int x3), (4, .int v21)]) dX11_comes_51 (by decide) rfl ?_
            exact m_X11_comes_L53 hC hE 1000 _ _ _ _ _ h
          · have h := mt_ip h hc
            exact go_vret hC (mt_rev h hE) dX11_comes_46
      · have h := mt_in' h hc
        refine go_iinc hC 2 [1, 2, 0] (v := x3 + 1) (lv1 := [(0, mt_rf B x0), (1, .long x1), (3, .int (x3 + 1))]) dX11_comes_21 rfl rfl (by decide) rfl ?_
        refine go_goto hC (tgt := 2) dX11_comes_24 (by decide) ?_
        exact ih _ _ _ _ h
set_option maxHeartbeats 4000000 in
set_option maxRecDepth 100000 in
theorem ov_X11_comes_L2 {T : mt_S} {S' : mt_S} : ∀ (n : Nat) (x0 : Nat) (x1 : Int64) (x3 : Int32) (S : mt_S), mt_cp S T → f_X11_comes_L2 n x0 x1 x3 S = some S' → f_X11_comes_L2 n x0 x1 x3 (mt_ov S T) = some (mt_ov S' T) ∧ mt_cp S' T := by
  intro n
  induction n with
  | zero =>
    intro x0 x1 x3 S hp h
    cases h
  | succ n ih =>
    intro x0 x1 x3 S hp h
    have h : f_X11_comes_L2s (f_X11_comes_L2 n) x0 x1 x3 S = some S' := h
    show f_X11_comes_L2s (f_X11_comes_L2 n) x0 x1 x3 (mt_ov S T) = some (mt_ov S' T) ∧ mt_cp S' T
    unfold f_X11_comes_L2s at h ⊢
    obtain ⟨v1, e1, h⟩ := mt_ob h
    refine ov_b (ov_rI hp e1) ?_
    by_cases hc : v1 ≤ x3
    · have h := mt_ip h hc
      refine ov_t hc ?_
      obtain ⟨v2, e2, h⟩ := mt_ob h
      refine ov_b (ov_rI hp e2) ?_
      by_cases hc : v2 ≤ x3
      · have h := mt_ip h hc
        refine ov_t hc ?_
        obtain ⟨v3, e3, h⟩ := mt_ob h
        refine ov_b (ov_rI hp e3) ?_
        exact ov_X11_comes_L53 1000 _ _ _ _ _ hp h
      · have h := mt_in' h hc
        refine ov_f hc ?_
        obtain ⟨v12, e12, h⟩ := mt_ob h
        refine ov_b (ov_rR hp e12) ?_
        obtain ⟨v13, e13, h⟩ := mt_ob h
        refine ov_b (ov_aL hp e13) ?_
        by_cases hc : v13 = x1
        · have h := mt_ip h hc
          refine ov_t hc ?_
          exact ov_retv hp h
        · have h := mt_in' h hc
          refine ov_f hc ?_
          obtain ⟨v14, e14, h⟩ := mt_ob h
          refine ov_b (ov_rI hp e14) ?_
          exact ov_X11_comes_L53 1000 _ _ _ _ _ hp h
    · have h := mt_in' h hc
      refine ov_f hc ?_
      obtain ⟨v15, e15, h⟩ := mt_ob h
      refine ov_b (ov_rR hp e15) ?_
      obtain ⟨v16, e16, h⟩ := mt_ob h
      refine ov_b (ov_aL hp e16) ?_
      by_cases hc : x1 ≤ v16
      · have h := mt_ip h hc
        refine ov_t hc ?_
        obtain ⟨v17, e17, h⟩ := mt_ob h
        refine ov_b (ov_rI hp e17) ?_
        by_cases hc : v17 ≤ x3
        · have h := mt_ip h hc
          refine ov_t hc ?_
          obtain ⟨v18, e18, h⟩ := mt_ob h
          refine ov_b (ov_rI hp e18) ?_
          exact ov_X11_comes_L53 1000 _ _ _ _ _ hp h
        · have h := mt_in' h hc
          refine ov_f hc ?_
          obtain ⟨v19, e19, h⟩ := mt_ob h
          refine ov_b (ov_rR hp e19) ?_
          obtain ⟨v20, e20, h⟩ := mt_ob h
          refine ov_b (ov_aL hp e20) ?_
          by_cases hc : v20 = x1
          · have h := mt_ip h hc
            refine ov_t hc ?_
            exact ov_retv hp h
          · have h := mt_in' h hc
            refine ov_f hc ?_
            obtain ⟨v21, e21, h⟩ := mt_ob h
            refine ov_b (ov_rI hp e21) ?_
            exact ov_X11_comes_L53 1000 _ _ _ _ _ hp h
      · have h := mt_in' h hc
        refine ov_f hc ?_
        exact ih _ _ _ _ hp h
def f_X11_comes (x0 : Nat) (x1 : Int64) (S : mt_S) : Option (mt_S) :=
  if mt_isK S x0 11 = true then
   f_X11_comes_L2 1000 x0 x1 0 S
  else none
theorem k_X11_comes {x0 : Nat} {x1 : Int64} {S : mt_S} {S' : mt_S} (h : f_X11_comes x0 x1 S = some S') : mt_isK S x0 11 = true := by
  unfold f_X11_comes at h
  exact (mt_gd h).1
set_option maxHeartbeats 4000000 in
set_option maxRecDepth 100000 in
theorem m_X11_comes {B : mt_B}  {x0 : Nat} {x1 : Int64} {S : mt_S} {S' : mt_S} (h : f_X11_comes x0 x1 S = some S') : mt_M B yX11_comes cX11_comes 5 none 1 [mt_rf B x0, .long x1] S none S' := by
  unfold f_X11_comes at h
  refine mt_M.of (by decide) (Nat.le_of_ble_eq_true rfl) (fun E hC hE => ?_)
  obtain ⟨hk0, h⟩ := mt_gd h
  refine go_iconst (v := 0) hC dX11_comes_0 (by decide) ?_
  refine go_istore_n hC [1, 2, 0] (lv1 := [(0, mt_rf B x0), (1, .long x1), (3, .int 0)]) dX11_comes_1 rfl (by decide) rfl ?_
  exact m_X11_comes_L2 hC hE 1000 _ _ _ _ h
set_option maxHeartbeats 4000000 in
set_option maxRecDepth 100000 in
theorem ov_X11_comes {T : mt_S}  {x0 : Nat} {x1 : Int64} {S : mt_S} {S' : mt_S} (hp : mt_cp S T) (h : f_X11_comes x0 x1 S = some S') : f_X11_comes x0 x1 (mt_ov S T) = some (mt_ov S' T) ∧ mt_cp S' T := by
  unfold f_X11_comes at h ⊢
  obtain ⟨hg, h⟩ := mt_gd h
  refine ov_t (ov_K hp hg) ?_
  exact ov_X11_comes_L2 1000 _ _ _ _ hp h
def f_X11_growss (rr : Nat → Int64 → Int64 → Int64 → mt_S → Option (mt_S)) (x0 : Nat) (x1 : Int64) (x3 : Int64) (x5 : Int64) (S : mt_S) : Option (mt_S) :=
  if mt_isK S x0 11 = true then
   Option.bind (f_X11_comes x0 x5 S) fun S1 =>
   Option.bind (mt_rL S1 x0 11 26) fun v2 =>
   if x5 = v2 then
    Option.bind (mt_rI S1 x0 11 25) fun v9 =>
    if v9 = 0 then
     Option.bind (mt_wL S1 x0 11 27 x1) fun S10 =>
     Option.bind (mt_wL S10 x0 11 28 x3) fun S11 =>
     Option.bind (mt_rI S11 x0 11 25) fun v12 =>
     Option.bind (mt_wI S11 x0 11 25 (v12 + 1)) fun S13 =>
     if (3 * x1) = 0 then none else
     if ((1000000000000 + x3) / (3 * x1)) < x5 then
      if (3 * x3) = 0 then none else
      if ((1000000000000 + x1) / (3 * x3)) < x5 then
       some S13
      else
       Option.bind (rr x0 x3 x5 (((3 * x3) * x5) - x1) S13) fun S14 =>
       some S14
     else
      Option.bind (rr x0 x1 x5 (((3 * x1) * x5) - x3) S13) fun S16 =>
      if (3 * x3) = 0 then none else
      if ((1000000000000 + x1) / (3 * x3)) < x5 then
       some S16
      else
       Option.bind (rr x0 x3 x5 (((3 * x3) * x5) - x1) S16) fun S17 =>
       some S17
    else
     Option.bind (mt_rL S1 x0 11 27) fun v20 =>
     if v20 ≤ x1 then
      Option.bind (mt_rI S1 x0 11 25) fun v21 =>
      Option.bind (mt_wI S1 x0 11 25 (v21 + 1)) fun S22 =>
      if (3 * x1) = 0 then none else
      if ((1000000000000 + x3) / (3 * x1)) < x5 then
       if (3 * x3) = 0 then none else
       if ((1000000000000 + x1) / (3 * x3)) < x5 then
        some S22
       else
        Option.bind (rr x0 x3 x5 (((3 * x3) * x5) - x1) S22) fun S23 =>
        some S23
      else
       Option.bind (rr x0 x1 x5 (((3 * x1) * x5) - x3) S22) fun S25 =>
       if (3 * x3) = 0 then none else
       if ((1000000000000 + x1) / (3 * x3)) < x5 then
        some S25
       else
        Option.bind (rr x0 x3 x5 (((3 * x3) * x5) - x1) S25) fun S26 =>
        some S26
     else
      Option.bind (mt_wL S1 x0 11 27 x1) fun S29 =>
      Option.bind (mt_wL S29 x0 11 28 x3) fun S30 =>
      Option.bind (mt_rI S30 x0 11 25) fun v31 =>
      Option.bind (mt_wI S30 x0 11 25 (v31 + 1)) fun S32 =>
      if (3 * x1) = 0 then none else
      if ((1000000000000 + x3) / (3 * x1)) < x5 then
       if (3 * x3) = 0 then none else
       if ((1000000000000 + x1) / (3 * x3)) < x5 then
        some S32
       else
        Option.bind (rr x0 x3 x5 (((3 * x3) * x5) - x1) S32) fun S33 =>
        some S33
      else
       Option.bind (rr x0 x1 x5 (((3 * x1) * x5) - x3) S32) fun S35 =>
       if (3 * x3) = 0 then none else
       if ((1000000000000 + x1) / (3 * x3)) < x5 then
        some S35
       else
        Option.bind (rr x0 x3 x5 (((3 * x3) * x5) - x1) S35) fun S36 =>
        some S36
   else
    if (3 * x1) = 0 then none else
    if ((1000000000000 + x3) / (3 * x1)) < x5 then
     if (3 * x3) = 0 then none else
     if ((1000000000000 + x1) / (3 * x3)) < x5 then
      some S1
     else
      Option.bind (rr x0 x3 x5 (((3 * x3) * x5) - x1) S1) fun S3 =>
      some S3
    else
     Option.bind (rr x0 x1 x5 (((3 * x1) * x5) - x3) S1) fun S5 =>
     if (3 * x3) = 0 then none else
     if ((1000000000000 + x1) / (3 * x3)) < x5 then
      some S5
     else
      Option.bind (rr x0 x3 x5 (((3 * x3) * x5) - x1) S5) fun S6 =>
      some S6
  else none
def f_X11_grows : Nat → Nat → Int64 → Int64 → Int64 → mt_S → Option (mt_S)
  | 0 => fun _ _ _ _ _ => none
  | n + 1 => f_X11_growss (f_X11_grows n)
theorem k_X11_grows {n : Nat} {x0 : Nat} {x1 : Int64} {x3 : Int64} {x5 : Int64} {S : mt_S} {S' : mt_S} (h : f_X11_grows n x0 x1 x3 x5 S = some S') : mt_isK S x0 11 = true := by
  cases n with
  | zero => cases h
  | succ n =>
    have h : f_X11_growss (f_X11_grows n) x0 x1 x3 x5 S = some S' := h
    unfold f_X11_growss at h
    exact (mt_gd h).1
set_option maxHeartbeats 4000000 in
set_option maxRecDepth 100000 in
theorem ms_X11_grows {B : mt_B} (rr : Nat → Int64 → Int64 → Int64 → mt_S → Option (mt_S)) {dr : Nat} (hr : ∀ (x0 : Nat) (x1 : Int64) (x3 : Int64) (x5 : Int64) (S S' : mt_S), rr x0 x1 x3 x5 S = some S' → mt_M B yX11_grows cX11_grows 7 none dr [mt_rf B x0, .long x1, .long x3, .long x5] S none S') (hkr : ∀ (x0 : Nat) (x1 : Int64) (x3 : Int64) (x5 : Int64) (S S' : mt_S), rr x0 x1 x3 x5 S = some S' → mt_isK S x0 11 = true) {x0 : Nat} {x1 : Int64} {x3 : Int64} {x5 : Int64} {S : mt_S} {S' : mt_S} (h : f_X11_growss rr x0 x1 x3 x5 S = some S') : mt_M B yX11_grows cX11_grows 7 none (dr + 2) [mt_rf B x0, .long x1, .long x3, .long x5] S none S' := by
  unfold f_X11_growss at h
  refine mt_M.of (by decide) (Nat.le_of_ble_eq_true rfl) (fun E hC hE => ?_)
  obtain ⟨hk0, h⟩ := mt_gd h
  refine go_aload_n hC 0 dX11_grows_0 rfl rfl ?_
  refine go_lload hC 3 dX11_grows_1 rfl ?_
  obtain ⟨S1, e1, h⟩ := mt_ob h
  refine go_callVv hC [.long x5] [] (m_X11_comes e1) mt_cvX11_197 (k_X11_comes e1) dX11_grows_3 rfl rfl (by omega) (Nat.le_of_ble_eq_true rfl) ⟨Nat.le_refl _, Nat.le_refl _⟩ ?_
  refine go_lload hC 3 dX11_grows_6 rfl ?_
  refine go_aload_n hC 0 dX11_grows_8 rfl rfl ?_
  obtain ⟨v2, e2, h⟩ := mt_ob h
  refine go_getL hC mt_flX11_201 e2 dX11_grows_9 ?_
  refine go_lcmp_ne hC (tgt := 52) dX11_grows_12 dX11_grows_13 (by decide) (fun hc => ?_) (fun hc => ?_)
  · have h := mt_in' h hc
    refine go_lload hC 3 dX11_grows_52 rfl ?_
    refine go_ldc2 hC dX11_grows_54 mt_kX11_213 ?_
    refine go_lload_n hC 2 dX11_grows_57 rfl rfl ?_
    refine go_ladd hC dX11_grows_58 ?_
    refine go_ldc2 hC dX11_grows_59 mt_kX11_151 ?_
    refine go_lload_n hC 1 dX11_grows_62 rfl rfl ?_
    refine go_lmul hC dX11_grows_63 ?_
    have g8 : ¬ (3 * x1) = 0 := fun q => by rw [if_pos q] at h; cases h
    have h := mt_in' h g8
    refine go_ldiv hC dX11_grows_64 g8 ?_
    refine go_lcmp_gt hC (tgt := 86) dX11_grows_65 dX11_grows_66 (by decide) (fun hc => ?_) (fun hc => ?_)
    · have h := mt_ip h hc
      refine go_lload hC 3 dX11_grows_86 rfl ?_
      refine go_ldc2 hC dX11_grows_88 mt_kX11_213 ?_
      refine go_lload_n hC 1 dX11_grows_91 rfl rfl ?_
      refine go_ladd hC dX11_grows_92 ?_
      refine go_ldc2 hC dX11_grows_93 mt_kX11_151 ?_
      refine go_lload_n hC 2 dX11_grows_96 rfl rfl ?_
      refine go_lmul hC dX11_grows_97 ?_
      have g4 : ¬ (3 * x3) = 0 := fun q => by rw [if_pos q] at h; cases h
      have h := mt_in' h g4
      refine go_ldiv hC dX11_grows_98 g4 ?_
      refine go_lcmp_gt hC (tgt := 120) dX11_grows_99 dX11_grows_100 (by decide) (fun hc => ?_) (fun hc => ?_)
      · have h := mt_ip h hc
        exact go_vret hC (mt_rev h hE) dX11_grows_120
      · have h := mt_in' h hc
        refine go_aload_n hC 0 dX11_grows_103 rfl rfl ?_
        refine go_lload_n hC 2 dX11_grows_104 rfl rfl ?_
        refine go_lload hC 3 dX11_grows_105 rfl ?_
        refine go_ldc2 hC dX11_grows_107 mt_kX11_151 ?_
        refine go_lload_n hC 2 dX11_grows_110 rfl rfl ?_
        refine go_lmul hC dX11_grows_111 ?_
        refine go_lload hC 3 dX11_grows_112 rfl ?_
        refine go_lmul hC dX11_grows_114 ?_
        refine go_lload_n hC 1 dX11_grows_115 rfl rfl ?_
        refine go_lsub hC dX11_grows_116 ?_
        obtain ⟨S3, e3, h⟩ := mt_ob h
        refine go_callVv hC [.long x3, .long x5, .long (((3 * x3) * x5) - x1)] [] (hr _ _ _ _ _ _ e3) mt_cvX11_215 (hkr _ _ _ _ _ _ e3) dX11_grows_117 rfl rfl (by omega) (Nat.le_of_ble_eq_true rfl) ⟨Nat.le_refl _, Nat.le_refl _⟩ ?_
        exact go_vret hC (mt_rev h hE) dX11_grows_120
    · have h := mt_in' h hc
      refine go_aload_n hC 0 dX11_grows_69 rfl rfl ?_
      refine go_lload_n hC 1 dX11_grows_70 rfl rfl ?_
      refine go_lload hC 3 dX11_grows_71 rfl ?_
      refine go_ldc2 hC dX11_grows_73 mt_kX11_151 ?_
      refine go_lload_n hC 1 dX11_grows_76 rfl rfl ?_
      refine go_lmul hC dX11_grows_77 ?_
      refine go_lload hC 3 dX11_grows_78 rfl ?_
      refine go_lmul hC dX11_grows_80 ?_
      refine go_lload_n hC 2 dX11_grows_81 rfl rfl ?_
      refine go_lsub hC dX11_grows_82 ?_
      obtain ⟨S5, e5, h⟩ := mt_ob h
      refine go_callVv hC [.long x1, .long x5, .long (((3 * x1) * x5) - x3)] [] (hr _ _ _ _ _ _ e5) mt_cvX11_215 (hkr _ _ _ _ _ _ e5) dX11_grows_83 rfl rfl (by omega) (Nat.le_of_ble_eq_true rfl) ⟨Nat.le_refl _, Nat.le_refl _⟩ ?_
      refine go_lload hC 3 dX11_grows_86 rfl ?_
      refine go_ldc2 hC dX11_grows_88 mt_kX11_213 ?_
      refine go_lload_n hC 1 dX11_grows_91 rfl rfl ?_
      refine go_ladd hC dX11_grows_92 ?_
      refine go_ldc2 hC dX11_grows_93 mt_kX11_151 ?_
      refine go_lload_n hC 2 dX11_grows_96 rfl rfl ?_
      refine go_lmul hC dX11_grows_97 ?_
      have g7 : ¬ (3 * x3) = 0 := fun q => by rw [if_pos q] at h; cases h
      have h := mt_in' h g7
      refine go_ldiv hC dX11_grows_98 g7 ?_
      refine go_lcmp_gt hC (tgt := 120) dX11_grows_99 dX11_grows_100 (by decide) (fun hc => ?_) (fun hc => ?_)
      · have h := mt_ip h hc
        exact go_vret hC (mt_rev h hE) dX11_grows_120
      · have h := mt_in' h hc
        refine go_aload_n hC 0 dX11_grows_103 rfl rfl ?_
        refine go_lload_n hC 2 dX11_grows_104 rfl rfl ?_
        refine go_lload hC 3 dX11_grows_105 rfl ?_
        refine go_ldc2 hC dX11_grows_107 mt_kX11_151 ?_
        refine go_lload_n hC 2 dX11_grows_110 rfl rfl ?_
        refine go_lmul hC dX11_grows_111 ?_
        refine go_lload hC 3 dX11_grows_112 rfl ?_
        refine go_lmul hC dX11_grows_114 ?_
        refine go_lload_n hC 1 dX11_grows_115 rfl rfl ?_
        refine go_lsub hC dX11_grows_116 ?_
        obtain ⟨S6, e6, h⟩ := mt_ob h
        refine go_callVv hC [.long x3, .long x5, .long (((3 * x3) * x5) - x1)] [] (hr _ _ _ _ _ _ e6) mt_cvX11_215 (hkr _ _ _ _ _ _ e6) dX11_grows_117 rfl rfl (by omega) (Nat.le_of_ble_eq_true rfl) ⟨Nat.le_refl _, Nat.le_refl _⟩ ?_
        exact go_vret hC (mt_rev h hE) dX11_grows_120
  · have h := mt_ip h hc
    refine go_aload_n hC 0 dX11_grows_16 rfl rfl ?_
    obtain ⟨v9, e9, h⟩ := mt_ob h
    refine go_getI hC mt_flX11_204 e9 dX11_grows_17 ?_
    refine go_if_eq hC (tgt := 32) dX11_grows_20 (by decide) (fun hc => ?_) (fun hc => ?_)
    · have h := mt_ip h hc
      refine go_aload_n hC 0 dX11_grows_32 rfl rfl ?_
      refine go_lload_n hC 1 dX11_grows_33 rfl rfl ?_
      obtain ⟨S10, e10, h⟩ := mt_ob h
      refine go_putL hC mt_flX11_207 e10 dX11_grows_34 ?_
      refine go_aload_n hC 0 dX11_grows_37 rfl rfl ?_
      refine go_lload_n hC 2 dX11_grows_38 rfl rfl ?_
      obtain ⟨S11, e11, h⟩ := mt_ob h
      refine go_putL hC mt_flX11_210 e11 dX11_grows_39 ?_
      refine go_aload_n hC 0 dX11_grows_42 rfl rfl ?_
      refine go_dup hC dX11_grows_43 rfl ?_
      obtain ⟨v12, e12, h⟩ := mt_ob h
      refine go_getI hC mt_flX11_204 e12 dX11_grows_44 ?_
      refine go_iconst (v := 1) hC dX11_grows_47 (by decide) ?_
      refine go_iadd hC dX11_grows_48 ?_
      obtain ⟨S13, e13, h⟩ := mt_ob h
      refine go_putI hC mt_flX11_204 e13 dX11_grows_49 ?_
      refine go_lload hC 3 dX11_grows_52 rfl ?_
      refine go_ldc2 hC dX11_grows_54 mt_kX11_213 ?_
      refine go_lload_n hC 2 dX11_grows_57 rfl rfl ?_
      refine go_ladd hC dX11_grows_58 ?_
      refine go_ldc2 hC dX11_grows_59 mt_kX11_151 ?_
      refine go_lload_n hC 1 dX11_grows_62 rfl rfl ?_
      refine go_lmul hC dX11_grows_63 ?_
      have g19 : ¬ (3 * x1) = 0 := fun q => by rw [if_pos q] at h; cases h
      have h := mt_in' h g19
      refine go_ldiv hC dX11_grows_64 g19 ?_
      refine go_lcmp_gt hC (tgt := 86) dX11_grows_65 dX11_grows_66 (by decide) (fun hc => ?_) (fun hc => ?_)
      · have h := mt_ip h hc
        refine go_lload hC 3 dX11_grows_86 rfl ?_
        refine go_ldc2 hC dX11_grows_88 mt_kX11_213 ?_
        refine go_lload_n hC 1 dX11_grows_91 rfl rfl ?_
        refine go_ladd hC dX11_grows_92 ?_
        refine go_ldc2 hC dX11_grows_93 mt_kX11_151 ?_
        refine go_lload_n hC 2 dX11_grows_96 rfl rfl ?_
        refine go_lmul hC dX11_grows_97 ?_
        have g15 : ¬ (3 * x3) = 0 := fun q => by rw [if_pos q] at h; cases h
        have h := mt_in' h g15
        refine go_ldiv hC dX11_grows_98 g15 ?_
        refine go_lcmp_gt hC (tgt := 120) dX11_grows_99 dX11_grows_100 (by decide) (fun hc => ?_) (fun hc => ?_)
        · have h := mt_ip h hc
          exact go_vret hC (mt_rev h hE) dX11_grows_120
        · have h := mt_in' h hc
          refine go_aload_n hC 0 dX11_grows_103 rfl rfl ?_
          refine go_lload_n hC 2 dX11_grows_104 rfl rfl ?_
          refine go_lload hC 3 dX11_grows_105 rfl ?_
          refine go_ldc2 hC dX11_grows_107 mt_kX11_151 ?_
          refine go_lload_n hC 2 dX11_grows_110 rfl rfl ?_
          refine go_lmul hC dX11_grows_111 ?_
          refine go_lload hC 3 dX11_grows_112 rfl ?_
          refine go_lmul hC dX11_grows_114 ?_
          refine go_lload_n hC 1 dX11_grows_115 rfl rfl ?_
          refine go_lsub hC dX11_grows_116 ?_
          obtain ⟨S14, e14, h⟩ := mt_ob h
          refine go_callVv hC [.long x3, .long x5, .long (((3 * x3) * x5) - x1)] [] (hr _ _ _ _ _ _ e14) mt_cvX11_215 (hkr _ _ _ _ _ _ e14) dX11_grows_117 rfl rfl (by omega) (Nat.le_of_ble_eq_true rfl) ⟨Nat.le_refl _, Nat.le_refl _⟩ ?_
          exact go_vret hC (mt_rev h hE) dX11_grows_120
      · have h := mt_in' h hc
        refine go_aload_n hC 0 dX11_grows_69 rfl rfl ?_
        refine go_lload_n hC 1 dX11_grows_70 rfl rfl ?_
        refine go_lload hC 3 dX11_grows_71 rfl ?_
        refine go_ldc2 hC dX11_grows_73 mt_kX11_151 ?_
        refine go_lload_n hC 1 dX11_grows_76 rfl rfl ?_
        refine go_lmul hC dX11_grows_77 ?_
        refine go_lload hC 3 dX11_grows_78 rfl ?_
        refine go_lmul hC dX11_grows_80 ?_
        refine go_lload_n hC 2 dX11_grows_81 rfl rfl ?_
        refine go_lsub hC dX11_grows_82 ?_
        obtain ⟨S16, e16, h⟩ := mt_ob h
        refine go_callVv hC [.long x1, .long x5, .long (((3 * x1) * x5) - x3)] [] (hr _ _ _ _ _ _ e16) mt_cvX11_215 (hkr _ _ _ _ _ _ e16) dX11_grows_83 rfl rfl (by omega) (Nat.le_of_ble_eq_true rfl) ⟨Nat.le_refl _, Nat.le_refl _⟩ ?_
        refine go_lload hC 3 dX11_grows_86 rfl ?_
        refine go_ldc2 hC dX11_grows_88 mt_kX11_213 ?_
        refine go_lload_n hC 1 dX11_grows_91 rfl rfl ?_
        refine go_ladd hC dX11_grows_92 ?_
        refine go_ldc2 hC dX11_grows_93 mt_kX11_151 ?_
        refine go_lload_n hC 2 dX11_grows_96 rfl rfl ?_
        refine go_lmul hC dX11_grows_97 ?_
        have g18 : ¬ (3 * x3) = 0 := fun q => by rw [if_pos q] at h; cases h
        have h := mt_in' h g18
        refine go_ldiv hC dX11_grows_98 g18 ?_
        refine go_lcmp_gt hC (tgt := 120) dX11_grows_99 dX11_grows_100 (by decide) (fun hc => ?_) (fun hc => ?_)
        · have h := mt_ip h hc
          exact go_vret hC (mt_rev h hE) dX11_grows_120
        · have h := mt_in' h hc
          refine go_aload_n hC 0 dX11_grows_103 rfl rfl ?_
          refine go_lload_n hC 2 dX11_grows_104 rfl rfl ?_
          refine go_lload hC 3 dX11_grows_105 rfl ?_
          refine go_ldc2 hC dX11_grows_107 mt_kX11_151 ?_
          refine go_lload_n hC 2 dX11_grows_110 rfl rfl ?_
          refine go_lmul hC dX11_grows_111 ?_
          refine go_lload hC 3 dX11_grows_112 rfl ?_
          refine go_lmul hC dX11_grows_114 ?_
          refine go_lload_n hC 1 dX11_grows_115 rfl rfl ?_
          refine go_lsub hC dX11_grows_116 ?_
          obtain ⟨S17, e17, h⟩ := mt_ob h
          refine go_callVv hC [.long x3, .long x5, .long (((3 * x3) * x5) - x1)] [] (hr _ _ _ _ _ _ e17) mt_cvX11_215 (hkr _ _ _ _ _ _ e17) dX11_grows_117 rfl rfl (by omega) (Nat.le_of_ble_eq_true rfl) ⟨Nat.le_refl _, Nat.le_refl _⟩ ?_
          exact go_vret hC (mt_rev h hE) dX11_grows_120
    · have h := mt_in' h hc
      refine go_lload_n hC 1 dX11_grows_23 rfl rfl ?_
      refine go_aload_n hC 0 dX11_grows_24 rfl rfl ?_
      obtain ⟨v20, e20, h⟩ := mt_ob h
      refine go_getL hC mt_flX11_207 e20 dX11_grows_25 ?_
      refine go_lcmp_ge hC (tgt := 42) dX11_grows_28 dX11_grows_29 (by decide) (fun hc => ?_) (fun hc => ?_)
      · have h := mt_ip h hc
        refine go_aload_n hC 0 dX11_grows_42 rfl rfl ?_
        refine go_dup hC dX11_grows_43 rfl ?_
        obtain ⟨v21, e21, h⟩ := mt_ob h
        refine go_getI hC mt_flX11_204 e21 dX11_grows_44 ?_
        refine go_iconst (v := 1) hC dX11_grows_47 (by decide) ?_
        refine go_iadd hC dX11_grows_48 ?_
        obtain ⟨S22, e22, h⟩ := mt_ob h
        refine go_putI hC mt_flX11_204 e22 dX11_grows_49 ?_
        refine go_lload hC 3 dX11_grows_52 rfl ?_
        refine go_ldc2 hC dX11_grows_54 mt_kX11_213 ?_
        refine go_lload_n hC 2 dX11_grows_57 rfl rfl ?_
        refine go_ladd hC dX11_grows_58 ?_
        refine go_ldc2 hC dX11_grows_59 mt_kX11_151 ?_
        refine go_lload_n hC 1 dX11_grows_62 rfl rfl ?_
        refine go_lmul hC dX11_grows_63 ?_
        have g28 : ¬ (3 * x1) = 0 := fun q => by rw [if_pos q] at h; cases h
        have h := mt_in' h g28
        refine go_ldiv hC dX11_grows_64 g28 ?_
        refine go_lcmp_gt hC (tgt := 86) dX11_grows_65 dX11_grows_66 (by decide) (fun hc => ?_) (fun hc => ?_)
        · have h := mt_ip h hc
          refine go_lload hC 3 dX11_grows_86 rfl ?_
          refine go_ldc2 hC dX11_grows_88 mt_kX11_213 ?_
          refine go_lload_n hC 1 dX11_grows_91 rfl rfl ?_
          refine go_ladd hC dX11_grows_92 ?_
          refine go_ldc2 hC dX11_grows_93 mt_kX11_151 ?_
          refine go_lload_n hC 2 dX11_grows_96 rfl rfl ?_
          refine go_lmul hC dX11_grows_97 ?_
          have g24 : ¬ (3 * x3) = 0 := fun q => by rw [if_pos q] at h; cases h
          have h := mt_in' h g24
          refine go_ldiv hC dX11_grows_98 g24 ?_
          refine go_lcmp_gt hC (tgt := 120) dX11_grows_99 dX11_grows_100 (by decide) (fun hc => ?_) (fun hc => ?_)
          · have h := mt_ip h hc
            exact go_vret hC (mt_rev h hE) dX11_grows_120
          · have h := mt_in' h hc
            refine go_aload_n hC 0 dX11_grows_103 rfl rfl ?_
            refine go_lload_n hC 2 dX11_grows_104 rfl rfl ?_
            refine go_lload hC 3 dX11_grows_105 rfl ?_
            refine go_ldc2 hC dX11_grows_107 mt_kX11_151 ?_
            refine go_lload_n hC 2 dX11_grows_110 rfl rfl ?_
            refine go_lmul hC dX11_grows_111 ?_
            refine go_lload hC 3 dX11_grows_112 rfl ?_
            refine go_lmul hC dX11_grows_114 ?_
            refine go_lload_n hC 1 dX11_grows_115 rfl rfl ?_
            refine go_lsub hC dX11_grows_116 ?_
            obtain ⟨S23, e23, h⟩ := mt_ob h
            refine go_callVv hC [.long x3, .long x5, .long (((3 * x3) * x5) - x1)] [] (hr _ _ _ _ _ _ e23) mt_cvX11_215 (hkr _ _ _ _ _ _ e23) dX11_grows_117 rfl rfl (by omega) (Nat.le_of_ble_eq_true rfl) ⟨Nat.le_refl _, Nat.le_refl _⟩ ?_
            exact go_vret hC (mt_rev h hE) dX11_grows_120
        · have h := mt_in' h hc
          refine go_aload_n hC 0 dX11_grows_69 rfl rfl ?_
          refine go_lload_n hC 1 dX11_grows_70 rfl rfl ?_
          refine go_lload hC 3 dX11_grows_71 rfl ?_
          refine go_ldc2 hC dX11_grows_73 mt_kX11_151 ?_
          refine go_lload_n hC 1 dX11_grows_76 rfl rfl ?_
          refine go_lmul hC dX11_grows_77 ?_
          refine go_lload hC 3 dX11_grows_78 rfl ?_
          refine go_lmul hC dX11_grows_80 ?_
          refine go_lload_n hC 2 dX11_grows_81 rfl rfl ?_
          refine go_lsub hC dX11_grows_82 ?_
          obtain ⟨S25, e25, h⟩ := mt_ob h
          refine go_callVv hC [.long x1, .long x5, .long (((3 * x1) * x5) - x3)] [] (hr _ _ _ _ _ _ e25) mt_cvX11_215 (hkr _ _ _ _ _ _ e25) dX11_grows_83 rfl rfl (by omega) (Nat.le_of_ble_eq_true rfl) ⟨Nat.le_refl _, Nat.le_refl _⟩ ?_
          refine go_lload hC 3 dX11_grows_86 rfl ?_
          refine go_ldc2 hC dX11_grows_88 mt_kX11_213 ?_
          refine go_lload_n hC 1 dX11_grows_91 rfl rfl ?_
          refine go_ladd hC dX11_grows_92 ?_
          refine go_ldc2 hC dX11_grows_93 mt_kX11_151 ?_
          refine go_lload_n hC 2 dX11_grows_96 rfl rfl ?_
          refine go_lmul hC dX11_grows_97 ?_
          have g27 : ¬ (3 * x3) = 0 := fun q => by rw [if_pos q] at h; cases h
          have h := mt_in' h g27
          refine go_ldiv hC dX11_grows_98 g27 ?_
          refine go_lcmp_gt hC (tgt := 120) dX11_grows_99 dX11_grows_100 (by decide) (fun hc => ?_) (fun hc => ?_)
          · have h := mt_ip h hc
            exact go_vret hC (mt_rev h hE) dX11_grows_120
          · have h := mt_in' h hc
            refine go_aload_n hC 0 dX11_grows_103 rfl rfl ?_
            refine go_lload_n hC 2 dX11_grows_104 rfl rfl ?_
            refine go_lload hC 3 dX11_grows_105 rfl ?_
            refine go_ldc2 hC dX11_grows_107 mt_kX11_151 ?_
            refine go_lload_n hC 2 dX11_grows_110 rfl rfl ?_
            refine go_lmul hC dX11_grows_111 ?_
            refine go_lload hC 3 dX11_grows_112 rfl ?_
            refine go_lmul hC dX11_grows_114 ?_
            refine go_lload_n hC 1 dX11_grows_115 rfl rfl ?_
            refine go_lsub hC dX11_grows_116 ?_
            obtain ⟨S26, e26, h⟩ := mt_ob h
            refine go_callVv hC [.long x3, .long x5, .long (((3 * x3) * x5) - x1)] [] (hr _ _ _ _ _ _ e26) mt_cvX11_215 (hkr _ _ _ _ _ _ e26) dX11_grows_117 rfl rfl (by omega) (Nat.le_of_ble_eq_true rfl) ⟨Nat.le_refl _, Nat.le_refl _⟩ ?_
            exact go_vret hC (mt_rev h hE) dX11_grows_120
      · have h := mt_in' h hc
        refine go_aload_n hC 0 dX11_grows_32 rfl rfl ?_
        refine go_lload_n hC 1 dX11_grows_33 rfl rfl ?_
        obtain ⟨S29, e29, h⟩ := mt_ob h
        refine go_putL hC mt_flX11_207 e29 dX11_grows_34 ?_
        refine go_aload_n hC 0 dX11_grows_37 rfl rfl ?_
        refine go_lload_n hC 2 dX11_grows_38 rfl rfl ?_
        obtain ⟨S30, e30, h⟩ := mt_ob h
        refine go_putL hC mt_flX11_210 e30 dX11_grows_39 ?_
        refine go_aload_n hC 0 dX11_grows_42 rfl rfl ?_
        refine go_dup hC dX11_grows_43 rfl ?_
        obtain ⟨v31, e31, h⟩ := mt_ob h
        refine go_getI hC mt_flX11_204 e31 dX11_grows_44 ?_
        refine go_iconst (v := 1) hC dX11_grows_47 (by decide) ?_
        refine go_iadd hC dX11_grows_48 ?_
        obtain ⟨S32, e32, h⟩ := mt_ob h
        refine go_putI hC mt_flX11_204 e32 dX11_grows_49 ?_
        refine go_lload hC 3 dX11_grows_52 rfl ?_
        refine go_ldc2 hC dX11_grows_54 mt_kX11_213 ?_
        refine go_lload_n hC 2 dX11_grows_57 rfl rfl ?_
        refine go_ladd hC dX11_grows_58 ?_
        refine go_ldc2 hC dX11_grows_59 mt_kX11_151 ?_
        refine go_lload_n hC 1 dX11_grows_62 rfl rfl ?_
        refine go_lmul hC dX11_grows_63 ?_
        have g38 : ¬ (3 * x1) = 0 := fun q => by rw [if_pos q] at h; cases h
        have h := mt_in' h g38
        refine go_ldiv hC dX11_grows_64 g38 ?_
        refine go_lcmp_gt hC (tgt := 86) dX11_grows_65 dX11_grows_66 (by decide) (fun hc => ?_) (fun hc => ?_)
        · have h := mt_ip h hc
          refine go_lload hC 3 dX11_grows_86 rfl ?_
          refine go_ldc2 hC dX11_grows_88 mt_kX11_213 ?_
          refine go_lload_n hC 1 dX11_grows_91 rfl rfl ?_
          refine go_ladd hC dX11_grows_92 ?_
          refine go_ldc2 hC dX11_grows_93 mt_kX11_151 ?_
          refine go_lload_n hC 2 dX11_grows_96 rfl rfl ?_
          refine go_lmul hC dX11_grows_97 ?_
          have g34 : ¬ (3 * x3) = 0 := fun q => by rw [if_pos q] at h; cases h
          have h := mt_in' h g34
          refine go_ldiv hC dX11_grows_98 g34 ?_
          refine go_lcmp_gt hC (tgt := 120) dX11_grows_99 dX11_grows_100 (by decide) (fun hc => ?_) (fun hc => ?_)
          · have h := mt_ip h hc
            exact go_vret hC (mt_rev h hE) dX11_grows_120
          · have h := mt_in' h hc
            refine go_aload_n hC 0 dX11_grows_103 rfl rfl ?_
            refine go_lload_n hC 2 dX11_grows_104 rfl rfl ?_
            refine go_lload hC 3 dX11_grows_105 rfl ?_
            refine go_ldc2 hC dX11_grows_107 mt_kX11_151 ?_
            refine go_lload_n hC 2 dX11_grows_110 rfl rfl ?_
            refine go_lmul hC dX11_grows_111 ?_
            refine go_lload hC 3 dX11_grows_112 rfl ?_
            refine go_lmul hC dX11_grows_114 ?_
            refine go_lload_n hC 1 dX11_grows_115 rfl rfl ?_
            refine go_lsub hC dX11_grows_116 ?_
            obtain ⟨S33, e33, h⟩ := mt_ob h
            refine go_callVv hC [.long x3, .long x5, .long (((3 * x3) * x5) - x1)] [] (hr _ _ _ _ _ _ e33) mt_cvX11_215 (hkr _ _ _ _ _ _ e33) dX11_grows_117 rfl rfl (by omega) (Nat.le_of_ble_eq_true rfl) ⟨Nat.le_refl _, Nat.le_refl _⟩ ?_
            exact go_vret hC (mt_rev h hE) dX11_grows_120
        · have h := mt_in' h hc
          refine go_aload_n hC 0 dX11_grows_69 rfl rfl ?_
          refine go_lload_n hC 1 dX11_grows_70 rfl rfl ?_
          refine go_lload hC 3 dX11_grows_71 rfl ?_
          refine go_ldc2 hC dX11_grows_73 mt_kX11_151 ?_
          refine go_lload_n hC 1 dX11_grows_76 rfl rfl ?_
          refine go_lmul hC dX11_grows_77 ?_
          refine go_lload hC 3 dX11_grows_78 rfl ?_
          refine go_lmul hC dX11_grows_80 ?_
          refine go_lload_n hC 2 dX11_grows_81 rfl rfl ?_
          refine go_lsub hC dX11_grows_82 ?_
          obtain ⟨S35, e35, h⟩ := mt_ob h
          refine go_callVv hC [.long x1, .long x5, .long (((3 * x1) * x5) - x3)] [] (hr _ _ _ _ _ _ e35) mt_cvX11_215 (hkr _ _ _ _ _ _ e35) dX11_grows_83 rfl rfl (by omega) (Nat.le_of_ble_eq_true rfl) ⟨Nat.le_refl _, Nat.le_refl _⟩ ?_
          refine go_lload hC 3 dX11_grows_86 rfl ?_
          refine go_ldc2 hC dX11_grows_88 mt_kX11_213 ?_
          refine go_lload_n hC 1 dX11_grows_91 rfl rfl ?_
          refine go_ladd hC dX11_grows_92 ?_
          refine go_ldc2 hC dX11_grows_93 mt_kX11_151 ?_
          refine go_lload_n hC 2 dX11_grows_96 rfl rfl ?_
          refine go_lmul hC dX11_grows_97 ?_
          have g37 : ¬ (3 * x3) = 0 := fun q => by rw [if_pos q] at h; cases h
          have h := mt_in' h g37
          refine go_ldiv hC dX11_grows_98 g37 ?_
          refine go_lcmp_gt hC (tgt := 120) dX11_grows_99 dX11_grows_100 (by decide) (fun hc => ?_) (fun hc => ?_)
          · have h := mt_ip h hc
            exact go_vret hC (mt_rev h hE) dX11_grows_120
          · have h := mt_in' h hc
            refine go_aload_n hC 0 dX11_grows_103 rfl rfl ?_
            refine go_lload_n hC 2 dX11_grows_104 rfl rfl ?_
            refine go_lload hC 3 dX11_grows_105 rfl ?_
            refine go_ldc2 hC dX11_grows_107 mt_kX11_151 ?_
            refine go_lload_n hC 2 dX11_grows_110 rfl rfl ?_
            refine go_lmul hC dX11_grows_111 ?_
            refine go_lload hC 3 dX11_grows_112 rfl ?_
            refine go_lmul hC dX11_grows_114 ?_
            refine go_lload_n hC 1 dX11_grows_115 rfl rfl ?_
            refine go_lsub hC dX11_grows_116 ?_
            obtain ⟨S36, e36, h⟩ := mt_ob h
            refine go_callVv hC [.long x3, .long x5, .long (((3 * x3) * x5) - x1)] [] (hr _ _ _ _ _ _ e36) mt_cvX11_215 (hkr _ _ _ _ _ _ e36) dX11_grows_117 rfl rfl (by omega) (Nat.le_of_ble_eq_true rfl) ⟨Nat.le_refl _, Nat.le_refl _⟩ ?_
            exact go_vret hC (mt_rev h hE) dX11_grows_120
set_option maxHeartbeats 4000000 in
set_option maxRecDepth 100000 in
theorem mr_X11_grows {B : mt_B} : ∀ (n : Nat) (x0 : Nat) (x1 : Int64) (x3 : Int64) (x5 : Int64) (S S' : mt_S), f_X11_grows n x0 x1 x3 x5 S = some S' → mt_M B yX11_grows cX11_grows 7 none (2 * n) [mt_rf B x0, .long x1, .long x3, .long x5] S none S' := by
  intro n
  induction n with
  | zero =>
    intro x0 x1 x3 x5 S S' h
    cases h
  | succ n ih =>
    intro x0 x1 x3 x5 S S' h
    have h : f_X11_growss (f_X11_grows n) x0 x1 x3 x5 S = some S' := h
    have h2 := ms_X11_grows (rr := f_X11_grows n) (dr := 2 * n) ih (fun _ _ _ _ _ _ h => k_X11_grows h) h
    rw [show 2 * (n + 1) = 2 * n + 2 from by omega]
    exact h2
theorem m_X11_grows {B : mt_B} {x0 : Nat} {x1 : Int64} {x3 : Int64} {x5 : Int64} {S : mt_S} {S' : mt_S} (h : f_X11_grows 45 x0 x1 x3 x5 S = some S') : mt_M B yX11_grows cX11_grows 7 none 90 [mt_rf B x0, .long x1, .long x3, .long x5] S none S' := mr_X11_grows 45 _ _ _ _ _ _ h
set_option maxHeartbeats 4000000 in
set_option maxRecDepth 100000 in
theorem ovs_X11_grows {T : mt_S} {rr : Nat → Int64 → Int64 → Int64 → mt_S → Option (mt_S)} (hr : ∀ (x0 : Nat) (x1 : Int64) (x3 : Int64) (x5 : Int64) (S S' : mt_S), mt_cp S T → rr x0 x1 x3 x5 S = some S' → rr x0 x1 x3 x5 (mt_ov S T) = some (mt_ov S' T) ∧ mt_cp S' T) {x0 : Nat} {x1 : Int64} {x3 : Int64} {x5 : Int64} {S : mt_S} {S' : mt_S} (hp : mt_cp S T) (h : f_X11_growss rr x0 x1 x3 x5 S = some S') : f_X11_growss rr x0 x1 x3 x5 (mt_ov S T) = some (mt_ov S' T) ∧ mt_cp S' T := by
  unfold f_X11_growss at h ⊢
  obtain ⟨hg, h⟩ := mt_gd h
  refine ov_t (ov_K hp hg) ?_
  obtain ⟨S1, e1, h⟩ := mt_ob h
  obtain ⟨o_, hp⟩ := ov_X11_comes hp e1
  refine ov_b o_ ?_
  obtain ⟨v2, e2, h⟩ := mt_ob h
  refine ov_b (ov_rL hp e2) ?_
  by_cases hc : x5 = v2
  · have h := mt_ip h hc
    refine ov_t hc ?_
    obtain ⟨v9, e9, h⟩ := mt_ob h
    refine ov_b (ov_rI hp e9) ?_
    by_cases hc : v9 = 0
    · have h := mt_ip h hc
      refine ov_t hc ?_
      obtain ⟨S10, e10, h⟩ := mt_ob h
      obtain ⟨o_, hp⟩ := ov_wL hp e10
      refine ov_b o_ ?_
      obtain ⟨S11, e11, h⟩ := mt_ob h
      obtain ⟨o_, hp⟩ := ov_wL hp e11
      refine ov_b o_ ?_
      obtain ⟨v12, e12, h⟩ := mt_ob h
      refine ov_b (ov_rI hp e12) ?_
      obtain ⟨S13, e13, h⟩ := mt_ob h
      obtain ⟨o_, hp⟩ := ov_wI hp e13
      refine ov_b o_ ?_
      have hz : ¬ (3 * x1) = 0 := fun q => by rw [if_pos q] at h; cases h
      have h := mt_in' h hz
      refine ov_f hz ?_
      by_cases hc : ((1000000000000 + x3) / (3 * x1)) < x5
      · have h := mt_ip h hc
        refine ov_t hc ?_
        have hz : ¬ (3 * x3) = 0 := fun q => by rw [if_pos q] at h; cases h
        have h := mt_in' h hz
        refine ov_f hz ?_
        by_cases hc : ((1000000000000 + x1) / (3 * x3)) < x5
        · have h := mt_ip h hc
          refine ov_t hc ?_
          exact ov_retv hp h
        · have h := mt_in' h hc
          refine ov_f hc ?_
          obtain ⟨S14, e14, h⟩ := mt_ob h
          obtain ⟨o_, hp⟩ := hr _ _ _ _ _ _ hp e14
          refine ov_b o_ ?_
          exact ov_retv hp h
      · have h := mt_in' h hc
        refine ov_f hc ?_
        obtain ⟨S16, e16, h⟩ := mt_ob h
        obtain ⟨o_, hp⟩ := hr _ _ _ _ _ _ hp e16
        refine ov_b o_ ?_
        have hz : ¬ (3 * x3) = 0 := fun q => by rw [if_pos q] at h; cases h
        have h := mt_in' h hz
        refine ov_f hz ?_
        by_cases hc : ((1000000000000 + x1) / (3 * x3)) < x5
        · have h := mt_ip h hc
          refine ov_t hc ?_
          exact ov_retv hp h
        · have h := mt_in' h hc
          refine ov_f hc ?_
          obtain ⟨S17, e17, h⟩ := mt_ob h
          obtain ⟨o_, hp⟩ := hr _ _ _ _ _ _ hp e17
          refine ov_b o_ ?_
          exact ov_retv hp h
    · have h := mt_in' h hc
      refine ov_f hc ?_
      obtain ⟨v20, e20, h⟩ := mt_ob h
      refine ov_b (ov_rL hp e20) ?_
      by_cases hc : v20 ≤ x1
      · have h := mt_ip h hc
        refine ov_t hc ?_
        obtain ⟨v21, e21, h⟩ := mt_ob h
        refine ov_b (ov_rI hp e21) ?_
        obtain ⟨S22, e22, h⟩ := mt_ob h
        obtain ⟨o_, hp⟩ := ov_wI hp e22
        refine ov_b o_ ?_
        have hz : ¬ (3 * x1) = 0 := fun q => by rw [if_pos q] at h; cases h
        have h := mt_in' h hz
        refine ov_f hz ?_
        by_cases hc : ((1000000000000 + x3) / (3 * x1)) < x5
        · have h := mt_ip h hc
          refine ov_t hc ?_
          have hz : ¬ (3 * x3) = 0 := fun q => by rw [if_pos q] at h; cases h
          have h := mt_in' h hz
          refine ov_f hz ?_
          by_cases hc : ((1000000000000 + x1) / (3 * x3)) < x5
          · have h := mt_ip h hc
            refine ov_t hc ?_
            exact ov_retv hp h
          · have h := mt_in' h hc
            refine ov_f hc ?_
            obtain ⟨S23, e23, h⟩ := mt_ob h
            obtain ⟨o_, hp⟩ := hr _ _ _ _ _ _ hp e23
            refine ov_b o_ ?_
            exact ov_retv hp h
        · have h := mt_in' h hc
          refine ov_f hc ?_
          obtain ⟨S25, e25, h⟩ := mt_ob h
          obtain ⟨o_, hp⟩ := hr _ _ _ _ _ _ hp e25
          refine ov_b o_ ?_
          have hz : ¬ (3 * x3) = 0 := fun q => by rw [if_pos q] at h; cases h
          have h := mt_in' h hz
          refine ov_f hz ?_
          by_cases hc : ((1000000000000 + x1) / (3 * x3)) < x5
          · have h := mt_ip h hc
            refine ov_t hc ?_
            exact ov_retv hp h
          · have h := mt_in' h hc
            refine ov_f hc ?_
            obtain ⟨S26, e26, h⟩ := mt_ob h
            obtain ⟨o_, hp⟩ := hr _ _ _ _ _ _ hp e26
            refine ov_b o_ ?_
            exact ov_retv hp h
      · have h := mt_in' h hc
        refine ov_f hc ?_
        obtain ⟨S29, e29, h⟩ := mt_ob h
        obtain ⟨o_, hp⟩ := ov_wL hp e29
        refine ov_b o_ ?_
        obtain ⟨S30, e30, h⟩ := mt_ob h
        obtain ⟨o_, hp⟩ := ov_wL hp e30
        refine ov_b o_ ?_
        obtain ⟨v31, e31, h⟩ := mt_ob h
        refine ov_b (ov_rI hp e31) ?_
        obtain ⟨S32, e32, h⟩ := mt_ob h
        obtain ⟨o_, hp⟩ := ov_wI hp e32
        refine ov_b o_ ?_
        have hz : ¬ (3 * x1) = 0 := fun q => by rw [if_pos q] at h; cases h
        have h := mt_in' h hz
        refine ov_f hz ?_
        by_cases hc : ((1000000000000 + x3) / (3 * x1)) < x5
        · have h := mt_ip h hc
          refine ov_t hc ?_
          have hz : ¬ (3 * x3) = 0 := fun q => by rw [if_pos q] at h; cases h
          have h := mt_in' h hz
          refine ov_f hz ?_
          by_cases hc : ((1000000000000 + x1) / (3 * x3)) < x5
          · have h := mt_ip h hc
            refine ov_t hc ?_
            exact ov_retv hp h
          · have h := mt_in' h hc
            refine ov_f hc ?_
            obtain ⟨S33, e33, h⟩ := mt_ob h
            obtain ⟨o_, hp⟩ := hr _ _ _ _ _ _ hp e33
            refine ov_b o_ ?_
            exact ov_retv hp h
        · have h := mt_in' h hc
          refine ov_f hc ?_
          obtain ⟨S35, e35, h⟩ := mt_ob h
          obtain ⟨o_, hp⟩ := hr _ _ _ _ _ _ hp e35
          refine ov_b o_ ?_
          have hz : ¬ (3 * x3) = 0 := fun q => by rw [if_pos q] at h; cases h
          have h := mt_in' h hz
          refine ov_f hz ?_
          by_cases hc : ((1000000000000 + x1) / (3 * x3)) < x5
          · have h := mt_ip h hc
            refine ov_t hc ?_
            exact ov_retv hp h
          · have h := mt_in' h hc
            refine ov_f hc ?_
            obtain ⟨S36, e36, h⟩ := mt_ob h
            obtain ⟨o_, hp⟩ := hr _ _ _ _ _ _ hp e36
            refine ov_b o_ ?_
            exact ov_retv hp h
  · have h := mt_in' h hc
    refine ov_f hc ?_
    have hz : ¬ (3 * x1) = 0 := fun q => by rw [if_pos q] at h; cases h
    have h := mt_in' h hz
    refine ov_f hz ?_
    by_cases hc : ((1000000000000 + x3) / (3 * x1)) < x5
    · have h := mt_ip h hc
      refine ov_t hc ?_
      have hz : ¬ (3 * x3) = 0 := fun q => by rw [if_pos q] at h; cases h
      have h := mt_in' h hz
      refine ov_f hz ?_
      by_cases hc : ((1000000000000 + x1) / (3 * x3)) < x5
      · have h := mt_ip h hc
        refine ov_t hc ?_
        exact ov_retv hp h
      · have h := mt_in' h hc
        refine ov_f hc ?_
        obtain ⟨S3, e3, h⟩ := mt_ob h
        obtain ⟨o_, hp⟩ := hr _ _ _ _ _ _ hp e3
        refine ov_b o_ ?_
        exact ov_retv hp h
    · have h := mt_in' h hc
      refine ov_f hc ?_
      obtain ⟨S5, e5, h⟩ := mt_ob h
      obtain ⟨o_, hp⟩ := hr _ _ _ _ _ _ hp e5
      refine ov_b o_ ?_
      have hz : ¬ (3 * x3) = 0 := fun q => by rw [if_pos q] at h; cases h
      have h := mt_in' h hz
      refine ov_f hz ?_
      by_cases hc : ((1000000000000 + x1) / (3 * x3)) < x5
      · have h := mt_ip h hc
        refine ov_t hc ?_
        exact ov_retv hp h
      · have h := mt_in' h hc
        refine ov_f hc ?_
        obtain ⟨S6, e6, h⟩ := mt_ob h
        obtain ⟨o_, hp⟩ := hr _ _ _ _ _ _ hp e6
        refine ov_b o_ ?_
        exact ov_retv hp h
set_option maxHeartbeats 4000000 in
set_option maxRecDepth 100000 in
theorem ovr_X11_grows {T : mt_S} : ∀ (n : Nat) (x0 : Nat) (x1 : Int64) (x3 : Int64) (x5 : Int64) (S S' : mt_S), mt_cp S T → f_X11_grows n x0 x1 x3 x5 S = some S' → f_X11_grows n x0 x1 x3 x5 (mt_ov S T) = some (mt_ov S' T) ∧ mt_cp S' T := by
  intro n
  induction n with
  | zero =>
    intro x0 x1 x3 x5 S S' hp h
    cases h
  | succ n ih =>
    intro x0 x1 x3 x5 S S' hp h
    exact ovs_X11_grows (rr := f_X11_grows n) ih hp h
theorem ov_X11_grows {T : mt_S} {x0 : Nat} {x1 : Int64} {x3 : Int64} {x5 : Int64} {S : mt_S} {S' : mt_S} (hp : mt_cp S T) (h : f_X11_grows 45 x0 x1 x3 x5 S = some S') : f_X11_grows 45 x0 x1 x3 x5 (mt_ov S T) = some (mt_ov S' T) ∧ mt_cp S' T := ovr_X11_grows 45 _ _ _ _ _ _ hp h
def f_X11_laysNumbers (x0 : Nat) (x1 : Int64) (S : mt_S) : Option (mt_S) :=
  if mt_isK S x0 11 = true then
   Option.bind (mt_wL S x0 11 26 x1) fun S1 =>
   Option.bind (mt_wI S1 x0 11 24 0) fun S2 =>
   Option.bind (mt_wI S2 x0 11 25 0) fun S3 =>
   Option.bind (f_X11_comes x0 1 S3) fun S4 =>
   Option.bind (f_X11_comes x0 2 S4) fun S5 =>
   Option.bind (f_X11_grows 45 x0 1 2 5 S5) fun S6 =>
   some S6
  else none
theorem k_X11_laysNumbers {x0 : Nat} {x1 : Int64} {S : mt_S} {S' : mt_S} (h : f_X11_laysNumbers x0 x1 S = some S') : mt_isK S x0 11 = true := by
  unfold f_X11_laysNumbers at h
  exact (mt_gd h).1
set_option maxHeartbeats 4000000 in
set_option maxRecDepth 100000 in
theorem m_X11_laysNumbers {B : mt_B}  {x0 : Nat} {x1 : Int64} {S : mt_S} {S' : mt_S} (h : f_X11_laysNumbers x0 x1 S = some S') : mt_M B yX11_laysNumbers cX11_laysNumbers 3 none 91 [mt_rf B x0, .long x1] S none S' := by
  unfold f_X11_laysNumbers at h
  refine mt_M.of (by decide) (Nat.le_of_ble_eq_true rfl) (fun E hC hE => ?_)
  obtain ⟨hk0, h⟩ := mt_gd h
  refine go_aload_n hC 0 dX11_laysNumbers_0 rfl rfl ?_
  refine go_lload_n hC 1 dX11_laysNumbers_1 rfl rfl ?_
  obtain ⟨S1, e1, h⟩ := mt_ob h
  refine go_putL hC mt_flX11_201 e1 dX11_laysNumbers_2 ?_
  refine go_aload_n hC 0 dX11_laysNumbers_5 rfl rfl ?_
  refine go_iconst (v := 0) hC dX11_laysNumbers_6 (by decide) ?_
  obtain ⟨S2, e2, h⟩ := mt_ob h
  refine go_putI hC mt_flX11_194 e2 dX11_laysNumbers_7 ?_
  refine go_aload_n hC 0 dX11_laysNumbers_10 rfl rfl ?_
  refine go_iconst (v := 0) hC dX11_laysNumbers_11 (by decide) ?_
  obtain ⟨S3, e3, h⟩ := mt_ob h
  refine go_putI hC mt_flX11_204 e3 dX11_laysNumbers_12 ?_
  refine go_aload_n hC 0 dX11_laysNumbers_15 rfl rfl ?_
  refine go_lconst (v := 1) hC dX11_laysNumbers_16 (by decide) ?_
  obtain ⟨S4, e4, h⟩ := mt_ob h
  refine go_callVv hC [.long 1] [] (m_X11_comes e4) mt_cvX11_197 (k_X11_comes e4) dX11_laysNumbers_17 rfl rfl (by decide) (Nat.le_of_ble_eq_true rfl) ⟨Nat.le_refl _, Nat.le_refl _⟩ ?_
  refine go_aload_n hC 0 dX11_laysNumbers_20 rfl rfl ?_
  refine go_ldc2 hC dX11_laysNumbers_21 mt_kX11_127 ?_
  obtain ⟨S5, e5, h⟩ := mt_ob h
  refine go_callVv hC [.long 2] [] (m_X11_comes e5) mt_cvX11_197 (k_X11_comes e5) dX11_laysNumbers_24 rfl rfl (by decide) (Nat.le_of_ble_eq_true rfl) ⟨Nat.le_refl _, Nat.le_refl _⟩ ?_
  refine go_aload_n hC 0 dX11_laysNumbers_27 rfl rfl ?_
  refine go_lconst (v := 1) hC dX11_laysNumbers_28 (by decide) ?_
  refine go_ldc2 hC dX11_laysNumbers_29 mt_kX11_127 ?_
  refine go_ldc2 hC dX11_laysNumbers_32 mt_kX11_129 ?_
  obtain ⟨S6, e6, h⟩ := mt_ob h
  refine go_callVv hC [.long 1, .long 2, .long 5] [] (m_X11_grows e6) mt_cvX11_215 (k_X11_grows e6) dX11_laysNumbers_35 rfl rfl (by decide) (Nat.le_of_ble_eq_true rfl) ⟨Nat.le_refl _, Nat.le_refl _⟩ ?_
  exact go_vret hC (mt_rev h hE) dX11_laysNumbers_38
set_option maxHeartbeats 4000000 in
set_option maxRecDepth 100000 in
theorem ov_X11_laysNumbers {T : mt_S}  {x0 : Nat} {x1 : Int64} {S : mt_S} {S' : mt_S} (hp : mt_cp S T) (h : f_X11_laysNumbers x0 x1 S = some S') : f_X11_laysNumbers x0 x1 (mt_ov S T) = some (mt_ov S' T) ∧ mt_cp S' T := by
  unfold f_X11_laysNumbers at h ⊢
  obtain ⟨hg, h⟩ := mt_gd h
  refine ov_t (ov_K hp hg) ?_
  obtain ⟨S1, e1, h⟩ := mt_ob h
  obtain ⟨o_, hp⟩ := ov_wL hp e1
  refine ov_b o_ ?_
  obtain ⟨S2, e2, h⟩ := mt_ob h
  obtain ⟨o_, hp⟩ := ov_wI hp e2
  refine ov_b o_ ?_
  obtain ⟨S3, e3, h⟩ := mt_ob h
  obtain ⟨o_, hp⟩ := ov_wI hp e3
  refine ov_b o_ ?_
  obtain ⟨S4, e4, h⟩ := mt_ob h
  obtain ⟨o_, hp⟩ := ov_X11_comes hp e4
  refine ov_b o_ ?_
  obtain ⟨S5, e5, h⟩ := mt_ob h
  obtain ⟨o_, hp⟩ := ov_X11_comes hp e5
  refine ov_b o_ ?_
  obtain ⟨S6, e6, h⟩ := mt_ob h
  obtain ⟨o_, hp⟩ := ov_X11_grows hp e6
  refine ov_b o_ ?_
  exact ov_retv hp h
def f_X11_upTo_L25s (rc : Nat → Int64 → Int32 → mt_S → Option (Int32 × mt_S)) (x0 : Nat) (x1 : Int64) (x3 : Int32) (S : mt_S) : Option (Int32 × mt_S) :=
  Option.bind (mt_rI S x0 11 24) fun v5 =>
  if v5 ≤ x3 then
   some (x3, S)
  else
   Option.bind (mt_rR S x0 11 23) fun v6 =>
   Option.bind (mt_aL S v6 x3) fun v7 =>
   if x1 < v7 then
    some (x3, S)
   else
    rc x0 x1 (x3 + 1) S
def f_X11_upTo_L25 : Nat → Nat → Int64 → Int32 → mt_S → Option (Int32 × mt_S)
  | 0 => fun _ _ _ _ => none
  | n + 1 => f_X11_upTo_L25s (f_X11_upTo_L25 n)
set_option maxHeartbeats 4000000 in
set_option maxRecDepth 100000 in
theorem m_X11_upTo_L25 {B : mt_B} {E : mt_E} {r : Int32} {S' : mt_S} (hC : mt_Cx B E cX11_upTo RX11 (some .int) 4 92 0 0) (hE : mt_End B E (0, 0) (some (.int r)) S') : ∀ (n : Nat) (x0 : Nat) (x1 : Int64) (x3 : Int32) (S : mt_S), f_X11_upTo_L25 n x0 x1 x3 S = some (r, S') → mt_Go B E (0, 0) S 25 [(0, mt_rf B x0), (1, .long x1), (3, .int x3)] [] := by
  intro n
  induction n with
  | zero =>
    intro x0 x1 x3 S h
    cases h
  | succ n ih =>
    intro x0 x1 x3 S h
    have h : f_X11_upTo_L25s (f_X11_upTo_L25 n) x0 x1 x3 S = some (r, S') := h
    unfold f_X11_upTo_L25s at h
    refine go_iload_n hC 2 dX11_upTo_25 rfl rfl ?_
    refine go_aload_n hC 0 dX11_upTo_26 rfl rfl ?_
    obtain ⟨v5, e5, h⟩ := mt_ob h
    refine go_getI hC mt_flX11_194 e5 dX11_upTo_27 ?_
    refine go_icmp_ge hC (tgt := 50) dX11_upTo_30 (by decide) (fun hc => ?_) (fun hc => ?_)
    · have h := mt_ip h hc
      refine go_iload_n hC 2 dX11_upTo_50 rfl rfl ?_
      exact go_iret hC (mt_rei h hE) dX11_upTo_51
    · have h := mt_in' h hc
      refine go_aload_n hC 0 dX11_upTo_33 rfl rfl ?_
      obtain ⟨v6, e6, h⟩ := mt_ob h
      refine go_getR hC mt_flX11_50 e6 dX11_upTo_34 ?_
      refine go_iload_n hC 2 dX11_upTo_37 rfl rfl ?_
      obtain ⟨v7, e7, h⟩ := mt_ob h
      refine go_lald hC e7 dX11_upTo_38 ?_
      refine go_lload_n hC 1 dX11_upTo_39 rfl rfl ?_
      refine go_lcmp_gt hC (tgt := 50) dX11_upTo_40 dX11_upTo_41 (by decide) (fun hc => ?_) (fun hc => ?_)
      · have h := mt_ip h hc
        refine go_iload_n hC 2 dX11_upTo_50 rfl rfl ?_
        exact go_iret hC (mt_rei h hE) dX11_upTo_51
      · have h := mt_in' h hc
        refine go_iinc hC 2 [1, 2, 0] (v := x3 + 1) (lv1 := [(0, mt_rf B x0), (1, .long x1), (3, .int (x3 + 1))]) dX11_upTo_44 rfl rfl (by decide) rfl ?_
        refine go_goto hC (tgt := 25) dX11_upTo_47 (by decide) ?_
        exact ih _ _ _ _ h
set_option maxHeartbeats 4000000 in
set_option maxRecDepth 100000 in
theorem ov_X11_upTo_L25 {T : mt_S} {r : Int32} {S' : mt_S} : ∀ (n : Nat) (x0 : Nat) (x1 : Int64) (x3 : Int32) (S : mt_S), mt_cp S T → f_X11_upTo_L25 n x0 x1 x3 S = some (r, S') → f_X11_upTo_L25 n x0 x1 x3 (mt_ov S T) = some (r, mt_ov S' T) ∧ mt_cp S' T := by
  intro n
  induction n with
  | zero =>
    intro x0 x1 x3 S hp h
    cases h
  | succ n ih =>
    intro x0 x1 x3 S hp h
    have h : f_X11_upTo_L25s (f_X11_upTo_L25 n) x0 x1 x3 S = some (r, S') := h
    show f_X11_upTo_L25s (f_X11_upTo_L25 n) x0 x1 x3 (mt_ov S T) = some (r, mt_ov S' T) ∧ mt_cp S' T
    unfold f_X11_upTo_L25s at h ⊢
    obtain ⟨v5, e5, h⟩ := mt_ob h
    refine ov_b (ov_rI hp e5) ?_
    by_cases hc : v5 ≤ x3
    · have h := mt_ip h hc
      refine ov_t hc ?_
      exact ov_ret hp h
    · have h := mt_in' h hc
      refine ov_f hc ?_
      obtain ⟨v6, e6, h⟩ := mt_ob h
      refine ov_b (ov_rR hp e6) ?_
      obtain ⟨v7, e7, h⟩ := mt_ob h
      refine ov_b (ov_aL hp e7) ?_
      by_cases hc : x1 < v7
      · have h := mt_ip h hc
        refine ov_t hc ?_
        exact ov_ret hp h
      · have h := mt_in' h hc
        refine ov_f hc ?_
        exact ih _ _ _ _ hp h
def f_X11_upTo (x0 : Nat) (x1 : Int64) (S : mt_S) : Option (Int32 × mt_S) :=
  if mt_isK S x0 11 = true then
   Option.bind (mt_wI S x0 11 0 0) fun S1 =>
   mt_b2 (f_X11_isIn x1 1 1000000000000 S1) fun v3 S2 =>
   if v3 = 0 then
    some ((-1), S2)
   else
    Option.bind (f_X11_laysNumbers x0 0 S2) fun S4 =>
    f_X11_upTo_L25 1000 x0 x1 0 S4
  else none
theorem k_X11_upTo {x0 : Nat} {x1 : Int64} {S : mt_S} {r : Int32} {S' : mt_S} (h : f_X11_upTo x0 x1 S = some (r, S')) : mt_isK S x0 11 = true := by
  unfold f_X11_upTo at h
  exact (mt_gd h).1
set_option maxHeartbeats 4000000 in
set_option maxRecDepth 100000 in
theorem m_X11_upTo {B : mt_B}  {x0 : Nat} {x1 : Int64} {S : mt_S} {r : Int32} {S' : mt_S} (h : f_X11_upTo x0 x1 S = some (r, S')) : mt_M B yX11_upTo cX11_upTo 4 (some .int) 92 [mt_rf B x0, .long x1] S (some (.int r)) S' := by
  unfold f_X11_upTo at h
  refine mt_M.of (by decide) (Nat.le_of_ble_eq_true rfl) (fun E hC hE => ?_)
  obtain ⟨hk0, h⟩ := mt_gd h
  refine go_aload_n hC 0 dX11_upTo_0 rfl rfl ?_
  refine go_iconst (v := 0) hC dX11_upTo_1 (by decide) ?_
  obtain ⟨S1, e1, h⟩ := mt_ob h
  refine go_putI hC mt_flX11_1 e1 dX11_upTo_2 ?_
  refine go_lload_n hC 1 dX11_upTo_5 rfl rfl ?_
  refine go_lconst (v := 1) hC dX11_upTo_6 (by decide) ?_
  refine go_ldc2 hC dX11_upTo_7 mt_kX11_213 ?_
  obtain ⟨v3, S2, e3, h⟩ := mt_ob2 h
  refine go_callSi hC [.long x1, .long 1, .long 1000000000000] [] (m_X11_isIn e3) mt_csX11_91 dX11_upTo_10 rfl rfl (by decide) (Nat.le_of_ble_eq_true rfl) ⟨Nat.le_refl _, Nat.le_refl _⟩ ?_
  refine go_if_ne hC (tgt := 18) dX11_upTo_13 (by decide) (fun hc => ?_) (fun hc => ?_)
  · have h := mt_in' h hc
    refine go_aload_n hC 0 dX11_upTo_18 rfl rfl ?_
    refine go_lconst (v := 0) hC dX11_upTo_19 (by decide) ?_
    obtain ⟨S4, e4, h⟩ := mt_ob h
    refine go_callVv hC [.long 0] [] (m_X11_laysNumbers e4) mt_cvX11_219 (k_X11_laysNumbers e4) dX11_upTo_20 rfl rfl (by decide) (Nat.le_of_ble_eq_true rfl) ⟨Nat.le_refl _, Nat.le_refl _⟩ ?_
    refine go_iconst (v := 0) hC dX11_upTo_23 (by decide) ?_
    refine go_istore_n hC [1, 2, 0] (lv1 := [(0, mt_rf B x0), (1, .long x1), (3, .int 0)]) dX11_upTo_24 rfl (by decide) rfl ?_
    exact m_X11_upTo_L25 hC hE 1000 _ _ _ _ h
  · have h := mt_ip h hc
    refine go_iconst (v := (-1)) hC dX11_upTo_16 (by decide) ?_
    exact go_iret hC (mt_rei h hE) dX11_upTo_17
set_option maxHeartbeats 4000000 in
set_option maxRecDepth 100000 in
theorem ov_X11_upTo {T : mt_S}  {x0 : Nat} {x1 : Int64} {S : mt_S} {r : Int32} {S' : mt_S} (hp : mt_cp S T) (h : f_X11_upTo x0 x1 S = some (r, S')) : f_X11_upTo x0 x1 (mt_ov S T) = some (r, mt_ov S' T) ∧ mt_cp S' T := by
  unfold f_X11_upTo at h ⊢
  obtain ⟨hg, h⟩ := mt_gd h
  refine ov_t (ov_K hp hg) ?_
  obtain ⟨S1, e1, h⟩ := mt_ob h
  obtain ⟨o_, hp⟩ := ov_wI hp e1
  refine ov_b o_ ?_
  obtain ⟨v3, S2, e3, h⟩ := mt_ob2 h
  obtain ⟨o_, hp⟩ := ov_X11_isIn hp e3
  refine ov_b2 o_ ?_
  by_cases hc : v3 = 0
  · have h := mt_ip h hc
    refine ov_t hc ?_
    exact ov_ret hp h
  · have h := mt_in' h hc
    refine ov_f hc ?_
    obtain ⟨S4, e4, h⟩ := mt_ob h
    obtain ⟨o_, hp⟩ := ov_X11_laysNumbers hp e4
    refine ov_b o_ ?_
    exact ov_X11_upTo_L25 1000 _ _ _ _ hp h
def f_X11_markov (x0 : Nat) (x1 : Int32) (S : mt_S) : Option (Int64 × mt_S) :=
  if mt_isK S x0 11 = true then
   Option.bind (mt_wI S x0 11 0 0) fun S1 =>
   Option.bind (f_X11_laysNumbers x0 0 S1) fun S2 =>
   Option.bind (mt_rI S2 x0 11 24) fun v3 =>
   mt_b2 (f_X11_isIn x1.toInt64 0 ((v3 - 1).toInt64) S2) fun v5 S4 =>
   if v5 = 0 then
    some ((-1), S4)
   else
    Option.bind (mt_rR S4 x0 11 23) fun v6 =>
    Option.bind (mt_aL S4 v6 x1) fun v7 =>
    some (v7, S4)
  else none
theorem k_X11_markov {x0 : Nat} {x1 : Int32} {S : mt_S} {r : Int64} {S' : mt_S} (h : f_X11_markov x0 x1 S = some (r, S')) : mt_isK S x0 11 = true := by
  unfold f_X11_markov at h
  exact (mt_gd h).1
set_option maxHeartbeats 4000000 in
set_option maxRecDepth 100000 in
theorem m_X11_markov {B : mt_B}  {x0 : Nat} {x1 : Int32} {S : mt_S} {r : Int64} {S' : mt_S} (h : f_X11_markov x0 x1 S = some (r, S')) : mt_M B yX11_markov cX11_markov 2 (some .long) 92 [mt_rf B x0, .int x1] S (some (.long r)) S' := by
  unfold f_X11_markov at h
  refine mt_M.of (by decide) (Nat.le_of_ble_eq_true rfl) (fun E hC hE => ?_)
  obtain ⟨hk0, h⟩ := mt_gd h
  refine go_aload_n hC 0 dX11_markov_0 rfl rfl ?_
  refine go_iconst (v := 0) hC dX11_markov_1 (by decide) ?_
  obtain ⟨S1, e1, h⟩ := mt_ob h
  refine go_putI hC mt_flX11_1 e1 dX11_markov_2 ?_
  refine go_aload_n hC 0 dX11_markov_5 rfl rfl ?_
  refine go_lconst (v := 0) hC dX11_markov_6 (by decide) ?_
  obtain ⟨S2, e2, h⟩ := mt_ob h
  refine go_callVv hC [.long 0] [] (m_X11_laysNumbers e2) mt_cvX11_219 (k_X11_laysNumbers e2) dX11_markov_7 rfl rfl (by decide) (Nat.le_of_ble_eq_true rfl) ⟨Nat.le_refl _, Nat.le_refl _⟩ ?_
  refine go_iload_n hC 1 dX11_markov_10 rfl rfl ?_
  refine go_i2l hC dX11_markov_11 ?_
  refine go_lconst (v := 0) hC dX11_markov_12 (by decide) ?_
  refine go_aload_n hC 0 dX11_markov_13 rfl rfl ?_
  obtain ⟨v3, e3, h⟩ := mt_ob h
  refine go_getI hC mt_flX11_194 e3 dX11_markov_14 ?_
  refine go_iconst (v := 1) hC dX11_markov_17 (by decide) ?_
  refine go_isub hC dX11_markov_18 ?_
  refine go_i2l hC dX11_markov_19 ?_
  obtain ⟨v5, S4, e5, h⟩ := mt_ob2 h
  refine go_callSi hC [.long x1.toInt64, .long 0, .long ((v3 - 1).toInt64)] [] (m_X11_isIn e5) mt_csX11_91 dX11_markov_20 rfl rfl (by decide) (Nat.le_of_ble_eq_true rfl) ⟨Nat.le_refl _, Nat.le_refl _⟩ ?_
  refine go_if_eq hC (tgt := 35) dX11_markov_23 (by decide) (fun hc => ?_) (fun hc => ?_)
  · have h := mt_ip h hc
    refine go_ldc2 hC dX11_markov_35 mt_kX11_192 ?_
    exact go_lret hC (mt_rel h hE) dX11_markov_38
  · have h := mt_in' h hc
    refine go_aload_n hC 0 dX11_markov_26 rfl rfl ?_
    obtain ⟨v6, e6, h⟩ := mt_ob h
    refine go_getR hC mt_flX11_50 e6 dX11_markov_27 ?_
    refine go_iload_n hC 1 dX11_markov_30 rfl rfl ?_
    obtain ⟨v7, e7, h⟩ := mt_ob h
    refine go_lald hC e7 dX11_markov_31 ?_
    refine go_goto hC (tgt := 38) dX11_markov_32 (by decide) ?_
    exact go_lret hC (mt_rel h hE) dX11_markov_38
set_option maxHeartbeats 4000000 in
set_option maxRecDepth 100000 in
theorem ov_X11_markov {T : mt_S}  {x0 : Nat} {x1 : Int32} {S : mt_S} {r : Int64} {S' : mt_S} (hp : mt_cp S T) (h : f_X11_markov x0 x1 S = some (r, S')) : f_X11_markov x0 x1 (mt_ov S T) = some (r, mt_ov S' T) ∧ mt_cp S' T := by
  unfold f_X11_markov at h ⊢
  obtain ⟨hg, h⟩ := mt_gd h
  refine ov_t (ov_K hp hg) ?_
  obtain ⟨S1, e1, h⟩ := mt_ob h
  obtain ⟨o_, hp⟩ := ov_wI hp e1
  refine ov_b o_ ?_
  obtain ⟨S2, e2, h⟩ := mt_ob h
  obtain ⟨o_, hp⟩ := ov_X11_laysNumbers hp e2
  refine ov_b o_ ?_
  obtain ⟨v3, e3, h⟩ := mt_ob h
  refine ov_b (ov_rI hp e3) ?_
  obtain ⟨v5, S4, e5, h⟩ := mt_ob2 h
  obtain ⟨o_, hp⟩ := ov_X11_isIn hp e5
  refine ov_b2 o_ ?_
  by_cases hc : v5 = 0
  · have h := mt_ip h hc
    refine ov_t hc ?_
    exact ov_ret hp h
  · have h := mt_in' h hc
    refine ov_f hc ?_
    obtain ⟨v6, e6, h⟩ := mt_ob h
    refine ov_b (ov_rR hp e6) ?_
    obtain ⟨v7, e7, h⟩ := mt_ob h
    refine ov_b (ov_aL hp e7) ?_
    exact ov_ret hp h
def f_X11_rank_L12s (rc : Nat → Int64 → Int32 → mt_S → Option (Int32 × mt_S)) (x0 : Nat) (x1 : Int64) (x3 : Int32) (S : mt_S) : Option (Int32 × mt_S) :=
  Option.bind (mt_rI S x0 11 24) fun v3 =>
  if v3 ≤ x3 then
   some ((-1), S)
  else
   Option.bind (mt_rR S x0 11 23) fun v4 =>
   Option.bind (mt_aL S v4 x3) fun v5 =>
   if v5 = x1 then
    some (x3, S)
   else
    rc x0 x1 (x3 + 1) S
def f_X11_rank_L12 : Nat → Nat → Int64 → Int32 → mt_S → Option (Int32 × mt_S)
  | 0 => fun _ _ _ _ => none
  | n + 1 => f_X11_rank_L12s (f_X11_rank_L12 n)
set_option maxHeartbeats 4000000 in
set_option maxRecDepth 100000 in
theorem m_X11_rank_L12 {B : mt_B} {E : mt_E} {r : Int32} {S' : mt_S} (hC : mt_Cx B E cX11_rank RX11 (some .int) 4 92 0 0) (hE : mt_End B E (0, 0) (some (.int r)) S') : ∀ (n : Nat) (x0 : Nat) (x1 : Int64) (x3 : Int32) (S : mt_S), f_X11_rank_L12 n x0 x1 x3 S = some (r, S') → mt_Go B E (0, 0) S 12 [(0, mt_rf B x0), (1, .long x1), (3, .int x3)] [] := by
  intro n
  induction n with
  | zero =>
    intro x0 x1 x3 S h
    cases h
  | succ n ih =>
    intro x0 x1 x3 S h
    have h : f_X11_rank_L12s (f_X11_rank_L12 n) x0 x1 x3 S = some (r, S') := h
    unfold f_X11_rank_L12s at h
    refine go_iload_n hC 2 dX11_rank_12 rfl rfl ?_
    refine go_aload_n hC 0 dX11_rank_13 rfl rfl ?_
    obtain ⟨v3, e3, h⟩ := mt_ob h
    refine go_getI hC mt_flX11_194 e3 dX11_rank_14 ?_
    refine go_icmp_ge hC (tgt := 39) dX11_rank_17 (by decide) (fun hc => ?_) (fun hc => ?_)
    · have h := mt_ip h hc
      refine go_iconst (v := (-1)) hC dX11_rank_39 (by decide) ?_
      exact go_iret hC (mt_rei h hE) dX11_rank_40
    · have h := mt_in' h hc
      refine go_aload_n hC 0 dX11_rank_20 rfl rfl ?_
      obtain ⟨v4, e4, h⟩ := mt_ob h
      refine go_getR hC mt_flX11_50 e4 dX11_rank_21 ?_
      refine go_iload_n hC 2 dX11_rank_24 rfl rfl ?_
      obtain ⟨v5, e5, h⟩ := mt_ob h
      refine go_lald hC e5 dX11_rank_25 ?_
      refine go_lload_n hC 1 dX11_rank_26 rfl rfl ?_
      refine go_lcmp_ne hC (tgt := 33) dX11_rank_27 dX11_rank_28 (by decide) (fun hc => ?_) (fun hc => ?_)
      · have h := mt_in' h hc
        refine go_iinc hC 2 [1, 2, 0] (v := x3 + 1) (lv1 := [(0, mt_rf B x0), (1, .long x1), (3, .int (x3 + 1))]) dX11_rank_33 rfl rfl (by decide) rfl ?_
        refine go_goto hC (tgt := 12) dX11_rank_36 (by decide) ?_
        exact ih _ _ _ _ h
      · have h := mt_ip h hc
        refine go_iload_n hC 2 dX11_rank_31 rfl rfl ?_
        exact go_iret hC (mt_rei h hE) dX11_rank_32
set_option maxHeartbeats 4000000 in
set_option maxRecDepth 100000 in
theorem ov_X11_rank_L12 {T : mt_S} {r : Int32} {S' : mt_S} : ∀ (n : Nat) (x0 : Nat) (x1 : Int64) (x3 : Int32) (S : mt_S), mt_cp S T → f_X11_rank_L12 n x0 x1 x3 S = some (r, S') → f_X11_rank_L12 n x0 x1 x3 (mt_ov S T) = some (r, mt_ov S' T) ∧ mt_cp S' T := by
  intro n
  induction n with
  | zero =>
    intro x0 x1 x3 S hp h
    cases h
  | succ n ih =>
    intro x0 x1 x3 S hp h
    have h : f_X11_rank_L12s (f_X11_rank_L12 n) x0 x1 x3 S = some (r, S') := h
    show f_X11_rank_L12s (f_X11_rank_L12 n) x0 x1 x3 (mt_ov S T) = some (r, mt_ov S' T) ∧ mt_cp S' T
    unfold f_X11_rank_L12s at h ⊢
    obtain ⟨v3, e3, h⟩ := mt_ob h
    refine ov_b (ov_rI hp e3) ?_
    by_cases hc : v3 ≤ x3
    · have h := mt_ip h hc
      refine ov_t hc ?_
      exact ov_ret hp h
    · have h := mt_in' h hc
      refine ov_f hc ?_
      obtain ⟨v4, e4, h⟩ := mt_ob h
      refine ov_b (ov_rR hp e4) ?_
      obtain ⟨v5, e5, h⟩ := mt_ob h
      refine ov_b (ov_aL hp e5) ?_
      by_cases hc : v5 = x1
      · have h := mt_ip h hc
        refine ov_t hc ?_
        exact ov_ret hp h
      · have h := mt_in' h hc
        refine ov_f hc ?_
        exact ih _ _ _ _ hp h
def f_X11_rank (x0 : Nat) (x1 : Int64) (S : mt_S) : Option (Int32 × mt_S) :=
  if mt_isK S x0 11 = true then
   Option.bind (mt_wI S x0 11 0 0) fun S1 =>
   Option.bind (f_X11_laysNumbers x0 0 S1) fun S2 =>
   f_X11_rank_L12 1000 x0 x1 0 S2
  else none
theorem k_X11_rank {x0 : Nat} {x1 : Int64} {S : mt_S} {r : Int32} {S' : mt_S} (h : f_X11_rank x0 x1 S = some (r, S')) : mt_isK S x0 11 = true := by
  unfold f_X11_rank at h
  exact (mt_gd h).1
set_option maxHeartbeats 4000000 in
set_option maxRecDepth 100000 in
theorem m_X11_rank {B : mt_B}  {x0 : Nat} {x1 : Int64} {S : mt_S} {r : Int32} {S' : mt_S} (h : f_X11_rank x0 x1 S = some (r, S')) : mt_M B yX11_rank cX11_rank 4 (some .int) 92 [mt_rf B x0, .long x1] S (some (.int r)) S' := by
  unfold f_X11_rank at h
  refine mt_M.of (by decide) (Nat.le_of_ble_eq_true rfl) (fun E hC hE => ?_)
  obtain ⟨hk0, h⟩ := mt_gd h
  refine go_aload_n hC 0 dX11_rank_0 rfl rfl ?_
  refine go_iconst (v := 0) hC dX11_rank_1 (by decide) ?_
  obtain ⟨S1, e1, h⟩ := mt_ob h
  refine go_putI hC mt_flX11_1 e1 dX11_rank_2 ?_
  refine go_aload_n hC 0 dX11_rank_5 rfl rfl ?_
  refine go_lconst (v := 0) hC dX11_rank_6 (by decide) ?_
  obtain ⟨S2, e2, h⟩ := mt_ob h
  refine go_callVv hC [.long 0] [] (m_X11_laysNumbers e2) mt_cvX11_219 (k_X11_laysNumbers e2) dX11_rank_7 rfl rfl (by decide) (Nat.le_of_ble_eq_true rfl) ⟨Nat.le_refl _, Nat.le_refl _⟩ ?_
  refine go_iconst (v := 0) hC dX11_rank_10 (by decide) ?_
  refine go_istore_n hC [1, 2, 0] (lv1 := [(0, mt_rf B x0), (1, .long x1), (3, .int 0)]) dX11_rank_11 rfl (by decide) rfl ?_
  exact m_X11_rank_L12 hC hE 1000 _ _ _ _ h
set_option maxHeartbeats 4000000 in
set_option maxRecDepth 100000 in
theorem ov_X11_rank {T : mt_S}  {x0 : Nat} {x1 : Int64} {S : mt_S} {r : Int32} {S' : mt_S} (hp : mt_cp S T) (h : f_X11_rank x0 x1 S = some (r, S')) : f_X11_rank x0 x1 (mt_ov S T) = some (r, mt_ov S' T) ∧ mt_cp S' T := by
  unfold f_X11_rank at h ⊢
  obtain ⟨hg, h⟩ := mt_gd h
  refine ov_t (ov_K hp hg) ?_
  obtain ⟨S1, e1, h⟩ := mt_ob h
  obtain ⟨o_, hp⟩ := ov_wI hp e1
  refine ov_b o_ ?_
  obtain ⟨S2, e2, h⟩ := mt_ob h
  obtain ⟨o_, hp⟩ := ov_X11_laysNumbers hp e2
  refine ov_b o_ ?_
  exact ov_X11_rank_L12 1000 _ _ _ _ hp h
def f_X11_triples (x0 : Nat) (x1 : Int64) (S : mt_S) : Option (Int32 × mt_S) :=
  if mt_isK S x0 11 = true then
   Option.bind (mt_wI S x0 11 0 0) fun S1 =>
   mt_b2 (f_X11_isIn x1 5 1000000000000 S1) fun v3 S2 =>
   if v3 = 0 then
    some ((-1), S2)
   else
    Option.bind (f_X11_laysNumbers x0 x1 S2) fun S4 =>
    Option.bind (mt_rI S4 x0 11 25) fun v5 =>
    if v5 = 0 then
     some ((-1), S4)
    else
     Option.bind (mt_rI S4 x0 11 25) fun v6 =>
     some (v6, S4)
  else none
theorem k_X11_triples {x0 : Nat} {x1 : Int64} {S : mt_S} {r : Int32} {S' : mt_S} (h : f_X11_triples x0 x1 S = some (r, S')) : mt_isK S x0 11 = true := by
  unfold f_X11_triples at h
  exact (mt_gd h).1
set_option maxHeartbeats 4000000 in
set_option maxRecDepth 100000 in
theorem m_X11_triples {B : mt_B}  {x0 : Nat} {x1 : Int64} {S : mt_S} {r : Int32} {S' : mt_S} (h : f_X11_triples x0 x1 S = some (r, S')) : mt_M B yX11_triples cX11_triples 3 (some .int) 92 [mt_rf B x0, .long x1] S (some (.int r)) S' := by
  unfold f_X11_triples at h
  refine mt_M.of (by decide) (Nat.le_of_ble_eq_true rfl) (fun E hC hE => ?_)
  obtain ⟨hk0, h⟩ := mt_gd h
  refine go_aload_n hC 0 dX11_triples_0 rfl rfl ?_
  refine go_iconst (v := 0) hC dX11_triples_1 (by decide) ?_
  obtain ⟨S1, e1, h⟩ := mt_ob h
  refine go_putI hC mt_flX11_1 e1 dX11_triples_2 ?_
  refine go_lload_n hC 1 dX11_triples_5 rfl rfl ?_
  refine go_ldc2 hC dX11_triples_6 mt_kX11_129 ?_
  refine go_ldc2 hC dX11_triples_9 mt_kX11_213 ?_
  obtain ⟨v3, S2, e3, h⟩ := mt_ob2 h
  refine go_callSi hC [.long x1, .long 5, .long 1000000000000] [] (m_X11_isIn e3) mt_csX11_91 dX11_triples_12 rfl rfl (by decide) (Nat.le_of_ble_eq_true rfl) ⟨Nat.le_refl _, Nat.le_refl _⟩ ?_
  refine go_if_ne hC (tgt := 20) dX11_triples_15 (by decide) (fun hc => ?_) (fun hc => ?_)
  · have h := mt_in' h hc
    refine go_aload_n hC 0 dX11_triples_20 rfl rfl ?_
    refine go_lload_n hC 1 dX11_triples_21 rfl rfl ?_
    obtain ⟨S4, e4, h⟩ := mt_ob h
    refine go_callVv hC [.long x1] [] (m_X11_laysNumbers e4) mt_cvX11_219 (k_X11_laysNumbers e4) dX11_triples_22 rfl rfl (by decide) (Nat.le_of_ble_eq_true rfl) ⟨Nat.le_refl _, Nat.le_refl _⟩ ?_
    refine go_aload_n hC 0 dX11_triples_25 rfl rfl ?_
    obtain ⟨v5, e5, h⟩ := mt_ob h
    refine go_getI hC mt_flX11_204 e5 dX11_triples_26 ?_
    refine go_if_ne hC (tgt := 36) dX11_triples_29 (by decide) (fun hc => ?_) (fun hc => ?_)
    · have h := mt_in' h hc
      refine go_aload_n hC 0 dX11_triples_36 rfl rfl ?_
      obtain ⟨v6, e6, h⟩ := mt_ob h
      refine go_getI hC mt_flX11_204 e6 dX11_triples_37 ?_
      exact go_iret hC (mt_rei h hE) dX11_triples_40
    · have h := mt_ip h hc
      refine go_iconst (v := (-1)) hC dX11_triples_32 (by decide) ?_
      refine go_goto hC (tgt := 40) dX11_triples_33 (by decide) ?_
      exact go_iret hC (mt_rei h hE) dX11_triples_40
  · have h := mt_ip h hc
    refine go_iconst (v := (-1)) hC dX11_triples_18 (by decide) ?_
    exact go_iret hC (mt_rei h hE) dX11_triples_19
set_option maxHeartbeats 4000000 in
set_option maxRecDepth 100000 in
theorem ov_X11_triples {T : mt_S}  {x0 : Nat} {x1 : Int64} {S : mt_S} {r : Int32} {S' : mt_S} (hp : mt_cp S T) (h : f_X11_triples x0 x1 S = some (r, S')) : f_X11_triples x0 x1 (mt_ov S T) = some (r, mt_ov S' T) ∧ mt_cp S' T := by
  unfold f_X11_triples at h ⊢
  obtain ⟨hg, h⟩ := mt_gd h
  refine ov_t (ov_K hp hg) ?_
  obtain ⟨S1, e1, h⟩ := mt_ob h
  obtain ⟨o_, hp⟩ := ov_wI hp e1
  refine ov_b o_ ?_
  obtain ⟨v3, S2, e3, h⟩ := mt_ob2 h
  obtain ⟨o_, hp⟩ := ov_X11_isIn hp e3
  refine ov_b2 o_ ?_
  by_cases hc : v3 = 0
  · have h := mt_ip h hc
    refine ov_t hc ?_
    exact ov_ret hp h
  · have h := mt_in' h hc
    refine ov_f hc ?_
    obtain ⟨S4, e4, h⟩ := mt_ob h
    obtain ⟨o_, hp⟩ := ov_X11_laysNumbers hp e4
    refine ov_b o_ ?_
    obtain ⟨v5, e5, h⟩ := mt_ob h
    refine ov_b (ov_rI hp e5) ?_
    by_cases hc : v5 = 0
    · have h := mt_ip h hc
      refine ov_t hc ?_
      exact ov_ret hp h
    · have h := mt_in' h hc
      refine ov_f hc ?_
      obtain ⟨v6, e6, h⟩ := mt_ob h
      refine ov_b (ov_rI hp e6) ?_
      exact ov_ret hp h
def f_X11_down_L13s (rc : Int64 → Int64 → Int64 → Int32 → mt_S → Option (Int32 × mt_S)) (x6 : Int64) (x8 : Int64) (x10 : Int64) (x12 : Int32) (S : mt_S) : Option (Int32 × mt_S) :=
  if x6 = 1 then
   if x8 = 1 then
    if x10 = 1 then
     some (x12, S)
    else
    if x10 < x6 then
     if x8 < x6 then
      rc (((3 * x8) * x10) - x6) x8 x10 (x12 + 1) S
     else
      rc x6 (((3 * x6) * x10) - x8) x10 (x12 + 1) S
    else
    if x10 < x8 then
     if x8 < x6 then
      rc (((3 * x8) * x10) - x6) x8 x10 (x12 + 1) S
     else
      rc x6 (((3 * x6) * x10) - x8) x10 (x12 + 1) S
    else
     rc x6 x8 (((3 * x6) * x8) - x10) (x12 + 1) S
   else
   if x10 < x6 then
    if x8 < x6 then
     rc (((3 * x8) * x10) - x6) x8 x10 (x12 + 1) S
    else
     rc x6 (((3 * x6) * x10) - x8) x10 (x12 + 1) S
   else
   if x10 < x8 then
    if x8 < x6 then
     rc (((3 * x8) * x10) - x6) x8 x10 (x12 + 1) S
    else
     rc x6 (((3 * x6) * x10) - x8) x10 (x12 + 1) S
   else
    rc x6 x8 (((3 * x6) * x8) - x10) (x12 + 1) S
  else
  if x10 < x6 then
   if x8 < x6 then
    rc (((3 * x8) * x10) - x6) x8 x10 (x12 + 1) S
   else
    rc x6 (((3 * x6) * x10) - x8) x10 (x12 + 1) S
  else
  if x10 < x8 then
   if x8 < x6 then
    rc (((3 * x8) * x10) - x6) x8 x10 (x12 + 1) S
   else
    rc x6 (((3 * x6) * x10) - x8) x10 (x12 + 1) S
  else
   rc x6 x8 (((3 * x6) * x8) - x10) (x12 + 1) S
def f_X11_down_L13 : Nat → Int64 → Int64 → Int64 → Int32 → mt_S → Option (Int32 × mt_S)
  | 0 => fun _ _ _ _ _ => none
  | n + 1 => f_X11_down_L13s (f_X11_down_L13 n)
set_option maxHeartbeats 4000000 in
set_option maxRecDepth 100000 in
theorem m_X11_down_L13 {B : mt_B} {E : mt_E} {r : Int32} {S' : mt_S} (hC : mt_Cx B E cX11_down RX11 (some .int) 13 1 0 0) (hE : mt_End B E (0, 0) (some (.int r)) S') : ∀ (n : Nat) (x6 : Int64) (x8 : Int64) (x10 : Int64) (x12 : Int32) (S : mt_S), f_X11_down_L13 n x6 x8 x10 x12 S = some (r, S') → mt_Go B E (0, 0) S 13 [(6, .long x6), (8, .long x8), (10, .long x10), (12, .int x12)] [] := by
  intro n
  induction n with
  | zero =>
    intro x6 x8 x10 x12 S h
    cases h
  | succ n ih =>
    intro x6 x8 x10 x12 S h
    have h : f_X11_down_L13s (f_X11_down_L13 n) x6 x8 x10 x12 S = some (r, S') := h
    unfold f_X11_down_L13s at h
    refine go_lload hC 0 dX11_down_13 rfl ?_
    refine go_lconst (v := 1) hC dX11_down_15 (by decide) ?_
    refine go_lcmp_ne hC (tgt := 34) dX11_down_16 dX11_down_17 (by decide) (fun hc => ?_) (fun hc => ?_)
    · have h := mt_in' h hc
      refine go_lload hC 2 dX11_down_34 rfl ?_
      refine go_lload hC 0 dX11_down_36 rfl ?_
      refine go_lcmp_lt hC (tgt := 67) dX11_down_38 dX11_down_39 (by decide) (fun hc => ?_) (fun hc => ?_)
      · have h := mt_ip h hc
        refine go_lload hC 1 dX11_down_67 rfl ?_
        refine go_lload hC 0 dX11_down_69 rfl ?_
        refine go_lcmp_lt hC (tgt := 92) dX11_down_71 dX11_down_72 (by decide) (fun hc => ?_) (fun hc => ?_)
        · have h := mt_ip h hc
          refine go_ldc2 hC dX11_down_92 mt_kX11_151 ?_
          refine go_lload hC 1 dX11_down_95 rfl ?_
          refine go_lmul hC dX11_down_97 ?_
          refine go_lload hC 2 dX11_down_98 rfl ?_
          refine go_lmul hC dX11_down_100 ?_
          refine go_lload hC 0 dX11_down_101 rfl ?_
          refine go_lsub hC dX11_down_103 ?_
          refine go_lstore hC [0, 1, 2, 3] (lv1 := [(6, .long (((3 * x8) * x10) - x6)), (8, .long x8), (10, .long x10), (12, .int x12)]) dX11_down_104 (by decide) rfl ?_
          refine go_iinc hC 3 [1, 2, 3, 0] (v := x12 + 1) (lv1 := [(6, .long (((3 * x8) * x10) - x6)), (8, .long x8), (10, .long x10), (12, .int (x12 + 1))]) dX11_down_106 rfl rfl (by decide) rfl ?_
          refine go_goto hC (tgt := 13) dX11_down_109 (by decide) ?_
          exact ih _ _ _ _ _ h
        · have h := mt_in' h hc
          refine go_ldc2 hC dX11_down_75 mt_kX11_151 ?_
          refine go_lload hC 0 dX11_down_78 rfl ?_
          refine go_lmul hC dX11_down_80 ?_
          refine go_lload hC 2 dX11_down_81 rfl ?_
          refine go_lmul hC dX11_down_83 ?_
          refine go_lload hC 1 dX11_down_84 rfl ?_
          refine go_lsub hC dX11_down_86 ?_
          refine go_lstore hC [1, 0, 2, 3] (lv1 := [(6, .long x6), (8, .long (((3 * x6) * x10) - x8)), (10, .long x10), (12, .int x12)]) dX11_down_87 (by decide) rfl ?_
          refine go_goto hC (tgt := 106) dX11_down_89 (by decide) ?_
          refine go_iinc hC 3 [1, 2, 3, 0] (v := x12 + 1) (lv1 := [(6, .long x6), (8, .long (((3 * x6) * x10) - x8)), (10, .long x10), (12, .int (x12 + 1))]) dX11_down_106 rfl rfl (by decide) rfl ?_
          refine go_goto hC (tgt := 13) dX11_down_109 (by decide) ?_
          exact ih _ _ _ _ _ h
      · have h := mt_in' h hc
        refine go_lload hC 2 dX11_down_42 rfl ?_
        refine go_lload hC 1 dX11_down_44 rfl ?_
        refine go_lcmp_lt hC (tgt := 67) dX11_down_46 dX11_down_47 (by decide) (fun hc => ?_) (fun hc => ?_)
        · have h := mt_ip h hc
          refine go_lload hC 1 dX11_down_67 rfl ?_
          refine go_lload hC 0 dX11_down_69 rfl ?_
          refine go_lcmp_lt hC (tgt := 92) dX11_down_71 dX11_down_72 (by decide) (fun hc => ?_) (fun hc => ?_)
          · have h := mt_ip h hc
            refine go_ldc2 hC dX11_down_92 mt_kX11_151 ?_
            refine go_lload hC 1 dX11_down_95 rfl ?_
            refine go_lmul hC dX11_down_97 ?_
            refine go_lload hC 2 dX11_down_98 rfl ?_
            refine go_lmul hC dX11_down_100 ?_
            refine go_lload hC 0 dX11_down_101 rfl ?_
            refine go_lsub hC dX11_down_103 ?_
            refine go_lstore hC [0, 1, 2, 3] (lv1 := [(6, .long (((3 * x8) * x10) - x6)), (8, .long x8), (10, .long x10), (12, .int x12)]) dX11_down_104 (by decide) rfl ?_
            refine go_iinc hC 3 [1, 2, 3, 0] (v := x12 + 1) (lv1 := [(6, .long (((3 * x8) * x10) - x6)), (8, .long x8), (10, .long x10), (12, .int (x12 + 1))]) dX11_down_106 rfl rfl (by decide) rfl ?_
            refine go_goto hC (tgt := 13) dX11_down_109 (by decide) ?_
            exact ih _ _ _ _ _ h
          · have h := mt_in' h hc
            refine go_ldc2 hC dX11_down_75 mt_kX11_151 ?_
            refine go_lload hC 0 dX11_down_78 rfl ?_
            refine go_lmul hC dX11_down_80 ?_
            refine go_lload hC 2 dX11_down_81 rfl ?_
            refine go_lmul hC dX11_down_83 ?_
            refine go_lload hC 1 dX11_down_84 rfl ?_
            refine go_lsub hC dX11_down_86 ?_
            refine go_lstore hC [1, 0, 2, 3] (lv1 := [(6, .long x6), (8, .long (((3 * x6) * x10) - x8)), (10, .long x10), (12, .int x12)]) dX11_down_87 (by decide) rfl ?_
            refine go_goto hC (tgt := 106) dX11_down_89 (by decide) ?_
            refine go_iinc hC 3 [1, 2, 3, 0] (v := x12 + 1) (lv1 := [(6, .long x6), (8, .long (((3 * x6) * x10) - x8)), (10, .long x10), (12, .int (x12 + 1))]) dX11_down_106 rfl rfl (by decide) rfl ?_
            refine go_goto hC (tgt := 13) dX11_down_109 (by decide) ?_
            exact ih _ _ _ _ _ h
        · have h := mt_in' h hc
          refine go_ldc2 hC dX11_down_50 mt_kX11_151 ?_
          refine go_lload hC 0 dX11_down_53 rfl ?_
          refine go_lmul hC dX11_down_55 ?_
          refine go_lload hC 1 dX11_down_56 rfl ?_
          refine go_lmul hC dX11_down_58 ?_
          refine go_lload hC 2 dX11_down_59 rfl ?_
          refine go_lsub hC dX11_down_61 ?_
          refine go_lstore hC [1, 2, 0, 3] (lv1 := [(6, .long x6), (8, .long x8), (10, .long (((3 * x6) * x8) - x10)), (12, .int x12)]) dX11_down_62 (by decide) rfl ?_
          refine go_goto hC (tgt := 106) dX11_down_64 (by decide) ?_
          refine go_iinc hC 3 [1, 2, 3, 0] (v := x12 + 1) (lv1 := [(6, .long x6), (8, .long x8), (10, .long (((3 * x6) * x8) - x10)), (12, .int (x12 + 1))]) dX11_down_106 rfl rfl (by decide) rfl ?_
          refine go_goto hC (tgt := 13) dX11_down_109 (by decide) ?_
          exact ih _ _ _ _ _ h
    · have h := mt_ip h hc
      refine go_lload hC 1 dX11_down_20 rfl ?_
      refine go_lconst (v := 1) hC dX11_down_22 (by decide) ?_
      refine go_lcmp_ne hC (tgt := 34) dX11_down_23 dX11_down_24 (by decide) (fun hc => ?_) (fun hc => ?_)
      · have h := mt_in' h hc
        refine go_lload hC 2 dX11_down_34 rfl ?_
        refine go_lload hC 0 dX11_down_36 rfl ?_
        refine go_lcmp_lt hC (tgt := 67) dX11_down_38 dX11_down_39 (by decide) (fun hc => ?_) (fun hc => ?_)
        · have h := mt_ip h hc
          refine go_lload hC 1 dX11_down_67 rfl ?_
          refine go_lload hC 0 dX11_down_69 rfl ?_
          refine go_lcmp_lt hC (tgt := 92) dX11_down_71 dX11_down_72 (by decide) (fun hc => ?_) (fun hc => ?_)
          · have h := mt_ip h hc
            refine go_ldc2 hC dX11_down_92 mt_kX11_151 ?_
            refine go_lload hC 1 dX11_down_95 rfl ?_
            refine go_lmul hC dX11_down_97 ?_
            refine go_lload hC 2 dX11_down_98 rfl ?_
            refine go_lmul hC dX11_down_100 ?_
            refine go_lload hC 0 dX11_down_101 rfl ?_
            refine go_lsub hC dX11_down_103 ?_
            refine go_lstore hC [0, 1, 2, 3] (lv1 := [(6, .long (((3 * x8) * x10) - x6)), (8, .long x8), (10, .long x10), (12, .int x12)]) dX11_down_104 (by decide) rfl ?_
            refine go_iinc hC 3 [1, 2, 3, 0] (v := x12 + 1) (lv1 := [(6, .long (((3 * x8) * x10) - x6)), (8, .long x8), (10, .long x10), (12, .int (x12 + 1))]) dX11_down_106 rfl rfl (by decide) rfl ?_
            refine go_goto hC (tgt := 13) dX11_down_109 (by decide) ?_
            exact ih _ _ _ _ _ h
          · have h := mt_in' h hc
            refine go_ldc2 hC dX11_down_75 mt_kX11_151 ?_
            refine go_lload hC 0 dX11_down_78 rfl ?_
            refine go_lmul hC dX11_down_80 ?_
            refine go_lload hC 2 dX11_down_81 rfl ?_
            refine go_lmul hC dX11_down_83 ?_
            refine go_lload hC 1 dX11_down_84 rfl ?_
            refine go_lsub hC dX11_down_86 ?_
            refine go_lstore hC [1, 0, 2, 3] (lv1 := [(6, .long x6), (8, .long (((3 * x6) * x10) - x8)), (10, .long x10), (12, .int x12)]) dX11_down_87 (by decide) rfl ?_
            refine go_goto hC (tgt := 106) dX11_down_89 (by decide) ?_
            refine go_iinc hC 3 [1, 2, 3, 0] (v := x12 + 1) (lv1 := [(6, .long x6), (8, .long (((3 * x6) * x10) - x8)), (10, .long x10), (12, .int (x12 + 1))]) dX11_down_106 rfl rfl (by decide) rfl ?_
            refine go_goto hC (tgt := 13) dX11_down_109 (by decide) ?_
            exact ih _ _ _ _ _ h
        · have h := mt_in' h hc
          refine go_lload hC 2 dX11_down_42 rfl ?_
          refine go_lload hC 1 dX11_down_44 rfl ?_
          refine go_lcmp_lt hC (tgt := 67) dX11_down_46 dX11_down_47 (by decide) (fun hc => ?_) (fun hc => ?_)
          · have h := mt_ip h hc
            refine go_lload hC 1 dX11_down_67 rfl ?_
            refine go_lload hC 0 dX11_down_69 rfl ?_
            refine go_lcmp_lt hC (tgt := 92) dX11_down_71 dX11_down_72 (by decide) (fun hc => ?_) (fun hc => ?_)
            · have h := mt_ip h hc
              refine go_ldc2 hC dX11_down_92 mt_kX11_151 ?_
              refine go_lload hC 1 dX11_down_95 rfl ?_
              refine go_lmul hC dX11_down_97 ?_
              refine go_lload hC 2 dX11_down_98 rfl ?_
              refine go_lmul hC dX11_down_100 ?_
              refine go_lload hC 0 dX11_down_101 rfl ?_
              refine go_lsub hC dX11_down_103 ?_
              refine go_lstore hC [0, 1, 2, 3] (lv1 := [(6, .long (((3 * x8) * x10) - x6)), (8, .long x8), (10, .long x10), (12, .int x12)]) dX11_down_104 (by decide) rfl ?_
              refine go_iinc hC 3 [1, 2, 3, 0] (v := x12 + 1) (lv1 := [(6, .long (((3 * x8) * x10) - x6)), (8, .long x8), (10, .long x10), (12, .int (x12 + 1))]) dX11_down_106 rfl rfl (by decide) rfl ?_
              refine go_goto hC (tgt := 13) dX11_down_109 (by decide) ?_
              exact ih _ _ _ _ _ h
            · have h := mt_in' h hc
              refine go_ldc2 hC dX11_down_75 mt_kX11_151 ?_
              refine go_lload hC 0 dX11_down_78 rfl ?_
              refine go_lmul hC dX11_down_80 ?_
              refine go_lload hC 2 dX11_down_81 rfl ?_
              refine go_lmul hC dX11_down_83 ?_
              refine go_lload hC 1 dX11_down_84 rfl ?_
              refine go_lsub hC dX11_down_86 ?_
              refine go_lstore hC [1, 0, 2, 3] (lv1 := [(6, .long x6), (8, .long (((3 * x6) * x10) - x8)), (10, .long x10), (12, .int x12)]) dX11_down_87 (by decide) rfl ?_
              refine go_goto hC (tgt := 106) dX11_down_89 (by decide) ?_
              refine go_iinc hC 3 [1, 2, 3, 0] (v := x12 + 1) (lv1 := [(6, .long x6), (8, .long (((3 * x6) * x10) - x8)), (10, .long x10), (12, .int (x12 + 1))]) dX11_down_106 rfl rfl (by decide) rfl ?_
              refine go_goto hC (tgt := 13) dX11_down_109 (by decide) ?_
              exact ih _ _ _ _ _ h
          · have h := mt_in' h hc
            refine go_ldc2 hC dX11_down_50 mt_kX11_151 ?_
            refine go_lload hC 0 dX11_down_53 rfl ?_
            refine go_lmul hC dX11_down_55 ?_
            refine go_lload hC 1 dX11_down_56 rfl ?_
            refine go_lmul hC dX11_down_58 ?_
            refine go_lload hC 2 dX11_down_59 rfl ?_
            refine go_lsub hC dX11_down_61 ?_
            refine go_lstore hC [1, 2, 0, 3] (lv1 := [(6, .long x6), (8, .long x8), (10, .long (((3 * x6) * x8) - x10)), (12, .int x12)]) dX11_down_62 (by decide) rfl ?_
            refine go_goto hC (tgt := 106) dX11_down_64 (by decide) ?_
            refine go_iinc hC 3 [1, 2, 3, 0] (v := x12 + 1) (lv1 := [(6, .long x6), (8, .long x8), (10, .long (((3 * x6) * x8) - x10)), (12, .int (x12 + 1))]) dX11_down_106 rfl rfl (by decide) rfl ?_
            refine go_goto hC (tgt := 13) dX11_down_109 (by decide) ?_
            exact ih _ _ _ _ _ h
      · have h := mt_ip h hc
        refine go_lload hC 2 dX11_down_27 rfl ?_
        refine go_lconst (v := 1) hC dX11_down_29 (by decide) ?_
        refine go_lcmp_eq hC (tgt := 112) dX11_down_30 dX11_down_31 (by decide) (fun hc => ?_) (fun hc => ?_)
        · have h := mt_ip h hc
          refine go_iload hC 3 dX11_down_112 rfl ?_
          exact go_iret hC (mt_rei h hE) dX11_down_114
        · have h := mt_in' h hc
          refine go_lload hC 2 dX11_down_34 rfl ?_
          refine go_lload hC 0 dX11_down_36 rfl ?_
          refine go_lcmp_lt hC (tgt := 67) dX11_down_38 dX11_down_39 (by decide) (fun hc => ?_) (fun hc => ?_)
          · have h := mt_ip h hc
            refine go_lload hC 1 dX11_down_67 rfl ?_
            refine go_lload hC 0 dX11_down_69 rfl ?_
            refine go_lcmp_lt hC (tgt := 92) dX11_down_71 dX11_down_72 (by decide) (fun hc => ?_) (fun hc => ?_)
            · have h := mt_ip h hc
              refine go_ldc2 hC dX11_down_92 mt_kX11_151 ?_
              refine go_lload hC 1 dX11_down_95 rfl ?_
              refine go_lmul hC dX11_down_97 ?_
              refine go_lload hC 2 dX11_down_98 rfl ?_
              refine go_lmul hC dX11_down_100 ?_
              refine go_lload hC 0 dX11_down_101 rfl ?_
              refine go_lsub hC dX11_down_103 ?_
              refine go_lstore hC [0, 1, 2, 3] (lv1 := [(6, .long (((3 * x8) * x10) - x6)), (8, .long x8), (10, .long x10), (12, .int x12)]) dX11_down_104 (by decide) rfl ?_
              refine go_iinc hC 3 [1, 2, 3, 0] (v := x12 + 1) (lv1 := [(6, .long (((3 * x8) * x10) - x6)), (8, .long x8), (10, .long x10), (12, .int (x12 + 1))]) dX11_down_106 rfl rfl (by decide) rfl ?_
              refine go_goto hC (tgt := 13) dX11_down_109 (by decide) ?_
              exact ih _ _ _ _ _ h
            · have h := mt_in' h hc
              refine go_ldc2 hC dX11_down_75 mt_kX11_151 ?_
              refine go_lload hC 0 dX11_down_78 rfl ?_
              refine go_lmul hC dX11_down_80 ?_
              refine go_lload hC 2 dX11_down_81 rfl ?_
              refine go_lmul hC dX11_down_83 ?_
              refine go_lload hC 1 dX11_down_84 rfl ?_
              refine go_lsub hC dX11_down_86 ?_
              refine go_lstore hC [1, 0, 2, 3] (lv1 := [(6, .long x6), (8, .long (((3 * x6) * x10) - x8)), (10, .long x10), (12, .int x12)]) dX11_down_87 (by decide) rfl ?_
              refine go_goto hC (tgt := 106) dX11_down_89 (by decide) ?_
              refine go_iinc hC 3 [1, 2, 3, 0] (v := x12 + 1) (lv1 := [(6, .long x6), (8, .long (((3 * x6) * x10) - x8)), (10, .long x10), (12, .int (x12 + 1))]) dX11_down_106 rfl rfl (by decide) rfl ?_
              refine go_goto hC (tgt := 13) dX11_down_109 (by decide) ?_
              exact ih _ _ _ _ _ h
          · have h := mt_in' h hc
            refine go_lload hC 2 dX11_down_42 rfl ?_
            refine go_lload hC 1 dX11_down_44 rfl ?_
            refine go_lcmp_lt hC (tgt := 67) dX11_down_46 dX11_down_47 (by decide) (fun hc => ?_) (fun hc => ?_)
            · have h := mt_ip h hc
              refine go_lload hC 1 dX11_down_67 rfl ?_
              refine go_lload hC 0 dX11_down_69 rfl ?_
              refine go_lcmp_lt hC (tgt := 92) dX11_down_71 dX11_down_72 (by decide) (fun hc => ?_) (fun hc => ?_)
              · have h := mt_ip h hc
                refine go_ldc2 hC dX11_down_92 mt_kX11_151 ?_
                refine go_lload hC 1 dX11_down_95 rfl ?_
                refine go_lmul hC dX11_down_97 ?_
                refine go_lload hC 2 dX11_down_98 rfl ?_
                refine go_lmul hC dX11_down_100 ?_
                refine go_lload hC 0 dX11_down_101 rfl ?_
                refine go_lsub hC dX11_down_103 ?_
                refine go_lstore hC [0, 1, 2, 3] (lv1 := [(6, .long (((3 * x8) * x10) - x6)), (8, .long x8), (10, .long x10), (12, .int x12)]) dX11_down_104 (by decide) rfl ?_
                refine go_iinc hC 3 [1, 2, 3, 0] (v := x12 + 1) (lv1 := [(6, .long (((3 * x8) * x10) - x6)), (8, .long x8), (10, .long x10), (12, .int (x12 + 1))]) dX11_down_106 rfl rfl (by decide) rfl ?_
                refine go_goto hC (tgt := 13) dX11_down_109 (by decide) ?_
                exact ih _ _ _ _ _ h
              · have h := mt_in' h hc
                refine go_ldc2 hC dX11_down_75 mt_kX11_151 ?_
                refine go_lload hC 0 dX11_down_78 rfl ?_
                refine go_lmul hC dX11_down_80 ?_
                refine go_lload hC 2 dX11_down_81 rfl ?_
                refine go_lmul hC dX11_down_83 ?_
                refine go_lload hC 1 dX11_down_84 rfl ?_
                refine go_lsub hC dX11_down_86 ?_
                refine go_lstore hC [1, 0, 2, 3] (lv1 := [(6, .long x6), (8, .long (((3 * x6) * x10) - x8)), (10, .long x10), (12, .int x12)]) dX11_down_87 (by decide) rfl ?_
                refine go_goto hC (tgt := 106) dX11_down_89 (by decide) ?_
                refine go_iinc hC 3 [1, 2, 3, 0] (v := x12 + 1) (lv1 := [(6, .long x6), (8, .long (((3 * x6) * x10) - x8)), (10, .long x10), (12, .int (x12 + 1))]) dX11_down_106 rfl rfl (by decide) rfl ?_
                refine go_goto hC (tgt := 13) dX11_down_109 (by decide) ?_
                exact ih _ _ _ _ _ h
            · have h := mt_in' h hc
              refine go_ldc2 hC dX11_down_50 mt_kX11_151 ?_
              refine go_lload hC 0 dX11_down_53 rfl ?_
              refine go_lmul hC dX11_down_55 ?_
              refine go_lload hC 1 dX11_down_56 rfl ?_
              refine go_lmul hC dX11_down_58 ?_
              refine go_lload hC 2 dX11_down_59 rfl ?_
              refine go_lsub hC dX11_down_61 ?_
              refine go_lstore hC [1, 2, 0, 3] (lv1 := [(6, .long x6), (8, .long x8), (10, .long (((3 * x6) * x8) - x10)), (12, .int x12)]) dX11_down_62 (by decide) rfl ?_
              refine go_goto hC (tgt := 106) dX11_down_64 (by decide) ?_
              refine go_iinc hC 3 [1, 2, 3, 0] (v := x12 + 1) (lv1 := [(6, .long x6), (8, .long x8), (10, .long (((3 * x6) * x8) - x10)), (12, .int (x12 + 1))]) dX11_down_106 rfl rfl (by decide) rfl ?_
              refine go_goto hC (tgt := 13) dX11_down_109 (by decide) ?_
              exact ih _ _ _ _ _ h
set_option maxHeartbeats 4000000 in
set_option maxRecDepth 100000 in
theorem ov_X11_down_L13 {T : mt_S} {r : Int32} {S' : mt_S} : ∀ (n : Nat) (x6 : Int64) (x8 : Int64) (x10 : Int64) (x12 : Int32) (S : mt_S), mt_cp S T → f_X11_down_L13 n x6 x8 x10 x12 S = some (r, S') → f_X11_down_L13 n x6 x8 x10 x12 (mt_ov S T) = some (r, mt_ov S' T) ∧ mt_cp S' T := by
  intro n
  induction n with
  | zero =>
    intro x6 x8 x10 x12 S hp h
    cases h
  | succ n ih =>
    intro x6 x8 x10 x12 S hp h
    have h : f_X11_down_L13s (f_X11_down_L13 n) x6 x8 x10 x12 S = some (r, S') := h
    show f_X11_down_L13s (f_X11_down_L13 n) x6 x8 x10 x12 (mt_ov S T) = some (r, mt_ov S' T) ∧ mt_cp S' T
    unfold f_X11_down_L13s at h ⊢
    by_cases hc : x6 = 1
    · have h := mt_ip h hc
      refine ov_t hc ?_
      by_cases hc : x8 = 1
      · have h := mt_ip h hc
        refine ov_t hc ?_
        by_cases hc : x10 = 1
        · have h := mt_ip h hc
          refine ov_t hc ?_
          exact ov_ret hp h
        · have h := mt_in' h hc
          refine ov_f hc ?_
          by_cases hc : x10 < x6
          · have h := mt_ip h hc
            refine ov_t hc ?_
            by_cases hc : x8 < x6
            · have h := mt_ip h hc
              refine ov_t hc ?_
              exact ih _ _ _ _ _ hp h
            · have h := mt_in' h hc
              refine ov_f hc ?_
              exact ih _ _ _ _ _ hp h
          · have h := mt_in' h hc
            refine ov_f hc ?_
            by_cases hc : x10 < x8
            · have h := mt_ip h hc
              refine ov_t hc ?_
              by_cases hc : x8 < x6
              · have h := mt_ip h hc
                refine ov_t hc ?_
                exact ih _ _ _ _ _ hp h
              · have h := mt_in' h hc
                refine ov_f hc ?_
                exact ih _ _ _ _ _ hp h
            · have h := mt_in' h hc
              refine ov_f hc ?_
              exact ih _ _ _ _ _ hp h
      · have h := mt_in' h hc
        refine ov_f hc ?_
        by_cases hc : x10 < x6
        · have h := mt_ip h hc
          refine ov_t hc ?_
          by_cases hc : x8 < x6
          · have h := mt_ip h hc
            refine ov_t hc ?_
            exact ih _ _ _ _ _ hp h
          · have h := mt_in' h hc
            refine ov_f hc ?_
            exact ih _ _ _ _ _ hp h
        · have h := mt_in' h hc
          refine ov_f hc ?_
          by_cases hc : x10 < x8
          · have h := mt_ip h hc
            refine ov_t hc ?_
            by_cases hc : x8 < x6
            · have h := mt_ip h hc
              refine ov_t hc ?_
              exact ih _ _ _ _ _ hp h
            · have h := mt_in' h hc
              refine ov_f hc ?_
              exact ih _ _ _ _ _ hp h
          · have h := mt_in' h hc
            refine ov_f hc ?_
            exact ih _ _ _ _ _ hp h
    · have h := mt_in' h hc
      refine ov_f hc ?_
      by_cases hc : x10 < x6
      · have h := mt_ip h hc
        refine ov_t hc ?_
        by_cases hc : x8 < x6
        · have h := mt_ip h hc
          refine ov_t hc ?_
          exact ih _ _ _ _ _ hp h
        · have h := mt_in' h hc
          refine ov_f hc ?_
          exact ih _ _ _ _ _ hp h
      · have h := mt_in' h hc
        refine ov_f hc ?_
        by_cases hc : x10 < x8
        · have h := mt_ip h hc
          refine ov_t hc ?_
          by_cases hc : x8 < x6
          · have h := mt_ip h hc
            refine ov_t hc ?_
            exact ih _ _ _ _ _ hp h
          · have h := mt_in' h hc
            refine ov_f hc ?_
            exact ih _ _ _ _ _ hp h
        · have h := mt_in' h hc
          refine ov_f hc ?_
          exact ih _ _ _ _ _ hp h
def f_X11_down (x0 : Int64) (x2 : Int64) (x4 : Int64) (S : mt_S) : Option (Int32 × mt_S) :=
  f_X11_down_L13 1000 x0 x2 x4 0 S
set_option maxHeartbeats 4000000 in
set_option maxRecDepth 100000 in
theorem m_X11_down {B : mt_B}  {x0 : Int64} {x2 : Int64} {x4 : Int64} {S : mt_S} {r : Int32} {S' : mt_S} (h : f_X11_down x0 x2 x4 S = some (r, S')) : mt_M B yX11_down cX11_down 13 (some .int) 1 [.long x0, .long x2, .long x4] S (some (.int r)) S' := by
  unfold f_X11_down at h
  refine mt_M.of (by decide) (Nat.le_of_ble_eq_true rfl) (fun E hC hE => ?_)
  refine go_lload_n hC 0 dX11_down_0 rfl rfl ?_
  refine go_lstore hC [1, 2, 3, 0] (lv1 := [(0, .long x0), (2, .long x2), (4, .long x4), (6, .long x0)]) dX11_down_1 (by decide) rfl ?_
  refine go_lload_n hC 1 dX11_down_3 rfl rfl ?_
  refine go_lstore hC [1, 2, 3, 4, 0] (lv1 := [(0, .long x0), (2, .long x2), (4, .long x4), (6, .long x0), (8, .long x2)]) dX11_down_4 (by decide) rfl ?_
  refine go_lload hC 2 dX11_down_6 rfl ?_
  refine go_lstore hC [1, 2, 3, 4, 5, 0] (lv1 := [(0, .long x0), (2, .long x2), (4, .long x4), (6, .long x0), (8, .long x2), (10, .long x4)]) dX11_down_8 (by decide) rfl ?_
  refine go_iconst (v := 0) hC dX11_down_10 (by decide) ?_
  refine go_istore hC [1, 2, 3, 4, 5, 6, 0] (lv1 := [(0, .long x0), (2, .long x2), (4, .long x4), (6, .long x0), (8, .long x2), (10, .long x4), (12, .int 0)]) dX11_down_11 (by decide) rfl ?_
  refine go_sub [3, 4, 5, 6] (lv1 := [(6, .long x0), (8, .long x2), (10, .long x4), (12, .int 0)]) rfl ?_
  exact m_X11_down_L13 hC hE 1000 _ _ _ _ _ h
set_option maxHeartbeats 4000000 in
set_option maxRecDepth 100000 in
theorem ov_X11_down {T : mt_S}  {x0 : Int64} {x2 : Int64} {x4 : Int64} {S : mt_S} {r : Int32} {S' : mt_S} (hp : mt_cp S T) (h : f_X11_down x0 x2 x4 S = some (r, S')) : f_X11_down x0 x2 x4 (mt_ov S T) = some (r, mt_ov S' T) ∧ mt_cp S' T := by
  unfold f_X11_down at h ⊢
  exact ov_X11_down_L13 1000 _ _ _ _ _ hp h
def f_X11_with (x0 : Nat) (x1 : Int64) (x3 : Int32) (S : mt_S) : Option (Int64 × mt_S) :=
  if mt_isK S x0 11 = true then
   Option.bind (mt_wI S x0 11 0 0) fun S1 =>
   mt_b2 (f_X11_isIn x1 5 1000000000000 S1) fun v3 S2 =>
   if v3 = 0 then
    some ((-1), S2)
   else
    mt_b2 (f_X11_isIn x3.toInt64 0 2 S2) fun v5 S4 =>
    if v5 = 0 then
     some ((-1), S4)
    else
     Option.bind (f_X11_laysNumbers x0 x1 S4) fun S6 =>
     Option.bind (mt_rI S6 x0 11 25) fun v7 =>
     if v7 = 0 then
      some ((-1), S6)
     else
     if x3 = 0 then
      Option.bind (mt_rL S6 x0 11 27) fun v13 =>
      some (v13, S6)
     else
     if x3 = 1 then
      Option.bind (mt_rL S6 x0 11 28) fun v12 =>
      some (v12, S6)
     else
      Option.bind (mt_rL S6 x0 11 27) fun v8 =>
      Option.bind (mt_rL S6 x0 11 28) fun v9 =>
      mt_b2 (f_X11_down v8 v9 x1 S6) fun v11 S10 =>
      some (v11.toInt64, S10)
  else none
theorem k_X11_with {x0 : Nat} {x1 : Int64} {x3 : Int32} {S : mt_S} {r : Int64} {S' : mt_S} (h : f_X11_with x0 x1 x3 S = some (r, S')) : mt_isK S x0 11 = true := by
  unfold f_X11_with at h
  exact (mt_gd h).1
set_option maxHeartbeats 4000000 in
set_option maxRecDepth 100000 in
theorem m_X11_with {B : mt_B}  {x0 : Nat} {x1 : Int64} {x3 : Int32} {S : mt_S} {r : Int64} {S' : mt_S} (h : f_X11_with x0 x1 x3 S = some (r, S')) : mt_M B yX11_with cX11_with 4 (some .long) 92 [mt_rf B x0, .long x1, .int x3] S (some (.long r)) S' := by
  unfold f_X11_with at h
  refine mt_M.of (by decide) (Nat.le_of_ble_eq_true rfl) (fun E hC hE => ?_)
  obtain ⟨hk0, h⟩ := mt_gd h
  refine go_aload_n hC 0 dX11_with_0 rfl rfl ?_
  refine go_iconst (v := 0) hC dX11_with_1 (by decide) ?_
  obtain ⟨S1, e1, h⟩ := mt_ob h
  refine go_putI hC mt_flX11_1 e1 dX11_with_2 ?_
  refine go_lload_n hC 1 dX11_with_5 rfl rfl ?_
  refine go_ldc2 hC dX11_with_6 mt_kX11_129 ?_
  refine go_ldc2 hC dX11_with_9 mt_kX11_213 ?_
  obtain ⟨v3, S2, e3, h⟩ := mt_ob2 h
  refine go_callSi hC [.long x1, .long 5, .long 1000000000000] [] (m_X11_isIn e3) mt_csX11_91 dX11_with_12 rfl rfl (by decide) (Nat.le_of_ble_eq_true rfl) ⟨Nat.le_refl _, Nat.le_refl _⟩ ?_
  refine go_if_eq hC (tgt := 30) dX11_with_15 (by decide) (fun hc => ?_) (fun hc => ?_)
  · have h := mt_ip h hc
    refine go_ldc2 hC dX11_with_30 mt_kX11_192 ?_
    exact go_lret hC (mt_rel h hE) dX11_with_33
  · have h := mt_in' h hc
    refine go_iload_n hC 2 dX11_with_18 rfl rfl ?_
    refine go_i2l hC dX11_with_19 ?_
    refine go_lconst (v := 0) hC dX11_with_20 (by decide) ?_
    refine go_ldc2 hC dX11_with_21 mt_kX11_127 ?_
    obtain ⟨v5, S4, e5, h⟩ := mt_ob2 h
    refine go_callSi hC [.long x3.toInt64, .long 0, .long 2] [] (m_X11_isIn e5) mt_csX11_91 dX11_with_24 rfl rfl (by decide) (Nat.le_of_ble_eq_true rfl) ⟨Nat.le_refl _, Nat.le_refl _⟩ ?_
    refine go_if_ne hC (tgt := 34) dX11_with_27 (by decide) (fun hc => ?_) (fun hc => ?_)
    · have h := mt_in' h hc
      refine go_aload_n hC 0 dX11_with_34 rfl rfl ?_
      refine go_lload_n hC 1 dX11_with_35 rfl rfl ?_
      obtain ⟨S6, e6, h⟩ := mt_ob h
      refine go_callVv hC [.long x1] [] (m_X11_laysNumbers e6) mt_cvX11_219 (k_X11_laysNumbers e6) dX11_with_36 rfl rfl (by decide) (Nat.le_of_ble_eq_true rfl) ⟨Nat.le_refl _, Nat.le_refl _⟩ ?_
      refine go_aload_n hC 0 dX11_with_39 rfl rfl ?_
      obtain ⟨v7, e7, h⟩ := mt_ob h
      refine go_getI hC mt_flX11_204 e7 dX11_with_40 ?_
      refine go_if_ne hC (tgt := 50) dX11_with_43 (by decide) (fun hc => ?_) (fun hc => ?_)
      · have h := mt_in' h hc
        refine go_iload_n hC 2 dX11_with_50 rfl rfl ?_
        refine go_if_ne hC (tgt := 61) dX11_with_51 (by decide) (fun hc => ?_) (fun hc => ?_)
        · have h := mt_in' h hc
          refine go_iload_n hC 2 dX11_with_61 rfl rfl ?_
          refine go_iconst (v := 1) hC dX11_with_62 (by decide) ?_
          refine go_icmp_ne hC (tgt := 73) dX11_with_63 (by decide) (fun hc => ?_) (fun hc => ?_)
          · have h := mt_in' h hc
            refine go_aload_n hC 0 dX11_with_73 rfl rfl ?_
            obtain ⟨v8, e8, h⟩ := mt_ob h
            refine go_getL hC mt_flX11_207 e8 dX11_with_74 ?_
            refine go_aload_n hC 0 dX11_with_77 rfl rfl ?_
            obtain ⟨v9, e9, h⟩ := mt_ob h
            refine go_getL hC mt_flX11_210 e9 dX11_with_78 ?_
            refine go_lload_n hC 1 dX11_with_81 rfl rfl ?_
            obtain ⟨v11, S10, e11, h⟩ := mt_ob2 h
            refine go_callSi hC [.long v8, .long v9, .long x1] [] (m_X11_down e11) mt_csX11_222 dX11_with_82 rfl rfl (by decide) (Nat.le_of_ble_eq_true rfl) ⟨Nat.le_refl _, Nat.le_refl _⟩ ?_
            refine go_i2l hC dX11_with_85 ?_
            exact go_lret hC (mt_rel h hE) dX11_with_86
          · have h := mt_ip h hc
            refine go_aload_n hC 0 dX11_with_66 rfl rfl ?_
            obtain ⟨v12, e12, h⟩ := mt_ob h
            refine go_getL hC mt_flX11_210 e12 dX11_with_67 ?_
            refine go_goto hC (tgt := 86) dX11_with_70 (by decide) ?_
            exact go_lret hC (mt_rel h hE) dX11_with_86
        · have h := mt_ip h hc
          refine go_aload_n hC 0 dX11_with_54 rfl rfl ?_
          obtain ⟨v13, e13, h⟩ := mt_ob h
          refine go_getL hC mt_flX11_207 e13 dX11_with_55 ?_
          refine go_goto hC (tgt := 86) dX11_with_58 (by decide) ?_
          exact go_lret hC (mt_rel h hE) dX11_with_86
      · have h := mt_ip h hc
        refine go_ldc2 hC dX11_with_46 mt_kX11_192 ?_
        exact go_lret hC (mt_rel h hE) dX11_with_49
    · have h := mt_ip h hc
      refine go_ldc2 hC dX11_with_30 mt_kX11_192 ?_
      exact go_lret hC (mt_rel h hE) dX11_with_33
set_option maxHeartbeats 4000000 in
set_option maxRecDepth 100000 in
theorem ov_X11_with {T : mt_S}  {x0 : Nat} {x1 : Int64} {x3 : Int32} {S : mt_S} {r : Int64} {S' : mt_S} (hp : mt_cp S T) (h : f_X11_with x0 x1 x3 S = some (r, S')) : f_X11_with x0 x1 x3 (mt_ov S T) = some (r, mt_ov S' T) ∧ mt_cp S' T := by
  unfold f_X11_with at h ⊢
  obtain ⟨hg, h⟩ := mt_gd h
  refine ov_t (ov_K hp hg) ?_
  obtain ⟨S1, e1, h⟩ := mt_ob h
  obtain ⟨o_, hp⟩ := ov_wI hp e1
  refine ov_b o_ ?_
  obtain ⟨v3, S2, e3, h⟩ := mt_ob2 h
  obtain ⟨o_, hp⟩ := ov_X11_isIn hp e3
  refine ov_b2 o_ ?_
  by_cases hc : v3 = 0
  · have h := mt_ip h hc
    refine ov_t hc ?_
    exact ov_ret hp h
  · have h := mt_in' h hc
    refine ov_f hc ?_
    obtain ⟨v5, S4, e5, h⟩ := mt_ob2 h
    obtain ⟨o_, hp⟩ := ov_X11_isIn hp e5
    refine ov_b2 o_ ?_
    by_cases hc : v5 = 0
    · have h := mt_ip h hc
      refine ov_t hc ?_
      exact ov_ret hp h
    · have h := mt_in' h hc
      refine ov_f hc ?_
      obtain ⟨S6, e6, h⟩ := mt_ob h
      obtain ⟨o_, hp⟩ := ov_X11_laysNumbers hp e6
      refine ov_b o_ ?_
      obtain ⟨v7, e7, h⟩ := mt_ob h
      refine ov_b (ov_rI hp e7) ?_
      by_cases hc : v7 = 0
      · have h := mt_ip h hc
        refine ov_t hc ?_
        exact ov_ret hp h
      · have h := mt_in' h hc
        refine ov_f hc ?_
        by_cases hc : x3 = 0
        · have h := mt_ip h hc
          refine ov_t hc ?_
          obtain ⟨v13, e13, h⟩ := mt_ob h
          refine ov_b (ov_rL hp e13) ?_
          exact ov_ret hp h
        · have h := mt_in' h hc
          refine ov_f hc ?_
          by_cases hc : x3 = 1
          · have h := mt_ip h hc
            refine ov_t hc ?_
            obtain ⟨v12, e12, h⟩ := mt_ob h
            refine ov_b (ov_rL hp e12) ?_
            exact ov_ret hp h
          · have h := mt_in' h hc
            refine ov_f hc ?_
            obtain ⟨v8, e8, h⟩ := mt_ob h
            refine ov_b (ov_rL hp e8) ?_
            obtain ⟨v9, e9, h⟩ := mt_ob h
            refine ov_b (ov_rL hp e9) ?_
            obtain ⟨v11, S10, e11, h⟩ := mt_ob2 h
            obtain ⟨o_, hp⟩ := ov_X11_down hp e11
            refine ov_b2 o_ ?_
            exact ov_ret hp h
def f_X11_spread (x0 : Nat) (S : mt_S) : Option (Int32 × mt_S) :=
  if mt_isK S x0 11 = true then
   Option.bind (mt_wI S x0 11 0 0) fun S1 =>
   mt_b2 (f_X11_number x0 S1) fun v3 S2 =>
   if (FP.fmul (FP.l2f v3) (FP.l2f v3)) &&& 0x7fffffff ≤ 0x7f800000 then
    if (FP.fdiv 1082130432 (FP.fmul (FP.l2f v3) (FP.l2f v3))) &&& 0x7fffffff ≤ 0x7f800000 then
     if (FP.fsub 1091567616 (FP.fdiv 1082130432 (FP.fmul (FP.l2f v3) (FP.l2f v3)))) &&& 0x7fffffff ≤ 0x7f800000 then
      mt_b2 (f_Jxf58ca_floatToIntBits_5c35a (FP.fsub 1091567616 (FP.fdiv 1082130432 (FP.fmul (FP.l2f v3) (FP.l2f v3)))) S2) fun v5 S4 =>
      some (v5, S4)
     else none
    else none
   else none
  else none
theorem k_X11_spread {x0 : Nat} {S : mt_S} {r : Int32} {S' : mt_S} (h : f_X11_spread x0 S = some (r, S')) : mt_isK S x0 11 = true := by
  unfold f_X11_spread at h
  exact (mt_gd h).1
set_option maxHeartbeats 4000000 in
set_option maxRecDepth 100000 in
theorem m_X11_spread {B : mt_B}  {x0 : Nat} {S : mt_S} {r : Int32} {S' : mt_S} (h : f_X11_spread x0 S = some (r, S')) : mt_M B yX11_spread cX11_spread 2 (some .int) 5 [mt_rf B x0] S (some (.int r)) S' := by
  unfold f_X11_spread at h
  refine mt_M.of (by decide) (Nat.le_of_ble_eq_true rfl) (fun E hC hE => ?_)
  obtain ⟨hk0, h⟩ := mt_gd h
  refine go_aload_n hC 0 dX11_spread_0 rfl rfl ?_
  refine go_iconst (v := 0) hC dX11_spread_1 (by decide) ?_
  obtain ⟨S1, e1, h⟩ := mt_ob h
  refine go_putI hC mt_flX11_1 e1 dX11_spread_2 ?_
  refine go_aload_n hC 0 dX11_spread_5 rfl rfl ?_
  obtain ⟨v3, S2, e3, h⟩ := mt_ob2 h
  refine go_callVl hC [] [] (m_X11_number e3) mt_cvX11_138 (k_X11_number e3) dX11_spread_6 rfl rfl (by decide) (Nat.le_of_ble_eq_true rfl) ⟨Nat.le_refl _, Nat.le_refl _⟩ ?_
  refine go_l2f hC dX11_spread_9 ?_
  refine go_fstore_n hC [1, 0] (lv1 := [(0, mt_rf B x0), (1, .float (FP.l2f v3))]) dX11_spread_10 rfl (by decide) rfl ?_
  refine go_ldcf hC dX11_spread_11 mt_kX11_226 ?_
  refine go_ldcf hC dX11_spread_13 mt_kX11_227 ?_
  refine go_fload_n hC 1 dX11_spread_15 rfl rfl ?_
  refine go_fload_n hC 1 dX11_spread_16 rfl rfl ?_
  obtain ⟨g8, h⟩ := mt_gd h
  refine go_fmul hC dX11_spread_17 g8 ?_
  obtain ⟨g7, h⟩ := mt_gd h
  refine go_fdiv hC dX11_spread_18 g7 ?_
  obtain ⟨g6, h⟩ := mt_gd h
  refine go_fsub hC dX11_spread_19 g6 ?_
  obtain ⟨v5, S4, e5, h⟩ := mt_ob2 h
  refine go_callSi hC [.float (FP.fsub 1091567616 (FP.fdiv 1082130432 (FP.fmul (FP.l2f v3) (FP.l2f v3))))] [] (m_Jxf58ca_floatToIntBits_5c35a e5) mt_csX11_228 dX11_spread_20 rfl rfl (by decide) (Nat.le_of_ble_eq_true rfl) ⟨Nat.le_refl _, Nat.le_refl _⟩ ?_
  exact go_iret hC (mt_rei h hE) dX11_spread_23
set_option maxHeartbeats 4000000 in
set_option maxRecDepth 100000 in
theorem ov_X11_spread {T : mt_S}  {x0 : Nat} {S : mt_S} {r : Int32} {S' : mt_S} (hp : mt_cp S T) (h : f_X11_spread x0 S = some (r, S')) : f_X11_spread x0 (mt_ov S T) = some (r, mt_ov S' T) ∧ mt_cp S' T := by
  unfold f_X11_spread at h ⊢
  obtain ⟨hg, h⟩ := mt_gd h
  refine ov_t (ov_K hp hg) ?_
  obtain ⟨S1, e1, h⟩ := mt_ob h
  obtain ⟨o_, hp⟩ := ov_wI hp e1
  refine ov_b o_ ?_
  obtain ⟨v3, S2, e3, h⟩ := mt_ob2 h
  obtain ⟨o_, hp⟩ := ov_X11_number hp e3
  refine ov_b2 o_ ?_
  obtain ⟨hg, h⟩ := mt_gd h
  refine ov_t hg ?_
  obtain ⟨hg, h⟩ := mt_gd h
  refine ov_t hg ?_
  obtain ⟨hg, h⟩ := mt_gd h
  refine ov_t hg ?_
  obtain ⟨v5, S4, e5, h⟩ := mt_ob2 h
  obtain ⟨o_, hp⟩ := ov_Jxf58ca_floatToIntBits_5c35a hp e5
  refine ov_b2 o_ ?_
  exact ov_ret hp h
def f_X11_markP (x0 : Nat) (x1 : Int32) (S : mt_S) : Option (Int32 × mt_S) :=
  if mt_isK S x0 11 = true then
   Option.bind (mt_rR S x0 11 3) fun v1 =>
   Option.bind (mt_aI S v1 13 (3 + (2 * x1))) fun v2 =>
   some (v2, S)
  else none
theorem k_X11_markP {x0 : Nat} {x1 : Int32} {S : mt_S} {r : Int32} {S' : mt_S} (h : f_X11_markP x0 x1 S = some (r, S')) : mt_isK S x0 11 = true := by
  unfold f_X11_markP at h
  exact (mt_gd h).1
set_option maxHeartbeats 4000000 in
set_option maxRecDepth 100000 in
theorem m_X11_markP {B : mt_B}  {x0 : Nat} {x1 : Int32} {S : mt_S} {r : Int32} {S' : mt_S} (h : f_X11_markP x0 x1 S = some (r, S')) : mt_M B yX11_markP cX11_markP 2 (some .int) 1 [mt_rf B x0, .int x1] S (some (.int r)) S' := by
  unfold f_X11_markP at h
  refine mt_M.of (by decide) (Nat.le_of_ble_eq_true rfl) (fun E hC hE => ?_)
  obtain ⟨hk0, h⟩ := mt_gd h
  refine go_aload_n hC 0 dX11_markP_0 rfl rfl ?_
  obtain ⟨v1, e1, h⟩ := mt_ob h
  refine go_getR hC mt_flX11_24 e1 dX11_markP_1 ?_
  refine go_iconst (v := 3) hC dX11_markP_4 (by decide) ?_
  refine go_iconst (v := 2) hC dX11_markP_5 (by decide) ?_
  refine go_iload_n hC 1 dX11_markP_6 rfl rfl ?_
  refine go_imul hC dX11_markP_7 ?_
  refine go_iadd hC dX11_markP_8 ?_
  obtain ⟨v2, e2, h⟩ := mt_ob h
  refine go_iald hC e2 dX11_markP_9 ?_
  exact go_iret hC (mt_rei h hE) dX11_markP_10
set_option maxHeartbeats 4000000 in
set_option maxRecDepth 100000 in
theorem ov_X11_markP {T : mt_S}  {x0 : Nat} {x1 : Int32} {S : mt_S} {r : Int32} {S' : mt_S} (hp : mt_cp S T) (h : f_X11_markP x0 x1 S = some (r, S')) : f_X11_markP x0 x1 (mt_ov S T) = some (r, mt_ov S' T) ∧ mt_cp S' T := by
  unfold f_X11_markP at h ⊢
  obtain ⟨hg, h⟩ := mt_gd h
  refine ov_t (ov_K hp hg) ?_
  obtain ⟨v1, e1, h⟩ := mt_ob h
  refine ov_b (ov_rR hp e1) ?_
  obtain ⟨v2, e2, h⟩ := mt_ob h
  refine ov_b (ov_aI hp e2) ?_
  exact ov_ret hp h
def f_X11_markQ (x0 : Nat) (x1 : Int32) (S : mt_S) : Option (Int32 × mt_S) :=
  if mt_isK S x0 11 = true then
   Option.bind (mt_rR S x0 11 3) fun v1 =>
   Option.bind (mt_aI S v1 13 ((3 + (2 * x1)) + 1)) fun v2 =>
   some (v2, S)
  else none
theorem k_X11_markQ {x0 : Nat} {x1 : Int32} {S : mt_S} {r : Int32} {S' : mt_S} (h : f_X11_markQ x0 x1 S = some (r, S')) : mt_isK S x0 11 = true := by
  unfold f_X11_markQ at h
  exact (mt_gd h).1
set_option maxHeartbeats 4000000 in
set_option maxRecDepth 100000 in
theorem m_X11_markQ {B : mt_B}  {x0 : Nat} {x1 : Int32} {S : mt_S} {r : Int32} {S' : mt_S} (h : f_X11_markQ x0 x1 S = some (r, S')) : mt_M B yX11_markQ cX11_markQ 2 (some .int) 1 [mt_rf B x0, .int x1] S (some (.int r)) S' := by
  unfold f_X11_markQ at h
  refine mt_M.of (by decide) (Nat.le_of_ble_eq_true rfl) (fun E hC hE => ?_)
  obtain ⟨hk0, h⟩ := mt_gd h
  refine go_aload_n hC 0 dX11_markQ_0 rfl rfl ?_
  obtain ⟨v1, e1, h⟩ := mt_ob h
  refine go_getR hC mt_flX11_24 e1 dX11_markQ_1 ?_
  refine go_iconst (v := 3) hC dX11_markQ_4 (by decide) ?_
  refine go_iconst (v := 2) hC dX11_markQ_5 (by decide) ?_
  refine go_iload_n hC 1 dX11_markQ_6 rfl rfl ?_
  refine go_imul hC dX11_markQ_7 ?_
  refine go_iadd hC dX11_markQ_8 ?_
  refine go_iconst (v := 1) hC dX11_markQ_9 (by decide) ?_
  refine go_iadd hC dX11_markQ_10 ?_
  obtain ⟨v2, e2, h⟩ := mt_ob h
  refine go_iald hC e2 dX11_markQ_11 ?_
  exact go_iret hC (mt_rei h hE) dX11_markQ_12
set_option maxHeartbeats 4000000 in
set_option maxRecDepth 100000 in
theorem ov_X11_markQ {T : mt_S}  {x0 : Nat} {x1 : Int32} {S : mt_S} {r : Int32} {S' : mt_S} (hp : mt_cp S T) (h : f_X11_markQ x0 x1 S = some (r, S')) : f_X11_markQ x0 x1 (mt_ov S T) = some (r, mt_ov S' T) ∧ mt_cp S' T := by
  unfold f_X11_markQ at h ⊢
  obtain ⟨hg, h⟩ := mt_gd h
  refine ov_t (ov_K hp hg) ?_
  obtain ⟨v1, e1, h⟩ := mt_ob h
  refine ov_b (ov_rR hp e1) ?_
  obtain ⟨v2, e2, h⟩ := mt_ob h
  refine ov_b (ov_aI hp e2) ?_
  exact ov_ret hp h
def f_X11_markNumber (x0 : Nat) (x1 : Int32) (S : mt_S) : Option (Int64 × mt_S) :=
  if mt_isK S x0 11 = true then
   mt_b2 (f_X11_markP x0 x1 S) fun v2 S1 =>
   mt_b2 (f_X11_markQ x0 x1 S1) fun v4 S3 =>
   mt_b2 (f_X11_numberOf x0 v2 v4 S3) fun v6 S5 =>
   some (v6, S5)
  else none
theorem k_X11_markNumber {x0 : Nat} {x1 : Int32} {S : mt_S} {r : Int64} {S' : mt_S} (h : f_X11_markNumber x0 x1 S = some (r, S')) : mt_isK S x0 11 = true := by
  unfold f_X11_markNumber at h
  exact (mt_gd h).1
set_option maxHeartbeats 4000000 in
set_option maxRecDepth 100000 in
theorem m_X11_markNumber {B : mt_B}  {x0 : Nat} {x1 : Int32} {S : mt_S} {r : Int64} {S' : mt_S} (h : f_X11_markNumber x0 x1 S = some (r, S')) : mt_M B yX11_markNumber cX11_markNumber 2 (some .long) 4 [mt_rf B x0, .int x1] S (some (.long r)) S' := by
  unfold f_X11_markNumber at h
  refine mt_M.of (by decide) (Nat.le_of_ble_eq_true rfl) (fun E hC hE => ?_)
  obtain ⟨hk0, h⟩ := mt_gd h
  refine go_aload_n hC 0 dX11_markNumber_0 rfl rfl ?_
  refine go_aload_n hC 0 dX11_markNumber_1 rfl rfl ?_
  refine go_iload_n hC 1 dX11_markNumber_2 rfl rfl ?_
  obtain ⟨v2, S1, e2, h⟩ := mt_ob2 h
  refine go_callVi hC [.int x1] [mt_rf B x0] (m_X11_markP e2) mt_cvX11_234 (k_X11_markP e2) dX11_markNumber_3 rfl rfl (by decide) (Nat.le_of_ble_eq_true rfl) ⟨Nat.le_refl _, Nat.le_refl _⟩ ?_
  refine go_aload_n hC 0 dX11_markNumber_6 rfl rfl ?_
  refine go_iload_n hC 1 dX11_markNumber_7 rfl rfl ?_
  obtain ⟨v4, S3, e4, h⟩ := mt_ob2 h
  refine go_callVi hC [.int x1] [.int v2, mt_rf B x0] (m_X11_markQ e4) mt_cvX11_237 (k_X11_markQ e4) dX11_markNumber_8 rfl rfl (by decide) (Nat.le_of_ble_eq_true rfl) ⟨Nat.le_refl _, Nat.le_refl _⟩ ?_
  obtain ⟨v6, S5, e6, h⟩ := mt_ob2 h
  refine go_callVl hC [.int v2, .int v4] [] (m_X11_numberOf e6) mt_cvX11_134 (k_X11_numberOf e6) dX11_markNumber_11 rfl rfl (by decide) (Nat.le_of_ble_eq_true rfl) ⟨Nat.le_refl _, Nat.le_refl _⟩ ?_
  exact go_lret hC (mt_rel h hE) dX11_markNumber_14
set_option maxHeartbeats 4000000 in
set_option maxRecDepth 100000 in
theorem ov_X11_markNumber {T : mt_S}  {x0 : Nat} {x1 : Int32} {S : mt_S} {r : Int64} {S' : mt_S} (hp : mt_cp S T) (h : f_X11_markNumber x0 x1 S = some (r, S')) : f_X11_markNumber x0 x1 (mt_ov S T) = some (r, mt_ov S' T) ∧ mt_cp S' T := by
  unfold f_X11_markNumber at h ⊢
  obtain ⟨hg, h⟩ := mt_gd h
  refine ov_t (ov_K hp hg) ?_
  obtain ⟨v2, S1, e2, h⟩ := mt_ob2 h
  obtain ⟨o_, hp⟩ := ov_X11_markP hp e2
  refine ov_b2 o_ ?_
  obtain ⟨v4, S3, e4, h⟩ := mt_ob2 h
  obtain ⟨o_, hp⟩ := ov_X11_markQ hp e4
  refine ov_b2 o_ ?_
  obtain ⟨v6, S5, e6, h⟩ := mt_ob2 h
  obtain ⟨o_, hp⟩ := ov_X11_numberOf hp e6
  refine ov_b2 o_ ?_
  exact ov_ret hp h
def f_X11_markHere_L2s (rc : Nat → Int32 → mt_S → Option (Int32 × mt_S)) (x0 : Nat) (x1 : Int32) (S : mt_S) : Option (Int32 × mt_S) :=
  Option.bind (mt_rR S x0 11 3) fun v1 =>
  Option.bind (mt_aI S v1 13 2) fun v2 =>
  if v2 ≤ x1 then
   some ((-1), S)
  else
   mt_b2 (f_X11_markP x0 x1 S) fun v4 S3 =>
   Option.bind (mt_rR S3 x0 11 3) fun v5 =>
   Option.bind (mt_aI S3 v5 13 0) fun v6 =>
   if v4 = v6 then
    mt_b2 (f_X11_markQ x0 x1 S3) fun v8 S7 =>
    Option.bind (mt_rR S7 x0 11 3) fun v9 =>
    Option.bind (mt_aI S7 v9 13 1) fun v10 =>
    if v8 = v10 then
     some (x1, S7)
    else
     rc x0 (x1 + 1) S7
   else
    rc x0 (x1 + 1) S3
def f_X11_markHere_L2 : Nat → Nat → Int32 → mt_S → Option (Int32 × mt_S)
  | 0 => fun _ _ _ => none
  | n + 1 => f_X11_markHere_L2s (f_X11_markHere_L2 n)
set_option maxHeartbeats 4000000 in
set_option maxRecDepth 100000 in
theorem m_X11_markHere_L2 {B : mt_B} {E : mt_E} {r : Int32} {S' : mt_S} (hC : mt_Cx B E cX11_markHere RX11 (some .int) 2 2 0 0) (hE : mt_End B E (0, 0) (some (.int r)) S') : ∀ (n : Nat) (x0 : Nat) (x1 : Int32) (S : mt_S), f_X11_markHere_L2 n x0 x1 S = some (r, S') → mt_Go B E (0, 0) S 2 [(0, mt_rf B x0), (1, .int x1)] [] := by
  intro n
  induction n with
  | zero =>
    intro x0 x1 S h
    cases h
  | succ n ih =>
    intro x0 x1 S h
    have h : f_X11_markHere_L2s (f_X11_markHere_L2 n) x0 x1 S = some (r, S') := h
    unfold f_X11_markHere_L2s at h
    refine go_iload_n hC 1 dX11_markHere_2 rfl rfl ?_
    refine go_aload_n hC 0 dX11_markHere_3 rfl rfl ?_
    obtain ⟨v1, e1, h⟩ := mt_ob h
    refine go_getR hC mt_flX11_24 e1 dX11_markHere_4 ?_
    refine go_iconst (v := 2) hC dX11_markHere_7 (by decide) ?_
    obtain ⟨v2, e2, h⟩ := mt_ob h
    refine go_iald hC e2 dX11_markHere_8 ?_
    refine go_icmp_ge hC (tgt := 48) dX11_markHere_9 (by decide) (fun hc => ?_) (fun hc => ?_)
    · have h := mt_ip h hc
      refine go_iconst (v := (-1)) hC dX11_markHere_48 (by decide) ?_
      exact go_iret hC (mt_rei h hE) dX11_markHere_49
    · have h := mt_in' h hc
      refine go_aload_n hC 0 dX11_markHere_12 rfl rfl ?_
      refine go_iload_n hC 1 dX11_markHere_13 rfl rfl ?_
      obtain ⟨v4, S3, e4, h⟩ := mt_ob2 h
      refine go_callVi hC [.int x1] [] (m_X11_markP e4) mt_cvX11_234 (k_X11_markP e4) dX11_markHere_14 rfl rfl (by decide) (Nat.le_of_ble_eq_true rfl) ⟨Nat.le_refl _, Nat.le_refl _⟩ ?_
      refine go_aload_n hC 0 dX11_markHere_17 rfl rfl ?_
      obtain ⟨v5, e5, h⟩ := mt_ob h
      refine go_getR hC mt_flX11_24 e5 dX11_markHere_18 ?_
      refine go_iconst (v := 0) hC dX11_markHere_21 (by decide) ?_
      obtain ⟨v6, e6, h⟩ := mt_ob h
      refine go_iald hC e6 dX11_markHere_22 ?_
      refine go_icmp_ne hC (tgt := 42) dX11_markHere_23 (by decide) (fun hc => ?_) (fun hc => ?_)
      · have h := mt_in' h hc
        refine go_iinc hC 1 [1, 0] (v := x1 + 1) (lv1 := [(0, mt_rf B x0), (1, .int (x1 + 1))]) dX11_markHere_42 rfl rfl (by decide) rfl ?_
        refine go_goto hC (tgt := 2) dX11_markHere_45 (by decide) ?_
        exact ih _ _ _ h
      · have h := mt_ip h hc
        refine go_aload_n hC 0 dX11_markHere_26 rfl rfl ?_
        refine go_iload_n hC 1 dX11_markHere_27 rfl rfl ?_
        obtain ⟨v8, S7, e8, h⟩ := mt_ob2 h
        refine go_callVi hC [.int x1] [] (m_X11_markQ e8) mt_cvX11_237 (k_X11_markQ e8) dX11_markHere_28 rfl rfl (by decide) (Nat.le_of_ble_eq_true rfl) ⟨Nat.le_refl _, Nat.le_refl _⟩ ?_
        refine go_aload_n hC 0 dX11_markHere_31 rfl rfl ?_
        obtain ⟨v9, e9, h⟩ := mt_ob h
        refine go_getR hC mt_flX11_24 e9 dX11_markHere_32 ?_
        refine go_iconst (v := 1) hC dX11_markHere_35 (by decide) ?_
        obtain ⟨v10, e10, h⟩ := mt_ob h
        refine go_iald hC e10 dX11_markHere_36 ?_
        refine go_icmp_ne hC (tgt := 42) dX11_markHere_37 (by decide) (fun hc => ?_) (fun hc => ?_)
        · have h := mt_in' h hc
          refine go_iinc hC 1 [1, 0] (v := x1 + 1) (lv1 := [(0, mt_rf B x0), (1, .int (x1 + 1))]) dX11_markHere_42 rfl rfl (by decide) rfl ?_
          refine go_goto hC (tgt := 2) dX11_markHere_45 (by decide) ?_
          exact ih _ _ _ h
        · have h := mt_ip h hc
          refine go_iload_n hC 1 dX11_markHere_40 rfl rfl ?_
          exact go_iret hC (mt_rei h hE) dX11_markHere_41
set_option maxHeartbeats 4000000 in
set_option maxRecDepth 100000 in
theorem ov_X11_markHere_L2 {T : mt_S} {r : Int32} {S' : mt_S} : ∀ (n : Nat) (x0 : Nat) (x1 : Int32) (S : mt_S), mt_cp S T → f_X11_markHere_L2 n x0 x1 S = some (r, S') → f_X11_markHere_L2 n x0 x1 (mt_ov S T) = some (r, mt_ov S' T) ∧ mt_cp S' T := by
  intro n
  induction n with
  | zero =>
    intro x0 x1 S hp h
    cases h
  | succ n ih =>
    intro x0 x1 S hp h
    have h : f_X11_markHere_L2s (f_X11_markHere_L2 n) x0 x1 S = some (r, S') := h
    show f_X11_markHere_L2s (f_X11_markHere_L2 n) x0 x1 (mt_ov S T) = some (r, mt_ov S' T) ∧ mt_cp S' T
    unfold f_X11_markHere_L2s at h ⊢
    obtain ⟨v1, e1, h⟩ := mt_ob h
    refine ov_b (ov_rR hp e1) ?_
    obtain ⟨v2, e2, h⟩ := mt_ob h
    refine ov_b (ov_aI hp e2) ?_
    by_cases hc : v2 ≤ x1
    · have h := mt_ip h hc
      refine ov_t hc ?_
      exact ov_ret hp h
    · have h := mt_in' h hc
      refine ov_f hc ?_
      obtain ⟨v4, S3, e4, h⟩ := mt_ob2 h
      obtain ⟨o_, hp⟩ := ov_X11_markP hp e4
      refine ov_b2 o_ ?_
      obtain ⟨v5, e5, h⟩ := mt_ob h
      refine ov_b (ov_rR hp e5) ?_
      obtain ⟨v6, e6, h⟩ := mt_ob h
      refine ov_b (ov_aI hp e6) ?_
      by_cases hc : v4 = v6
      · have h := mt_ip h hc
        refine ov_t hc ?_
        obtain ⟨v8, S7, e8, h⟩ := mt_ob2 h
        obtain ⟨o_, hp⟩ := ov_X11_markQ hp e8
        refine ov_b2 o_ ?_
        obtain ⟨v9, e9, h⟩ := mt_ob h
        refine ov_b (ov_rR hp e9) ?_
        obtain ⟨v10, e10, h⟩ := mt_ob h
        refine ov_b (ov_aI hp e10) ?_
        by_cases hc : v8 = v10
        · have h := mt_ip h hc
          refine ov_t hc ?_
          exact ov_ret hp h
        · have h := mt_in' h hc
          refine ov_f hc ?_
          exact ih _ _ _ hp h
      · have h := mt_in' h hc
        refine ov_f hc ?_
        exact ih _ _ _ hp h
def f_X11_markHere (x0 : Nat) (S : mt_S) : Option (Int32 × mt_S) :=
  if mt_isK S x0 11 = true then
   f_X11_markHere_L2 1000 x0 0 S
  else none
theorem k_X11_markHere {x0 : Nat} {S : mt_S} {r : Int32} {S' : mt_S} (h : f_X11_markHere x0 S = some (r, S')) : mt_isK S x0 11 = true := by
  unfold f_X11_markHere at h
  exact (mt_gd h).1
set_option maxHeartbeats 4000000 in
set_option maxRecDepth 100000 in
theorem m_X11_markHere {B : mt_B}  {x0 : Nat} {S : mt_S} {r : Int32} {S' : mt_S} (h : f_X11_markHere x0 S = some (r, S')) : mt_M B yX11_markHere cX11_markHere 2 (some .int) 2 [mt_rf B x0] S (some (.int r)) S' := by
  unfold f_X11_markHere at h
  refine mt_M.of (by decide) (Nat.le_of_ble_eq_true rfl) (fun E hC hE => ?_)
  obtain ⟨hk0, h⟩ := mt_gd h
  refine go_iconst (v := 0) hC dX11_markHere_0 (by decide) ?_
  refine go_istore_n hC [1, 0] (lv1 := [(0, mt_rf B x0), (1, .int 0)]) dX11_markHere_1 rfl (by decide) rfl ?_
  exact m_X11_markHere_L2 hC hE 1000 _ _ _ h
set_option maxHeartbeats 4000000 in
set_option maxRecDepth 100000 in
theorem ov_X11_markHere {T : mt_S}  {x0 : Nat} {S : mt_S} {r : Int32} {S' : mt_S} (hp : mt_cp S T) (h : f_X11_markHere x0 S = some (r, S')) : f_X11_markHere x0 (mt_ov S T) = some (r, mt_ov S' T) ∧ mt_cp S' T := by
  unfold f_X11_markHere at h ⊢
  obtain ⟨hg, h⟩ := mt_gd h
  refine ov_t (ov_K hp hg) ?_
  exact ov_X11_markHere_L2 1000 _ _ _ hp h
def f_X11_marks_L12s (rc : Nat → Int32 → Int64 → mt_S → Option (mt_S)) (x0 : Nat) (x1 : Int32) (x2 : Int64) (S : mt_S) : Option (mt_S) :=
  if x1 ≤ 0 then
   Option.bind (mt_rR S x0 11 3) fun v5 =>
   Option.bind (mt_rR S x0 11 3) fun v6 =>
   Option.bind (mt_aI S v6 13 0) fun v7 =>
   Option.bind (mt_sI S v5 13 (3 + (2 * x1)) v7) fun S8 =>
   Option.bind (mt_rR S8 x0 11 3) fun v9 =>
   Option.bind (mt_rR S8 x0 11 3) fun v10 =>
   Option.bind (mt_aI S8 v10 13 1) fun v11 =>
   Option.bind (mt_sI S8 v9 13 ((3 + (2 * x1)) + 1) v11) fun S12 =>
   Option.bind (mt_rR S12 x0 11 3) fun v13 =>
   Option.bind (mt_aI S12 v13 13 2) fun v14 =>
   Option.bind (mt_sI S12 v13 13 2 (v14 + 1)) fun S15 =>
   some S15
  else
   mt_b2 (f_X11_markNumber x0 (x1 - 1) S) fun v17 S16 =>
   if v17 ≤ x2 then
    Option.bind (mt_rR S16 x0 11 3) fun v18 =>
    Option.bind (mt_rR S16 x0 11 3) fun v19 =>
    Option.bind (mt_aI S16 v19 13 0) fun v20 =>
    Option.bind (mt_sI S16 v18 13 (3 + (2 * x1)) v20) fun S21 =>
    Option.bind (mt_rR S21 x0 11 3) fun v22 =>
    Option.bind (mt_rR S21 x0 11 3) fun v23 =>
    Option.bind (mt_aI S21 v23 13 1) fun v24 =>
    Option.bind (mt_sI S21 v22 13 ((3 + (2 * x1)) + 1) v24) fun S25 =>
    Option.bind (mt_rR S25 x0 11 3) fun v26 =>
    Option.bind (mt_aI S25 v26 13 2) fun v27 =>
    Option.bind (mt_sI S25 v26 13 2 (v27 + 1)) fun S28 =>
    some S28
   else
    Option.bind (mt_rR S16 x0 11 3) fun v29 =>
    mt_b2 (f_X11_markP x0 (x1 - 1) S16) fun v31 S30 =>
    Option.bind (mt_sI S30 v29 13 (3 + (2 * x1)) v31) fun S32 =>
    Option.bind (mt_rR S32 x0 11 3) fun v33 =>
    mt_b2 (f_X11_markQ x0 (x1 - 1) S32) fun v35 S34 =>
    Option.bind (mt_sI S34 v33 13 ((3 + (2 * x1)) + 1) v35) fun S36 =>
    rc x0 (x1 + (-1)) x2 S36
def f_X11_marks_L12 : Nat → Nat → Int32 → Int64 → mt_S → Option (mt_S)
  | 0 => fun _ _ _ _ => none
  | n + 1 => f_X11_marks_L12s (f_X11_marks_L12 n)
set_option maxHeartbeats 4000000 in
set_option maxRecDepth 100000 in
theorem m_X11_marks_L12 {B : mt_B} {E : mt_E} {S' : mt_S} (hC : mt_Cx B E cX11_marks RX11 none 4 5 0 0) (hE : mt_End B E (0, 0) none S') : ∀ (n : Nat) (x0 : Nat) (x1 : Int32) (x2 : Int64) (S : mt_S), f_X11_marks_L12 n x0 x1 x2 S = some S' → mt_Go B E (0, 0) S 12 [(0, mt_rf B x0), (1, .int x1), (2, .long x2)] [] := by
  intro n
  induction n with
  | zero =>
    intro x0 x1 x2 S h
    cases h
  | succ n ih =>
    intro x0 x1 x2 S h
    have h : f_X11_marks_L12s (f_X11_marks_L12 n) x0 x1 x2 S = some S' := h
    unfold f_X11_marks_L12s at h
    refine go_iload_n hC 1 dX11_marks_12 rfl rfl ?_
    refine go_if_le hC (tgt := 70) dX11_marks_13 (by decide) (fun hc => ?_) (fun hc => ?_)
    · have h := mt_ip h hc
      refine go_aload_n hC 0 dX11_marks_70 rfl rfl ?_
      obtain ⟨v5, e5, h⟩ := mt_ob h
      refine go_getR hC mt_flX11_24 e5 dX11_marks_71 ?_
      refine go_iconst (v := 3) hC dX11_marks_74 (by decide) ?_
      refine go_iconst (v := 2) hC dX11_marks_75 (by decide) ?_
      refine go_iload_n hC 1 dX11_marks_76 rfl rfl ?_
      refine go_imul hC dX11_marks_77 ?_
      refine go_iadd hC dX11_marks_78 ?_
      refine go_aload_n hC 0 dX11_marks_79 rfl rfl ?_
      obtain ⟨v6, e6, h⟩ := mt_ob h
      refine go_getR hC mt_flX11_24 e6 dX11_marks_80 ?_
      refine go_iconst (v := 0) hC dX11_marks_83 (by decide) ?_
      obtain ⟨v7, e7, h⟩ := mt_ob h
      refine go_iald hC e7 dX11_marks_84 ?_
      obtain ⟨S8, e8, h⟩ := mt_ob h
      refine go_iast hC e8 dX11_marks_85 ?_
      refine go_aload_n hC 0 dX11_marks_86 rfl rfl ?_
      obtain ⟨v9, e9, h⟩ := mt_ob h
      refine go_getR hC mt_flX11_24 e9 dX11_marks_87 ?_
      refine go_iconst (v := 3) hC dX11_marks_90 (by decide) ?_
      refine go_iconst (v := 2) hC dX11_marks_91 (by decide) ?_
      refine go_iload_n hC 1 dX11_marks_92 rfl rfl ?_
      refine go_imul hC dX11_marks_93 ?_
      refine go_iadd hC dX11_marks_94 ?_
      refine go_iconst (v := 1) hC dX11_marks_95 (by decide) ?_
      refine go_iadd hC dX11_marks_96 ?_
      refine go_aload_n hC 0 dX11_marks_97 rfl rfl ?_
      obtain ⟨v10, e10, h⟩ := mt_ob h
      refine go_getR hC mt_flX11_24 e10 dX11_marks_98 ?_
      refine go_iconst (v := 1) hC dX11_marks_101 (by decide) ?_
      obtain ⟨v11, e11, h⟩ := mt_ob h
      refine go_iald hC e11 dX11_marks_102 ?_
      obtain ⟨S12, e12, h⟩ := mt_ob h
      refine go_iast hC e12 dX11_marks_103 ?_
      refine go_aload_n hC 0 dX11_marks_104 rfl rfl ?_
      obtain ⟨v13, e13, h⟩ := mt_ob h
      refine go_getR hC mt_flX11_24 e13 dX11_marks_105 ?_
      refine go_iconst (v := 2) hC dX11_marks_108 (by decide) ?_
      refine go_dup2 hC dX11_marks_109 rfl rfl ?_
      obtain ⟨v14, e14, h⟩ := mt_ob h
      refine go_iald hC e14 dX11_marks_110 ?_
      refine go_iconst (v := 1) hC dX11_marks_111 (by decide) ?_
      refine go_iadd hC dX11_marks_112 ?_
      obtain ⟨S15, e15, h⟩ := mt_ob h
      refine go_iast hC e15 dX11_marks_113 ?_
      exact go_vret hC (mt_rev h hE) dX11_marks_114
    · have h := mt_in' h hc
      refine go_aload_n hC 0 dX11_marks_16 rfl rfl ?_
      refine go_iload_n hC 1 dX11_marks_17 rfl rfl ?_
      refine go_iconst (v := 1) hC dX11_marks_18 (by decide) ?_
      refine go_isub hC dX11_marks_19 ?_
      obtain ⟨v17, S16, e17, h⟩ := mt_ob2 h
      refine go_callVl hC [.int (x1 - 1)] [] (m_X11_markNumber e17) mt_cvX11_240 (k_X11_markNumber e17) dX11_marks_20 rfl rfl (by decide) (Nat.le_of_ble_eq_true rfl) ⟨Nat.le_refl _, Nat.le_refl _⟩ ?_
      refine go_lload_n hC 2 dX11_marks_23 rfl rfl ?_
      refine go_lcmp_le hC (tgt := 70) dX11_marks_24 dX11_marks_25 (by decide) (fun hc => ?_) (fun hc => ?_)
      · have h := mt_ip h hc
        refine go_aload_n hC 0 dX11_marks_70 rfl rfl ?_
        obtain ⟨v18, e18, h⟩ := mt_ob h
        refine go_getR hC mt_flX11_24 e18 dX11_marks_71 ?_
        refine go_iconst (v := 3) hC dX11_marks_74 (by decide) ?_
        refine go_iconst (v := 2) hC dX11_marks_75 (by decide) ?_
        refine go_iload_n hC 1 dX11_marks_76 rfl rfl ?_
        refine go_imul hC dX11_marks_77 ?_
        refine go_iadd hC dX11_marks_78 ?_
        refine go_aload_n hC 0 dX11_marks_79 rfl rfl ?_
        obtain ⟨v19, e19, h⟩ := mt_ob h
        refine go_getR hC mt_flX11_24 e19 dX11_marks_80 ?_
        refine go_iconst (v := 0) hC dX11_marks_83 (by decide) ?_
        obtain ⟨v20, e20, h⟩ := mt_ob h
        refine go_iald hC e20 dX11_marks_84 ?_
        obtain ⟨S21, e21, h⟩ := mt_ob h
        refine go_iast hC e21 dX11_marks_85 ?_
        refine go_aload_n hC 0 dX11_marks_86 rfl rfl ?_
        obtain ⟨v22, e22, h⟩ := mt_ob h
        refine go_getR hC mt_flX11_24 e22 dX11_marks_87 ?_
        refine go_iconst (v := 3) hC dX11_marks_90 (by decide) ?_
        refine go_iconst (v := 2) hC dX11_marks_91 (by decide) ?_
        refine go_iload_n hC 1 dX11_marks_92 rfl rfl ?_
        refine go_imul hC dX11_marks_93 ?_
        refine go_iadd hC dX11_marks_94 ?_
        refine go_iconst (v := 1) hC dX11_marks_95 (by decide) ?_
        refine go_iadd hC dX11_marks_96 ?_
        refine go_aload_n hC 0 dX11_marks_97 rfl rfl ?_
        obtain ⟨v23, e23, h⟩ := mt_ob h
        refine go_getR hC mt_flX11_24 e23 dX11_marks_98 ?_
        refine go_iconst (v := 1) hC dX11_marks_101 (by decide) ?_
        obtain ⟨v24, e24, h⟩ := mt_ob h
        refine go_iald hC e24 dX11_marks_102 ?_
        obtain ⟨S25, e25, h⟩ := mt_ob h
        refine go_iast hC e25 dX11_marks_103 ?_
        refine go_aload_n hC 0 dX11_marks_104 rfl rfl ?_
        obtain ⟨v26, e26, h⟩ := mt_ob h
        refine go_getR hC mt_flX11_24 e26 dX11_marks_105 ?_
        refine go_iconst (v := 2) hC dX11_marks_108 (by decide) ?_
        refine go_dup2 hC dX11_marks_109 rfl rfl ?_
        obtain ⟨v27, e27, h⟩ := mt_ob h
        refine go_iald hC e27 dX11_marks_110 ?_
        refine go_iconst (v := 1) hC dX11_marks_111 (by decide) ?_
        refine go_iadd hC dX11_marks_112 ?_
        obtain ⟨S28, e28, h⟩ := mt_ob h
        refine go_iast hC e28 dX11_marks_113 ?_
        exact go_vret hC (mt_rev h hE) dX11_marks_114
      · have h := mt_in' h hc
        refine go_aload_n hC 0 dX11_marks_28 rfl rfl ?_
        obtain ⟨v29, e29, h⟩ := mt_ob h
        refine go_getR hC mt_flX11_24 e29 dX11_marks_29 ?_
        refine go_iconst (v := 3) hC dX11_marks_32 (by decide) ?_
        refine go_iconst (v := 2) hC dX11_marks_33 (by decide) ?_
        refine go_iload_n hC 1 dX11_marks_34 rfl rfl ?_
        refine go_imul hC dX11_marks_35 ?_
        refine go_iadd hC dX11_marks_36 ?_
        refine go_aload_n hC 0 dX11_marks_37 rfl rfl ?_
        refine go_iload_n hC 1 dX11_marks_38 rfl rfl ?_
        refine go_iconst (v := 1) hC dX11_marks_39 (by decide) ?_
        refine go_isub hC dX11_marks_40 ?_
        obtain ⟨v31, S30, e31, h⟩ := mt_ob2 h
        refine go_callVi hC [.int (x1 - 1)] [.int (3 + (2 * x1)), mt_rf B v29] (m_X11_markP e31) mt_cvX11_234 (k_X11_markP e31) dX11_marks_41 rfl rfl (by decide) (Nat.le_of_ble_eq_true rfl) ⟨Nat.le_refl _, Nat.le_refl _⟩ ?_
        obtain ⟨S32, e32, h⟩ := mt_ob h
        refine go_iast hC e32 dX11_marks_44 ?_
        refine go_aload_n hC 0 dX11_marks_45 rfl rfl ?_
        obtain ⟨v33, e33, h⟩ := mt_ob h
        refine go_getR hC mt_flX11_24 e33 dX11_marks_46 ?_
        refine go_iconst (v := 3) hC dX11_marks_49 (by decide) ?_
        refine go_iconst (v := 2) hC dX11_marks_50 (by decide) ?_
        refine go_iload_n hC 1 dX11_marks_51 rfl rfl ?_
        refine go_imul hC dX11_marks_52 ?_
        refine go_iadd hC dX11_marks_53 ?_
        refine go_iconst (v := 1) hC dX11_marks_54 (by decide) ?_
        refine go_iadd hC dX11_marks_55 ?_
        refine go_aload_n hC 0 dX11_marks_56 rfl rfl ?_
        refine go_iload_n hC 1 dX11_marks_57 rfl rfl ?_
        refine go_iconst (v := 1) hC dX11_marks_58 (by decide) ?_
        refine go_isub hC dX11_marks_59 ?_
        obtain ⟨v35, S34, e35, h⟩ := mt_ob2 h
        refine go_callVi hC [.int (x1 - 1)] [.int ((3 + (2 * x1)) + 1), mt_rf B v33] (m_X11_markQ e35) mt_cvX11_237 (k_X11_markQ e35) dX11_marks_60 rfl rfl (by decide) (Nat.le_of_ble_eq_true rfl) ⟨Nat.le_refl _, Nat.le_refl _⟩ ?_
        obtain ⟨S36, e36, h⟩ := mt_ob h
        refine go_iast hC e36 dX11_marks_63 ?_
        refine go_iinc hC 1 [1, 0, 2] (v := x1 + (-1)) (lv1 := [(0, mt_rf B x0), (1, .int (x1 + (-1))), (2, .long x2)]) dX11_marks_64 rfl rfl (by decide) rfl ?_
        refine go_goto hC (tgt := 12) dX11_marks_67 (by decide) ?_
        exact ih _ _ _ _ h
set_option maxHeartbeats 4000000 in
set_option maxRecDepth 100000 in
theorem ov_X11_marks_L12 {T : mt_S} {S' : mt_S} : ∀ (n : Nat) (x0 : Nat) (x1 : Int32) (x2 : Int64) (S : mt_S), mt_cp S T → f_X11_marks_L12 n x0 x1 x2 S = some S' → f_X11_marks_L12 n x0 x1 x2 (mt_ov S T) = some (mt_ov S' T) ∧ mt_cp S' T := by
  intro n
  induction n with
  | zero =>
    intro x0 x1 x2 S hp h
    cases h
  | succ n ih =>
    intro x0 x1 x2 S hp h
    have h : f_X11_marks_L12s (f_X11_marks_L12 n) x0 x1 x2 S = some S' := h
    show f_X11_marks_L12s (f_X11_marks_L12 n) x0 x1 x2 (mt_ov S T) = some (mt_ov S' T) ∧ mt_cp S' T
    unfold f_X11_marks_L12s at h ⊢
    by_cases hc : x1 ≤ 0
    · have h := mt_ip h hc
      refine ov_t hc ?_
      obtain ⟨v5, e5, h⟩ := mt_ob h
      refine ov_b (ov_rR hp e5) ?_
      obtain ⟨v6, e6, h⟩ := mt_ob h
      refine ov_b (ov_rR hp e6) ?_
      obtain ⟨v7, e7, h⟩ := mt_ob h
      refine ov_b (ov_aI hp e7) ?_
      obtain ⟨S8, e8, h⟩ := mt_ob h
      obtain ⟨o_, hp⟩ := ov_sI hp e8
      refine ov_b o_ ?_
      obtain ⟨v9, e9, h⟩ := mt_ob h
      refine ov_b (ov_rR hp e9) ?_
      obtain ⟨v10, e10, h⟩ := mt_ob h
      refine ov_b (ov_rR hp e10) ?_
      obtain ⟨v11, e11, h⟩ := mt_ob h
      refine ov_b (ov_aI hp e11) ?_
      obtain ⟨S12, e12, h⟩ := mt_ob h
      obtain ⟨o_, hp⟩ := ov_sI hp e12
      refine ov_b o_ ?_
      obtain ⟨v13, e13, h⟩ := mt_ob h
      refine ov_b (ov_rR hp e13) ?_
      obtain ⟨v14, e14, h⟩ := mt_ob h
      refine ov_b (ov_aI hp e14) ?_
      obtain ⟨S15, e15, h⟩ := mt_ob h
      obtain ⟨o_, hp⟩ := ov_sI hp e15
      refine ov_b o_ ?_
      exact ov_retv hp h
    · have h := mt_in' h hc
      refine ov_f hc ?_
      obtain ⟨v17, S16, e17, h⟩ := mt_ob2 h
      obtain ⟨o_, hp⟩ := ov_X11_markNumber hp e17
      refine ov_b2 o_ ?_
      by_cases hc : v17 ≤ x2
      · have h := mt_ip h hc
        refine ov_t hc ?_
        obtain ⟨v18, e18, h⟩ := mt_ob h
        refine ov_b (ov_rR hp e18) ?_
        obtain ⟨v19, e19, h⟩ := mt_ob h
        refine ov_b (ov_rR hp e19) ?_
        obtain ⟨v20, e20, h⟩ := mt_ob h
        refine ov_b (ov_aI hp e20) ?_
        obtain ⟨S21, e21, h⟩ := mt_ob h
        obtain ⟨o_, hp⟩ := ov_sI hp e21
        refine ov_b o_ ?_
        obtain ⟨v22, e22, h⟩ := mt_ob h
        refine ov_b (ov_rR hp e22) ?_
        obtain ⟨v23, e23, h⟩ := mt_ob h
        refine ov_b (ov_rR hp e23) ?_
        obtain ⟨v24, e24, h⟩ := mt_ob h
        refine ov_b (ov_aI hp e24) ?_
        obtain ⟨S25, e25, h⟩ := mt_ob h
        obtain ⟨o_, hp⟩ := ov_sI hp e25
        refine ov_b o_ ?_
        obtain ⟨v26, e26, h⟩ := mt_ob h
        refine ov_b (ov_rR hp e26) ?_
        obtain ⟨v27, e27, h⟩ := mt_ob h
        refine ov_b (ov_aI hp e27) ?_
        obtain ⟨S28, e28, h⟩ := mt_ob h
        obtain ⟨o_, hp⟩ := ov_sI hp e28
        refine ov_b o_ ?_
        exact ov_retv hp h
      · have h := mt_in' h hc
        refine ov_f hc ?_
        obtain ⟨v29, e29, h⟩ := mt_ob h
        refine ov_b (ov_rR hp e29) ?_
        obtain ⟨v31, S30, e31, h⟩ := mt_ob2 h
        obtain ⟨o_, hp⟩ := ov_X11_markP hp e31
        refine ov_b2 o_ ?_
        obtain ⟨S32, e32, h⟩ := mt_ob h
        obtain ⟨o_, hp⟩ := ov_sI hp e32
        refine ov_b o_ ?_
        obtain ⟨v33, e33, h⟩ := mt_ob h
        refine ov_b (ov_rR hp e33) ?_
        obtain ⟨v35, S34, e35, h⟩ := mt_ob2 h
        obtain ⟨o_, hp⟩ := ov_X11_markQ hp e35
        refine ov_b2 o_ ?_
        obtain ⟨S36, e36, h⟩ := mt_ob h
        obtain ⟨o_, hp⟩ := ov_sI hp e36
        refine ov_b o_ ?_
        exact ih _ _ _ _ hp h
def f_X11_marks (x0 : Nat) (S : mt_S) : Option (mt_S) :=
  if mt_isK S x0 11 = true then
   Option.bind (mt_rR S x0 11 3) fun v1 =>
   Option.bind (mt_aI S v1 13 2) fun v2 =>
   mt_b2 (f_X11_number x0 S) fun v4 S3 =>
   f_X11_marks_L12 1000 x0 v2 v4 S3
  else none
theorem k_X11_marks {x0 : Nat} {S : mt_S} {S' : mt_S} (h : f_X11_marks x0 S = some S') : mt_isK S x0 11 = true := by
  unfold f_X11_marks at h
  exact (mt_gd h).1
set_option maxHeartbeats 4000000 in
set_option maxRecDepth 100000 in
theorem m_X11_marks {B : mt_B}  {x0 : Nat} {S : mt_S} {S' : mt_S} (h : f_X11_marks x0 S = some S') : mt_M B yX11_marks cX11_marks 4 none 5 [mt_rf B x0] S none S' := by
  unfold f_X11_marks at h
  refine mt_M.of (by decide) (Nat.le_of_ble_eq_true rfl) (fun E hC hE => ?_)
  obtain ⟨hk0, h⟩ := mt_gd h
  refine go_aload_n hC 0 dX11_marks_0 rfl rfl ?_
  obtain ⟨v1, e1, h⟩ := mt_ob h
  refine go_getR hC mt_flX11_24 e1 dX11_marks_1 ?_
  refine go_iconst (v := 2) hC dX11_marks_4 (by decide) ?_
  obtain ⟨v2, e2, h⟩ := mt_ob h
  refine go_iald hC e2 dX11_marks_5 ?_
  refine go_istore_n hC [1, 0] (lv1 := [(0, mt_rf B x0), (1, .int v2)]) dX11_marks_6 rfl (by decide) rfl ?_
  refine go_aload_n hC 0 dX11_marks_7 rfl rfl ?_
  obtain ⟨v4, S3, e4, h⟩ := mt_ob2 h
  refine go_callVl hC [] [] (m_X11_number e4) mt_cvX11_138 (k_X11_number e4) dX11_marks_8 rfl rfl (by decide) (Nat.le_of_ble_eq_true rfl) ⟨Nat.le_refl _, Nat.le_refl _⟩ ?_
  refine go_lstore_n hC [1, 2, 0] (lv1 := [(0, mt_rf B x0), (1, .int v2), (2, .long v4)]) dX11_marks_11 rfl (by decide) rfl ?_
  exact m_X11_marks_L12 hC hE 1000 _ _ _ _ h
set_option maxHeartbeats 4000000 in
set_option maxRecDepth 100000 in
theorem ov_X11_marks {T : mt_S}  {x0 : Nat} {S : mt_S} {S' : mt_S} (hp : mt_cp S T) (h : f_X11_marks x0 S = some S') : f_X11_marks x0 (mt_ov S T) = some (mt_ov S' T) ∧ mt_cp S' T := by
  unfold f_X11_marks at h ⊢
  obtain ⟨hg, h⟩ := mt_gd h
  refine ov_t (ov_K hp hg) ?_
  obtain ⟨v1, e1, h⟩ := mt_ob h
  refine ov_b (ov_rR hp e1) ?_
  obtain ⟨v2, e2, h⟩ := mt_ob h
  refine ov_b (ov_aI hp e2) ?_
  obtain ⟨v4, S3, e4, h⟩ := mt_ob2 h
  obtain ⟨o_, hp⟩ := ov_X11_number hp e4
  refine ov_b2 o_ ?_
  exact ov_X11_marks_L12 1000 _ _ _ _ hp h
def f_X11_mark (x0 : Nat) (S : mt_S) : Option (Int32 × mt_S) :=
  if mt_isK S x0 11 = true then
   Option.bind (mt_wI S x0 11 0 0) fun S1 =>
   mt_b2 (f_X11_markHere x0 S1) fun v3 S2 =>
   if v3 = (-1) then
    Option.bind (mt_rR S2 x0 11 3) fun v4 =>
    Option.bind (mt_aI S2 v4 13 2) fun v5 =>
    if v5 = 16 then
     some ((-1), S2)
    else
     Option.bind (f_X11_snap x0 S2) fun S6 =>
     Option.bind (f_X11_marks x0 S6) fun S7 =>
     some (0, S7)
   else
    some (1, S2)
  else none
theorem k_X11_mark {x0 : Nat} {S : mt_S} {r : Int32} {S' : mt_S} (h : f_X11_mark x0 S = some (r, S')) : mt_isK S x0 11 = true := by
  unfold f_X11_mark at h
  exact (mt_gd h).1
set_option maxHeartbeats 4000000 in
set_option maxRecDepth 100000 in
theorem m_X11_mark {B : mt_B}  {x0 : Nat} {S : mt_S} {r : Int32} {S' : mt_S} (h : f_X11_mark x0 S = some (r, S')) : mt_M B yX11_mark cX11_mark 1 (some .int) 6 [mt_rf B x0] S (some (.int r)) S' := by
  unfold f_X11_mark at h
  refine mt_M.of (by decide) (Nat.le_of_ble_eq_true rfl) (fun E hC hE => ?_)
  obtain ⟨hk0, h⟩ := mt_gd h
  refine go_aload_n hC 0 dX11_mark_0 rfl rfl ?_
  refine go_iconst (v := 0) hC dX11_mark_1 (by decide) ?_
  obtain ⟨S1, e1, h⟩ := mt_ob h
  refine go_putI hC mt_flX11_1 e1 dX11_mark_2 ?_
  refine go_aload_n hC 0 dX11_mark_5 rfl rfl ?_
  obtain ⟨v3, S2, e3, h⟩ := mt_ob2 h
  refine go_callVi hC [] [] (m_X11_markHere e3) mt_cvX11_244 (k_X11_markHere e3) dX11_mark_6 rfl rfl (by decide) (Nat.le_of_ble_eq_true rfl) ⟨Nat.le_refl _, Nat.le_refl _⟩ ?_
  refine go_iconst (v := (-1)) hC dX11_mark_9 (by decide) ?_
  refine go_icmp_eq hC (tgt := 15) dX11_mark_10 (by decide) (fun hc => ?_) (fun hc => ?_)
  · have h := mt_ip h hc
    refine go_aload_n hC 0 dX11_mark_15 rfl rfl ?_
    obtain ⟨v4, e4, h⟩ := mt_ob h
    refine go_getR hC mt_flX11_24 e4 dX11_mark_16 ?_
    refine go_iconst (v := 2) hC dX11_mark_19 (by decide) ?_
    obtain ⟨v5, e5, h⟩ := mt_ob h
    refine go_iald hC e5 dX11_mark_20 ?_
    refine go_bipush (v := 16) hC dX11_mark_21 (by decide) ?_
    refine go_icmp_ne hC (tgt := 28) dX11_mark_23 (by decide) (fun hc => ?_) (fun hc => ?_)
    · have h := mt_in' h hc
      refine go_aload_n hC 0 dX11_mark_28 rfl rfl ?_
      obtain ⟨S6, e6, h⟩ := mt_ob h
      refine go_callVv hC [] [] (m_X11_snap e6) mt_cvX11_63 (k_X11_snap e6) dX11_mark_29 rfl rfl (by decide) (Nat.le_of_ble_eq_true rfl) ⟨Nat.le_refl _, Nat.le_refl _⟩ ?_
      refine go_aload_n hC 0 dX11_mark_32 rfl rfl ?_
      obtain ⟨S7, e7, h⟩ := mt_ob h
      refine go_callVv hC [] [] (m_X11_marks e7) mt_cvX11_247 (k_X11_marks e7) dX11_mark_33 rfl rfl (by decide) (Nat.le_of_ble_eq_true rfl) ⟨Nat.le_refl _, Nat.le_refl _⟩ ?_
      refine go_iconst (v := 0) hC dX11_mark_36 (by decide) ?_
      exact go_iret hC (mt_rei h hE) dX11_mark_37
    · have h := mt_ip h hc
      refine go_iconst (v := (-1)) hC dX11_mark_26 (by decide) ?_
      exact go_iret hC (mt_rei h hE) dX11_mark_27
  · have h := mt_in' h hc
    refine go_iconst (v := 1) hC dX11_mark_13 (by decide) ?_
    exact go_iret hC (mt_rei h hE) dX11_mark_14
set_option maxHeartbeats 4000000 in
set_option maxRecDepth 100000 in
theorem ov_X11_mark {T : mt_S}  {x0 : Nat} {S : mt_S} {r : Int32} {S' : mt_S} (hp : mt_cp S T) (h : f_X11_mark x0 S = some (r, S')) : f_X11_mark x0 (mt_ov S T) = some (r, mt_ov S' T) ∧ mt_cp S' T := by
  unfold f_X11_mark at h ⊢
  obtain ⟨hg, h⟩ := mt_gd h
  refine ov_t (ov_K hp hg) ?_
  obtain ⟨S1, e1, h⟩ := mt_ob h
  obtain ⟨o_, hp⟩ := ov_wI hp e1
  refine ov_b o_ ?_
  obtain ⟨v3, S2, e3, h⟩ := mt_ob2 h
  obtain ⟨o_, hp⟩ := ov_X11_markHere hp e3
  refine ov_b2 o_ ?_
  by_cases hc : v3 = (-1)
  · have h := mt_ip h hc
    refine ov_t hc ?_
    obtain ⟨v4, e4, h⟩ := mt_ob h
    refine ov_b (ov_rR hp e4) ?_
    obtain ⟨v5, e5, h⟩ := mt_ob h
    refine ov_b (ov_aI hp e5) ?_
    by_cases hc : v5 = 16
    · have h := mt_ip h hc
      refine ov_t hc ?_
      exact ov_ret hp h
    · have h := mt_in' h hc
      refine ov_f hc ?_
      obtain ⟨S6, e6, h⟩ := mt_ob h
      obtain ⟨o_, hp⟩ := ov_X11_snap hp e6
      refine ov_b o_ ?_
      obtain ⟨S7, e7, h⟩ := mt_ob h
      obtain ⟨o_, hp⟩ := ov_X11_marks hp e7
      refine ov_b o_ ?_
      exact ov_ret hp h
  · have h := mt_in' h hc
    refine ov_f hc ?_
    exact ov_ret hp h
def f_X11_unmark_L35s (rc : Nat → Int32 → mt_S → Option (Int32 × mt_S)) (x0 : Nat) (x2 : Int32) (S : mt_S) : Option (Int32 × mt_S) :=
  Option.bind (mt_rR S x0 11 3) fun v8 =>
  Option.bind (mt_aI S v8 13 2) fun v9 =>
  if (2 * v9) ≤ x2 then
   some (0, S)
  else
   Option.bind (mt_rR S x0 11 3) fun v10 =>
   Option.bind (mt_rR S x0 11 3) fun v11 =>
   Option.bind (mt_aI S v11 13 ((3 + x2) + 2)) fun v12 =>
   Option.bind (mt_sI S v10 13 (3 + x2) v12) fun S13 =>
   rc x0 (x2 + 1) S13
def f_X11_unmark_L35 : Nat → Nat → Int32 → mt_S → Option (Int32 × mt_S)
  | 0 => fun _ _ _ => none
  | n + 1 => f_X11_unmark_L35s (f_X11_unmark_L35 n)
set_option maxHeartbeats 4000000 in
set_option maxRecDepth 100000 in
theorem m_X11_unmark_L35 {B : mt_B} {E : mt_E} {r : Int32} {S' : mt_S} (hC : mt_Cx B E cX11_unmark RX11 (some .int) 3 3 0 0) (hE : mt_End B E (0, 0) (some (.int r)) S') : ∀ (n : Nat) (x0 : Nat) (x2 : Int32) (S : mt_S), f_X11_unmark_L35 n x0 x2 S = some (r, S') → mt_Go B E (0, 0) S 35 [(0, mt_rf B x0), (2, .int x2)] [] := by
  intro n
  induction n with
  | zero =>
    intro x0 x2 S h
    cases h
  | succ n ih =>
    intro x0 x2 S h
    have h : f_X11_unmark_L35s (f_X11_unmark_L35 n) x0 x2 S = some (r, S') := h
    unfold f_X11_unmark_L35s at h
    refine go_iload_n hC 1 dX11_unmark_35 rfl rfl ?_
    refine go_iconst (v := 2) hC dX11_unmark_36 (by decide) ?_
    refine go_aload_n hC 0 dX11_unmark_37 rfl rfl ?_
    obtain ⟨v8, e8, h⟩ := mt_ob h
    refine go_getR hC mt_flX11_24 e8 dX11_unmark_38 ?_
    refine go_iconst (v := 2) hC dX11_unmark_41 (by decide) ?_
    obtain ⟨v9, e9, h⟩ := mt_ob h
    refine go_iald hC e9 dX11_unmark_42 ?_
    refine go_imul hC dX11_unmark_43 ?_
    refine go_icmp_ge hC (tgt := 71) dX11_unmark_44 (by decide) (fun hc => ?_) (fun hc => ?_)
    · have h := mt_ip h hc
      refine go_iconst (v := 0) hC dX11_unmark_71 (by decide) ?_
      exact go_iret hC (mt_rei h hE) dX11_unmark_72
    · have h := mt_in' h hc
      refine go_aload_n hC 0 dX11_unmark_47 rfl rfl ?_
      obtain ⟨v10, e10, h⟩ := mt_ob h
      refine go_getR hC mt_flX11_24 e10 dX11_unmark_48 ?_
      refine go_iconst (v := 3) hC dX11_unmark_51 (by decide) ?_
      refine go_iload_n hC 1 dX11_unmark_52 rfl rfl ?_
      refine go_iadd hC dX11_unmark_53 ?_
      refine go_aload_n hC 0 dX11_unmark_54 rfl rfl ?_
      obtain ⟨v11, e11, h⟩ := mt_ob h
      refine go_getR hC mt_flX11_24 e11 dX11_unmark_55 ?_
      refine go_iconst (v := 3) hC dX11_unmark_58 (by decide) ?_
      refine go_iload_n hC 1 dX11_unmark_59 rfl rfl ?_
      refine go_iadd hC dX11_unmark_60 ?_
      refine go_iconst (v := 2) hC dX11_unmark_61 (by decide) ?_
      refine go_iadd hC dX11_unmark_62 ?_
      obtain ⟨v12, e12, h⟩ := mt_ob h
      refine go_iald hC e12 dX11_unmark_63 ?_
      obtain ⟨S13, e13, h⟩ := mt_ob h
      refine go_iast hC e13 dX11_unmark_64 ?_
      refine go_iinc hC 1 [1, 0] (v := x2 + 1) (lv1 := [(0, mt_rf B x0), (2, .int (x2 + 1))]) dX11_unmark_65 rfl rfl (by decide) rfl ?_
      refine go_goto hC (tgt := 35) dX11_unmark_68 (by decide) ?_
      exact ih _ _ _ h
set_option maxHeartbeats 4000000 in
set_option maxRecDepth 100000 in
theorem ov_X11_unmark_L35 {T : mt_S} {r : Int32} {S' : mt_S} : ∀ (n : Nat) (x0 : Nat) (x2 : Int32) (S : mt_S), mt_cp S T → f_X11_unmark_L35 n x0 x2 S = some (r, S') → f_X11_unmark_L35 n x0 x2 (mt_ov S T) = some (r, mt_ov S' T) ∧ mt_cp S' T := by
  intro n
  induction n with
  | zero =>
    intro x0 x2 S hp h
    cases h
  | succ n ih =>
    intro x0 x2 S hp h
    have h : f_X11_unmark_L35s (f_X11_unmark_L35 n) x0 x2 S = some (r, S') := h
    show f_X11_unmark_L35s (f_X11_unmark_L35 n) x0 x2 (mt_ov S T) = some (r, mt_ov S' T) ∧ mt_cp S' T
    unfold f_X11_unmark_L35s at h ⊢
    obtain ⟨v8, e8, h⟩ := mt_ob h
    refine ov_b (ov_rR hp e8) ?_
    obtain ⟨v9, e9, h⟩ := mt_ob h
    refine ov_b (ov_aI hp e9) ?_
    by_cases hc : (2 * v9) ≤ x2
    · have h := mt_ip h hc
      refine ov_t hc ?_
      exact ov_ret hp h
    · have h := mt_in' h hc
      refine ov_f hc ?_
      obtain ⟨v10, e10, h⟩ := mt_ob h
      refine ov_b (ov_rR hp e10) ?_
      obtain ⟨v11, e11, h⟩ := mt_ob h
      refine ov_b (ov_rR hp e11) ?_
      obtain ⟨v12, e12, h⟩ := mt_ob h
      refine ov_b (ov_aI hp e12) ?_
      obtain ⟨S13, e13, h⟩ := mt_ob h
      obtain ⟨o_, hp⟩ := ov_sI hp e13
      refine ov_b o_ ?_
      exact ih _ _ _ hp h
def f_X11_unmark (x0 : Nat) (S : mt_S) : Option (Int32 × mt_S) :=
  if mt_isK S x0 11 = true then
   Option.bind (mt_wI S x0 11 0 0) fun S1 =>
   mt_b2 (f_X11_markHere x0 S1) fun v3 S2 =>
   if v3 = (-1) then
    some (1, S2)
   else
    Option.bind (f_X11_snap x0 S2) fun S4 =>
    Option.bind (mt_rR S4 x0 11 3) fun v5 =>
    Option.bind (mt_aI S4 v5 13 2) fun v6 =>
    Option.bind (mt_sI S4 v5 13 2 (v6 - 1)) fun S7 =>
    f_X11_unmark_L35 1000 x0 (2 * v3) S7
  else none
theorem k_X11_unmark {x0 : Nat} {S : mt_S} {r : Int32} {S' : mt_S} (h : f_X11_unmark x0 S = some (r, S')) : mt_isK S x0 11 = true := by
  unfold f_X11_unmark at h
  exact (mt_gd h).1
set_option maxHeartbeats 4000000 in
set_option maxRecDepth 100000 in
theorem m_X11_unmark {B : mt_B}  {x0 : Nat} {S : mt_S} {r : Int32} {S' : mt_S} (h : f_X11_unmark x0 S = some (r, S')) : mt_M B yX11_unmark cX11_unmark 3 (some .int) 3 [mt_rf B x0] S (some (.int r)) S' := by
  unfold f_X11_unmark at h
  refine mt_M.of (by decide) (Nat.le_of_ble_eq_true rfl) (fun E hC hE => ?_)
  obtain ⟨hk0, h⟩ := mt_gd h
  refine go_aload_n hC 0 dX11_unmark_0 rfl rfl ?_
  refine go_iconst (v := 0) hC dX11_unmark_1 (by decide) ?_
  obtain ⟨S1, e1, h⟩ := mt_ob h
  refine go_putI hC mt_flX11_1 e1 dX11_unmark_2 ?_
  refine go_aload_n hC 0 dX11_unmark_5 rfl rfl ?_
  obtain ⟨v3, S2, e3, h⟩ := mt_ob2 h
  refine go_callVi hC [] [] (m_X11_markHere e3) mt_cvX11_244 (k_X11_markHere e3) dX11_unmark_6 rfl rfl (by decide) (Nat.le_of_ble_eq_true rfl) ⟨Nat.le_refl _, Nat.le_refl _⟩ ?_
  refine go_istore_n hC [1, 0] (lv1 := [(0, mt_rf B x0), (1, .int v3)]) dX11_unmark_9 rfl (by decide) rfl ?_
  refine go_iload_n hC 1 dX11_unmark_10 rfl rfl ?_
  refine go_iconst (v := (-1)) hC dX11_unmark_11 (by decide) ?_
  refine go_icmp_ne hC (tgt := 17) dX11_unmark_12 (by decide) (fun hc => ?_) (fun hc => ?_)
  · have h := mt_in' h hc
    refine go_aload_n hC 0 dX11_unmark_17 rfl rfl ?_
    obtain ⟨S4, e4, h⟩ := mt_ob h
    refine go_callVv hC [] [] (m_X11_snap e4) mt_cvX11_63 (k_X11_snap e4) dX11_unmark_18 rfl rfl (by decide) (Nat.le_of_ble_eq_true rfl) ⟨Nat.le_refl _, Nat.le_refl _⟩ ?_
    refine go_aload_n hC 0 dX11_unmark_21 rfl rfl ?_
    obtain ⟨v5, e5, h⟩ := mt_ob h
    refine go_getR hC mt_flX11_24 e5 dX11_unmark_22 ?_
    refine go_iconst (v := 2) hC dX11_unmark_25 (by decide) ?_
    refine go_dup2 hC dX11_unmark_26 rfl rfl ?_
    obtain ⟨v6, e6, h⟩ := mt_ob h
    refine go_iald hC e6 dX11_unmark_27 ?_
    refine go_iconst (v := 1) hC dX11_unmark_28 (by decide) ?_
    refine go_isub hC dX11_unmark_29 ?_
    obtain ⟨S7, e7, h⟩ := mt_ob h
    refine go_iast hC e7 dX11_unmark_30 ?_
    refine go_iconst (v := 2) hC dX11_unmark_31 (by decide) ?_
    refine go_iload_n hC 1 dX11_unmark_32 rfl rfl ?_
    refine go_imul hC dX11_unmark_33 ?_
    refine go_istore_n hC [1, 2, 0] (lv1 := [(0, mt_rf B x0), (1, .int v3), (2, .int (2 * v3))]) dX11_unmark_34 rfl (by decide) rfl ?_
    refine go_sub [0, 2] (lv1 := [(0, mt_rf B x0), (2, .int (2 * v3))]) rfl ?_
    exact m_X11_unmark_L35 hC hE 1000 _ _ _ h
  · have h := mt_ip h hc
    refine go_iconst (v := 1) hC dX11_unmark_15 (by decide) ?_
    exact go_iret hC (mt_rei h hE) dX11_unmark_16
set_option maxHeartbeats 4000000 in
set_option maxRecDepth 100000 in
theorem ov_X11_unmark {T : mt_S}  {x0 : Nat} {S : mt_S} {r : Int32} {S' : mt_S} (hp : mt_cp S T) (h : f_X11_unmark x0 S = some (r, S')) : f_X11_unmark x0 (mt_ov S T) = some (r, mt_ov S' T) ∧ mt_cp S' T := by
  unfold f_X11_unmark at h ⊢
  obtain ⟨hg, h⟩ := mt_gd h
  refine ov_t (ov_K hp hg) ?_
  obtain ⟨S1, e1, h⟩ := mt_ob h
  obtain ⟨o_, hp⟩ := ov_wI hp e1
  refine ov_b o_ ?_
  obtain ⟨v3, S2, e3, h⟩ := mt_ob2 h
  obtain ⟨o_, hp⟩ := ov_X11_markHere hp e3
  refine ov_b2 o_ ?_
  by_cases hc : v3 = (-1)
  · have h := mt_ip h hc
    refine ov_t hc ?_
    exact ov_ret hp h
  · have h := mt_in' h hc
    refine ov_f hc ?_
    obtain ⟨S4, e4, h⟩ := mt_ob h
    obtain ⟨o_, hp⟩ := ov_X11_snap hp e4
    refine ov_b o_ ?_
    obtain ⟨v5, e5, h⟩ := mt_ob h
    refine ov_b (ov_rR hp e5) ?_
    obtain ⟨v6, e6, h⟩ := mt_ob h
    refine ov_b (ov_aI hp e6) ?_
    obtain ⟨S7, e7, h⟩ := mt_ob h
    obtain ⟨o_, hp⟩ := ov_sI hp e7
    refine ov_b o_ ?_
    exact ov_X11_unmark_L35 1000 _ _ _ hp h
def f_X11_marked (x0 : Nat) (x1 : Int32) (x2 : Int32) (S : mt_S) : Option (Int64 × mt_S) :=
  if mt_isK S x0 11 = true then
   Option.bind (mt_wI S x0 11 0 0) fun S1 =>
   Option.bind (mt_rR S1 x0 11 3) fun v2 =>
   Option.bind (mt_aI S1 v2 13 2) fun v3 =>
   mt_b2 (f_X11_isIn x1.toInt64 0 ((v3 - 1).toInt64) S1) fun v5 S4 =>
   if v5 = 0 then
    some ((-1), S4)
   else
   if x2 = 0 then
    mt_b2 (f_X11_markNumber x0 x1 S4) fun v7 S6 =>
    some (v7, S6)
   else
   if x2 = 1 then
    mt_b2 (f_X11_markP x0 x1 S4) fun v9 S8 =>
    some (v9.toInt64, S8)
   else
   if x2 = 2 then
    mt_b2 (f_X11_markQ x0 x1 S4) fun v11 S10 =>
    some (v11.toInt64, S10)
   else
    some ((-1), S4)
  else none
theorem k_X11_marked {x0 : Nat} {x1 : Int32} {x2 : Int32} {S : mt_S} {r : Int64} {S' : mt_S} (h : f_X11_marked x0 x1 x2 S = some (r, S')) : mt_isK S x0 11 = true := by
  unfold f_X11_marked at h
  exact (mt_gd h).1
set_option maxHeartbeats 4000000 in
set_option maxRecDepth 100000 in
theorem m_X11_marked {B : mt_B}  {x0 : Nat} {x1 : Int32} {x2 : Int32} {S : mt_S} {r : Int64} {S' : mt_S} (h : f_X11_marked x0 x1 x2 S = some (r, S')) : mt_M B yX11_marked cX11_marked 3 (some .long) 5 [mt_rf B x0, .int x1, .int x2] S (some (.long r)) S' := by
  unfold f_X11_marked at h
  refine mt_M.of (by decide) (Nat.le_of_ble_eq_true rfl) (fun E hC hE => ?_)
  obtain ⟨hk0, h⟩ := mt_gd h
  refine go_aload_n hC 0 dX11_marked_0 rfl rfl ?_
  refine go_iconst (v := 0) hC dX11_marked_1 (by decide) ?_
  obtain ⟨S1, e1, h⟩ := mt_ob h
  refine go_putI hC mt_flX11_1 e1 dX11_marked_2 ?_
  refine go_iload_n hC 1 dX11_marked_5 rfl rfl ?_
  refine go_i2l hC dX11_marked_6 ?_
  refine go_lconst (v := 0) hC dX11_marked_7 (by decide) ?_
  refine go_aload_n hC 0 dX11_marked_8 rfl rfl ?_
  obtain ⟨v2, e2, h⟩ := mt_ob h
  refine go_getR hC mt_flX11_24 e2 dX11_marked_9 ?_
  refine go_iconst (v := 2) hC dX11_marked_12 (by decide) ?_
  obtain ⟨v3, e3, h⟩ := mt_ob h
  refine go_iald hC e3 dX11_marked_13 ?_
  refine go_iconst (v := 1) hC dX11_marked_14 (by decide) ?_
  refine go_isub hC dX11_marked_15 ?_
  refine go_i2l hC dX11_marked_16 ?_
  obtain ⟨v5, S4, e5, h⟩ := mt_ob2 h
  refine go_callSi hC [.long x1.toInt64, .long 0, .long ((v3 - 1).toInt64)] [] (m_X11_isIn e5) mt_csX11_91 dX11_marked_17 rfl rfl (by decide) (Nat.le_of_ble_eq_true rfl) ⟨Nat.le_refl _, Nat.le_refl _⟩ ?_
  refine go_if_ne hC (tgt := 27) dX11_marked_20 (by decide) (fun hc => ?_) (fun hc => ?_)
  · have h := mt_in' h hc
    refine go_iload_n hC 2 dX11_marked_27 rfl rfl ?_
    by_cases hc0 : x2 = 0
    · have h := mt_ip h hc0
      refine go_tabIn hC (v := 0) (off := 28) (tgt := 56) dX11_marked_28 hc0 (by decide) (by decide) (by decide +kernel) (by decide) ?_
      refine go_aload_n hC 0 dX11_marked_56 rfl rfl ?_
      refine go_iload_n hC 1 dX11_marked_57 rfl rfl ?_
      obtain ⟨v7, S6, e7, h⟩ := mt_ob2 h
      refine go_callVl hC [.int x1] [] (m_X11_markNumber e7) mt_cvX11_240 (k_X11_markNumber e7) dX11_marked_58 rfl rfl (by decide) (Nat.le_of_ble_eq_true rfl) ⟨Nat.le_refl _, Nat.le_refl _⟩ ?_
      exact go_lret hC (mt_rel h hE) dX11_marked_61
    · have h := mt_in' h hc0
      by_cases hc1 : x2 = 1
      · have h := mt_ip h hc1
        refine go_tabIn hC (v := 1) (off := 34) (tgt := 62) dX11_marked_28 hc1 (by decide) (by decide) (by decide +kernel) (by decide) ?_
        refine go_aload_n hC 0 dX11_marked_62 rfl rfl ?_
        refine go_iload_n hC 1 dX11_marked_63 rfl rfl ?_
        obtain ⟨v9, S8, e9, h⟩ := mt_ob2 h
        refine go_callVi hC [.int x1] [] (m_X11_markP e9) mt_cvX11_234 (k_X11_markP e9) dX11_marked_64 rfl rfl (by decide) (Nat.le_of_ble_eq_true rfl) ⟨Nat.le_refl _, Nat.le_refl _⟩ ?_
        refine go_i2l hC dX11_marked_67 ?_
        exact go_lret hC (mt_rel h hE) dX11_marked_68
      · have h := mt_in' h hc1
        by_cases hc2 : x2 = 2
        · have h := mt_ip h hc2
          refine go_tabIn hC (v := 2) (off := 41) (tgt := 69) dX11_marked_28 hc2 (by decide) (by decide) (by decide +kernel) (by decide) ?_
          refine go_aload_n hC 0 dX11_marked_69 rfl rfl ?_
          refine go_iload_n hC 1 dX11_marked_70 rfl rfl ?_
          obtain ⟨v11, S10, e11, h⟩ := mt_ob2 h
          refine go_callVi hC [.int x1] [] (m_X11_markQ e11) mt_cvX11_237 (k_X11_markQ e11) dX11_marked_71 rfl rfl (by decide) (Nat.le_of_ble_eq_true rfl) ⟨Nat.le_refl _, Nat.le_refl _⟩ ?_
          refine go_i2l hC dX11_marked_74 ?_
          exact go_lret hC (mt_rel h hE) dX11_marked_75
        · have h := mt_in' h hc2
          have t0 := lv_neT hc0 (a := 0) rfl
          have t1 := lv_neT hc1 (a := 1) rfl
          have t2 := lv_neT hc2 (a := 2) rfl
          refine go_tabOut hC (tgt := 76) dX11_marked_28 (by omega) (by decide) ?_
          refine go_ldc2 hC dX11_marked_76 mt_kX11_192 ?_
          exact go_lret hC (mt_rel h hE) dX11_marked_79
  · have h := mt_ip h hc
    refine go_ldc2 hC dX11_marked_23 mt_kX11_192 ?_
    exact go_lret hC (mt_rel h hE) dX11_marked_26
set_option maxHeartbeats 4000000 in
set_option maxRecDepth 100000 in
theorem ov_X11_marked {T : mt_S}  {x0 : Nat} {x1 : Int32} {x2 : Int32} {S : mt_S} {r : Int64} {S' : mt_S} (hp : mt_cp S T) (h : f_X11_marked x0 x1 x2 S = some (r, S')) : f_X11_marked x0 x1 x2 (mt_ov S T) = some (r, mt_ov S' T) ∧ mt_cp S' T := by
  unfold f_X11_marked at h ⊢
  obtain ⟨hg, h⟩ := mt_gd h
  refine ov_t (ov_K hp hg) ?_
  obtain ⟨S1, e1, h⟩ := mt_ob h
  obtain ⟨o_, hp⟩ := ov_wI hp e1
  refine ov_b o_ ?_
  obtain ⟨v2, e2, h⟩ := mt_ob h
  refine ov_b (ov_rR hp e2) ?_
  obtain ⟨v3, e3, h⟩ := mt_ob h
  refine ov_b (ov_aI hp e3) ?_
  obtain ⟨v5, S4, e5, h⟩ := mt_ob2 h
  obtain ⟨o_, hp⟩ := ov_X11_isIn hp e5
  refine ov_b2 o_ ?_
  by_cases hc : v5 = 0
  · have h := mt_ip h hc
    refine ov_t hc ?_
    exact ov_ret hp h
  · have h := mt_in' h hc
    refine ov_f hc ?_
    by_cases hc : x2 = 0
    · have h := mt_ip h hc
      refine ov_t hc ?_
      obtain ⟨v7, S6, e7, h⟩ := mt_ob2 h
      obtain ⟨o_, hp⟩ := ov_X11_markNumber hp e7
      refine ov_b2 o_ ?_
      exact ov_ret hp h
    · have h := mt_in' h hc
      refine ov_f hc ?_
      by_cases hc : x2 = 1
      · have h := mt_ip h hc
        refine ov_t hc ?_
        obtain ⟨v9, S8, e9, h⟩ := mt_ob2 h
        obtain ⟨o_, hp⟩ := ov_X11_markP hp e9
        refine ov_b2 o_ ?_
        exact ov_ret hp h
      · have h := mt_in' h hc
        refine ov_f hc ?_
        by_cases hc : x2 = 2
        · have h := mt_ip h hc
          refine ov_t hc ?_
          obtain ⟨v11, S10, e11, h⟩ := mt_ob2 h
          obtain ⟨o_, hp⟩ := ov_X11_markQ hp e11
          refine ov_b2 o_ ?_
          exact ov_ret hp h
        · have h := mt_in' h hc
          refine ov_f hc ?_
          exact ov_ret hp h
def f_X11_near_L13s (rc : Nat → Int64 → Int32 → Int64 → Int32 → mt_S → Option (Int64 × mt_S)) (x0 : Nat) (x1 : Int64) (x3 : Int32) (x4 : Int64) (x6 : Int32) (S : mt_S) : Option (Int64 × mt_S) :=
  Option.bind (mt_rR S x0 11 3) fun v2 =>
  Option.bind (mt_aI S v2 13 2) fun v3 =>
  if v3 ≤ x6 then
   some (x4, S)
  else
   mt_b2 (f_X11_markNumber x0 x6 S) fun v5 S4 =>
   if x3 = 0 then
    if x1 < v5 then
     rc x0 x1 x3 x4 (x6 + 1) S4
    else
     rc x0 x1 x3 v5 (x6 + 1) S4
   else
   if v5 < x1 then
    rc x0 x1 x3 x4 (x6 + 1) S4
   else
   if x4 = (-1) then
    rc x0 x1 x3 v5 (x6 + 1) S4
   else
    rc x0 x1 x3 x4 (x6 + 1) S4
def f_X11_near_L13 : Nat → Nat → Int64 → Int32 → Int64 → Int32 → mt_S → Option (Int64 × mt_S)
  | 0 => fun _ _ _ _ _ _ => none
  | n + 1 => f_X11_near_L13s (f_X11_near_L13 n)
set_option maxHeartbeats 4000000 in
set_option maxRecDepth 100000 in
theorem m_X11_near_L13 {B : mt_B} {E : mt_E} {r : Int64} {S' : mt_S} (hC : mt_Cx B E cX11_near RX11 (some .long) 9 5 0 0) (hE : mt_End B E (0, 0) (some (.long r)) S') : ∀ (n : Nat) (x0 : Nat) (x1 : Int64) (x3 : Int32) (x4 : Int64) (x6 : Int32) (S : mt_S), f_X11_near_L13 n x0 x1 x3 x4 x6 S = some (r, S') → mt_Go B E (0, 0) S 13 [(0, mt_rf B x0), (1, .long x1), (3, .int x3), (4, .long x4), (6, .int x6)] [] := by
  intro n
  induction n with
  | zero =>
    intro x0 x1 x3 x4 x6 S h
    cases h
  | succ n ih =>
    intro x0 x1 x3 x4 x6 S h
    have h : f_X11_near_L13s (f_X11_near_L13 n) x0 x1 x3 x4 x6 S = some (r, S') := h
    unfold f_X11_near_L13s at h
    refine go_iload hC 4 dX11_near_13 rfl ?_
    refine go_aload_n hC 0 dX11_near_15 rfl rfl ?_
    obtain ⟨v2, e2, h⟩ := mt_ob h
    refine go_getR hC mt_flX11_24 e2 dX11_near_16 ?_
    refine go_iconst (v := 2) hC dX11_near_19 (by decide) ?_
    obtain ⟨v3, e3, h⟩ := mt_ob h
    refine go_iald hC e3 dX11_near_20 ?_
    refine go_icmp_ge hC (tgt := 72) dX11_near_21 (by decide) (fun hc => ?_) (fun hc => ?_)
    · have h := mt_ip h hc
      refine go_lload hC 3 dX11_near_72 rfl ?_
      exact go_lret hC (mt_rel h hE) dX11_near_74
    · have h := mt_in' h hc
      refine go_aload_n hC 0 dX11_near_24 rfl rfl ?_
      refine go_iload hC 4 dX11_near_25 rfl ?_
      obtain ⟨v5, S4, e5, h⟩ := mt_ob2 h
      refine go_callVl hC [.int x6] [] (m_X11_markNumber e5) mt_cvX11_240 (k_X11_markNumber e5) dX11_near_27 rfl rfl (by decide) (Nat.le_of_ble_eq_true rfl) ⟨Nat.le_refl _, Nat.le_refl _⟩ ?_
      refine go_lstore hC [1, 2, 3, 4, 5, 0] (lv1 := [(0, mt_rf B x0), (1, .long x1), (3, .int x3), (4, .long x4), (6, .int x6), (7, .long v5)]) dX11_near_30 (by decide) rfl ?_
      refine go_iload_n hC 2 dX11_near_32 rfl rfl ?_
      refine go_if_eq hC (tgt := 55) dX11_near_33 (by decide) (fun hc => ?_) (fun hc => ?_)
      · have h := mt_ip h hc
        refine go_lload hC 5 dX11_near_55 rfl ?_
        refine go_lload_n hC 1 dX11_near_57 rfl rfl ?_
        refine go_lcmp_gt hC (tgt := 66) dX11_near_58 dX11_near_59 (by decide) (fun hc => ?_) (fun hc => ?_)
        · have h := mt_ip h hc
          refine go_iinc hC 4 [1, 2, 3, 4, 0, 5] (v := x6 + 1) (lv1 := [(0, mt_rf B x0), (1, .long x1), (3, .int x3), (4, .long x4), (6, .int (x6 + 1)), (7, .long v5)]) dX11_near_66 rfl rfl (by decide) rfl ?_
          refine go_goto hC (tgt := 13) dX11_near_69 (by decide) ?_
          refine go_sub [0, 1, 2, 3, 4] (lv1 := [(0, mt_rf B x0), (1, .long x1), (3, .int x3), (4, .long x4), (6, .int (x6 + 1))]) rfl ?_
          exact ih _ _ _ _ _ _ h
        · have h := mt_in' h hc
          refine go_lload hC 5 dX11_near_62 rfl ?_
          refine go_lstore hC [1, 2, 3, 0, 4, 5] (lv1 := [(0, mt_rf B x0), (1, .long x1), (3, .int x3), (4, .long v5), (6, .int x6), (7, .long v5)]) dX11_near_64 (by decide) rfl ?_
          refine go_iinc hC 4 [1, 2, 3, 4, 0, 5] (v := x6 + 1) (lv1 := [(0, mt_rf B x0), (1, .long x1), (3, .int x3), (4, .long v5), (6, .int (x6 + 1)), (7, .long v5)]) dX11_near_66 rfl rfl (by decide) rfl ?_
          refine go_goto hC (tgt := 13) dX11_near_69 (by decide) ?_
          refine go_sub [0, 1, 2, 3, 4] (lv1 := [(0, mt_rf B x0), (1, .long x1), (3, .int x3), (4, .long v5), (6, .int (x6 + 1))]) rfl ?_
          exact ih _ _ _ _ _ _ h
      · have h := mt_in' h hc
        refine go_lload hC 5 dX11_near_36 rfl ?_
        refine go_lload_n hC 1 dX11_near_38 rfl rfl ?_
        refine go_lcmp_lt hC (tgt := 66) dX11_near_39 dX11_near_40 (by decide) (fun hc => ?_) (fun hc => ?_)
        · have h := mt_ip h hc
          refine go_iinc hC 4 [1, 2, 3, 4, 0, 5] (v := x6 + 1) (lv1 := [(0, mt_rf B x0), (1, .long x1), (3, .int x3), (4, .long x4), (6, .int (x6 + 1)), (7, .long v5)]) dX11_near_66 rfl rfl (by decide) rfl ?_
          refine go_goto hC (tgt := 13) dX11_near_69 (by decide) ?_
          refine go_sub [0, 1, 2, 3, 4] (lv1 := [(0, mt_rf B x0), (1, .long x1), (3, .int x3), (4, .long x4), (6, .int (x6 + 1))]) rfl ?_
          exact ih _ _ _ _ _ _ h
        · have h := mt_in' h hc
          refine go_lload hC 3 dX11_near_43 rfl ?_
          refine go_ldc2 hC dX11_near_45 mt_kX11_192 ?_
          refine go_lcmp_ne hC (tgt := 66) dX11_near_48 dX11_near_49 (by decide) (fun hc => ?_) (fun hc => ?_)
          · have h := mt_in' h hc
            refine go_iinc hC 4 [1, 2, 3, 4, 0, 5] (v := x6 + 1) (lv1 := [(0, mt_rf B x0), (1, .long x1), (3, .int x3), (4, .long x4), (6, .int (x6 + 1)), (7, .long v5)]) dX11_near_66 rfl rfl (by decide) rfl ?_
            refine go_goto hC (tgt := 13) dX11_near_69 (by decide) ?_
            refine go_sub [0, 1, 2, 3, 4] (lv1 := [(0, mt_rf B x0), (1, .long x1), (3, .int x3), (4, .long x4), (6, .int (x6 + 1))]) rfl ?_
            exact ih _ _ _ _ _ _ h
          · have h := mt_ip h hc
            refine go_goto hC (tgt := 62) dX11_near_52 (by decide) ?_
            refine go_lload hC 5 dX11_near_62 rfl ?_
            refine go_lstore hC [1, 2, 3, 0, 4, 5] (lv1 := [(0, mt_rf B x0), (1, .long x1), (3, .int x3), (4, .long v5), (6, .int x6), (7, .long v5)]) dX11_near_64 (by decide) rfl ?_
            refine go_iinc hC 4 [1, 2, 3, 4, 0, 5] (v := x6 + 1) (lv1 := [(0, mt_rf B x0), (1, .long x1), (3, .int x3), (4, .long v5), (6, .int (x6 + 1)), (7, .long v5)]) dX11_near_66 rfl rfl (by decide) rfl ?_
            refine go_goto hC (tgt := 13) dX11_near_69 (by decide) ?_
            refine go_sub [0, 1, 2, 3, 4] (lv1 := [(0, mt_rf B x0), (1, .long x1), (3, .int x3), (4, .long v5), (6, .int (x6 + 1))]) rfl ?_
            exact ih _ _ _ _ _ _ h
set_option maxHeartbeats 4000000 in
set_option maxRecDepth 100000 in
theorem ov_X11_near_L13 {T : mt_S} {r : Int64} {S' : mt_S} : ∀ (n : Nat) (x0 : Nat) (x1 : Int64) (x3 : Int32) (x4 : Int64) (x6 : Int32) (S : mt_S), mt_cp S T → f_X11_near_L13 n x0 x1 x3 x4 x6 S = some (r, S') → f_X11_near_L13 n x0 x1 x3 x4 x6 (mt_ov S T) = some (r, mt_ov S' T) ∧ mt_cp S' T := by
  intro n
  induction n with
  | zero =>
    intro x0 x1 x3 x4 x6 S hp h
    cases h
  | succ n ih =>
    intro x0 x1 x3 x4 x6 S hp h
    have h : f_X11_near_L13s (f_X11_near_L13 n) x0 x1 x3 x4 x6 S = some (r, S') := h
    show f_X11_near_L13s (f_X11_near_L13 n) x0 x1 x3 x4 x6 (mt_ov S T) = some (r, mt_ov S' T) ∧ mt_cp S' T
    unfold f_X11_near_L13s at h ⊢
    obtain ⟨v2, e2, h⟩ := mt_ob h
    refine ov_b (ov_rR hp e2) ?_
    obtain ⟨v3, e3, h⟩ := mt_ob h
    refine ov_b (ov_aI hp e3) ?_
    by_cases hc : v3 ≤ x6
    · have h := mt_ip h hc
      refine ov_t hc ?_
      exact ov_ret hp h
    · have h := mt_in' h hc
      refine ov_f hc ?_
      obtain ⟨v5, S4, e5, h⟩ := mt_ob2 h
      obtain ⟨o_, hp⟩ := ov_X11_markNumber hp e5
      refine ov_b2 o_ ?_
      by_cases hc : x3 = 0
      · have h := mt_ip h hc
        refine ov_t hc ?_
        by_cases hc : x1 < v5
        · have h := mt_ip h hc
          refine ov_t hc ?_
          exact ih _ _ _ _ _ _ hp h
        · have h := mt_in' h hc
          refine ov_f hc ?_
          exact ih _ _ _ _ _ _ hp h
      · have h := mt_in' h hc
        refine ov_f hc ?_
        by_cases hc : v5 < x1
        · have h := mt_ip h hc
          refine ov_t hc ?_
          exact ih _ _ _ _ _ _ hp h
        · have h := mt_in' h hc
          refine ov_f hc ?_
          by_cases hc : x4 = (-1)
          · have h := mt_ip h hc
            refine ov_t hc ?_
            exact ih _ _ _ _ _ _ hp h
          · have h := mt_in' h hc
            refine ov_f hc ?_
            exact ih _ _ _ _ _ _ hp h
def f_X11_near (x0 : Nat) (x1 : Int64) (x3 : Int32) (S : mt_S) : Option (Int64 × mt_S) :=
  if mt_isK S x0 11 = true then
   Option.bind (mt_wI S x0 11 0 0) fun S1 =>
   f_X11_near_L13 1000 x0 x1 x3 (-1) 0 S1
  else none
theorem k_X11_near {x0 : Nat} {x1 : Int64} {x3 : Int32} {S : mt_S} {r : Int64} {S' : mt_S} (h : f_X11_near x0 x1 x3 S = some (r, S')) : mt_isK S x0 11 = true := by
  unfold f_X11_near at h
  exact (mt_gd h).1
set_option maxHeartbeats 4000000 in
set_option maxRecDepth 100000 in
theorem m_X11_near {B : mt_B}  {x0 : Nat} {x1 : Int64} {x3 : Int32} {S : mt_S} {r : Int64} {S' : mt_S} (h : f_X11_near x0 x1 x3 S = some (r, S')) : mt_M B yX11_near cX11_near 9 (some .long) 5 [mt_rf B x0, .long x1, .int x3] S (some (.long r)) S' := by
  unfold f_X11_near at h
  refine mt_M.of (by decide) (Nat.le_of_ble_eq_true rfl) (fun E hC hE => ?_)
  obtain ⟨hk0, h⟩ := mt_gd h
  refine go_aload_n hC 0 dX11_near_0 rfl rfl ?_
  refine go_iconst (v := 0) hC dX11_near_1 (by decide) ?_
  obtain ⟨S1, e1, h⟩ := mt_ob h
  refine go_putI hC mt_flX11_1 e1 dX11_near_2 ?_
  refine go_ldc2 hC dX11_near_5 mt_kX11_192 ?_
  refine go_lstore hC [1, 2, 3, 0] (lv1 := [(0, mt_rf B x0), (1, .long x1), (3, .int x3), (4, .long (-1))]) dX11_near_8 (by decide) rfl ?_
  refine go_iconst (v := 0) hC dX11_near_10 (by decide) ?_
  refine go_istore hC [1, 2, 3, 4, 0] (lv1 := [(0, mt_rf B x0), (1, .long x1), (3, .int x3), (4, .long (-1)), (6, .int 0)]) dX11_near_11 (by decide) rfl ?_
  exact m_X11_near_L13 hC hE 1000 _ _ _ _ _ _ h
set_option maxHeartbeats 4000000 in
set_option maxRecDepth 100000 in
theorem ov_X11_near {T : mt_S}  {x0 : Nat} {x1 : Int64} {x3 : Int32} {S : mt_S} {r : Int64} {S' : mt_S} (hp : mt_cp S T) (h : f_X11_near x0 x1 x3 S = some (r, S')) : f_X11_near x0 x1 x3 (mt_ov S T) = some (r, mt_ov S' T) ∧ mt_cp S' T := by
  unfold f_X11_near at h ⊢
  obtain ⟨hg, h⟩ := mt_gd h
  refine ov_t (ov_K hp hg) ?_
  obtain ⟨S1, e1, h⟩ := mt_ob h
  obtain ⟨o_, hp⟩ := ov_wI hp e1
  refine ov_b o_ ?_
  exact ov_X11_near_L13 1000 _ _ _ _ _ _ hp h
def f_X11_jump (x0 : Nat) (x1 : Int32) (S : mt_S) : Option (Int32 × mt_S) :=
  if mt_isK S x0 11 = true then
   Option.bind (mt_wI S x0 11 0 0) fun S1 =>
   Option.bind (mt_rR S1 x0 11 3) fun v2 =>
   Option.bind (mt_aI S1 v2 13 2) fun v3 =>
   mt_b2 (f_X11_isIn x1.toInt64 0 ((v3 - 1).toInt64) S1) fun v5 S4 =>
   if v5 = 0 then
    some ((-1), S4)
   else
    mt_b2 (f_X11_markP x0 x1 S4) fun v7 S6 =>
    mt_b2 (f_X11_markQ x0 x1 S6) fun v9 S8 =>
    mt_b2 (f_X11_goesThere x0 v7 v9 S8) fun v11 S10 =>
    some (v11, S10)
  else none
theorem k_X11_jump {x0 : Nat} {x1 : Int32} {S : mt_S} {r : Int32} {S' : mt_S} (h : f_X11_jump x0 x1 S = some (r, S')) : mt_isK S x0 11 = true := by
  unfold f_X11_jump at h
  exact (mt_gd h).1
set_option maxHeartbeats 4000000 in
set_option maxRecDepth 100000 in
theorem m_X11_jump {B : mt_B}  {x0 : Nat} {x1 : Int32} {S : mt_S} {r : Int32} {S' : mt_S} (h : f_X11_jump x0 x1 S = some (r, S')) : mt_M B yX11_jump cX11_jump 2 (some .int) 5 [mt_rf B x0, .int x1] S (some (.int r)) S' := by
  unfold f_X11_jump at h
  refine mt_M.of (by decide) (Nat.le_of_ble_eq_true rfl) (fun E hC hE => ?_)
  obtain ⟨hk0, h⟩ := mt_gd h
  refine go_aload_n hC 0 dX11_jump_0 rfl rfl ?_
  refine go_iconst (v := 0) hC dX11_jump_1 (by decide) ?_
  obtain ⟨S1, e1, h⟩ := mt_ob h
  refine go_putI hC mt_flX11_1 e1 dX11_jump_2 ?_
  refine go_iload_n hC 1 dX11_jump_5 rfl rfl ?_
  refine go_i2l hC dX11_jump_6 ?_
  refine go_lconst (v := 0) hC dX11_jump_7 (by decide) ?_
  refine go_aload_n hC 0 dX11_jump_8 rfl rfl ?_
  obtain ⟨v2, e2, h⟩ := mt_ob h
  refine go_getR hC mt_flX11_24 e2 dX11_jump_9 ?_
  refine go_iconst (v := 2) hC dX11_jump_12 (by decide) ?_
  obtain ⟨v3, e3, h⟩ := mt_ob h
  refine go_iald hC e3 dX11_jump_13 ?_
  refine go_iconst (v := 1) hC dX11_jump_14 (by decide) ?_
  refine go_isub hC dX11_jump_15 ?_
  refine go_i2l hC dX11_jump_16 ?_
  obtain ⟨v5, S4, e5, h⟩ := mt_ob2 h
  refine go_callSi hC [.long x1.toInt64, .long 0, .long ((v3 - 1).toInt64)] [] (m_X11_isIn e5) mt_csX11_91 dX11_jump_17 rfl rfl (by decide) (Nat.le_of_ble_eq_true rfl) ⟨Nat.le_refl _, Nat.le_refl _⟩ ?_
  refine go_if_eq hC (tgt := 40) dX11_jump_20 (by decide) (fun hc => ?_) (fun hc => ?_)
  · have h := mt_ip h hc
    refine go_iconst (v := (-1)) hC dX11_jump_40 (by decide) ?_
    exact go_iret hC (mt_rei h hE) dX11_jump_41
  · have h := mt_in' h hc
    refine go_aload_n hC 0 dX11_jump_23 rfl rfl ?_
    refine go_aload_n hC 0 dX11_jump_24 rfl rfl ?_
    refine go_iload_n hC 1 dX11_jump_25 rfl rfl ?_
    obtain ⟨v7, S6, e7, h⟩ := mt_ob2 h
    refine go_callVi hC [.int x1] [mt_rf B x0] (m_X11_markP e7) mt_cvX11_234 (k_X11_markP e7) dX11_jump_26 rfl rfl (by decide) (Nat.le_of_ble_eq_true rfl) ⟨Nat.le_refl _, Nat.le_refl _⟩ ?_
    refine go_aload_n hC 0 dX11_jump_29 rfl rfl ?_
    refine go_iload_n hC 1 dX11_jump_30 rfl rfl ?_
    obtain ⟨v9, S8, e9, h⟩ := mt_ob2 h
    refine go_callVi hC [.int x1] [.int v7, mt_rf B x0] (m_X11_markQ e9) mt_cvX11_237 (k_X11_markQ e9) dX11_jump_31 rfl rfl (by decide) (Nat.le_of_ble_eq_true rfl) ⟨Nat.le_refl _, Nat.le_refl _⟩ ?_
    obtain ⟨v11, S10, e11, h⟩ := mt_ob2 h
    refine go_callVi hC [.int v7, .int v9] [] (m_X11_goesThere e11) mt_cvX11_120 (k_X11_goesThere e11) dX11_jump_34 rfl rfl (by decide) (Nat.le_of_ble_eq_true rfl) ⟨Nat.le_refl _, Nat.le_refl _⟩ ?_
    refine go_goto hC (tgt := 41) dX11_jump_37 (by decide) ?_
    exact go_iret hC (mt_rei h hE) dX11_jump_41
set_option maxHeartbeats 4000000 in
set_option maxRecDepth 100000 in
theorem ov_X11_jump {T : mt_S}  {x0 : Nat} {x1 : Int32} {S : mt_S} {r : Int32} {S' : mt_S} (hp : mt_cp S T) (h : f_X11_jump x0 x1 S = some (r, S')) : f_X11_jump x0 x1 (mt_ov S T) = some (r, mt_ov S' T) ∧ mt_cp S' T := by
  unfold f_X11_jump at h ⊢
  obtain ⟨hg, h⟩ := mt_gd h
  refine ov_t (ov_K hp hg) ?_
  obtain ⟨S1, e1, h⟩ := mt_ob h
  obtain ⟨o_, hp⟩ := ov_wI hp e1
  refine ov_b o_ ?_
  obtain ⟨v2, e2, h⟩ := mt_ob h
  refine ov_b (ov_rR hp e2) ?_
  obtain ⟨v3, e3, h⟩ := mt_ob h
  refine ov_b (ov_aI hp e3) ?_
  obtain ⟨v5, S4, e5, h⟩ := mt_ob2 h
  obtain ⟨o_, hp⟩ := ov_X11_isIn hp e5
  refine ov_b2 o_ ?_
  by_cases hc : v5 = 0
  · have h := mt_ip h hc
    refine ov_t hc ?_
    exact ov_ret hp h
  · have h := mt_in' h hc
    refine ov_f hc ?_
    obtain ⟨v7, S6, e7, h⟩ := mt_ob2 h
    obtain ⟨o_, hp⟩ := ov_X11_markP hp e7
    refine ov_b2 o_ ?_
    obtain ⟨v9, S8, e9, h⟩ := mt_ob2 h
    obtain ⟨o_, hp⟩ := ov_X11_markQ hp e9
    refine ov_b2 o_ ?_
    obtain ⟨v11, S10, e11, h⟩ := mt_ob2 h
    obtain ⟨o_, hp⟩ := ov_X11_goesThere hp e11
    refine ov_b2 o_ ?_
    exact ov_ret hp h
def f_X11_told_L26s (K59 : Nat → Int32 → Int32 → mt_S → Option (Int32 × mt_S)) (rc : Nat → Int32 → Int32 → mt_S → Option (Int32 × mt_S)) (x0 : Nat) (x1 : Int32) (x2 : Int32) (S : mt_S) : Option (Int32 × mt_S) :=
  Option.bind (mt_rI S x0 11 14) fun v6 =>
  if v6 ≤ (x1 + x2) then
   K59 x0 x1 x2 S
  else
   Option.bind (mt_rR S x0 11 15) fun v7 =>
   Option.bind (mt_aI S v7 13 (x1 + x2)) fun v8 =>
   Option.bind (mt_rR S x0 11 15) fun v9 =>
   Option.bind (mt_aI S v9 13 x1) fun v10 =>
   if v8 = v10 then
    rc x0 x1 (x2 + 1) S
   else
    K59 x0 x1 x2 S
def f_X11_told_L26 (K59 : Nat → Int32 → Int32 → mt_S → Option (Int32 × mt_S)) : Nat → Nat → Int32 → Int32 → mt_S → Option (Int32 × mt_S)
  | 0 => fun _ _ _ _ => none
  | n + 1 => f_X11_told_L26s K59 (f_X11_told_L26 K59 n)
set_option maxHeartbeats 4000000 in
set_option maxRecDepth 100000 in
theorem m_X11_told_L26 {B : mt_B} {E : mt_E} {r : Int32} {S' : mt_S} (hC : mt_Cx B E cX11_told RX11 (some .int) 4 3 0 0) (hE : mt_End B E (0, 0) (some (.int r)) S') (K59 : Nat → Int32 → Int32 → mt_S → Option (Int32 × mt_S)) (hK59 : ∀ (x0 : Nat) (x1 : Int32) (x2 : Int32) (S : mt_S), K59 x0 x1 x2 S = some (r, S') → mt_Go B E (0, 0) S 59 [(0, mt_rf B x0), (1, .int x1), (2, .int x2)] []) : ∀ (n : Nat) (x0 : Nat) (x1 : Int32) (x2 : Int32) (S : mt_S), f_X11_told_L26 K59 n x0 x1 x2 S = some (r, S') → mt_Go B E (0, 0) S 26 [(0, mt_rf B x0), (1, .int x1), (2, .int x2)] [] := by
  intro n
  induction n with
  | zero =>
    intro x0 x1 x2 S h
    cases h
  | succ n ih =>
    intro x0 x1 x2 S h
    have h : f_X11_told_L26s K59 (f_X11_told_L26 K59 n) x0 x1 x2 S = some (r, S') := h
    unfold f_X11_told_L26s at h
    refine go_iload_n hC 1 dX11_told_26 rfl rfl ?_
    refine go_iload_n hC 2 dX11_told_27 rfl rfl ?_
    refine go_iadd hC dX11_told_28 ?_
    refine go_aload_n hC 0 dX11_told_29 rfl rfl ?_
    obtain ⟨v6, e6, h⟩ := mt_ob h
    refine go_getI hC mt_flX11_78 e6 dX11_told_30 ?_
    refine go_icmp_ge hC (tgt := 59) dX11_told_33 (by decide) (fun hc => ?_) (fun hc => ?_)
    · have h := mt_ip h hc
      exact hK59 _ _ _ _ h
    · have h := mt_in' h hc
      refine go_aload_n hC 0 dX11_told_36 rfl rfl ?_
      obtain ⟨v7, e7, h⟩ := mt_ob h
      refine go_getR hC mt_flX11_43 e7 dX11_told_37 ?_
      refine go_iload_n hC 1 dX11_told_40 rfl rfl ?_
      refine go_iload_n hC 2 dX11_told_41 rfl rfl ?_
      refine go_iadd hC dX11_told_42 ?_
      obtain ⟨v8, e8, h⟩ := mt_ob h
      refine go_iald hC e8 dX11_told_43 ?_
      refine go_aload_n hC 0 dX11_told_44 rfl rfl ?_
      obtain ⟨v9, e9, h⟩ := mt_ob h
      refine go_getR hC mt_flX11_43 e9 dX11_told_45 ?_
      refine go_iload_n hC 1 dX11_told_48 rfl rfl ?_
      obtain ⟨v10, e10, h⟩ := mt_ob h
      refine go_iald hC e10 dX11_told_49 ?_
      refine go_icmp_ne hC (tgt := 59) dX11_told_50 (by decide) (fun hc => ?_) (fun hc => ?_)
      · have h := mt_in' h hc
        exact hK59 _ _ _ _ h
      · have h := mt_ip h hc
        refine go_iinc hC 2 [1, 2, 0] (v := x2 + 1) (lv1 := [(0, mt_rf B x0), (1, .int x1), (2, .int (x2 + 1))]) dX11_told_53 rfl rfl (by decide) rfl ?_
        refine go_goto hC (tgt := 26) dX11_told_56 (by decide) ?_
        exact ih _ _ _ _ h
set_option maxHeartbeats 4000000 in
set_option maxRecDepth 100000 in
theorem ov_X11_told_L26 {T : mt_S} {r : Int32} {S' : mt_S} {K59 : Nat → Int32 → Int32 → mt_S → Option (Int32 × mt_S)} (hK59 : ∀ (x0 : Nat) (x1 : Int32) (x2 : Int32) (S : mt_S), mt_cp S T → K59 x0 x1 x2 S = some (r, S') → K59 x0 x1 x2 (mt_ov S T) = some (r, mt_ov S' T) ∧ mt_cp S' T) : ∀ (n : Nat) (x0 : Nat) (x1 : Int32) (x2 : Int32) (S : mt_S), mt_cp S T → f_X11_told_L26 K59 n x0 x1 x2 S = some (r, S') → f_X11_told_L26 K59 n x0 x1 x2 (mt_ov S T) = some (r, mt_ov S' T) ∧ mt_cp S' T := by
  intro n
  induction n with
  | zero =>
    intro x0 x1 x2 S hp h
    cases h
  | succ n ih =>
    intro x0 x1 x2 S hp h
    have h : f_X11_told_L26s K59 (f_X11_told_L26 K59 n) x0 x1 x2 S = some (r, S') := h
    show f_X11_told_L26s K59 (f_X11_told_L26 K59 n) x0 x1 x2 (mt_ov S T) = some (r, mt_ov S' T) ∧ mt_cp S' T
    unfold f_X11_told_L26s at h ⊢
    obtain ⟨v6, e6, h⟩ := mt_ob h
    refine ov_b (ov_rI hp e6) ?_
    by_cases hc : v6 ≤ (x1 + x2)
    · have h := mt_ip h hc
      refine ov_t hc ?_
      exact hK59 _ _ _ _ hp h
    · have h := mt_in' h hc
      refine ov_f hc ?_
      obtain ⟨v7, e7, h⟩ := mt_ob h
      refine ov_b (ov_rR hp e7) ?_
      obtain ⟨v8, e8, h⟩ := mt_ob h
      refine ov_b (ov_aI hp e8) ?_
      obtain ⟨v9, e9, h⟩ := mt_ob h
      refine ov_b (ov_rR hp e9) ?_
      obtain ⟨v10, e10, h⟩ := mt_ob h
      refine ov_b (ov_aI hp e10) ?_
      by_cases hc : v8 = v10
      · have h := mt_ip h hc
        refine ov_t hc ?_
        exact ih _ _ _ _ hp h
      · have h := mt_in' h hc
        refine ov_f hc ?_
        exact hK59 _ _ _ _ hp h
def f_X11_told_L97s (K142 : Nat → Int32 → Int32 → mt_S → Option (Int32 × mt_S)) (rc : Nat → Int32 → Int32 → Int32 → mt_S → Option (Int32 × mt_S)) (x0 : Nat) (x1 : Int32) (x2 : Int32) (x3 : Int32) (S : mt_S) : Option (Int32 × mt_S) :=
  if x3 ≤ 0 then
   K142 x0 x1 x2 S
  else
  if x2 ≤ 1 then
   K142 x0 x1 x2 S
  else
   Option.bind (mt_rR S x0 11 29) fun v19 =>
   Option.bind (mt_rI S x0 11 30) fun v20 =>
   if x3 = 0 then none else
   Option.bind (mt_sI S v19 13 v20 (48 + ((x2 / x3) - (x2 / x3) / 10 * 10))) fun S21 =>
   Option.bind (mt_rI S21 x0 11 30) fun v22 =>
   Option.bind (mt_wI S21 x0 11 30 (v22 + 1)) fun S23 =>
   rc x0 x1 x2 (x3 / 10) S23
def f_X11_told_L97 (K142 : Nat → Int32 → Int32 → mt_S → Option (Int32 × mt_S)) : Nat → Nat → Int32 → Int32 → Int32 → mt_S → Option (Int32 × mt_S)
  | 0 => fun _ _ _ _ _ => none
  | n + 1 => f_X11_told_L97s K142 (f_X11_told_L97 K142 n)
set_option maxHeartbeats 4000000 in
set_option maxRecDepth 100000 in
theorem m_X11_told_L97 {B : mt_B} {E : mt_E} {r : Int32} {S' : mt_S} (hC : mt_Cx B E cX11_told RX11 (some .int) 4 3 0 0) (hE : mt_End B E (0, 0) (some (.int r)) S') (K142 : Nat → Int32 → Int32 → mt_S → Option (Int32 × mt_S)) (hK142 : ∀ (x0 : Nat) (x1 : Int32) (x2 : Int32) (S : mt_S), K142 x0 x1 x2 S = some (r, S') → mt_Go B E (0, 0) S 142 [(0, mt_rf B x0), (1, .int x1), (2, .int x2)] []) : ∀ (n : Nat) (x0 : Nat) (x1 : Int32) (x2 : Int32) (x3 : Int32) (S : mt_S), f_X11_told_L97 K142 n x0 x1 x2 x3 S = some (r, S') → mt_Go B E (0, 0) S 97 [(0, mt_rf B x0), (1, .int x1), (2, .int x2), (3, .int x3)] [] := by
  intro n
  induction n with
  | zero =>
    intro x0 x1 x2 x3 S h
    cases h
  | succ n ih =>
    intro x0 x1 x2 x3 S h
    have h : f_X11_told_L97s K142 (f_X11_told_L97 K142 n) x0 x1 x2 x3 S = some (r, S') := h
    unfold f_X11_told_L97s at h
    refine go_iload_n hC 3 dX11_told_97 rfl rfl ?_
    refine go_if_le hC (tgt := 142) dX11_told_98 (by decide) (fun hc => ?_) (fun hc => ?_)
    · have h := mt_ip h hc
      refine go_sub [0, 1, 2] (lv1 := [(0, mt_rf B x0), (1, .int x1), (2, .int x2)]) rfl ?_
      exact hK142 _ _ _ _ h
    · have h := mt_in' h hc
      refine go_iload_n hC 2 dX11_told_101 rfl rfl ?_
      refine go_iconst (v := 1) hC dX11_told_102 (by decide) ?_
      refine go_icmp_le hC (tgt := 142) dX11_told_103 (by decide) (fun hc => ?_) (fun hc => ?_)
      · have h := mt_ip h hc
        refine go_sub [0, 1, 2] (lv1 := [(0, mt_rf B x0), (1, .int x1), (2, .int x2)]) rfl ?_
        exact hK142 _ _ _ _ h
      · have h := mt_in' h hc
        refine go_aload_n hC 0 dX11_told_106 rfl rfl ?_
        obtain ⟨v19, e19, h⟩ := mt_ob h
        refine go_getR hC mt_flX11_53 e19 dX11_told_107 ?_
        refine go_aload_n hC 0 dX11_told_110 rfl rfl ?_
        obtain ⟨v20, e20, h⟩ := mt_ob h
        refine go_getI hC mt_flX11_250 e20 dX11_told_111 ?_
        refine go_bipush (v := 48) hC dX11_told_114 (by decide) ?_
        refine go_iload_n hC 2 dX11_told_116 rfl rfl ?_
        refine go_iload_n hC 3 dX11_told_117 rfl rfl ?_
        have g24 : ¬ x3 = 0 := fun q => by rw [if_pos q] at h; cases h
        have h := mt_in' h g24
        refine go_idiv hC dX11_told_118 g24 ?_
        refine go_bipush (v := 10) hC dX11_told_119 (by decide) ?_
        refine go_irem hC dX11_told_121 (by decide) ?_
        refine go_iadd hC dX11_told_122 ?_
        obtain ⟨S21, e21, h⟩ := mt_ob h
        refine go_iast hC e21 dX11_told_123 ?_
        refine go_aload_n hC 0 dX11_told_124 rfl rfl ?_
        refine go_dup hC dX11_told_125 rfl ?_
        obtain ⟨v22, e22, h⟩ := mt_ob h
        refine go_getI hC mt_flX11_250 e22 dX11_told_126 ?_
        refine go_iconst (v := 1) hC dX11_told_129 (by decide) ?_
        refine go_iadd hC dX11_told_130 ?_
        obtain ⟨S23, e23, h⟩ := mt_ob h
        refine go_putI hC mt_flX11_250 e23 dX11_told_131 ?_
        refine go_iload_n hC 3 dX11_told_134 rfl rfl ?_
        refine go_bipush (v := 10) hC dX11_told_135 (by decide) ?_
        refine go_idiv hC dX11_told_137 (by decide) ?_
        refine go_istore_n hC [1, 2, 3, 0] (lv1 := [(0, mt_rf B x0), (1, .int x1), (2, .int x2), (3, .int (x3 / 10))]) dX11_told_138 rfl (by decide) rfl ?_
        refine go_goto hC (tgt := 97) dX11_told_139 (by decide) ?_
        exact ih _ _ _ _ _ h
set_option maxHeartbeats 4000000 in
set_option maxRecDepth 100000 in
theorem ov_X11_told_L97 {T : mt_S} {r : Int32} {S' : mt_S} {K142 : Nat → Int32 → Int32 → mt_S → Option (Int32 × mt_S)} (hK142 : ∀ (x0 : Nat) (x1 : Int32) (x2 : Int32) (S : mt_S), mt_cp S T → K142 x0 x1 x2 S = some (r, S') → K142 x0 x1 x2 (mt_ov S T) = some (r, mt_ov S' T) ∧ mt_cp S' T) : ∀ (n : Nat) (x0 : Nat) (x1 : Int32) (x2 : Int32) (x3 : Int32) (S : mt_S), mt_cp S T → f_X11_told_L97 K142 n x0 x1 x2 x3 S = some (r, S') → f_X11_told_L97 K142 n x0 x1 x2 x3 (mt_ov S T) = some (r, mt_ov S' T) ∧ mt_cp S' T := by
  intro n
  induction n with
  | zero =>
    intro x0 x1 x2 x3 S hp h
    cases h
  | succ n ih =>
    intro x0 x1 x2 x3 S hp h
    have h : f_X11_told_L97s K142 (f_X11_told_L97 K142 n) x0 x1 x2 x3 S = some (r, S') := h
    show f_X11_told_L97s K142 (f_X11_told_L97 K142 n) x0 x1 x2 x3 (mt_ov S T) = some (r, mt_ov S' T) ∧ mt_cp S' T
    unfold f_X11_told_L97s at h ⊢
    by_cases hc : x3 ≤ 0
    · have h := mt_ip h hc
      refine ov_t hc ?_
      exact hK142 _ _ _ _ hp h
    · have h := mt_in' h hc
      refine ov_f hc ?_
      by_cases hc : x2 ≤ 1
      · have h := mt_ip h hc
        refine ov_t hc ?_
        exact hK142 _ _ _ _ hp h
      · have h := mt_in' h hc
        refine ov_f hc ?_
        obtain ⟨v19, e19, h⟩ := mt_ob h
        refine ov_b (ov_rR hp e19) ?_
        obtain ⟨v20, e20, h⟩ := mt_ob h
        refine ov_b (ov_rI hp e20) ?_
        have hz : ¬ x3 = 0 := fun q => by rw [if_pos q] at h; cases h
        have h := mt_in' h hz
        refine ov_f hz ?_
        obtain ⟨S21, e21, h⟩ := mt_ob h
        obtain ⟨o_, hp⟩ := ov_sI hp e21
        refine ov_b o_ ?_
        obtain ⟨v22, e22, h⟩ := mt_ob h
        refine ov_b (ov_rI hp e22) ?_
        obtain ⟨S23, e23, h⟩ := mt_ob h
        obtain ⟨o_, hp⟩ := ov_wI hp e23
        refine ov_b o_ ?_
        exact ih _ _ _ _ _ hp h
def f_X11_told_L16s (rc : Nat → Int32 → mt_S → Option (Int32 × mt_S)) (x0 : Nat) (x1 : Int32) (S : mt_S) : Option (Int32 × mt_S) :=
  Option.bind (mt_rI S x0 11 14) fun v4 =>
  if v4 ≤ x1 then
   Option.bind (mt_rI S x0 11 30) fun v5 =>
   some (v5, S)
  else
   f_X11_told_L26 (fun z59_0 z59_1 z59_2 S11 =>
    Option.bind (mt_rR S11 z59_0 11 29) fun v12 =>
    Option.bind (mt_rI S11 z59_0 11 30) fun v13 =>
    Option.bind (mt_rR S11 z59_0 11 15) fun v14 =>
    Option.bind (mt_aI S11 v14 13 z59_1) fun v15 =>
    Option.bind (mt_sI S11 v12 13 v13 v15) fun S16 =>
    Option.bind (mt_rI S16 z59_0 11 30) fun v17 =>
    Option.bind (mt_wI S16 z59_0 11 30 (v17 + 1)) fun S18 =>
    if z59_2 ≤ 9 then
     f_X11_told_L97 (fun z142_0 z142_1 z142_2 S25 =>
      rc z142_0 (z142_1 + z142_2) S25) 1000 z59_0 z59_1 z59_2 1 S18
    else
     f_X11_told_L97 (fun z142_0 z142_1 z142_2 S26 =>
      rc z142_0 (z142_1 + z142_2) S26) 1000 z59_0 z59_1 z59_2 10 S18) 1000 x0 x1 1 S
def f_X11_told_L16 : Nat → Nat → Int32 → mt_S → Option (Int32 × mt_S)
  | 0 => fun _ _ _ => none
  | n + 1 => f_X11_told_L16s (f_X11_told_L16 n)
set_option maxHeartbeats 4000000 in
set_option maxRecDepth 100000 in
theorem m_X11_told_L16 {B : mt_B} {E : mt_E} {r : Int32} {S' : mt_S} (hC : mt_Cx B E cX11_told RX11 (some .int) 4 3 0 0) (hE : mt_End B E (0, 0) (some (.int r)) S') : ∀ (n : Nat) (x0 : Nat) (x1 : Int32) (S : mt_S), f_X11_told_L16 n x0 x1 S = some (r, S') → mt_Go B E (0, 0) S 16 [(0, mt_rf B x0), (1, .int x1)] [] := by
  intro n
  induction n with
  | zero =>
    intro x0 x1 S h
    cases h
  | succ n ih =>
    intro x0 x1 S h
    have h : f_X11_told_L16s (f_X11_told_L16 n) x0 x1 S = some (r, S') := h
    unfold f_X11_told_L16s at h
    refine go_iload_n hC 1 dX11_told_16 rfl rfl ?_
    refine go_aload_n hC 0 dX11_told_17 rfl rfl ?_
    obtain ⟨v4, e4, h⟩ := mt_ob h
    refine go_getI hC mt_flX11_78 e4 dX11_told_18 ?_
    refine go_icmp_ge hC (tgt := 149) dX11_told_21 (by decide) (fun hc => ?_) (fun hc => ?_)
    · have h := mt_ip h hc
      refine go_aload_n hC 0 dX11_told_149 rfl rfl ?_
      obtain ⟨v5, e5, h⟩ := mt_ob h
      refine go_getI hC mt_flX11_250 e5 dX11_told_150 ?_
      exact go_iret hC (mt_rei h hE) dX11_told_153
    · have h := mt_in' h hc
      refine go_iconst (v := 1) hC dX11_told_24 (by decide) ?_
      refine go_istore_n hC [1, 2, 0] (lv1 := [(0, mt_rf B x0), (1, .int x1), (2, .int 1)]) dX11_told_25 rfl (by decide) rfl ?_
      refine m_X11_told_L26 hC hE _ ?_ 1000 _ _ _ _ h
      · intro z59_0 z59_1 z59_2 S11 h
        refine go_aload_n hC 0 dX11_told_59 rfl rfl ?_
        obtain ⟨v12, e12, h⟩ := mt_ob h
        refine go_getR hC mt_flX11_53 e12 dX11_told_60 ?_
        refine go_aload_n hC 0 dX11_told_63 rfl rfl ?_
        obtain ⟨v13, e13, h⟩ := mt_ob h
        refine go_getI hC mt_flX11_250 e13 dX11_told_64 ?_
        refine go_aload_n hC 0 dX11_told_67 rfl rfl ?_
        obtain ⟨v14, e14, h⟩ := mt_ob h
        refine go_getR hC mt_flX11_43 e14 dX11_told_68 ?_
        refine go_iload_n hC 1 dX11_told_71 rfl rfl ?_
        obtain ⟨v15, e15, h⟩ := mt_ob h
        refine go_iald hC e15 dX11_told_72 ?_
        obtain ⟨S16, e16, h⟩ := mt_ob h
        refine go_iast hC e16 dX11_told_73 ?_
        refine go_aload_n hC 0 dX11_told_74 rfl rfl ?_
        refine go_dup hC dX11_told_75 rfl ?_
        obtain ⟨v17, e17, h⟩ := mt_ob h
        refine go_getI hC mt_flX11_250 e17 dX11_told_76 ?_
        refine go_iconst (v := 1) hC dX11_told_79 (by decide) ?_
        refine go_iadd hC dX11_told_80 ?_
        obtain ⟨S18, e18, h⟩ := mt_ob h
        refine go_putI hC mt_flX11_250 e18 dX11_told_81 ?_
        refine go_iload_n hC 2 dX11_told_84 rfl rfl ?_
        refine go_bipush (v := 9) hC dX11_told_85 (by decide) ?_
        refine go_icmp_le hC (tgt := 95) dX11_told_87 (by decide) (fun hc => ?_) (fun hc => ?_)
        · have h := mt_ip h hc
          refine go_iconst (v := 1) hC dX11_told_95 (by decide) ?_
          refine go_istore_n hC [1, 2, 3, 0] (lv1 := [(0, mt_rf B z59_0), (1, .int z59_1), (2, .int z59_2), (3, .int 1)]) dX11_told_96 rfl (by decide) rfl ?_
          refine m_X11_told_L97 hC hE _ ?_ 1000 _ _ _ _ _ h
          · intro z142_0 z142_1 z142_2 S25 h
            refine go_iload_n hC 1 dX11_told_142 rfl rfl ?_
            refine go_iload_n hC 2 dX11_told_143 rfl rfl ?_
            refine go_iadd hC dX11_told_144 ?_
            refine go_istore_n hC [1, 0, 2] (lv1 := [(0, mt_rf B z142_0), (1, .int (z142_1 + z142_2)), (2, .int z142_2)]) dX11_told_145 rfl (by decide) rfl ?_
            refine go_goto hC (tgt := 16) dX11_told_146 (by decide) ?_
            refine go_sub [0, 1] (lv1 := [(0, mt_rf B z142_0), (1, .int (z142_1 + z142_2))]) rfl ?_
            exact ih _ _ _ h
        · have h := mt_in' h hc
          refine go_bipush (v := 10) hC dX11_told_90 (by decide) ?_
          refine go_goto hC (tgt := 96) dX11_told_92 (by decide) ?_
          refine go_istore_n hC [1, 2, 3, 0] (lv1 := [(0, mt_rf B z59_0), (1, .int z59_1), (2, .int z59_2), (3, .int 10)]) dX11_told_96 rfl (by decide) rfl ?_
          refine m_X11_told_L97 hC hE _ ?_ 1000 _ _ _ _ _ h
          · intro z142_0 z142_1 z142_2 S26 h
            refine go_iload_n hC 1 dX11_told_142 rfl rfl ?_
            refine go_iload_n hC 2 dX11_told_143 rfl rfl ?_
            refine go_iadd hC dX11_told_144 ?_
            refine go_istore_n hC [1, 0, 2] (lv1 := [(0, mt_rf B z142_0), (1, .int (z142_1 + z142_2)), (2, .int z142_2)]) dX11_told_145 rfl (by decide) rfl ?_
            refine go_goto hC (tgt := 16) dX11_told_146 (by decide) ?_
            refine go_sub [0, 1] (lv1 := [(0, mt_rf B z142_0), (1, .int (z142_1 + z142_2))]) rfl ?_
            exact ih _ _ _ h
set_option maxHeartbeats 4000000 in
set_option maxRecDepth 100000 in
theorem ov_X11_told_L16 {T : mt_S} {r : Int32} {S' : mt_S} : ∀ (n : Nat) (x0 : Nat) (x1 : Int32) (S : mt_S), mt_cp S T → f_X11_told_L16 n x0 x1 S = some (r, S') → f_X11_told_L16 n x0 x1 (mt_ov S T) = some (r, mt_ov S' T) ∧ mt_cp S' T := by
  intro n
  induction n with
  | zero =>
    intro x0 x1 S hp h
    cases h
  | succ n ih =>
    intro x0 x1 S hp h
    have h : f_X11_told_L16s (f_X11_told_L16 n) x0 x1 S = some (r, S') := h
    show f_X11_told_L16s (f_X11_told_L16 n) x0 x1 (mt_ov S T) = some (r, mt_ov S' T) ∧ mt_cp S' T
    unfold f_X11_told_L16s at h ⊢
    obtain ⟨v4, e4, h⟩ := mt_ob h
    refine ov_b (ov_rI hp e4) ?_
    by_cases hc : v4 ≤ x1
    · have h := mt_ip h hc
      refine ov_t hc ?_
      obtain ⟨v5, e5, h⟩ := mt_ob h
      refine ov_b (ov_rI hp e5) ?_
      exact ov_ret hp h
    · have h := mt_in' h hc
      refine ov_f hc ?_
      refine ov_X11_told_L26 ?_ 1000 _ _ _ _ hp h
      · intro z59_0 z59_1 z59_2 S11 hp h
        obtain ⟨v12, e12, h⟩ := mt_ob h
        refine ov_b (ov_rR hp e12) ?_
        obtain ⟨v13, e13, h⟩ := mt_ob h
        refine ov_b (ov_rI hp e13) ?_
        obtain ⟨v14, e14, h⟩ := mt_ob h
        refine ov_b (ov_rR hp e14) ?_
        obtain ⟨v15, e15, h⟩ := mt_ob h
        refine ov_b (ov_aI hp e15) ?_
        obtain ⟨S16, e16, h⟩ := mt_ob h
        obtain ⟨o_, hp⟩ := ov_sI hp e16
        refine ov_b o_ ?_
        obtain ⟨v17, e17, h⟩ := mt_ob h
        refine ov_b (ov_rI hp e17) ?_
        obtain ⟨S18, e18, h⟩ := mt_ob h
        obtain ⟨o_, hp⟩ := ov_wI hp e18
        refine ov_b o_ ?_
        by_cases hc : z59_2 ≤ 9
        · have h := mt_ip h hc
          refine ov_t hc ?_
          refine ov_X11_told_L97 ?_ 1000 _ _ _ _ _ hp h
          · intro z142_0 z142_1 z142_2 S25 hp h
            exact ih _ _ _ hp h
        · have h := mt_in' h hc
          refine ov_f hc ?_
          refine ov_X11_told_L97 ?_ 1000 _ _ _ _ _ hp h
          · intro z142_0 z142_1 z142_2 S26 hp h
            exact ih _ _ _ hp h
def f_X11_told (x0 : Nat) (S : mt_S) : Option (Int32 × mt_S) :=
  if mt_isK S x0 11 = true then
   Option.bind (mt_wI S x0 11 0 0) fun S1 =>
   Option.bind (f_X11_lays x0 S1) fun S2 =>
   Option.bind (mt_wI S2 x0 11 30 0) fun S3 =>
   f_X11_told_L16 1000 x0 0 S3
  else none
theorem k_X11_told {x0 : Nat} {S : mt_S} {r : Int32} {S' : mt_S} (h : f_X11_told x0 S = some (r, S')) : mt_isK S x0 11 = true := by
  unfold f_X11_told at h
  exact (mt_gd h).1
set_option maxHeartbeats 4000000 in
set_option maxRecDepth 100000 in
theorem m_X11_told {B : mt_B}  {x0 : Nat} {S : mt_S} {r : Int32} {S' : mt_S} (h : f_X11_told x0 S = some (r, S')) : mt_M B yX11_told cX11_told 4 (some .int) 3 [mt_rf B x0] S (some (.int r)) S' := by
  unfold f_X11_told at h
  refine mt_M.of (by decide) (Nat.le_of_ble_eq_true rfl) (fun E hC hE => ?_)
  obtain ⟨hk0, h⟩ := mt_gd h
  refine go_aload_n hC 0 dX11_told_0 rfl rfl ?_
  refine go_iconst (v := 0) hC dX11_told_1 (by decide) ?_
  obtain ⟨S1, e1, h⟩ := mt_ob h
  refine go_putI hC mt_flX11_1 e1 dX11_told_2 ?_
  refine go_aload_n hC 0 dX11_told_5 rfl rfl ?_
  obtain ⟨S2, e2, h⟩ := mt_ob h
  refine go_callVv hC [] [] (m_X11_lays e2) mt_cvX11_95 (k_X11_lays e2) dX11_told_6 rfl rfl (by decide) (Nat.le_of_ble_eq_true rfl) ⟨Nat.le_refl _, Nat.le_refl _⟩ ?_
  refine go_aload_n hC 0 dX11_told_9 rfl rfl ?_
  refine go_iconst (v := 0) hC dX11_told_10 (by decide) ?_
  obtain ⟨S3, e3, h⟩ := mt_ob h
  refine go_putI hC mt_flX11_250 e3 dX11_told_11 ?_
  refine go_iconst (v := 0) hC dX11_told_14 (by decide) ?_
  refine go_istore_n hC [1, 0] (lv1 := [(0, mt_rf B x0), (1, .int 0)]) dX11_told_15 rfl (by decide) rfl ?_
  exact m_X11_told_L16 hC hE 1000 _ _ _ h
set_option maxHeartbeats 4000000 in
set_option maxRecDepth 100000 in
theorem ov_X11_told {T : mt_S}  {x0 : Nat} {S : mt_S} {r : Int32} {S' : mt_S} (hp : mt_cp S T) (h : f_X11_told x0 S = some (r, S')) : f_X11_told x0 (mt_ov S T) = some (r, mt_ov S' T) ∧ mt_cp S' T := by
  unfold f_X11_told at h ⊢
  obtain ⟨hg, h⟩ := mt_gd h
  refine ov_t (ov_K hp hg) ?_
  obtain ⟨S1, e1, h⟩ := mt_ob h
  obtain ⟨o_, hp⟩ := ov_wI hp e1
  refine ov_b o_ ?_
  obtain ⟨S2, e2, h⟩ := mt_ob h
  obtain ⟨o_, hp⟩ := ov_X11_lays hp e2
  refine ov_b o_ ?_
  obtain ⟨S3, e3, h⟩ := mt_ob h
  obtain ⟨o_, hp⟩ := ov_wI hp e3
  refine ov_b o_ ?_
  exact ov_X11_told_L16 1000 _ _ _ hp h
def f_X11_byteAt (x0 : Nat) (x1 : Int32) (S : mt_S) : Option (Int32 × mt_S) :=
  if mt_isK S x0 11 = true then
   Option.bind (mt_wI S x0 11 0 0) fun S1 =>
   Option.bind (mt_rI S1 x0 11 30) fun v2 =>
   mt_b2 (f_X11_isIn x1.toInt64 0 ((v2 - 1).toInt64) S1) fun v4 S3 =>
   if v4 = 0 then
    some ((-1), S3)
   else
    Option.bind (mt_rR S3 x0 11 29) fun v5 =>
    Option.bind (mt_aI S3 v5 13 x1) fun v6 =>
    some (v6, S3)
  else none
theorem k_X11_byteAt {x0 : Nat} {x1 : Int32} {S : mt_S} {r : Int32} {S' : mt_S} (h : f_X11_byteAt x0 x1 S = some (r, S')) : mt_isK S x0 11 = true := by
  unfold f_X11_byteAt at h
  exact (mt_gd h).1
set_option maxHeartbeats 4000000 in
set_option maxRecDepth 100000 in
theorem m_X11_byteAt {B : mt_B}  {x0 : Nat} {x1 : Int32} {S : mt_S} {r : Int32} {S' : mt_S} (h : f_X11_byteAt x0 x1 S = some (r, S')) : mt_M B yX11_byteAt cX11_byteAt 2 (some .int) 2 [mt_rf B x0, .int x1] S (some (.int r)) S' := by
  unfold f_X11_byteAt at h
  refine mt_M.of (by decide) (Nat.le_of_ble_eq_true rfl) (fun E hC hE => ?_)
  obtain ⟨hk0, h⟩ := mt_gd h
  refine go_aload_n hC 0 dX11_byteAt_0 rfl rfl ?_
  refine go_iconst (v := 0) hC dX11_byteAt_1 (by decide) ?_
  obtain ⟨S1, e1, h⟩ := mt_ob h
  refine go_putI hC mt_flX11_1 e1 dX11_byteAt_2 ?_
  refine go_iload_n hC 1 dX11_byteAt_5 rfl rfl ?_
  refine go_i2l hC dX11_byteAt_6 ?_
  refine go_lconst (v := 0) hC dX11_byteAt_7 (by decide) ?_
  refine go_aload_n hC 0 dX11_byteAt_8 rfl rfl ?_
  obtain ⟨v2, e2, h⟩ := mt_ob h
  refine go_getI hC mt_flX11_250 e2 dX11_byteAt_9 ?_
  refine go_iconst (v := 1) hC dX11_byteAt_12 (by decide) ?_
  refine go_isub hC dX11_byteAt_13 ?_
  refine go_i2l hC dX11_byteAt_14 ?_
  obtain ⟨v4, S3, e4, h⟩ := mt_ob2 h
  refine go_callSi hC [.long x1.toInt64, .long 0, .long ((v2 - 1).toInt64)] [] (m_X11_isIn e4) mt_csX11_91 dX11_byteAt_15 rfl rfl (by decide) (Nat.le_of_ble_eq_true rfl) ⟨Nat.le_refl _, Nat.le_refl _⟩ ?_
  refine go_if_eq hC (tgt := 30) dX11_byteAt_18 (by decide) (fun hc => ?_) (fun hc => ?_)
  · have h := mt_ip h hc
    refine go_iconst (v := (-1)) hC dX11_byteAt_30 (by decide) ?_
    exact go_iret hC (mt_rei h hE) dX11_byteAt_31
  · have h := mt_in' h hc
    refine go_aload_n hC 0 dX11_byteAt_21 rfl rfl ?_
    obtain ⟨v5, e5, h⟩ := mt_ob h
    refine go_getR hC mt_flX11_53 e5 dX11_byteAt_22 ?_
    refine go_iload_n hC 1 dX11_byteAt_25 rfl rfl ?_
    obtain ⟨v6, e6, h⟩ := mt_ob h
    refine go_iald hC e6 dX11_byteAt_26 ?_
    refine go_goto hC (tgt := 31) dX11_byteAt_27 (by decide) ?_
    exact go_iret hC (mt_rei h hE) dX11_byteAt_31
set_option maxHeartbeats 4000000 in
set_option maxRecDepth 100000 in
theorem ov_X11_byteAt {T : mt_S}  {x0 : Nat} {x1 : Int32} {S : mt_S} {r : Int32} {S' : mt_S} (hp : mt_cp S T) (h : f_X11_byteAt x0 x1 S = some (r, S')) : f_X11_byteAt x0 x1 (mt_ov S T) = some (r, mt_ov S' T) ∧ mt_cp S' T := by
  unfold f_X11_byteAt at h ⊢
  obtain ⟨hg, h⟩ := mt_gd h
  refine ov_t (ov_K hp hg) ?_
  obtain ⟨S1, e1, h⟩ := mt_ob h
  obtain ⟨o_, hp⟩ := ov_wI hp e1
  refine ov_b o_ ?_
  obtain ⟨v2, e2, h⟩ := mt_ob h
  refine ov_b (ov_rI hp e2) ?_
  obtain ⟨v4, S3, e4, h⟩ := mt_ob2 h
  obtain ⟨o_, hp⟩ := ov_X11_isIn hp e4
  refine ov_b2 o_ ?_
  by_cases hc : v4 = 0
  · have h := mt_ip h hc
    refine ov_t hc ?_
    exact ov_ret hp h
  · have h := mt_in' h hc
    refine ov_f hc ?_
    obtain ⟨v5, e5, h⟩ := mt_ob h
    refine ov_b (ov_rR hp e5) ?_
    obtain ⟨v6, e6, h⟩ := mt_ob h
    refine ov_b (ov_aI hp e6) ?_
    exact ov_ret hp h
def f_X11_here_L0s (rc : Nat → mt_S → Option (Int32 × mt_S)) (x0 : Nat) (S : mt_S) : Option (Int32 × mt_S) :=
  Option.bind (mt_rI S x0 11 32) fun v1 =>
  Option.bind (mt_rI S x0 11 31) fun v2 =>
  if v2 ≤ v1 then
   Option.bind (mt_rI S x0 11 32) fun v3 =>
   Option.bind (mt_rI S x0 11 31) fun v4 =>
   if v4 ≤ v3 then
    some (0, S)
   else
    Option.bind (mt_rR S x0 11 1) fun v5 =>
    Option.bind (mt_rI S x0 11 32) fun v6 =>
    Option.bind (mt_aI S v5 13 v6) fun v7 =>
    some (v7, S)
  else
   Option.bind (mt_rR S x0 11 1) fun v8 =>
   Option.bind (mt_rI S x0 11 32) fun v9 =>
   Option.bind (mt_aI S v8 13 v9) fun v10 =>
   if v10 = 32 then
    Option.bind (mt_rI S x0 11 32) fun v16 =>
    Option.bind (mt_wI S x0 11 32 (v16 + 1)) fun S17 =>
    rc x0 S17
   else
    Option.bind (mt_rI S x0 11 32) fun v11 =>
    Option.bind (mt_rI S x0 11 31) fun v12 =>
    if v12 ≤ v11 then
     some (0, S)
    else
     Option.bind (mt_rR S x0 11 1) fun v13 =>
     Option.bind (mt_rI S x0 11 32) fun v14 =>
     Option.bind (mt_aI S v13 13 v14) fun v15 =>
     some (v15, S)
def f_X11_here_L0 : Nat → Nat → mt_S → Option (Int32 × mt_S)
  | 0 => fun _ _ => none
  | n + 1 => f_X11_here_L0s (f_X11_here_L0 n)
set_option maxHeartbeats 4000000 in
set_option maxRecDepth 100000 in
theorem m_X11_here_L0 {B : mt_B} {E : mt_E} {r : Int32} {S' : mt_S} (hC : mt_Cx B E cX11_here RX11 (some .int) 1 1 0 0) (hE : mt_End B E (0, 0) (some (.int r)) S') : ∀ (n : Nat) (x0 : Nat) (S : mt_S), f_X11_here_L0 n x0 S = some (r, S') → mt_Go B E (0, 0) S 0 [(0, mt_rf B x0)] [] := by
  intro n
  induction n with
  | zero =>
    intro x0 S h
    cases h
  | succ n ih =>
    intro x0 S h
    have h : f_X11_here_L0s (f_X11_here_L0 n) x0 S = some (r, S') := h
    unfold f_X11_here_L0s at h
    refine go_aload_n hC 0 dX11_here_0 rfl rfl ?_
    obtain ⟨v1, e1, h⟩ := mt_ob h
    refine go_getI hC mt_flX11_253 e1 dX11_here_1 ?_
    refine go_aload_n hC 0 dX11_here_4 rfl rfl ?_
    obtain ⟨v2, e2, h⟩ := mt_ob h
    refine go_getI hC mt_flX11_256 e2 dX11_here_5 ?_
    refine go_icmp_ge hC (tgt := 38) dX11_here_8 (by decide) (fun hc => ?_) (fun hc => ?_)
    · have h := mt_ip h hc
      refine go_aload_n hC 0 dX11_here_38 rfl rfl ?_
      obtain ⟨v3, e3, h⟩ := mt_ob h
      refine go_getI hC mt_flX11_253 e3 dX11_here_39 ?_
      refine go_aload_n hC 0 dX11_here_42 rfl rfl ?_
      obtain ⟨v4, e4, h⟩ := mt_ob h
      refine go_getI hC mt_flX11_256 e4 dX11_here_43 ?_
      refine go_icmp_ge hC (tgt := 61) dX11_here_46 (by decide) (fun hc => ?_) (fun hc => ?_)
      · have h := mt_ip h hc
        refine go_iconst (v := 0) hC dX11_here_61 (by decide) ?_
        exact go_iret hC (mt_rei h hE) dX11_here_62
      · have h := mt_in' h hc
        refine go_aload_n hC 0 dX11_here_49 rfl rfl ?_
        obtain ⟨v5, e5, h⟩ := mt_ob h
        refine go_getR hC mt_flX11_7 e5 dX11_here_50 ?_
        refine go_aload_n hC 0 dX11_here_53 rfl rfl ?_
        obtain ⟨v6, e6, h⟩ := mt_ob h
        refine go_getI hC mt_flX11_253 e6 dX11_here_54 ?_
        obtain ⟨v7, e7, h⟩ := mt_ob h
        refine go_iald hC e7 dX11_here_57 ?_
        refine go_goto hC (tgt := 62) dX11_here_58 (by decide) ?_
        exact go_iret hC (mt_rei h hE) dX11_here_62
    · have h := mt_in' h hc
      refine go_aload_n hC 0 dX11_here_11 rfl rfl ?_
      obtain ⟨v8, e8, h⟩ := mt_ob h
      refine go_getR hC mt_flX11_7 e8 dX11_here_12 ?_
      refine go_aload_n hC 0 dX11_here_15 rfl rfl ?_
      obtain ⟨v9, e9, h⟩ := mt_ob h
      refine go_getI hC mt_flX11_253 e9 dX11_here_16 ?_
      obtain ⟨v10, e10, h⟩ := mt_ob h
      refine go_iald hC e10 dX11_here_19 ?_
      refine go_bipush (v := 32) hC dX11_here_20 (by decide) ?_
      refine go_icmp_ne hC (tgt := 38) dX11_here_22 (by decide) (fun hc => ?_) (fun hc => ?_)
      · have h := mt_in' h hc
        refine go_aload_n hC 0 dX11_here_38 rfl rfl ?_
        obtain ⟨v11, e11, h⟩ := mt_ob h
        refine go_getI hC mt_flX11_253 e11 dX11_here_39 ?_
        refine go_aload_n hC 0 dX11_here_42 rfl rfl ?_
        obtain ⟨v12, e12, h⟩ := mt_ob h
        refine go_getI hC mt_flX11_256 e12 dX11_here_43 ?_
        refine go_icmp_ge hC (tgt := 61) dX11_here_46 (by decide) (fun hc => ?_) (fun hc => ?_)
        · have h := mt_ip h hc
          refine go_iconst (v := 0) hC dX11_here_61 (by decide) ?_
          exact go_iret hC (mt_rei h hE) dX11_here_62
        · have h := mt_in' h hc
          refine go_aload_n hC 0 dX11_here_49 rfl rfl ?_
          obtain ⟨v13, e13, h⟩ := mt_ob h
          refine go_getR hC mt_flX11_7 e13 dX11_here_50 ?_
          refine go_aload_n hC 0 dX11_here_53 rfl rfl ?_
          obtain ⟨v14, e14, h⟩ := mt_ob h
          refine go_getI hC mt_flX11_253 e14 dX11_here_54 ?_
          obtain ⟨v15, e15, h⟩ := mt_ob h
          refine go_iald hC e15 dX11_here_57 ?_
          refine go_goto hC (tgt := 62) dX11_here_58 (by decide) ?_
          exact go_iret hC (mt_rei h hE) dX11_here_62
      · have h := mt_ip h hc
        refine go_aload_n hC 0 dX11_here_25 rfl rfl ?_
        refine go_dup hC dX11_here_26 rfl ?_
        obtain ⟨v16, e16, h⟩ := mt_ob h
        refine go_getI hC mt_flX11_253 e16 dX11_here_27 ?_
        refine go_iconst (v := 1) hC dX11_here_30 (by decide) ?_
        refine go_iadd hC dX11_here_31 ?_
        obtain ⟨S17, e17, h⟩ := mt_ob h
        refine go_putI hC mt_flX11_253 e17 dX11_here_32 ?_
        refine go_goto hC (tgt := 0) dX11_here_35 (by decide) ?_
        exact ih _ _ h
set_option maxHeartbeats 4000000 in
set_option maxRecDepth 100000 in
theorem ov_X11_here_L0 {T : mt_S} {r : Int32} {S' : mt_S} : ∀ (n : Nat) (x0 : Nat) (S : mt_S), mt_cp S T → f_X11_here_L0 n x0 S = some (r, S') → f_X11_here_L0 n x0 (mt_ov S T) = some (r, mt_ov S' T) ∧ mt_cp S' T := by
  intro n
  induction n with
  | zero =>
    intro x0 S hp h
    cases h
  | succ n ih =>
    intro x0 S hp h
    have h : f_X11_here_L0s (f_X11_here_L0 n) x0 S = some (r, S') := h
    show f_X11_here_L0s (f_X11_here_L0 n) x0 (mt_ov S T) = some (r, mt_ov S' T) ∧ mt_cp S' T
    unfold f_X11_here_L0s at h ⊢
    obtain ⟨v1, e1, h⟩ := mt_ob h
    refine ov_b (ov_rI hp e1) ?_
    obtain ⟨v2, e2, h⟩ := mt_ob h
    refine ov_b (ov_rI hp e2) ?_
    by_cases hc : v2 ≤ v1
    · have h := mt_ip h hc
      refine ov_t hc ?_
      obtain ⟨v3, e3, h⟩ := mt_ob h
      refine ov_b (ov_rI hp e3) ?_
      obtain ⟨v4, e4, h⟩ := mt_ob h
      refine ov_b (ov_rI hp e4) ?_
      by_cases hc : v4 ≤ v3
      · have h := mt_ip h hc
        refine ov_t hc ?_
        exact ov_ret hp h
      · have h := mt_in' h hc
        refine ov_f hc ?_
        obtain ⟨v5, e5, h⟩ := mt_ob h
        refine ov_b (ov_rR hp e5) ?_
        obtain ⟨v6, e6, h⟩ := mt_ob h
        refine ov_b (ov_rI hp e6) ?_
        obtain ⟨v7, e7, h⟩ := mt_ob h
        refine ov_b (ov_aI hp e7) ?_
        exact ov_ret hp h
    · have h := mt_in' h hc
      refine ov_f hc ?_
      obtain ⟨v8, e8, h⟩ := mt_ob h
      refine ov_b (ov_rR hp e8) ?_
      obtain ⟨v9, e9, h⟩ := mt_ob h
      refine ov_b (ov_rI hp e9) ?_
      obtain ⟨v10, e10, h⟩ := mt_ob h
      refine ov_b (ov_aI hp e10) ?_
      by_cases hc : v10 = 32
      · have h := mt_ip h hc
        refine ov_t hc ?_
        obtain ⟨v16, e16, h⟩ := mt_ob h
        refine ov_b (ov_rI hp e16) ?_
        obtain ⟨S17, e17, h⟩ := mt_ob h
        obtain ⟨o_, hp⟩ := ov_wI hp e17
        refine ov_b o_ ?_
        exact ih _ _ hp h
      · have h := mt_in' h hc
        refine ov_f hc ?_
        obtain ⟨v11, e11, h⟩ := mt_ob h
        refine ov_b (ov_rI hp e11) ?_
        obtain ⟨v12, e12, h⟩ := mt_ob h
        refine ov_b (ov_rI hp e12) ?_
        by_cases hc : v12 ≤ v11
        · have h := mt_ip h hc
          refine ov_t hc ?_
          exact ov_ret hp h
        · have h := mt_in' h hc
          refine ov_f hc ?_
          obtain ⟨v13, e13, h⟩ := mt_ob h
          refine ov_b (ov_rR hp e13) ?_
          obtain ⟨v14, e14, h⟩ := mt_ob h
          refine ov_b (ov_rI hp e14) ?_
          obtain ⟨v15, e15, h⟩ := mt_ob h
          refine ov_b (ov_aI hp e15) ?_
          exact ov_ret hp h
def f_X11_here (x0 : Nat) (S : mt_S) : Option (Int32 × mt_S) :=
  if mt_isK S x0 11 = true then
   f_X11_here_L0 1000 x0 S
  else none
theorem k_X11_here {x0 : Nat} {S : mt_S} {r : Int32} {S' : mt_S} (h : f_X11_here x0 S = some (r, S')) : mt_isK S x0 11 = true := by
  unfold f_X11_here at h
  exact (mt_gd h).1
set_option maxHeartbeats 4000000 in
set_option maxRecDepth 100000 in
theorem m_X11_here {B : mt_B}  {x0 : Nat} {S : mt_S} {r : Int32} {S' : mt_S} (h : f_X11_here x0 S = some (r, S')) : mt_M B yX11_here cX11_here 1 (some .int) 1 [mt_rf B x0] S (some (.int r)) S' := by
  unfold f_X11_here at h
  refine mt_M.of (by decide) (Nat.le_of_ble_eq_true rfl) (fun E hC hE => ?_)
  obtain ⟨hk0, h⟩ := mt_gd h
  exact m_X11_here_L0 hC hE 1000 _ _ h
set_option maxHeartbeats 4000000 in
set_option maxRecDepth 100000 in
theorem ov_X11_here {T : mt_S}  {x0 : Nat} {S : mt_S} {r : Int32} {S' : mt_S} (hp : mt_cp S T) (h : f_X11_here x0 S = some (r, S')) : f_X11_here x0 (mt_ov S T) = some (r, mt_ov S' T) ∧ mt_cp S' T := by
  unfold f_X11_here at h ⊢
  obtain ⟨hg, h⟩ := mt_gd h
  refine ov_t (ov_K hp hg) ?_
  exact ov_X11_here_L0 1000 _ _ hp h
def f_X11_bad (x0 : Nat) (x1 : Int32) (x2 : Int32) (S : mt_S) : Option (mt_S) :=
  if mt_isK S x0 11 = true then
   Option.bind (mt_rI S x0 11 33) fun v1 =>
   if v1 = 0 then
    Option.bind (mt_wI S x0 11 33 x1) fun S2 =>
    Option.bind (mt_wI S2 x0 11 34 x2) fun S3 =>
    some S3
   else
    some S
  else none
theorem k_X11_bad {x0 : Nat} {x1 : Int32} {x2 : Int32} {S : mt_S} {S' : mt_S} (h : f_X11_bad x0 x1 x2 S = some S') : mt_isK S x0 11 = true := by
  unfold f_X11_bad at h
  exact (mt_gd h).1
set_option maxHeartbeats 4000000 in
set_option maxRecDepth 100000 in
theorem m_X11_bad {B : mt_B}  {x0 : Nat} {x1 : Int32} {x2 : Int32} {S : mt_S} {S' : mt_S} (h : f_X11_bad x0 x1 x2 S = some S') : mt_M B yX11_bad cX11_bad 3 none 1 [mt_rf B x0, .int x1, .int x2] S none S' := by
  unfold f_X11_bad at h
  refine mt_M.of (by decide) (Nat.le_of_ble_eq_true rfl) (fun E hC hE => ?_)
  obtain ⟨hk0, h⟩ := mt_gd h
  refine go_aload_n hC 0 dX11_bad_0 rfl rfl ?_
  obtain ⟨v1, e1, h⟩ := mt_ob h
  refine go_getI hC mt_flX11_259 e1 dX11_bad_1 ?_
  refine go_if_eq hC (tgt := 8) dX11_bad_4 (by decide) (fun hc => ?_) (fun hc => ?_)
  · have h := mt_ip h hc
    refine go_aload_n hC 0 dX11_bad_8 rfl rfl ?_
    refine go_iload_n hC 1 dX11_bad_9 rfl rfl ?_
    obtain ⟨S2, e2, h⟩ := mt_ob h
    refine go_putI hC mt_flX11_259 e2 dX11_bad_10 ?_
    refine go_aload_n hC 0 dX11_bad_13 rfl rfl ?_
    refine go_iload_n hC 2 dX11_bad_14 rfl rfl ?_
    obtain ⟨S3, e3, h⟩ := mt_ob h
    refine go_putI hC mt_flX11_262 e3 dX11_bad_15 ?_
    exact go_vret hC (mt_rev h hE) dX11_bad_18
  · have h := mt_in' h hc
    exact go_vret hC (mt_rev h hE) dX11_bad_7
set_option maxHeartbeats 4000000 in
set_option maxRecDepth 100000 in
theorem ov_X11_bad {T : mt_S}  {x0 : Nat} {x1 : Int32} {x2 : Int32} {S : mt_S} {S' : mt_S} (hp : mt_cp S T) (h : f_X11_bad x0 x1 x2 S = some S') : f_X11_bad x0 x1 x2 (mt_ov S T) = some (mt_ov S' T) ∧ mt_cp S' T := by
  unfold f_X11_bad at h ⊢
  obtain ⟨hg, h⟩ := mt_gd h
  refine ov_t (ov_K hp hg) ?_
  obtain ⟨v1, e1, h⟩ := mt_ob h
  refine ov_b (ov_rI hp e1) ?_
  by_cases hc : v1 = 0
  · have h := mt_ip h hc
    refine ov_t hc ?_
    obtain ⟨S2, e2, h⟩ := mt_ob h
    obtain ⟨o_, hp⟩ := ov_wI hp e2
    refine ov_b o_ ?_
    obtain ⟨S3, e3, h⟩ := mt_ob h
    obtain ⟨o_, hp⟩ := ov_wI hp e3
    refine ov_b o_ ?_
    exact ov_retv hp h
  · have h := mt_in' h hc
    refine ov_f hc ?_
    exact ov_retv hp h
def f_X11_isDigit (x0 : Int32) (S : mt_S) : Option (Int32 × mt_S) :=
  if x0 < 48 then
   some (0, S)
  else
  if 57 < x0 then
   some (0, S)
  else
   some (1, S)
set_option maxHeartbeats 4000000 in
set_option maxRecDepth 100000 in
theorem m_X11_isDigit {B : mt_B}  {x0 : Int32} {S : mt_S} {r : Int32} {S' : mt_S} (h : f_X11_isDigit x0 S = some (r, S')) : mt_M B yX11_isDigit cX11_isDigit 1 (some .boolean) 1 [.int x0] S (some (.int r)) S' := by
  unfold f_X11_isDigit at h
  refine mt_M.of (by decide) (Nat.le_of_ble_eq_true rfl) (fun E hC hE => ?_)
  refine go_iload_n hC 0 dX11_isDigit_0 rfl rfl ?_
  refine go_bipush (v := 48) hC dX11_isDigit_1 (by decide) ?_
  refine go_icmp_lt hC (tgt := 16) dX11_isDigit_3 (by decide) (fun hc => ?_) (fun hc => ?_)
  · have h := mt_ip h hc
    refine go_iconst (v := 0) hC dX11_isDigit_16 (by decide) ?_
    exact go_zret hC (mt_rei h hE) (Or.inl rfl) dX11_isDigit_17
  · have h := mt_in' h hc
    refine go_iload_n hC 0 dX11_isDigit_6 rfl rfl ?_
    refine go_bipush (v := 57) hC dX11_isDigit_7 (by decide) ?_
    refine go_icmp_gt hC (tgt := 16) dX11_isDigit_9 (by decide) (fun hc => ?_) (fun hc => ?_)
    · have h := mt_ip h hc
      refine go_iconst (v := 0) hC dX11_isDigit_16 (by decide) ?_
      exact go_zret hC (mt_rei h hE) (Or.inl rfl) dX11_isDigit_17
    · have h := mt_in' h hc
      refine go_iconst (v := 1) hC dX11_isDigit_12 (by decide) ?_
      refine go_goto hC (tgt := 17) dX11_isDigit_13 (by decide) ?_
      exact go_zret hC (mt_rei h hE) (Or.inr rfl) dX11_isDigit_17
set_option maxHeartbeats 4000000 in
set_option maxRecDepth 100000 in
theorem ov_X11_isDigit {T : mt_S}  {x0 : Int32} {S : mt_S} {r : Int32} {S' : mt_S} (hp : mt_cp S T) (h : f_X11_isDigit x0 S = some (r, S')) : f_X11_isDigit x0 (mt_ov S T) = some (r, mt_ov S' T) ∧ mt_cp S' T := by
  unfold f_X11_isDigit at h ⊢
  by_cases hc : x0 < 48
  · have h := mt_ip h hc
    refine ov_t hc ?_
    exact ov_ret hp h
  · have h := mt_in' h hc
    refine ov_f hc ?_
    by_cases hc : 57 < x0
    · have h := mt_ip h hc
      refine ov_t hc ?_
      exact ov_ret hp h
    · have h := mt_in' h hc
      refine ov_f hc ?_
      exact ov_ret hp h
def f_X11_often_L19s (rc : Nat → Int32 → Int32 → mt_S → Option (Int32 × mt_S)) (x0 : Nat) (x1 : Int32) (x2 : Int32) (S : mt_S) : Option (Int32 × mt_S) :=
  Option.bind (mt_rI S x0 11 32) fun v6 =>
  Option.bind (mt_rI S x0 11 31) fun v7 =>
  if v7 ≤ v6 then
   Option.bind (mt_rI S x0 11 32) fun v8 =>
   if 2 < (v8 - x1) then
    Option.bind (f_X11_bad x0 2 x1 S) fun S9 =>
    some (x2, S9)
   else
   if 1 ≤ x2 then
    some (x2, S)
   else
    Option.bind (f_X11_bad x0 2 x1 S) fun S10 =>
    some (x2, S10)
  else
   Option.bind (mt_rR S x0 11 1) fun v11 =>
   Option.bind (mt_rI S x0 11 32) fun v12 =>
   Option.bind (mt_aI S v11 13 v12) fun v13 =>
   mt_b2 (f_X11_isDigit v13 S) fun v15 S14 =>
   if v15 = 0 then
    Option.bind (mt_rI S14 x0 11 32) fun v16 =>
    if 2 < (v16 - x1) then
     Option.bind (f_X11_bad x0 2 x1 S14) fun S17 =>
     some (x2, S17)
    else
    if 1 ≤ x2 then
     some (x2, S14)
    else
     Option.bind (f_X11_bad x0 2 x1 S14) fun S18 =>
     some (x2, S18)
   else
    Option.bind (mt_rI S14 x0 11 32) fun v19 =>
    if 2 ≤ (v19 - x1) then
     Option.bind (mt_rI S14 x0 11 32) fun v20 =>
     Option.bind (mt_wI S14 x0 11 32 (v20 + 1)) fun S21 =>
     rc x0 x1 x2 S21
    else
     Option.bind (mt_rR S14 x0 11 1) fun v22 =>
     Option.bind (mt_rI S14 x0 11 32) fun v23 =>
     Option.bind (mt_aI S14 v22 13 v23) fun v24 =>
     Option.bind (mt_rI S14 x0 11 32) fun v25 =>
     Option.bind (mt_wI S14 x0 11 32 (v25 + 1)) fun S26 =>
     rc x0 x1 (((10 * x2) + v24) - 48) S26
def f_X11_often_L19 : Nat → Nat → Int32 → Int32 → mt_S → Option (Int32 × mt_S)
  | 0 => fun _ _ _ _ => none
  | n + 1 => f_X11_often_L19s (f_X11_often_L19 n)
set_option maxHeartbeats 4000000 in
set_option maxRecDepth 100000 in
theorem m_X11_often_L19 {B : mt_B} {E : mt_E} {r : Int32} {S' : mt_S} (hC : mt_Cx B E cX11_often RX11 (some .int) 3 2 0 0) (hE : mt_End B E (0, 0) (some (.int r)) S') : ∀ (n : Nat) (x0 : Nat) (x1 : Int32) (x2 : Int32) (S : mt_S), f_X11_often_L19 n x0 x1 x2 S = some (r, S') → mt_Go B E (0, 0) S 19 [(0, mt_rf B x0), (1, .int x1), (2, .int x2)] [] := by
  intro n
  induction n with
  | zero =>
    intro x0 x1 x2 S h
    cases h
  | succ n ih =>
    intro x0 x1 x2 S h
    have h : f_X11_often_L19s (f_X11_often_L19 n) x0 x1 x2 S = some (r, S') := h
    unfold f_X11_often_L19s at h
    refine go_aload_n hC 0 dX11_often_19 rfl rfl ?_
    obtain ⟨v6, e6, h⟩ := mt_ob h
    refine go_getI hC mt_flX11_253 e6 dX11_often_20 ?_
    refine go_aload_n hC 0 dX11_often_23 rfl rfl ?_
    obtain ⟨v7, e7, h⟩ := mt_ob h
    refine go_getI hC mt_flX11_256 e7 dX11_often_24 ?_
    refine go_icmp_ge hC (tgt := 86) dX11_often_27 (by decide) (fun hc => ?_) (fun hc => ?_)
    · have h := mt_ip h hc
      refine go_aload_n hC 0 dX11_often_86 rfl rfl ?_
      obtain ⟨v8, e8, h⟩ := mt_ob h
      refine go_getI hC mt_flX11_253 e8 dX11_often_87 ?_
      refine go_iload_n hC 1 dX11_often_90 rfl rfl ?_
      refine go_isub hC dX11_often_91 ?_
      refine go_iconst (v := 2) hC dX11_often_92 (by decide) ?_
      refine go_icmp_gt hC (tgt := 101) dX11_often_93 (by decide) (fun hc => ?_) (fun hc => ?_)
      · have h := mt_ip h hc
        refine go_aload_n hC 0 dX11_often_101 rfl rfl ?_
        refine go_iconst (v := 2) hC dX11_often_102 (by decide) ?_
        refine go_iload_n hC 1 dX11_often_103 rfl rfl ?_
        obtain ⟨S9, e9, h⟩ := mt_ob h
        refine go_callVv hC [.int 2, .int x1] [] (m_X11_bad e9) mt_cvX11_271 (k_X11_bad e9) dX11_often_104 rfl rfl (by decide) (Nat.le_of_ble_eq_true rfl) ⟨Nat.le_refl _, Nat.le_refl _⟩ ?_
        refine go_iload_n hC 2 dX11_often_107 rfl rfl ?_
        exact go_iret hC (mt_rei h hE) dX11_often_108
      · have h := mt_in' h hc
        refine go_iload_n hC 2 dX11_often_96 rfl rfl ?_
        refine go_iconst (v := 1) hC dX11_often_97 (by decide) ?_
        refine go_icmp_ge hC (tgt := 107) dX11_often_98 (by decide) (fun hc => ?_) (fun hc => ?_)
        · have h := mt_ip h hc
          refine go_iload_n hC 2 dX11_often_107 rfl rfl ?_
          exact go_iret hC (mt_rei h hE) dX11_often_108
        · have h := mt_in' h hc
          refine go_aload_n hC 0 dX11_often_101 rfl rfl ?_
          refine go_iconst (v := 2) hC dX11_often_102 (by decide) ?_
          refine go_iload_n hC 1 dX11_often_103 rfl rfl ?_
          obtain ⟨S10, e10, h⟩ := mt_ob h
          refine go_callVv hC [.int 2, .int x1] [] (m_X11_bad e10) mt_cvX11_271 (k_X11_bad e10) dX11_often_104 rfl rfl (by decide) (Nat.le_of_ble_eq_true rfl) ⟨Nat.le_refl _, Nat.le_refl _⟩ ?_
          refine go_iload_n hC 2 dX11_often_107 rfl rfl ?_
          exact go_iret hC (mt_rei h hE) dX11_often_108
    · have h := mt_in' h hc
      refine go_aload_n hC 0 dX11_often_30 rfl rfl ?_
      obtain ⟨v11, e11, h⟩ := mt_ob h
      refine go_getR hC mt_flX11_7 e11 dX11_often_31 ?_
      refine go_aload_n hC 0 dX11_often_34 rfl rfl ?_
      obtain ⟨v12, e12, h⟩ := mt_ob h
      refine go_getI hC mt_flX11_253 e12 dX11_often_35 ?_
      obtain ⟨v13, e13, h⟩ := mt_ob h
      refine go_iald hC e13 dX11_often_38 ?_
      obtain ⟨v15, S14, e15, h⟩ := mt_ob2 h
      refine go_callSi hC [.int v13] [] (m_X11_isDigit e15) mt_csX11_268 dX11_often_39 rfl rfl (by decide) (Nat.le_of_ble_eq_true rfl) ⟨Nat.le_refl _, Nat.le_refl _⟩ ?_
      refine go_if_eq hC (tgt := 86) dX11_often_42 (by decide) (fun hc => ?_) (fun hc => ?_)
      · have h := mt_ip h hc
        refine go_aload_n hC 0 dX11_often_86 rfl rfl ?_
        obtain ⟨v16, e16, h⟩ := mt_ob h
        refine go_getI hC mt_flX11_253 e16 dX11_often_87 ?_
        refine go_iload_n hC 1 dX11_often_90 rfl rfl ?_
        refine go_isub hC dX11_often_91 ?_
        refine go_iconst (v := 2) hC dX11_often_92 (by decide) ?_
        refine go_icmp_gt hC (tgt := 101) dX11_often_93 (by decide) (fun hc => ?_) (fun hc => ?_)
        · have h := mt_ip h hc
          refine go_aload_n hC 0 dX11_often_101 rfl rfl ?_
          refine go_iconst (v := 2) hC dX11_often_102 (by decide) ?_
          refine go_iload_n hC 1 dX11_often_103 rfl rfl ?_
          obtain ⟨S17, e17, h⟩ := mt_ob h
          refine go_callVv hC [.int 2, .int x1] [] (m_X11_bad e17) mt_cvX11_271 (k_X11_bad e17) dX11_often_104 rfl rfl (by decide) (Nat.le_of_ble_eq_true rfl) ⟨Nat.le_refl _, Nat.le_refl _⟩ ?_
          refine go_iload_n hC 2 dX11_often_107 rfl rfl ?_
          exact go_iret hC (mt_rei h hE) dX11_often_108
        · have h := mt_in' h hc
          refine go_iload_n hC 2 dX11_often_96 rfl rfl ?_
          refine go_iconst (v := 1) hC dX11_often_97 (by decide) ?_
          refine go_icmp_ge hC (tgt := 107) dX11_often_98 (by decide) (fun hc => ?_) (fun hc => ?_)
          · have h := mt_ip h hc
            refine go_iload_n hC 2 dX11_often_107 rfl rfl ?_
            exact go_iret hC (mt_rei h hE) dX11_often_108
          · have h := mt_in' h hc
            refine go_aload_n hC 0 dX11_often_101 rfl rfl ?_
            refine go_iconst (v := 2) hC dX11_often_102 (by decide) ?_
            refine go_iload_n hC 1 dX11_often_103 rfl rfl ?_
            obtain ⟨S18, e18, h⟩ := mt_ob h
            refine go_callVv hC [.int 2, .int x1] [] (m_X11_bad e18) mt_cvX11_271 (k_X11_bad e18) dX11_often_104 rfl rfl (by decide) (Nat.le_of_ble_eq_true rfl) ⟨Nat.le_refl _, Nat.le_refl _⟩ ?_
            refine go_iload_n hC 2 dX11_often_107 rfl rfl ?_
            exact go_iret hC (mt_rei h hE) dX11_often_108
      · have h := mt_in' h hc
        refine go_aload_n hC 0 dX11_often_45 rfl rfl ?_
        obtain ⟨v19, e19, h⟩ := mt_ob h
        refine go_getI hC mt_flX11_253 e19 dX11_often_46 ?_
        refine go_iload_n hC 1 dX11_often_49 rfl rfl ?_
        refine go_isub hC dX11_often_50 ?_
        refine go_iconst (v := 2) hC dX11_often_51 (by decide) ?_
        refine go_icmp_ge hC (tgt := 73) dX11_often_52 (by decide) (fun hc => ?_) (fun hc => ?_)
        · have h := mt_ip h hc
          refine go_aload_n hC 0 dX11_often_73 rfl rfl ?_
          refine go_dup hC dX11_often_74 rfl ?_
          obtain ⟨v20, e20, h⟩ := mt_ob h
          refine go_getI hC mt_flX11_253 e20 dX11_often_75 ?_
          refine go_iconst (v := 1) hC dX11_often_78 (by decide) ?_
          refine go_iadd hC dX11_often_79 ?_
          obtain ⟨S21, e21, h⟩ := mt_ob h
          refine go_putI hC mt_flX11_253 e21 dX11_often_80 ?_
          refine go_goto hC (tgt := 19) dX11_often_83 (by decide) ?_
          exact ih _ _ _ _ h
        · have h := mt_in' h hc
          refine go_bipush (v := 10) hC dX11_often_55 (by decide) ?_
          refine go_iload_n hC 2 dX11_often_57 rfl rfl ?_
          refine go_imul hC dX11_often_58 ?_
          refine go_aload_n hC 0 dX11_often_59 rfl rfl ?_
          obtain ⟨v22, e22, h⟩ := mt_ob h
          refine go_getR hC mt_flX11_7 e22 dX11_often_60 ?_
          refine go_aload_n hC 0 dX11_often_63 rfl rfl ?_
          obtain ⟨v23, e23, h⟩ := mt_ob h
          refine go_getI hC mt_flX11_253 e23 dX11_often_64 ?_
          obtain ⟨v24, e24, h⟩ := mt_ob h
          refine go_iald hC e24 dX11_often_67 ?_
          refine go_iadd hC dX11_often_68 ?_
          refine go_bipush (v := 48) hC dX11_often_69 (by decide) ?_
          refine go_isub hC dX11_often_71 ?_
          refine go_istore_n hC [1, 2, 0] (lv1 := [(0, mt_rf B x0), (1, .int x1), (2, .int (((10 * x2) + v24) - 48))]) dX11_often_72 rfl (by decide) rfl ?_
          refine go_aload_n hC 0 dX11_often_73 rfl rfl ?_
          refine go_dup hC dX11_often_74 rfl ?_
          obtain ⟨v25, e25, h⟩ := mt_ob h
          refine go_getI hC mt_flX11_253 e25 dX11_often_75 ?_
          refine go_iconst (v := 1) hC dX11_often_78 (by decide) ?_
          refine go_iadd hC dX11_often_79 ?_
          obtain ⟨S26, e26, h⟩ := mt_ob h
          refine go_putI hC mt_flX11_253 e26 dX11_often_80 ?_
          refine go_goto hC (tgt := 19) dX11_often_83 (by decide) ?_
          exact ih _ _ _ _ h
set_option maxHeartbeats 4000000 in
set_option maxRecDepth 100000 in
theorem ov_X11_often_L19 {T : mt_S} {r : Int32} {S' : mt_S} : ∀ (n : Nat) (x0 : Nat) (x1 : Int32) (x2 : Int32) (S : mt_S), mt_cp S T → f_X11_often_L19 n x0 x1 x2 S = some (r, S') → f_X11_often_L19 n x0 x1 x2 (mt_ov S T) = some (r, mt_ov S' T) ∧ mt_cp S' T := by
  intro n
  induction n with
  | zero =>
    intro x0 x1 x2 S hp h
    cases h
  | succ n ih =>
    intro x0 x1 x2 S hp h
    have h : f_X11_often_L19s (f_X11_often_L19 n) x0 x1 x2 S = some (r, S') := h
    show f_X11_often_L19s (f_X11_often_L19 n) x0 x1 x2 (mt_ov S T) = some (r, mt_ov S' T) ∧ mt_cp S' T
    unfold f_X11_often_L19s at h ⊢
    obtain ⟨v6, e6, h⟩ := mt_ob h
    refine ov_b (ov_rI hp e6) ?_
    obtain ⟨v7, e7, h⟩ := mt_ob h
    refine ov_b (ov_rI hp e7) ?_
    by_cases hc : v7 ≤ v6
    · have h := mt_ip h hc
      refine ov_t hc ?_
      obtain ⟨v8, e8, h⟩ := mt_ob h
      refine ov_b (ov_rI hp e8) ?_
      by_cases hc : 2 < (v8 - x1)
      · have h := mt_ip h hc
        refine ov_t hc ?_
        obtain ⟨S9, e9, h⟩ := mt_ob h
        obtain ⟨o_, hp⟩ := ov_X11_bad hp e9
        refine ov_b o_ ?_
        exact ov_ret hp h
      · have h := mt_in' h hc
        refine ov_f hc ?_
        by_cases hc : 1 ≤ x2
        · have h := mt_ip h hc
          refine ov_t hc ?_
          exact ov_ret hp h
        · have h := mt_in' h hc
          refine ov_f hc ?_
          obtain ⟨S10, e10, h⟩ := mt_ob h
          obtain ⟨o_, hp⟩ := ov_X11_bad hp e10
          refine ov_b o_ ?_
          exact ov_ret hp h
    · have h := mt_in' h hc
      refine ov_f hc ?_
      obtain ⟨v11, e11, h⟩ := mt_ob h
      refine ov_b (ov_rR hp e11) ?_
      obtain ⟨v12, e12, h⟩ := mt_ob h
      refine ov_b (ov_rI hp e12) ?_
      obtain ⟨v13, e13, h⟩ := mt_ob h
      refine ov_b (ov_aI hp e13) ?_
      obtain ⟨v15, S14, e15, h⟩ := mt_ob2 h
      obtain ⟨o_, hp⟩ := ov_X11_isDigit hp e15
      refine ov_b2 o_ ?_
      by_cases hc : v15 = 0
      · have h := mt_ip h hc
        refine ov_t hc ?_
        obtain ⟨v16, e16, h⟩ := mt_ob h
        refine ov_b (ov_rI hp e16) ?_
        by_cases hc : 2 < (v16 - x1)
        · have h := mt_ip h hc
          refine ov_t hc ?_
          obtain ⟨S17, e17, h⟩ := mt_ob h
          obtain ⟨o_, hp⟩ := ov_X11_bad hp e17
          refine ov_b o_ ?_
          exact ov_ret hp h
        · have h := mt_in' h hc
          refine ov_f hc ?_
          by_cases hc : 1 ≤ x2
          · have h := mt_ip h hc
            refine ov_t hc ?_
            exact ov_ret hp h
          · have h := mt_in' h hc
            refine ov_f hc ?_
            obtain ⟨S18, e18, h⟩ := mt_ob h
            obtain ⟨o_, hp⟩ := ov_X11_bad hp e18
            refine ov_b o_ ?_
            exact ov_ret hp h
      · have h := mt_in' h hc
        refine ov_f hc ?_
        obtain ⟨v19, e19, h⟩ := mt_ob h
        refine ov_b (ov_rI hp e19) ?_
        by_cases hc : 2 ≤ (v19 - x1)
        · have h := mt_ip h hc
          refine ov_t hc ?_
          obtain ⟨v20, e20, h⟩ := mt_ob h
          refine ov_b (ov_rI hp e20) ?_
          obtain ⟨S21, e21, h⟩ := mt_ob h
          obtain ⟨o_, hp⟩ := ov_wI hp e21
          refine ov_b o_ ?_
          exact ih _ _ _ _ hp h
        · have h := mt_in' h hc
          refine ov_f hc ?_
          obtain ⟨v22, e22, h⟩ := mt_ob h
          refine ov_b (ov_rR hp e22) ?_
          obtain ⟨v23, e23, h⟩ := mt_ob h
          refine ov_b (ov_rI hp e23) ?_
          obtain ⟨v24, e24, h⟩ := mt_ob h
          refine ov_b (ov_aI hp e24) ?_
          obtain ⟨v25, e25, h⟩ := mt_ob h
          refine ov_b (ov_rI hp e25) ?_
          obtain ⟨S26, e26, h⟩ := mt_ob h
          obtain ⟨o_, hp⟩ := ov_wI hp e26
          refine ov_b o_ ?_
          exact ih _ _ _ _ hp h
def f_X11_often (x0 : Nat) (S : mt_S) : Option (Int32 × mt_S) :=
  if mt_isK S x0 11 = true then
   mt_b2 (f_X11_here x0 S) fun v2 S1 =>
   mt_b2 (f_X11_isDigit v2 S1) fun v4 S3 =>
   if v4 = 0 then
    some (1, S3)
   else
    Option.bind (mt_rI S3 x0 11 32) fun v5 =>
    f_X11_often_L19 1000 x0 v5 0 S3
  else none
theorem k_X11_often {x0 : Nat} {S : mt_S} {r : Int32} {S' : mt_S} (h : f_X11_often x0 S = some (r, S')) : mt_isK S x0 11 = true := by
  unfold f_X11_often at h
  exact (mt_gd h).1
set_option maxHeartbeats 4000000 in
set_option maxRecDepth 100000 in
theorem m_X11_often {B : mt_B}  {x0 : Nat} {S : mt_S} {r : Int32} {S' : mt_S} (h : f_X11_often x0 S = some (r, S')) : mt_M B yX11_often cX11_often 3 (some .int) 2 [mt_rf B x0] S (some (.int r)) S' := by
  unfold f_X11_often at h
  refine mt_M.of (by decide) (Nat.le_of_ble_eq_true rfl) (fun E hC hE => ?_)
  obtain ⟨hk0, h⟩ := mt_gd h
  refine go_aload_n hC 0 dX11_often_0 rfl rfl ?_
  obtain ⟨v2, S1, e2, h⟩ := mt_ob2 h
  refine go_callVi hC [] [] (m_X11_here e2) mt_cvX11_265 (k_X11_here e2) dX11_often_1 rfl rfl (by decide) (Nat.le_of_ble_eq_true rfl) ⟨Nat.le_refl _, Nat.le_refl _⟩ ?_
  obtain ⟨v4, S3, e4, h⟩ := mt_ob2 h
  refine go_callSi hC [.int v2] [] (m_X11_isDigit e4) mt_csX11_268 dX11_often_4 rfl rfl (by decide) (Nat.le_of_ble_eq_true rfl) ⟨Nat.le_refl _, Nat.le_refl _⟩ ?_
  refine go_if_ne hC (tgt := 12) dX11_often_7 (by decide) (fun hc => ?_) (fun hc => ?_)
  · have h := mt_in' h hc
    refine go_aload_n hC 0 dX11_often_12 rfl rfl ?_
    obtain ⟨v5, e5, h⟩ := mt_ob h
    refine go_getI hC mt_flX11_253 e5 dX11_often_13 ?_
    refine go_istore_n hC [1, 0] (lv1 := [(0, mt_rf B x0), (1, .int v5)]) dX11_often_16 rfl (by decide) rfl ?_
    refine go_iconst (v := 0) hC dX11_often_17 (by decide) ?_
    refine go_istore_n hC [1, 2, 0] (lv1 := [(0, mt_rf B x0), (1, .int v5), (2, .int 0)]) dX11_often_18 rfl (by decide) rfl ?_
    exact m_X11_often_L19 hC hE 1000 _ _ _ _ h
  · have h := mt_ip h hc
    refine go_iconst (v := 1) hC dX11_often_10 (by decide) ?_
    exact go_iret hC (mt_rei h hE) dX11_often_11
set_option maxHeartbeats 4000000 in
set_option maxRecDepth 100000 in
theorem ov_X11_often {T : mt_S}  {x0 : Nat} {S : mt_S} {r : Int32} {S' : mt_S} (hp : mt_cp S T) (h : f_X11_often x0 S = some (r, S')) : f_X11_often x0 (mt_ov S T) = some (r, mt_ov S' T) ∧ mt_cp S' T := by
  unfold f_X11_often at h ⊢
  obtain ⟨hg, h⟩ := mt_gd h
  refine ov_t (ov_K hp hg) ?_
  obtain ⟨v2, S1, e2, h⟩ := mt_ob2 h
  obtain ⟨o_, hp⟩ := ov_X11_here hp e2
  refine ov_b2 o_ ?_
  obtain ⟨v4, S3, e4, h⟩ := mt_ob2 h
  obtain ⟨o_, hp⟩ := ov_X11_isDigit hp e4
  refine ov_b2 o_ ?_
  by_cases hc : v4 = 0
  · have h := mt_ip h hc
    refine ov_t hc ?_
    exact ov_ret hp h
  · have h := mt_in' h hc
    refine ov_f hc ?_
    obtain ⟨v5, e5, h⟩ := mt_ob h
    refine ov_b (ov_rI hp e5) ?_
    exact ov_X11_often_L19 1000 _ _ _ _ hp h
def f_X11_skips_L2s (rc : Nat → Int32 → mt_S → Option (mt_S)) (x0 : Nat) (x1 : Int32) (S : mt_S) : Option (mt_S) :=
  if x1 ≤ 0 then
   some S
  else
   Option.bind (mt_rR S x0 11 1) fun v1 =>
   Option.bind (mt_rI S x0 11 32) fun v2 =>
   Option.bind (mt_aI S v1 13 v2) fun v3 =>
   if v3 = 91 then
    Option.bind (mt_rR S x0 11 1) fun v11 =>
    Option.bind (mt_rI S x0 11 32) fun v12 =>
    Option.bind (mt_aI S v11 13 v12) fun v13 =>
    if v13 = 93 then
     Option.bind (mt_rI S x0 11 32) fun v16 =>
     Option.bind (mt_wI S x0 11 32 (v16 + 1)) fun S17 =>
     rc x0 (x1 + 1 + (-1)) S17
    else
     Option.bind (mt_rI S x0 11 32) fun v14 =>
     Option.bind (mt_wI S x0 11 32 (v14 + 1)) fun S15 =>
     rc x0 (x1 + 1) S15
   else
    Option.bind (mt_rR S x0 11 1) fun v4 =>
    Option.bind (mt_rI S x0 11 32) fun v5 =>
    Option.bind (mt_aI S v4 13 v5) fun v6 =>
    if v6 = 93 then
     Option.bind (mt_rI S x0 11 32) fun v9 =>
     Option.bind (mt_wI S x0 11 32 (v9 + 1)) fun S10 =>
     rc x0 (x1 + (-1)) S10
    else
     Option.bind (mt_rI S x0 11 32) fun v7 =>
     Option.bind (mt_wI S x0 11 32 (v7 + 1)) fun S8 =>
     rc x0 x1 S8
def f_X11_skips_L2 : Nat → Nat → Int32 → mt_S → Option (mt_S)
  | 0 => fun _ _ _ => none
  | n + 1 => f_X11_skips_L2s (f_X11_skips_L2 n)
set_option maxHeartbeats 4000000 in
set_option maxRecDepth 100000 in
theorem m_X11_skips_L2 {B : mt_B} {E : mt_E} {S' : mt_S} (hC : mt_Cx B E cX11_skips RX11 none 2 1 0 0) (hE : mt_End B E (0, 0) none S') : ∀ (n : Nat) (x0 : Nat) (x1 : Int32) (S : mt_S), f_X11_skips_L2 n x0 x1 S = some S' → mt_Go B E (0, 0) S 2 [(0, mt_rf B x0), (1, .int x1)] [] := by
  intro n
  induction n with
  | zero =>
    intro x0 x1 S h
    cases h
  | succ n ih =>
    intro x0 x1 S h
    have h : f_X11_skips_L2s (f_X11_skips_L2 n) x0 x1 S = some S' := h
    unfold f_X11_skips_L2s at h
    refine go_iload_n hC 1 dX11_skips_2 rfl rfl ?_
    refine go_if_le hC (tgt := 53) dX11_skips_3 (by decide) (fun hc => ?_) (fun hc => ?_)
    · have h := mt_ip h hc
      exact go_vret hC (mt_rev h hE) dX11_skips_53
    · have h := mt_in' h hc
      refine go_aload_n hC 0 dX11_skips_6 rfl rfl ?_
      obtain ⟨v1, e1, h⟩ := mt_ob h
      refine go_getR hC mt_flX11_7 e1 dX11_skips_7 ?_
      refine go_aload_n hC 0 dX11_skips_10 rfl rfl ?_
      obtain ⟨v2, e2, h⟩ := mt_ob h
      refine go_getI hC mt_flX11_253 e2 dX11_skips_11 ?_
      obtain ⟨v3, e3, h⟩ := mt_ob h
      refine go_iald hC e3 dX11_skips_14 ?_
      refine go_bipush (v := 91) hC dX11_skips_15 (by decide) ?_
      refine go_icmp_ne hC (tgt := 23) dX11_skips_17 (by decide) (fun hc => ?_) (fun hc => ?_)
      · have h := mt_in' h hc
        refine go_aload_n hC 0 dX11_skips_23 rfl rfl ?_
        obtain ⟨v4, e4, h⟩ := mt_ob h
        refine go_getR hC mt_flX11_7 e4 dX11_skips_24 ?_
        refine go_aload_n hC 0 dX11_skips_27 rfl rfl ?_
        obtain ⟨v5, e5, h⟩ := mt_ob h
        refine go_getI hC mt_flX11_253 e5 dX11_skips_28 ?_
        obtain ⟨v6, e6, h⟩ := mt_ob h
        refine go_iald hC e6 dX11_skips_31 ?_
        refine go_bipush (v := 93) hC dX11_skips_32 (by decide) ?_
        refine go_icmp_ne hC (tgt := 40) dX11_skips_34 (by decide) (fun hc => ?_) (fun hc => ?_)
        · have h := mt_in' h hc
          refine go_aload_n hC 0 dX11_skips_40 rfl rfl ?_
          refine go_dup hC dX11_skips_41 rfl ?_
          obtain ⟨v7, e7, h⟩ := mt_ob h
          refine go_getI hC mt_flX11_253 e7 dX11_skips_42 ?_
          refine go_iconst (v := 1) hC dX11_skips_45 (by decide) ?_
          refine go_iadd hC dX11_skips_46 ?_
          obtain ⟨S8, e8, h⟩ := mt_ob h
          refine go_putI hC mt_flX11_253 e8 dX11_skips_47 ?_
          refine go_goto hC (tgt := 2) dX11_skips_50 (by decide) ?_
          exact ih _ _ _ h
        · have h := mt_ip h hc
          refine go_iinc hC 1 [1, 0] (v := x1 + (-1)) (lv1 := [(0, mt_rf B x0), (1, .int (x1 + (-1)))]) dX11_skips_37 rfl rfl (by decide) rfl ?_
          refine go_aload_n hC 0 dX11_skips_40 rfl rfl ?_
          refine go_dup hC dX11_skips_41 rfl ?_
          obtain ⟨v9, e9, h⟩ := mt_ob h
          refine go_getI hC mt_flX11_253 e9 dX11_skips_42 ?_
          refine go_iconst (v := 1) hC dX11_skips_45 (by decide) ?_
          refine go_iadd hC dX11_skips_46 ?_
          obtain ⟨S10, e10, h⟩ := mt_ob h
          refine go_putI hC mt_flX11_253 e10 dX11_skips_47 ?_
          refine go_goto hC (tgt := 2) dX11_skips_50 (by decide) ?_
          exact ih _ _ _ h
      · have h := mt_ip h hc
        refine go_iinc hC 1 [1, 0] (v := x1 + 1) (lv1 := [(0, mt_rf B x0), (1, .int (x1 + 1))]) dX11_skips_20 rfl rfl (by decide) rfl ?_
        refine go_aload_n hC 0 dX11_skips_23 rfl rfl ?_
        obtain ⟨v11, e11, h⟩ := mt_ob h
        refine go_getR hC mt_flX11_7 e11 dX11_skips_24 ?_
        refine go_aload_n hC 0 dX11_skips_27 rfl rfl ?_
        obtain ⟨v12, e12, h⟩ := mt_ob h
        refine go_getI hC mt_flX11_253 e12 dX11_skips_28 ?_
        obtain ⟨v13, e13, h⟩ := mt_ob h
        refine go_iald hC e13 dX11_skips_31 ?_
        refine go_bipush (v := 93) hC dX11_skips_32 (by decide) ?_
        refine go_icmp_ne hC (tgt := 40) dX11_skips_34 (by decide) (fun hc => ?_) (fun hc => ?_)
        · have h := mt_in' h hc
          refine go_aload_n hC 0 dX11_skips_40 rfl rfl ?_
          refine go_dup hC dX11_skips_41 rfl ?_
          obtain ⟨v14, e14, h⟩ := mt_ob h
          refine go_getI hC mt_flX11_253 e14 dX11_skips_42 ?_
          refine go_iconst (v := 1) hC dX11_skips_45 (by decide) ?_
          refine go_iadd hC dX11_skips_46 ?_
          obtain ⟨S15, e15, h⟩ := mt_ob h
          refine go_putI hC mt_flX11_253 e15 dX11_skips_47 ?_
          refine go_goto hC (tgt := 2) dX11_skips_50 (by decide) ?_
          exact ih _ _ _ h
        · have h := mt_ip h hc
          refine go_iinc hC 1 [1, 0] (v := x1 + 1 + (-1)) (lv1 := [(0, mt_rf B x0), (1, .int (x1 + 1 + (-1)))]) dX11_skips_37 rfl rfl (by decide) rfl ?_
          refine go_aload_n hC 0 dX11_skips_40 rfl rfl ?_
          refine go_dup hC dX11_skips_41 rfl ?_
          obtain ⟨v16, e16, h⟩ := mt_ob h
          refine go_getI hC mt_flX11_253 e16 dX11_skips_42 ?_
          refine go_iconst (v := 1) hC dX11_skips_45 (by decide) ?_
          refine go_iadd hC dX11_skips_46 ?_
          obtain ⟨S17, e17, h⟩ := mt_ob h
          refine go_putI hC mt_flX11_253 e17 dX11_skips_47 ?_
          refine go_goto hC (tgt := 2) dX11_skips_50 (by decide) ?_
          exact ih _ _ _ h
set_option maxHeartbeats 4000000 in
set_option maxRecDepth 100000 in
theorem ov_X11_skips_L2 {T : mt_S} {S' : mt_S} : ∀ (n : Nat) (x0 : Nat) (x1 : Int32) (S : mt_S), mt_cp S T → f_X11_skips_L2 n x0 x1 S = some S' → f_X11_skips_L2 n x0 x1 (mt_ov S T) = some (mt_ov S' T) ∧ mt_cp S' T := by
  intro n
  induction n with
  | zero =>
    intro x0 x1 S hp h
    cases h
  | succ n ih =>
    intro x0 x1 S hp h
    have h : f_X11_skips_L2s (f_X11_skips_L2 n) x0 x1 S = some S' := h
    show f_X11_skips_L2s (f_X11_skips_L2 n) x0 x1 (mt_ov S T) = some (mt_ov S' T) ∧ mt_cp S' T
    unfold f_X11_skips_L2s at h ⊢
    by_cases hc : x1 ≤ 0
    · have h := mt_ip h hc
      refine ov_t hc ?_
      exact ov_retv hp h
    · have h := mt_in' h hc
      refine ov_f hc ?_
      obtain ⟨v1, e1, h⟩ := mt_ob h
      refine ov_b (ov_rR hp e1) ?_
      obtain ⟨v2, e2, h⟩ := mt_ob h
      refine ov_b (ov_rI hp e2) ?_
      obtain ⟨v3, e3, h⟩ := mt_ob h
      refine ov_b (ov_aI hp e3) ?_
      by_cases hc : v3 = 91
      · have h := mt_ip h hc
        refine ov_t hc ?_
        obtain ⟨v11, e11, h⟩ := mt_ob h
        refine ov_b (ov_rR hp e11) ?_
        obtain ⟨v12, e12, h⟩ := mt_ob h
        refine ov_b (ov_rI hp e12) ?_
        obtain ⟨v13, e13, h⟩ := mt_ob h
        refine ov_b (ov_aI hp e13) ?_
        by_cases hc : v13 = 93
        · have h := mt_ip h hc
          refine ov_t hc ?_
          obtain ⟨v16, e16, h⟩ := mt_ob h
          refine ov_b (ov_rI hp e16) ?_
          obtain ⟨S17, e17, h⟩ := mt_ob h
          obtain ⟨o_, hp⟩ := ov_wI hp e17
          refine ov_b o_ ?_
          exact ih _ _ _ hp h
        · have h := mt_in' h hc
          refine ov_f hc ?_
          obtain ⟨v14, e14, h⟩ := mt_ob h
          refine ov_b (ov_rI hp e14) ?_
          obtain ⟨S15, e15, h⟩ := mt_ob h
          obtain ⟨o_, hp⟩ := ov_wI hp e15
          refine ov_b o_ ?_
          exact ih _ _ _ hp h
      · have h := mt_in' h hc
        refine ov_f hc ?_
        obtain ⟨v4, e4, h⟩ := mt_ob h
        refine ov_b (ov_rR hp e4) ?_
        obtain ⟨v5, e5, h⟩ := mt_ob h
        refine ov_b (ov_rI hp e5) ?_
        obtain ⟨v6, e6, h⟩ := mt_ob h
        refine ov_b (ov_aI hp e6) ?_
        by_cases hc : v6 = 93
        · have h := mt_ip h hc
          refine ov_t hc ?_
          obtain ⟨v9, e9, h⟩ := mt_ob h
          refine ov_b (ov_rI hp e9) ?_
          obtain ⟨S10, e10, h⟩ := mt_ob h
          obtain ⟨o_, hp⟩ := ov_wI hp e10
          refine ov_b o_ ?_
          exact ih _ _ _ hp h
        · have h := mt_in' h hc
          refine ov_f hc ?_
          obtain ⟨v7, e7, h⟩ := mt_ob h
          refine ov_b (ov_rI hp e7) ?_
          obtain ⟨S8, e8, h⟩ := mt_ob h
          obtain ⟨o_, hp⟩ := ov_wI hp e8
          refine ov_b o_ ?_
          exact ih _ _ _ hp h
def f_X11_skips (x0 : Nat) (S : mt_S) : Option (mt_S) :=
  if mt_isK S x0 11 = true then
   f_X11_skips_L2 1000 x0 1 S
  else none
theorem k_X11_skips {x0 : Nat} {S : mt_S} {S' : mt_S} (h : f_X11_skips x0 S = some S') : mt_isK S x0 11 = true := by
  unfold f_X11_skips at h
  exact (mt_gd h).1
set_option maxHeartbeats 4000000 in
set_option maxRecDepth 100000 in
theorem m_X11_skips {B : mt_B}  {x0 : Nat} {S : mt_S} {S' : mt_S} (h : f_X11_skips x0 S = some S') : mt_M B yX11_skips cX11_skips 2 none 1 [mt_rf B x0] S none S' := by
  unfold f_X11_skips at h
  refine mt_M.of (by decide) (Nat.le_of_ble_eq_true rfl) (fun E hC hE => ?_)
  obtain ⟨hk0, h⟩ := mt_gd h
  refine go_iconst (v := 1) hC dX11_skips_0 (by decide) ?_
  refine go_istore_n hC [1, 0] (lv1 := [(0, mt_rf B x0), (1, .int 1)]) dX11_skips_1 rfl (by decide) rfl ?_
  exact m_X11_skips_L2 hC hE 1000 _ _ _ h
set_option maxHeartbeats 4000000 in
set_option maxRecDepth 100000 in
theorem ov_X11_skips {T : mt_S}  {x0 : Nat} {S : mt_S} {S' : mt_S} (hp : mt_cp S T) (h : f_X11_skips x0 S = some S') : f_X11_skips x0 (mt_ov S T) = some (mt_ov S' T) ∧ mt_cp S' T := by
  unfold f_X11_skips at h ⊢
  obtain ⟨hg, h⟩ := mt_gd h
  refine ov_t (ov_K hp hg) ?_
  exact ov_X11_skips_L2 1000 _ _ _ hp h
def f_X11_does_L2s (rc : Nat → Int32 → Int32 → Int32 → mt_S → Option (mt_S)) (x0 : Nat) (x1 : Int32) (x2 : Int32) (x3 : Int32) (S : mt_S) : Option (mt_S) :=
  if x2 ≤ x3 then
   some S
  else
   Option.bind (mt_rI S x0 11 37) fun v1 =>
   if v1 = 0 then
    Option.bind (mt_rI S x0 11 36) fun v2 =>
    if v2 = 500 then
     Option.bind (mt_wI S x0 11 37 1) fun S3 =>
     rc x0 x1 x2 (x3 + 1) S3
    else
     mt_b2 (f_X11_steps x0 x1 S) fun v5 S4 =>
     if v5 = 0 then
      Option.bind (mt_wI S4 x0 11 37 1) fun S8 =>
      rc x0 x1 x2 (x3 + 1) S8
     else
      Option.bind (mt_rI S4 x0 11 36) fun v6 =>
      Option.bind (mt_wI S4 x0 11 36 (v6 + 1)) fun S7 =>
      rc x0 x1 x2 (x3 + 1) S7
   else
    some S
def f_X11_does_L2 : Nat → Nat → Int32 → Int32 → Int32 → mt_S → Option (mt_S)
  | 0 => fun _ _ _ _ _ => none
  | n + 1 => f_X11_does_L2s (f_X11_does_L2 n)
set_option maxHeartbeats 4000000 in
set_option maxRecDepth 100000 in
theorem m_X11_does_L2 {B : mt_B} {E : mt_E} {S' : mt_S} (hC : mt_Cx B E cX11_does RX11 none 4 4 0 0) (hE : mt_End B E (0, 0) none S') : ∀ (n : Nat) (x0 : Nat) (x1 : Int32) (x2 : Int32) (x3 : Int32) (S : mt_S), f_X11_does_L2 n x0 x1 x2 x3 S = some S' → mt_Go B E (0, 0) S 2 [(0, mt_rf B x0), (1, .int x1), (2, .int x2), (3, .int x3)] [] := by
  intro n
  induction n with
  | zero =>
    intro x0 x1 x2 x3 S h
    cases h
  | succ n ih =>
    intro x0 x1 x2 x3 S h
    have h : f_X11_does_L2s (f_X11_does_L2 n) x0 x1 x2 x3 S = some S' := h
    unfold f_X11_does_L2s at h
    refine go_iload_n hC 3 dX11_does_2 rfl rfl ?_
    refine go_iload_n hC 2 dX11_does_3 rfl rfl ?_
    refine go_icmp_ge hC (tgt := 56) dX11_does_4 (by decide) (fun hc => ?_) (fun hc => ?_)
    · have h := mt_ip h hc
      exact go_vret hC (mt_rev h hE) dX11_does_56
    · have h := mt_in' h hc
      refine go_aload_n hC 0 dX11_does_7 rfl rfl ?_
      obtain ⟨v1, e1, h⟩ := mt_ob h
      refine go_getI hC mt_flX11_287 e1 dX11_does_8 ?_
      refine go_if_ne hC (tgt := 56) dX11_does_11 (by decide) (fun hc => ?_) (fun hc => ?_)
      · have h := mt_in' h hc
        exact go_vret hC (mt_rev h hE) dX11_does_56
      · have h := mt_ip h hc
        refine go_aload_n hC 0 dX11_does_14 rfl rfl ?_
        obtain ⟨v2, e2, h⟩ := mt_ob h
        refine go_getI hC mt_flX11_291 e2 dX11_does_15 ?_
        refine go_sipush (v := 500) hC dX11_does_18 (by decide) ?_
        refine go_icmp_eq hC (tgt := 32) dX11_does_21 (by decide) (fun hc => ?_) (fun hc => ?_)
        · have h := mt_ip h hc
          refine go_aload_n hC 0 dX11_does_32 rfl rfl ?_
          refine go_iconst (v := 1) hC dX11_does_33 (by decide) ?_
          obtain ⟨S3, e3, h⟩ := mt_ob h
          refine go_putZ hC mt_flX11_287 e3 (Or.inr rfl) dX11_does_34 ?_
          refine go_goto hC (tgt := 50) dX11_does_37 (by decide) ?_
          refine go_iinc hC 3 [1, 2, 3, 0] (v := x3 + 1) (lv1 := [(0, mt_rf B x0), (1, .int x1), (2, .int x2), (3, .int (x3 + 1))]) dX11_does_50 rfl rfl (by decide) rfl ?_
          refine go_goto hC (tgt := 2) dX11_does_53 (by decide) ?_
          exact ih _ _ _ _ _ h
        · have h := mt_in' h hc
          refine go_aload_n hC 0 dX11_does_24 rfl rfl ?_
          refine go_iload_n hC 1 dX11_does_25 rfl rfl ?_
          obtain ⟨v5, S4, e5, h⟩ := mt_ob2 h
          refine go_callVi hC [.int x1] [] (m_X11_steps e5) mt_cvX11_101 (k_X11_steps e5) dX11_does_26 rfl rfl (by decide) (Nat.le_of_ble_eq_true rfl) ⟨Nat.le_refl _, Nat.le_refl _⟩ ?_
          refine go_if_ne hC (tgt := 40) dX11_does_29 (by decide) (fun hc => ?_) (fun hc => ?_)
          · have h := mt_in' h hc
            refine go_aload_n hC 0 dX11_does_40 rfl rfl ?_
            refine go_dup hC dX11_does_41 rfl ?_
            obtain ⟨v6, e6, h⟩ := mt_ob h
            refine go_getI hC mt_flX11_291 e6 dX11_does_42 ?_
            refine go_iconst (v := 1) hC dX11_does_45 (by decide) ?_
            refine go_iadd hC dX11_does_46 ?_
            obtain ⟨S7, e7, h⟩ := mt_ob h
            refine go_putI hC mt_flX11_291 e7 dX11_does_47 ?_
            refine go_iinc hC 3 [1, 2, 3, 0] (v := x3 + 1) (lv1 := [(0, mt_rf B x0), (1, .int x1), (2, .int x2), (3, .int (x3 + 1))]) dX11_does_50 rfl rfl (by decide) rfl ?_
            refine go_goto hC (tgt := 2) dX11_does_53 (by decide) ?_
            exact ih _ _ _ _ _ h
          · have h := mt_ip h hc
            refine go_aload_n hC 0 dX11_does_32 rfl rfl ?_
            refine go_iconst (v := 1) hC dX11_does_33 (by decide) ?_
            obtain ⟨S8, e8, h⟩ := mt_ob h
            refine go_putZ hC mt_flX11_287 e8 (Or.inr rfl) dX11_does_34 ?_
            refine go_goto hC (tgt := 50) dX11_does_37 (by decide) ?_
            refine go_iinc hC 3 [1, 2, 3, 0] (v := x3 + 1) (lv1 := [(0, mt_rf B x0), (1, .int x1), (2, .int x2), (3, .int (x3 + 1))]) dX11_does_50 rfl rfl (by decide) rfl ?_
            refine go_goto hC (tgt := 2) dX11_does_53 (by decide) ?_
            exact ih _ _ _ _ _ h
set_option maxHeartbeats 4000000 in
set_option maxRecDepth 100000 in
theorem ov_X11_does_L2 {T : mt_S} {S' : mt_S} : ∀ (n : Nat) (x0 : Nat) (x1 : Int32) (x2 : Int32) (x3 : Int32) (S : mt_S), mt_cp S T → f_X11_does_L2 n x0 x1 x2 x3 S = some S' → f_X11_does_L2 n x0 x1 x2 x3 (mt_ov S T) = some (mt_ov S' T) ∧ mt_cp S' T := by
  intro n
  induction n with
  | zero =>
    intro x0 x1 x2 x3 S hp h
    cases h
  | succ n ih =>
    intro x0 x1 x2 x3 S hp h
    have h : f_X11_does_L2s (f_X11_does_L2 n) x0 x1 x2 x3 S = some S' := h
    show f_X11_does_L2s (f_X11_does_L2 n) x0 x1 x2 x3 (mt_ov S T) = some (mt_ov S' T) ∧ mt_cp S' T
    unfold f_X11_does_L2s at h ⊢
    by_cases hc : x2 ≤ x3
    · have h := mt_ip h hc
      refine ov_t hc ?_
      exact ov_retv hp h
    · have h := mt_in' h hc
      refine ov_f hc ?_
      obtain ⟨v1, e1, h⟩ := mt_ob h
      refine ov_b (ov_rI hp e1) ?_
      by_cases hc : v1 = 0
      · have h := mt_ip h hc
        refine ov_t hc ?_
        obtain ⟨v2, e2, h⟩ := mt_ob h
        refine ov_b (ov_rI hp e2) ?_
        by_cases hc : v2 = 500
        · have h := mt_ip h hc
          refine ov_t hc ?_
          obtain ⟨S3, e3, h⟩ := mt_ob h
          obtain ⟨o_, hp⟩ := ov_wI hp e3
          refine ov_b o_ ?_
          exact ih _ _ _ _ _ hp h
        · have h := mt_in' h hc
          refine ov_f hc ?_
          obtain ⟨v5, S4, e5, h⟩ := mt_ob2 h
          obtain ⟨o_, hp⟩ := ov_X11_steps hp e5
          refine ov_b2 o_ ?_
          by_cases hc : v5 = 0
          · have h := mt_ip h hc
            refine ov_t hc ?_
            obtain ⟨S8, e8, h⟩ := mt_ob h
            obtain ⟨o_, hp⟩ := ov_wI hp e8
            refine ov_b o_ ?_
            exact ih _ _ _ _ _ hp h
          · have h := mt_in' h hc
            refine ov_f hc ?_
            obtain ⟨v6, e6, h⟩ := mt_ob h
            refine ov_b (ov_rI hp e6) ?_
            obtain ⟨S7, e7, h⟩ := mt_ob h
            obtain ⟨o_, hp⟩ := ov_wI hp e7
            refine ov_b o_ ?_
            exact ih _ _ _ _ _ hp h
      · have h := mt_in' h hc
        refine ov_f hc ?_
        exact ov_retv hp h
def f_X11_does (x0 : Nat) (x1 : Int32) (x2 : Int32) (S : mt_S) : Option (mt_S) :=
  if mt_isK S x0 11 = true then
   f_X11_does_L2 1000 x0 x1 x2 0 S
  else none
theorem k_X11_does {x0 : Nat} {x1 : Int32} {x2 : Int32} {S : mt_S} {S' : mt_S} (h : f_X11_does x0 x1 x2 S = some S') : mt_isK S x0 11 = true := by
  unfold f_X11_does at h
  exact (mt_gd h).1
set_option maxHeartbeats 4000000 in
set_option maxRecDepth 100000 in
theorem m_X11_does {B : mt_B}  {x0 : Nat} {x1 : Int32} {x2 : Int32} {S : mt_S} {S' : mt_S} (h : f_X11_does x0 x1 x2 S = some S') : mt_M B yX11_does cX11_does 4 none 4 [mt_rf B x0, .int x1, .int x2] S none S' := by
  unfold f_X11_does at h
  refine mt_M.of (by decide) (Nat.le_of_ble_eq_true rfl) (fun E hC hE => ?_)
  obtain ⟨hk0, h⟩ := mt_gd h
  refine go_iconst (v := 0) hC dX11_does_0 (by decide) ?_
  refine go_istore_n hC [1, 2, 3, 0] (lv1 := [(0, mt_rf B x0), (1, .int x1), (2, .int x2), (3, .int 0)]) dX11_does_1 rfl (by decide) rfl ?_
  exact m_X11_does_L2 hC hE 1000 _ _ _ _ _ h
set_option maxHeartbeats 4000000 in
set_option maxRecDepth 100000 in
theorem ov_X11_does {T : mt_S}  {x0 : Nat} {x1 : Int32} {x2 : Int32} {S : mt_S} {S' : mt_S} (hp : mt_cp S T) (h : f_X11_does x0 x1 x2 S = some S') : f_X11_does x0 x1 x2 (mt_ov S T) = some (mt_ov S' T) ∧ mt_cp S' T := by
  unfold f_X11_does at h ⊢
  obtain ⟨hg, h⟩ := mt_gd h
  refine ov_t (ov_K hp hg) ?_
  exact ov_X11_does_L2 1000 _ _ _ _ _ hp h
def f_X11_goes_L90s (rr : Nat → Int32 → mt_S → Option (mt_S)) (K120 : Nat → Int32 → Int32 → mt_S → Option (mt_S)) (rc : Nat → Int32 → Int32 → Int32 → Int32 → Int32 → mt_S → Option (mt_S)) (x0 : Nat) (x1 : Int32) (x3 : Int32) (x4 : Int32) (x5 : Int32) (x6 : Int32) (S : mt_S) : Option (mt_S) :=
  if x4 ≤ x6 then
   K120 x0 x1 x5 S
  else
   Option.bind (mt_rI S x0 11 37) fun v16 =>
   if v16 = 0 then
    Option.bind (mt_wI S x0 11 32 x3) fun S17 =>
    Option.bind (rr x0 1 S17) fun S18 =>
    rc x0 x1 x3 x4 x5 (x6 + 1) S18
   else
    K120 x0 x1 x5 S
def f_X11_goes_L90 (rr : Nat → Int32 → mt_S → Option (mt_S)) (K120 : Nat → Int32 → Int32 → mt_S → Option (mt_S)) : Nat → Nat → Int32 → Int32 → Int32 → Int32 → Int32 → mt_S → Option (mt_S)
  | 0 => fun _ _ _ _ _ _ _ => none
  | n + 1 => f_X11_goes_L90s rr K120 (f_X11_goes_L90 rr K120 n)
set_option maxHeartbeats 4000000 in
set_option maxRecDepth 100000 in
theorem m_X11_goes_L90 {B : mt_B} {E : mt_E} {S' : mt_S} {dr : Nat} (hC : mt_Cx B E cX11_goes RX11 none 7 (dr + 5) 0 0) (hE : mt_End B E (0, 0) none S') (rr : Nat → Int32 → mt_S → Option (mt_S)) (K120 : Nat → Int32 → Int32 → mt_S → Option (mt_S)) (hr : ∀ (x0 : Nat) (x1 : Int32) (S S' : mt_S), rr x0 x1 S = some S' → mt_M B yX11_goes cX11_goes 7 none dr [mt_rf B x0, .int x1] S none S') (hkr : ∀ (x0 : Nat) (x1 : Int32) (S S' : mt_S), rr x0 x1 S = some S' → mt_isK S x0 11 = true) (hK120 : ∀ (x0 : Nat) (x1 : Int32) (x5 : Int32) (S : mt_S), K120 x0 x1 x5 S = some S' → mt_Go B E (0, 0) S 120 [(0, mt_rf B x0), (1, .int x1), (5, .int x5)] []) : ∀ (n : Nat) (x0 : Nat) (x1 : Int32) (x3 : Int32) (x4 : Int32) (x5 : Int32) (x6 : Int32) (S : mt_S), f_X11_goes_L90 rr K120 n x0 x1 x3 x4 x5 x6 S = some S' → mt_Go B E (0, 0) S 90 [(0, mt_rf B x0), (1, .int x1), (3, .int x3), (4, .int x4), (5, .int x5), (6, .int x6)] [] := by
  intro n
  induction n with
  | zero =>
    intro x0 x1 x3 x4 x5 x6 S h
    cases h
  | succ n ih =>
    intro x0 x1 x3 x4 x5 x6 S h
    have h : f_X11_goes_L90s rr K120 (f_X11_goes_L90 rr K120 n) x0 x1 x3 x4 x5 x6 S = some S' := h
    unfold f_X11_goes_L90s at h
    refine go_iload hC 5 dX11_goes_90 rfl ?_
    refine go_iload hC 3 dX11_goes_92 rfl ?_
    refine go_icmp_ge hC (tgt := 120) dX11_goes_94 (by decide) (fun hc => ?_) (fun hc => ?_)
    · have h := mt_ip h hc
      refine go_sub [0, 1, 4] (lv1 := [(0, mt_rf B x0), (1, .int x1), (5, .int x5)]) rfl ?_
      exact hK120 _ _ _ _ h
    · have h := mt_in' h hc
      refine go_aload_n hC 0 dX11_goes_97 rfl rfl ?_
      obtain ⟨v16, e16, h⟩ := mt_ob h
      refine go_getI hC mt_flX11_287 e16 dX11_goes_98 ?_
      refine go_if_ne hC (tgt := 120) dX11_goes_101 (by decide) (fun hc => ?_) (fun hc => ?_)
      · have h := mt_in' h hc
        refine go_sub [0, 1, 4] (lv1 := [(0, mt_rf B x0), (1, .int x1), (5, .int x5)]) rfl ?_
        exact hK120 _ _ _ _ h
      · have h := mt_ip h hc
        refine go_aload_n hC 0 dX11_goes_104 rfl rfl ?_
        refine go_iload_n hC 2 dX11_goes_105 rfl rfl ?_
        obtain ⟨S17, e17, h⟩ := mt_ob h
        refine go_putI hC mt_flX11_253 e17 dX11_goes_106 ?_
        refine go_aload_n hC 0 dX11_goes_109 rfl rfl ?_
        refine go_iconst (v := 1) hC dX11_goes_110 (by decide) ?_
        obtain ⟨S18, e18, h⟩ := mt_ob h
        refine go_callVv hC [.int 1] [] (hr _ _ _ _ e18) mt_cvX11_300 (hkr _ _ _ _ e18) dX11_goes_111 rfl rfl (by omega) (Nat.le_of_ble_eq_true rfl) ⟨Nat.le_refl _, Nat.le_refl _⟩ ?_
        refine go_iinc hC 5 [1, 2, 3, 4, 5, 0] (v := x6 + 1) (lv1 := [(0, mt_rf B x0), (1, .int x1), (3, .int x3), (4, .int x4), (5, .int x5), (6, .int (x6 + 1))]) dX11_goes_114 rfl rfl (by decide) rfl ?_
        refine go_goto hC (tgt := 90) dX11_goes_117 (by decide) ?_
        exact ih _ _ _ _ _ _ _ h
set_option maxHeartbeats 4000000 in
set_option maxRecDepth 100000 in
theorem ov_X11_goes_L90 {T : mt_S} {S' : mt_S} {rr : Nat → Int32 → mt_S → Option (mt_S)} {K120 : Nat → Int32 → Int32 → mt_S → Option (mt_S)} (hr : ∀ (x0 : Nat) (x1 : Int32) (S S' : mt_S), mt_cp S T → rr x0 x1 S = some S' → rr x0 x1 (mt_ov S T) = some (mt_ov S' T) ∧ mt_cp S' T) (hK120 : ∀ (x0 : Nat) (x1 : Int32) (x5 : Int32) (S : mt_S), mt_cp S T → K120 x0 x1 x5 S = some S' → K120 x0 x1 x5 (mt_ov S T) = some (mt_ov S' T) ∧ mt_cp S' T) : ∀ (n : Nat) (x0 : Nat) (x1 : Int32) (x3 : Int32) (x4 : Int32) (x5 : Int32) (x6 : Int32) (S : mt_S), mt_cp S T → f_X11_goes_L90 rr K120 n x0 x1 x3 x4 x5 x6 S = some S' → f_X11_goes_L90 rr K120 n x0 x1 x3 x4 x5 x6 (mt_ov S T) = some (mt_ov S' T) ∧ mt_cp S' T := by
  intro n
  induction n with
  | zero =>
    intro x0 x1 x3 x4 x5 x6 S hp h
    cases h
  | succ n ih =>
    intro x0 x1 x3 x4 x5 x6 S hp h
    have h : f_X11_goes_L90s rr K120 (f_X11_goes_L90 rr K120 n) x0 x1 x3 x4 x5 x6 S = some S' := h
    show f_X11_goes_L90s rr K120 (f_X11_goes_L90 rr K120 n) x0 x1 x3 x4 x5 x6 (mt_ov S T) = some (mt_ov S' T) ∧ mt_cp S' T
    unfold f_X11_goes_L90s at h ⊢
    by_cases hc : x4 ≤ x6
    · have h := mt_ip h hc
      refine ov_t hc ?_
      exact hK120 _ _ _ _ hp h
    · have h := mt_in' h hc
      refine ov_f hc ?_
      obtain ⟨v16, e16, h⟩ := mt_ob h
      refine ov_b (ov_rI hp e16) ?_
      by_cases hc : v16 = 0
      · have h := mt_ip h hc
        refine ov_t hc ?_
        obtain ⟨S17, e17, h⟩ := mt_ob h
        obtain ⟨o_, hp⟩ := ov_wI hp e17
        refine ov_b o_ ?_
        obtain ⟨S18, e18, h⟩ := mt_ob h
        obtain ⟨o_, hp⟩ := hr _ _ _ _ hp e18
        refine ov_b o_ ?_
        exact ih _ _ _ _ _ _ _ hp h
      · have h := mt_in' h hc
        refine ov_f hc ?_
        exact hK120 _ _ _ _ hp h
def f_X11_goes_L0s (rr : Nat → Int32 → mt_S → Option (mt_S)) (rc : Nat → Int32 → mt_S → Option (mt_S)) (x0 : Nat) (x1 : Int32) (S : mt_S) : Option (mt_S) :=
  Option.bind (mt_rI S x0 11 37) fun v1 =>
  if v1 = 0 then
   mt_b2 (f_X11_here x0 S) fun v3 S2 =>
   Option.bind (mt_rI S2 x0 11 32) fun v4 =>
   Option.bind (mt_rI S2 x0 11 31) fun v5 =>
   if v5 ≤ v4 then
    some S2
   else
   if v3 = 93 then
    if x1 = 0 then
     Option.bind (mt_rI S2 x0 11 32) fun v22 =>
     Option.bind (mt_wI S2 x0 11 32 (v22 + 1)) fun S23 =>
     if v3 = 104 then
      Option.bind (f_X11_does x0 104 1 S23) fun S34 =>
      rc x0 x1 S34
     else
     if v3 = 91 then
      Option.bind (mt_rI S23 x0 11 32) fun v27 =>
      Option.bind (f_X11_skips x0 S23) fun S28 =>
      mt_b2 (f_X11_often x0 S28) fun v30 S29 =>
      Option.bind (mt_rI S29 x0 11 32) fun v31 =>
      f_X11_goes_L90 rr (fun z120_0 z120_1 z120_5 S32 =>
       Option.bind (mt_wI S32 z120_0 11 32 z120_5) fun S33 =>
       rc z120_0 z120_1 S33) 1000 x0 x1 v27 v30 v31 0 S29
     else
      mt_b2 (f_X11_often x0 S23) fun v25 S24 =>
      Option.bind (f_X11_does x0 v3 v25 S24) fun S26 =>
      rc x0 x1 S26
    else
     some S2
   else
    Option.bind (mt_rI S2 x0 11 32) fun v6 =>
    Option.bind (mt_wI S2 x0 11 32 (v6 + 1)) fun S7 =>
    if v3 = 104 then
     Option.bind (f_X11_does x0 104 1 S7) fun S21 =>
     rc x0 x1 S21
    else
    if v3 = 91 then
     Option.bind (mt_rI S7 x0 11 32) fun v11 =>
     Option.bind (f_X11_skips x0 S7) fun S12 =>
     mt_b2 (f_X11_often x0 S12) fun v14 S13 =>
     Option.bind (mt_rI S13 x0 11 32) fun v15 =>
     f_X11_goes_L90 rr (fun z120_0 z120_1 z120_5 S19 =>
      Option.bind (mt_wI S19 z120_0 11 32 z120_5) fun S20 =>
      rc z120_0 z120_1 S20) 1000 x0 x1 v11 v14 v15 0 S13
    else
     mt_b2 (f_X11_often x0 S7) fun v9 S8 =>
     Option.bind (f_X11_does x0 v3 v9 S8) fun S10 =>
     rc x0 x1 S10
  else
   some S
def f_X11_goes_L0 (rr : Nat → Int32 → mt_S → Option (mt_S)) : Nat → Nat → Int32 → mt_S → Option (mt_S)
  | 0 => fun _ _ _ => none
  | n + 1 => f_X11_goes_L0s rr (f_X11_goes_L0 rr n)
set_option maxHeartbeats 4000000 in
set_option maxRecDepth 100000 in
theorem m_X11_goes_L0 {B : mt_B} {E : mt_E} {S' : mt_S} {dr : Nat} (hC : mt_Cx B E cX11_goes RX11 none 7 (dr + 5) 0 0) (hE : mt_End B E (0, 0) none S') (rr : Nat → Int32 → mt_S → Option (mt_S)) (hr : ∀ (x0 : Nat) (x1 : Int32) (S S' : mt_S), rr x0 x1 S = some S' → mt_M B yX11_goes cX11_goes 7 none dr [mt_rf B x0, .int x1] S none S') (hkr : ∀ (x0 : Nat) (x1 : Int32) (S S' : mt_S), rr x0 x1 S = some S' → mt_isK S x0 11 = true) : ∀ (n : Nat) (x0 : Nat) (x1 : Int32) (S : mt_S), f_X11_goes_L0 rr n x0 x1 S = some S' → mt_Go B E (0, 0) S 0 [(0, mt_rf B x0), (1, .int x1)] [] := by
  intro n
  induction n with
  | zero =>
    intro x0 x1 S h
    cases h
  | succ n ih =>
    intro x0 x1 S h
    have h : f_X11_goes_L0s rr (f_X11_goes_L0 rr n) x0 x1 S = some S' := h
    unfold f_X11_goes_L0s at h
    refine go_aload_n hC 0 dX11_goes_0 rfl rfl ?_
    obtain ⟨v1, e1, h⟩ := mt_ob h
    refine go_getI hC mt_flX11_287 e1 dX11_goes_1 ?_
    refine go_if_ne hC (tgt := 141) dX11_goes_4 (by decide) (fun hc => ?_) (fun hc => ?_)
    · have h := mt_in' h hc
      exact go_vret hC (mt_rev h hE) dX11_goes_141
    · have h := mt_ip h hc
      refine go_aload_n hC 0 dX11_goes_7 rfl rfl ?_
      obtain ⟨v3, S2, e3, h⟩ := mt_ob2 h
      refine go_callVi hC [] [] (m_X11_here e3) mt_cvX11_265 (k_X11_here e3) dX11_goes_8 rfl rfl (by omega) (Nat.le_of_ble_eq_true rfl) ⟨Nat.le_refl _, Nat.le_refl _⟩ ?_
      refine go_istore_n hC [1, 2, 0] (lv1 := [(0, mt_rf B x0), (1, .int x1), (2, .int v3)]) dX11_goes_11 rfl (by decide) rfl ?_
      refine go_aload_n hC 0 dX11_goes_12 rfl rfl ?_
      obtain ⟨v4, e4, h⟩ := mt_ob h
      refine go_getI hC mt_flX11_253 e4 dX11_goes_13 ?_
      refine go_aload_n hC 0 dX11_goes_16 rfl rfl ?_
      obtain ⟨v5, e5, h⟩ := mt_ob h
      refine go_getI hC mt_flX11_256 e5 dX11_goes_17 ?_
      refine go_icmp_ge hC (tgt := 33) dX11_goes_20 (by decide) (fun hc => ?_) (fun hc => ?_)
      · have h := mt_ip h hc
        exact go_vret hC (mt_rev h hE) dX11_goes_33
      · have h := mt_in' h hc
        refine go_iload_n hC 2 dX11_goes_23 rfl rfl ?_
        refine go_bipush (v := 93) hC dX11_goes_24 (by decide) ?_
        refine go_icmp_ne hC (tgt := 34) dX11_goes_26 (by decide) (fun hc => ?_) (fun hc => ?_)
        · have h := mt_in' h hc
          refine go_aload_n hC 0 dX11_goes_34 rfl rfl ?_
          refine go_dup hC dX11_goes_35 rfl ?_
          obtain ⟨v6, e6, h⟩ := mt_ob h
          refine go_getI hC mt_flX11_253 e6 dX11_goes_36 ?_
          refine go_iconst (v := 1) hC dX11_goes_39 (by decide) ?_
          refine go_iadd hC dX11_goes_40 ?_
          obtain ⟨S7, e7, h⟩ := mt_ob h
          refine go_putI hC mt_flX11_253 e7 dX11_goes_41 ?_
          refine go_iload_n hC 2 dX11_goes_44 rfl rfl ?_
          refine go_bipush (v := 104) hC dX11_goes_45 (by decide) ?_
          refine go_icmp_ne hC (tgt := 60) dX11_goes_47 (by decide) (fun hc => ?_) (fun hc => ?_)
          · have h := mt_in' h hc
            refine go_iload_n hC 2 dX11_goes_60 rfl rfl ?_
            refine go_bipush (v := 91) hC dX11_goes_61 (by decide) ?_
            refine go_icmp_ne hC (tgt := 129) dX11_goes_63 (by decide) (fun hc => ?_) (fun hc => ?_)
            · have h := mt_in' h hc
              refine go_aload_n hC 0 dX11_goes_129 rfl rfl ?_
              refine go_iload_n hC 2 dX11_goes_130 rfl rfl ?_
              refine go_aload_n hC 0 dX11_goes_131 rfl rfl ?_
              obtain ⟨v9, S8, e9, h⟩ := mt_ob2 h
              refine go_callVi hC [] [.int v3, mt_rf B x0] (m_X11_often e9) mt_cvX11_274 (k_X11_often e9) dX11_goes_132 rfl rfl (by omega) (Nat.le_of_ble_eq_true rfl) ⟨Nat.le_refl _, Nat.le_refl _⟩ ?_
              obtain ⟨S10, e10, h⟩ := mt_ob h
              refine go_callVv hC [.int v3, .int v9] [] (m_X11_does e10) mt_cvX11_294 (k_X11_does e10) dX11_goes_135 rfl rfl (by omega) (Nat.le_of_ble_eq_true rfl) ⟨Nat.le_refl _, Nat.le_refl _⟩ ?_
              refine go_goto hC (tgt := 0) dX11_goes_138 (by decide) ?_
              refine go_sub [0, 1] (lv1 := [(0, mt_rf B x0), (1, .int x1)]) rfl ?_
              exact ih _ _ _ h
            · have h := mt_ip h hc
              refine go_aload_n hC 0 dX11_goes_66 rfl rfl ?_
              obtain ⟨v11, e11, h⟩ := mt_ob h
              refine go_getI hC mt_flX11_253 e11 dX11_goes_67 ?_
              refine go_istore_n hC [1, 2, 3, 0] (lv1 := [(0, mt_rf B x0), (1, .int x1), (2, .int v3), (3, .int v11)]) dX11_goes_70 rfl (by decide) rfl ?_
              refine go_aload_n hC 0 dX11_goes_71 rfl rfl ?_
              obtain ⟨S12, e12, h⟩ := mt_ob h
              refine go_callVv hC [] [] (m_X11_skips e12) mt_cvX11_297 (k_X11_skips e12) dX11_goes_72 rfl rfl (by omega) (Nat.le_of_ble_eq_true rfl) ⟨Nat.le_refl _, Nat.le_refl _⟩ ?_
              refine go_aload_n hC 0 dX11_goes_75 rfl rfl ?_
              obtain ⟨v14, S13, e14, h⟩ := mt_ob2 h
              refine go_callVi hC [] [] (m_X11_often e14) mt_cvX11_274 (k_X11_often e14) dX11_goes_76 rfl rfl (by omega) (Nat.le_of_ble_eq_true rfl) ⟨Nat.le_refl _, Nat.le_refl _⟩ ?_
              refine go_istore hC [1, 2, 3, 4, 0] (lv1 := [(0, mt_rf B x0), (1, .int x1), (2, .int v3), (3, .int v11), (4, .int v14)]) dX11_goes_79 (by decide) rfl ?_
              refine go_aload_n hC 0 dX11_goes_81 rfl rfl ?_
              obtain ⟨v15, e15, h⟩ := mt_ob h
              refine go_getI hC mt_flX11_253 e15 dX11_goes_82 ?_
              refine go_istore hC [1, 2, 3, 4, 5, 0] (lv1 := [(0, mt_rf B x0), (1, .int x1), (2, .int v3), (3, .int v11), (4, .int v14), (5, .int v15)]) dX11_goes_85 (by decide) rfl ?_
              refine go_iconst (v := 0) hC dX11_goes_87 (by decide) ?_
              refine go_istore hC [1, 2, 3, 4, 5, 6, 0] (lv1 := [(0, mt_rf B x0), (1, .int x1), (2, .int v3), (3, .int v11), (4, .int v14), (5, .int v15), (6, .int 0)]) dX11_goes_88 (by decide) rfl ?_
              refine go_sub [0, 1, 3, 4, 5, 6] (lv1 := [(0, mt_rf B x0), (1, .int x1), (3, .int v11), (4, .int v14), (5, .int v15), (6, .int 0)]) rfl ?_
              refine m_X11_goes_L90 hC hE rr _ hr hkr ?_ 1000 _ _ _ _ _ _ _ h
              · intro z120_0 z120_1 z120_5 S19 h
                refine go_aload_n hC 0 dX11_goes_120 rfl rfl ?_
                refine go_iload hC 2 dX11_goes_121 rfl ?_
                obtain ⟨S20, e20, h⟩ := mt_ob h
                refine go_putI hC mt_flX11_253 e20 dX11_goes_123 ?_
                refine go_goto hC (tgt := 138) dX11_goes_126 (by decide) ?_
                refine go_goto hC (tgt := 0) dX11_goes_138 (by decide) ?_
                refine go_sub [0, 1] (lv1 := [(0, mt_rf B z120_0), (1, .int z120_1)]) rfl ?_
                exact ih _ _ _ h
          · have h := mt_ip h hc
            refine go_aload_n hC 0 dX11_goes_50 rfl rfl ?_
            refine go_bipush (v := 104) hC dX11_goes_51 (by decide) ?_
            refine go_iconst (v := 1) hC dX11_goes_53 (by decide) ?_
            obtain ⟨S21, e21, h⟩ := mt_ob h
            refine go_callVv hC [.int 104, .int 1] [] (m_X11_does e21) mt_cvX11_294 (k_X11_does e21) dX11_goes_54 rfl rfl (by omega) (Nat.le_of_ble_eq_true rfl) ⟨Nat.le_refl _, Nat.le_refl _⟩ ?_
            refine go_goto hC (tgt := 138) dX11_goes_57 (by decide) ?_
            refine go_goto hC (tgt := 0) dX11_goes_138 (by decide) ?_
            refine go_sub [0, 1] (lv1 := [(0, mt_rf B x0), (1, .int x1)]) rfl ?_
            exact ih _ _ _ h
        · have h := mt_ip h hc
          refine go_iload_n hC 1 dX11_goes_29 rfl rfl ?_
          refine go_if_eq hC (tgt := 34) dX11_goes_30 (by decide) (fun hc => ?_) (fun hc => ?_)
          · have h := mt_ip h hc
            refine go_aload_n hC 0 dX11_goes_34 rfl rfl ?_
            refine go_dup hC dX11_goes_35 rfl ?_
            obtain ⟨v22, e22, h⟩ := mt_ob h
            refine go_getI hC mt_flX11_253 e22 dX11_goes_36 ?_
            refine go_iconst (v := 1) hC dX11_goes_39 (by decide) ?_
            refine go_iadd hC dX11_goes_40 ?_
            obtain ⟨S23, e23, h⟩ := mt_ob h
            refine go_putI hC mt_flX11_253 e23 dX11_goes_41 ?_
            refine go_iload_n hC 2 dX11_goes_44 rfl rfl ?_
            refine go_bipush (v := 104) hC dX11_goes_45 (by decide) ?_
            refine go_icmp_ne hC (tgt := 60) dX11_goes_47 (by decide) (fun hc => ?_) (fun hc => ?_)
            · have h := mt_in' h hc
              refine go_iload_n hC 2 dX11_goes_60 rfl rfl ?_
              refine go_bipush (v := 91) hC dX11_goes_61 (by decide) ?_
              refine go_icmp_ne hC (tgt := 129) dX11_goes_63 (by decide) (fun hc => ?_) (fun hc => ?_)
              · have h := mt_in' h hc
                refine go_aload_n hC 0 dX11_goes_129 rfl rfl ?_
                refine go_iload_n hC 2 dX11_goes_130 rfl rfl ?_
                refine go_aload_n hC 0 dX11_goes_131 rfl rfl ?_
                obtain ⟨v25, S24, e25, h⟩ := mt_ob2 h
                refine go_callVi hC [] [.int v3, mt_rf B x0] (m_X11_often e25) mt_cvX11_274 (k_X11_often e25) dX11_goes_132 rfl rfl (by omega) (Nat.le_of_ble_eq_true rfl) ⟨Nat.le_refl _, Nat.le_refl _⟩ ?_
                obtain ⟨S26, e26, h⟩ := mt_ob h
                refine go_callVv hC [.int v3, .int v25] [] (m_X11_does e26) mt_cvX11_294 (k_X11_does e26) dX11_goes_135 rfl rfl (by omega) (Nat.le_of_ble_eq_true rfl) ⟨Nat.le_refl _, Nat.le_refl _⟩ ?_
                refine go_goto hC (tgt := 0) dX11_goes_138 (by decide) ?_
                refine go_sub [0, 1] (lv1 := [(0, mt_rf B x0), (1, .int x1)]) rfl ?_
                exact ih _ _ _ h
              · have h := mt_ip h hc
                refine go_aload_n hC 0 dX11_goes_66 rfl rfl ?_
                obtain ⟨v27, e27, h⟩ := mt_ob h
                refine go_getI hC mt_flX11_253 e27 dX11_goes_67 ?_
                refine go_istore_n hC [1, 2, 3, 0] (lv1 := [(0, mt_rf B x0), (1, .int x1), (2, .int v3), (3, .int v27)]) dX11_goes_70 rfl (by decide) rfl ?_
                refine go_aload_n hC 0 dX11_goes_71 rfl rfl ?_
                obtain ⟨S28, e28, h⟩ := mt_ob h
                refine go_callVv hC [] [] (m_X11_skips e28) mt_cvX11_297 (k_X11_skips e28) dX11_goes_72 rfl rfl (by omega) (Nat.le_of_ble_eq_true rfl) ⟨Nat.le_refl _, Nat.le_refl _⟩ ?_
                refine go_aload_n hC 0 dX11_goes_75 rfl rfl ?_
                obtain ⟨v30, S29, e30, h⟩ := mt_ob2 h
                refine go_callVi hC [] [] (m_X11_often e30) mt_cvX11_274 (k_X11_often e30) dX11_goes_76 rfl rfl (by omega) (Nat.le_of_ble_eq_true rfl) ⟨Nat.le_refl _, Nat.le_refl _⟩ ?_
                refine go_istore hC [1, 2, 3, 4, 0] (lv1 := [(0, mt_rf B x0), (1, .int x1), (2, .int v3), (3, .int v27), (4, .int v30)]) dX11_goes_79 (by decide) rfl ?_
                refine go_aload_n hC 0 dX11_goes_81 rfl rfl ?_
                obtain ⟨v31, e31, h⟩ := mt_ob h
                refine go_getI hC mt_flX11_253 e31 dX11_goes_82 ?_
                refine go_istore hC [1, 2, 3, 4, 5, 0] (lv1 := [(0, mt_rf B x0), (1, .int x1), (2, .int v3), (3, .int v27), (4, .int v30), (5, .int v31)]) dX11_goes_85 (by decide) rfl ?_
                refine go_iconst (v := 0) hC dX11_goes_87 (by decide) ?_
                refine go_istore hC [1, 2, 3, 4, 5, 6, 0] (lv1 := [(0, mt_rf B x0), (1, .int x1), (2, .int v3), (3, .int v27), (4, .int v30), (5, .int v31), (6, .int 0)]) dX11_goes_88 (by decide) rfl ?_
                refine go_sub [0, 1, 3, 4, 5, 6] (lv1 := [(0, mt_rf B x0), (1, .int x1), (3, .int v27), (4, .int v30), (5, .int v31), (6, .int 0)]) rfl ?_
                refine m_X11_goes_L90 hC hE rr _ hr hkr ?_ 1000 _ _ _ _ _ _ _ h
                · intro z120_0 z120_1 z120_5 S32 h
                  refine go_aload_n hC 0 dX11_goes_120 rfl rfl ?_
                  refine go_iload hC 2 dX11_goes_121 rfl ?_
                  obtain ⟨S33, e33, h⟩ := mt_ob h
                  refine go_putI hC mt_flX11_253 e33 dX11_goes_123 ?_
                  refine go_goto hC (tgt := 138) dX11_goes_126 (by decide) ?_
                  refine go_goto hC (tgt := 0) dX11_goes_138 (by decide) ?_
                  refine go_sub [0, 1] (lv1 := [(0, mt_rf B z120_0), (1, .int z120_1)]) rfl ?_
                  exact ih _ _ _ h
            · have h := mt_ip h hc
              refine go_aload_n hC 0 dX11_goes_50 rfl rfl ?_
              refine go_bipush (v := 104) hC dX11_goes_51 (by decide) ?_
              refine go_iconst (v := 1) hC dX11_goes_53 (by decide) ?_
              obtain ⟨S34, e34, h⟩ := mt_ob h
              refine go_callVv hC [.int 104, .int 1] [] (m_X11_does e34) mt_cvX11_294 (k_X11_does e34) dX11_goes_54 rfl rfl (by omega) (Nat.le_of_ble_eq_true rfl) ⟨Nat.le_refl _, Nat.le_refl _⟩ ?_
              refine go_goto hC (tgt := 138) dX11_goes_57 (by decide) ?_
              refine go_goto hC (tgt := 0) dX11_goes_138 (by decide) ?_
              refine go_sub [0, 1] (lv1 := [(0, mt_rf B x0), (1, .int x1)]) rfl ?_
              exact ih _ _ _ h
          · have h := mt_in' h hc
            exact go_vret hC (mt_rev h hE) dX11_goes_33
set_option maxHeartbeats 4000000 in
set_option maxRecDepth 100000 in
theorem ov_X11_goes_L0 {T : mt_S} {S' : mt_S} {rr : Nat → Int32 → mt_S → Option (mt_S)} (hr : ∀ (x0 : Nat) (x1 : Int32) (S S' : mt_S), mt_cp S T → rr x0 x1 S = some S' → rr x0 x1 (mt_ov S T) = some (mt_ov S' T) ∧ mt_cp S' T) : ∀ (n : Nat) (x0 : Nat) (x1 : Int32) (S : mt_S), mt_cp S T → f_X11_goes_L0 rr n x0 x1 S = some S' → f_X11_goes_L0 rr n x0 x1 (mt_ov S T) = some (mt_ov S' T) ∧ mt_cp S' T := by
  intro n
  induction n with
  | zero =>
    intro x0 x1 S hp h
    cases h
  | succ n ih =>
    intro x0 x1 S hp h
    have h : f_X11_goes_L0s rr (f_X11_goes_L0 rr n) x0 x1 S = some S' := h
    show f_X11_goes_L0s rr (f_X11_goes_L0 rr n) x0 x1 (mt_ov S T) = some (mt_ov S' T) ∧ mt_cp S' T
    unfold f_X11_goes_L0s at h ⊢
    obtain ⟨v1, e1, h⟩ := mt_ob h
    refine ov_b (ov_rI hp e1) ?_
    by_cases hc : v1 = 0
    · have h := mt_ip h hc
      refine ov_t hc ?_
      obtain ⟨v3, S2, e3, h⟩ := mt_ob2 h
      obtain ⟨o_, hp⟩ := ov_X11_here hp e3
      refine ov_b2 o_ ?_
      obtain ⟨v4, e4, h⟩ := mt_ob h
      refine ov_b (ov_rI hp e4) ?_
      obtain ⟨v5, e5, h⟩ := mt_ob h
      refine ov_b (ov_rI hp e5) ?_
      by_cases hc : v5 ≤ v4
      · have h := mt_ip h hc
        refine ov_t hc ?_
        exact ov_retv hp h
      · have h := mt_in' h hc
        refine ov_f hc ?_
        by_cases hc : v3 = 93
        · have h := mt_ip h hc
          refine ov_t hc ?_
          by_cases hc : x1 = 0
          · have h := mt_ip h hc
            refine ov_t hc ?_
            obtain ⟨v22, e22, h⟩ := mt_ob h
            refine ov_b (ov_rI hp e22) ?_
            obtain ⟨S23, e23, h⟩ := mt_ob h
            obtain ⟨o_, hp⟩ := ov_wI hp e23
            refine ov_b o_ ?_
            by_cases hc : v3 = 104
            · have h := mt_ip h hc
              refine ov_t hc ?_
              obtain ⟨S34, e34, h⟩ := mt_ob h
              obtain ⟨o_, hp⟩ := ov_X11_does hp e34
              refine ov_b o_ ?_
              exact ih _ _ _ hp h
            · have h := mt_in' h hc
              refine ov_f hc ?_
              by_cases hc : v3 = 91
              · have h := mt_ip h hc
                refine ov_t hc ?_
                obtain ⟨v27, e27, h⟩ := mt_ob h
                refine ov_b (ov_rI hp e27) ?_
                obtain ⟨S28, e28, h⟩ := mt_ob h
                obtain ⟨o_, hp⟩ := ov_X11_skips hp e28
                refine ov_b o_ ?_
                obtain ⟨v30, S29, e30, h⟩ := mt_ob2 h
                obtain ⟨o_, hp⟩ := ov_X11_often hp e30
                refine ov_b2 o_ ?_
                obtain ⟨v31, e31, h⟩ := mt_ob h
                refine ov_b (ov_rI hp e31) ?_
                refine ov_X11_goes_L90 hr ?_ 1000 _ _ _ _ _ _ _ hp h
                · intro z120_0 z120_1 z120_5 S32 hp h
                  obtain ⟨S33, e33, h⟩ := mt_ob h
                  obtain ⟨o_, hp⟩ := ov_wI hp e33
                  refine ov_b o_ ?_
                  exact ih _ _ _ hp h
              · have h := mt_in' h hc
                refine ov_f hc ?_
                obtain ⟨v25, S24, e25, h⟩ := mt_ob2 h
                obtain ⟨o_, hp⟩ := ov_X11_often hp e25
                refine ov_b2 o_ ?_
                obtain ⟨S26, e26, h⟩ := mt_ob h
                obtain ⟨o_, hp⟩ := ov_X11_does hp e26
                refine ov_b o_ ?_
                exact ih _ _ _ hp h
          · have h := mt_in' h hc
            refine ov_f hc ?_
            exact ov_retv hp h
        · have h := mt_in' h hc
          refine ov_f hc ?_
          obtain ⟨v6, e6, h⟩ := mt_ob h
          refine ov_b (ov_rI hp e6) ?_
          obtain ⟨S7, e7, h⟩ := mt_ob h
          obtain ⟨o_, hp⟩ := ov_wI hp e7
          refine ov_b o_ ?_
          by_cases hc : v3 = 104
          · have h := mt_ip h hc
            refine ov_t hc ?_
            obtain ⟨S21, e21, h⟩ := mt_ob h
            obtain ⟨o_, hp⟩ := ov_X11_does hp e21
            refine ov_b o_ ?_
            exact ih _ _ _ hp h
          · have h := mt_in' h hc
            refine ov_f hc ?_
            by_cases hc : v3 = 91
            · have h := mt_ip h hc
              refine ov_t hc ?_
              obtain ⟨v11, e11, h⟩ := mt_ob h
              refine ov_b (ov_rI hp e11) ?_
              obtain ⟨S12, e12, h⟩ := mt_ob h
              obtain ⟨o_, hp⟩ := ov_X11_skips hp e12
              refine ov_b o_ ?_
              obtain ⟨v14, S13, e14, h⟩ := mt_ob2 h
              obtain ⟨o_, hp⟩ := ov_X11_often hp e14
              refine ov_b2 o_ ?_
              obtain ⟨v15, e15, h⟩ := mt_ob h
              refine ov_b (ov_rI hp e15) ?_
              refine ov_X11_goes_L90 hr ?_ 1000 _ _ _ _ _ _ _ hp h
              · intro z120_0 z120_1 z120_5 S19 hp h
                obtain ⟨S20, e20, h⟩ := mt_ob h
                obtain ⟨o_, hp⟩ := ov_wI hp e20
                refine ov_b o_ ?_
                exact ih _ _ _ hp h
            · have h := mt_in' h hc
              refine ov_f hc ?_
              obtain ⟨v9, S8, e9, h⟩ := mt_ob2 h
              obtain ⟨o_, hp⟩ := ov_X11_often hp e9
              refine ov_b2 o_ ?_
              obtain ⟨S10, e10, h⟩ := mt_ob h
              obtain ⟨o_, hp⟩ := ov_X11_does hp e10
              refine ov_b o_ ?_
              exact ih _ _ _ hp h
    · have h := mt_in' h hc
      refine ov_f hc ?_
      exact ov_retv hp h
def f_X11_goess (rr : Nat → Int32 → mt_S → Option (mt_S)) (x0 : Nat) (x1 : Int32) (S : mt_S) : Option (mt_S) :=
  if mt_isK S x0 11 = true then
   f_X11_goes_L0 rr 1000 x0 x1 S
  else none
def f_X11_goes : Nat → Nat → Int32 → mt_S → Option (mt_S)
  | 0 => fun _ _ _ => none
  | n + 1 => f_X11_goess (f_X11_goes n)
theorem k_X11_goes {n : Nat} {x0 : Nat} {x1 : Int32} {S : mt_S} {S' : mt_S} (h : f_X11_goes n x0 x1 S = some S') : mt_isK S x0 11 = true := by
  cases n with
  | zero => cases h
  | succ n =>
    have h : f_X11_goess (f_X11_goes n) x0 x1 S = some S' := h
    unfold f_X11_goess at h
    exact (mt_gd h).1
set_option maxHeartbeats 4000000 in
set_option maxRecDepth 100000 in
theorem ms_X11_goes {B : mt_B} (rr : Nat → Int32 → mt_S → Option (mt_S)) {dr : Nat} (hr : ∀ (x0 : Nat) (x1 : Int32) (S S' : mt_S), rr x0 x1 S = some S' → mt_M B yX11_goes cX11_goes 7 none dr [mt_rf B x0, .int x1] S none S') (hkr : ∀ (x0 : Nat) (x1 : Int32) (S S' : mt_S), rr x0 x1 S = some S' → mt_isK S x0 11 = true) {x0 : Nat} {x1 : Int32} {S : mt_S} {S' : mt_S} (h : f_X11_goess rr x0 x1 S = some S') : mt_M B yX11_goes cX11_goes 7 none (dr + 5) [mt_rf B x0, .int x1] S none S' := by
  unfold f_X11_goess at h
  refine mt_M.of (by decide) (Nat.le_of_ble_eq_true rfl) (fun E hC hE => ?_)
  obtain ⟨hk0, h⟩ := mt_gd h
  exact m_X11_goes_L0 hC hE rr hr hkr 1000 _ _ _ h
set_option maxHeartbeats 4000000 in
set_option maxRecDepth 100000 in
theorem mr_X11_goes {B : mt_B} : ∀ (n : Nat) (x0 : Nat) (x1 : Int32) (S S' : mt_S), f_X11_goes n x0 x1 S = some S' → mt_M B yX11_goes cX11_goes 7 none (5 * n) [mt_rf B x0, .int x1] S none S' := by
  intro n
  induction n with
  | zero =>
    intro x0 x1 S S' h
    cases h
  | succ n ih =>
    intro x0 x1 S S' h
    have h : f_X11_goess (f_X11_goes n) x0 x1 S = some S' := h
    have h2 := ms_X11_goes (rr := f_X11_goes n) (dr := 5 * n) ih (fun _ _ _ _ h => k_X11_goes h) h
    rw [show 5 * (n + 1) = 5 * n + 5 from by omega]
    exact h2
theorem m_X11_goes {B : mt_B} {x0 : Nat} {x1 : Int32} {S : mt_S} {S' : mt_S} (h : f_X11_goes 6 x0 x1 S = some S') : mt_M B yX11_goes cX11_goes 7 none 30 [mt_rf B x0, .int x1] S none S' := mr_X11_goes 6 _ _ _ _ h
set_option maxHeartbeats 4000000 in
set_option maxRecDepth 100000 in
theorem ovs_X11_goes {T : mt_S} {rr : Nat → Int32 → mt_S → Option (mt_S)} (hr : ∀ (x0 : Nat) (x1 : Int32) (S S' : mt_S), mt_cp S T → rr x0 x1 S = some S' → rr x0 x1 (mt_ov S T) = some (mt_ov S' T) ∧ mt_cp S' T) {x0 : Nat} {x1 : Int32} {S : mt_S} {S' : mt_S} (hp : mt_cp S T) (h : f_X11_goess rr x0 x1 S = some S') : f_X11_goess rr x0 x1 (mt_ov S T) = some (mt_ov S' T) ∧ mt_cp S' T := by
  unfold f_X11_goess at h ⊢
  obtain ⟨hg, h⟩ := mt_gd h
  refine ov_t (ov_K hp hg) ?_
  exact ov_X11_goes_L0 hr 1000 _ _ _ hp h
set_option maxHeartbeats 4000000 in
set_option maxRecDepth 100000 in
theorem ovr_X11_goes {T : mt_S} : ∀ (n : Nat) (x0 : Nat) (x1 : Int32) (S S' : mt_S), mt_cp S T → f_X11_goes n x0 x1 S = some S' → f_X11_goes n x0 x1 (mt_ov S T) = some (mt_ov S' T) ∧ mt_cp S' T := by
  intro n
  induction n with
  | zero =>
    intro x0 x1 S S' hp h
    cases h
  | succ n ih =>
    intro x0 x1 S S' hp h
    exact ovs_X11_goes (rr := f_X11_goes n) ih hp h
theorem ov_X11_goes {T : mt_S} {x0 : Nat} {x1 : Int32} {S : mt_S} {S' : mt_S} (hp : mt_cp S T) (h : f_X11_goes 6 x0 x1 S = some S') : f_X11_goes 6 x0 x1 (mt_ov S T) = some (mt_ov S' T) ∧ mt_cp S' T := ovr_X11_goes 6 _ _ _ _ hp h
def f_X11_readsBracket (rr : Nat → Int32 → mt_S → Option (mt_S)) (x0 : Nat) (x1 : Int32) (S : mt_S) : Option (mt_S) :=
  if mt_isK S x0 11 = true then
   Option.bind (mt_rI S x0 11 35) fun v1 =>
   if v1 = 3 then
    Option.bind (f_X11_bad x0 3 x1 S) fun S12 =>
    some S12
   else
    Option.bind (mt_rI S x0 11 35) fun v2 =>
    Option.bind (mt_wI S x0 11 35 (v2 + 1)) fun S3 =>
    Option.bind (rr x0 1 S3) fun S4 =>
    Option.bind (mt_rI S4 x0 11 35) fun v5 =>
    Option.bind (mt_wI S4 x0 11 35 (v5 - 1)) fun S6 =>
    Option.bind (mt_rI S6 x0 11 33) fun v7 =>
    if v7 = 0 then
     Option.bind (mt_rI S6 x0 11 32) fun v8 =>
     Option.bind (mt_wI S6 x0 11 32 (v8 + 1)) fun S9 =>
     mt_b2 (f_X11_often x0 S9) fun v11 S10 =>
     some S10
    else
     some S6
  else none
theorem k_X11_readsBracket {rr : Nat → Int32 → mt_S → Option (mt_S)} {x0 : Nat} {x1 : Int32} {S : mt_S} {S' : mt_S} (h : f_X11_readsBracket rr x0 x1 S = some S') : mt_isK S x0 11 = true := by
  unfold f_X11_readsBracket at h
  exact (mt_gd h).1
set_option maxHeartbeats 4000000 in
set_option maxRecDepth 100000 in
theorem m_X11_readsBracket {B : mt_B} {rr : Nat → Int32 → mt_S → Option (mt_S)} {dr : Nat} (hr : ∀ (x0 : Nat) (x1 : Int32) (S S' : mt_S), rr x0 x1 S = some S' → mt_M B yX11_reads cX11_reads 4 none dr [mt_rf B x0, .int x1] S none S') (hkr : ∀ (x0 : Nat) (x1 : Int32) (S S' : mt_S), rr x0 x1 S = some S' → mt_isK S x0 11 = true) {x0 : Nat} {x1 : Int32} {S : mt_S} {S' : mt_S} (h : f_X11_readsBracket rr x0 x1 S = some S') : mt_M B yX11_readsBracket cX11_readsBracket 2 none (dr + 3) [mt_rf B x0, .int x1] S none S' := by
  unfold f_X11_readsBracket at h
  refine mt_M.of (by decide) (Nat.le_of_ble_eq_true rfl) (fun E hC hE => ?_)
  obtain ⟨hk0, h⟩ := mt_gd h
  refine go_aload_n hC 0 dX11_readsBracket_0 rfl rfl ?_
  obtain ⟨v1, e1, h⟩ := mt_ob h
  refine go_getI hC mt_flX11_280 e1 dX11_readsBracket_1 ?_
  refine go_iconst (v := 3) hC dX11_readsBracket_4 (by decide) ?_
  refine go_icmp_ne hC (tgt := 15) dX11_readsBracket_5 (by decide) (fun hc => ?_) (fun hc => ?_)
  · have h := mt_in' h hc
    refine go_aload_n hC 0 dX11_readsBracket_15 rfl rfl ?_
    refine go_dup hC dX11_readsBracket_16 rfl ?_
    obtain ⟨v2, e2, h⟩ := mt_ob h
    refine go_getI hC mt_flX11_280 e2 dX11_readsBracket_17 ?_
    refine go_iconst (v := 1) hC dX11_readsBracket_20 (by decide) ?_
    refine go_iadd hC dX11_readsBracket_21 ?_
    obtain ⟨S3, e3, h⟩ := mt_ob h
    refine go_putI hC mt_flX11_280 e3 dX11_readsBracket_22 ?_
    refine go_aload_n hC 0 dX11_readsBracket_25 rfl rfl ?_
    refine go_iconst (v := 1) hC dX11_readsBracket_26 (by decide) ?_
    obtain ⟨S4, e4, h⟩ := mt_ob h
    refine go_callVv hC [.int 1] [] (hr _ _ _ _ e4) mt_cvX11_283 (hkr _ _ _ _ e4) dX11_readsBracket_27 rfl rfl (by omega) (Nat.le_of_ble_eq_true rfl) ⟨Nat.le_refl _, Nat.le_refl _⟩ ?_
    refine go_aload_n hC 0 dX11_readsBracket_30 rfl rfl ?_
    refine go_dup hC dX11_readsBracket_31 rfl ?_
    obtain ⟨v5, e5, h⟩ := mt_ob h
    refine go_getI hC mt_flX11_280 e5 dX11_readsBracket_32 ?_
    refine go_iconst (v := 1) hC dX11_readsBracket_35 (by decide) ?_
    refine go_isub hC dX11_readsBracket_36 ?_
    obtain ⟨S6, e6, h⟩ := mt_ob h
    refine go_putI hC mt_flX11_280 e6 dX11_readsBracket_37 ?_
    refine go_aload_n hC 0 dX11_readsBracket_40 rfl rfl ?_
    obtain ⟨v7, e7, h⟩ := mt_ob h
    refine go_getI hC mt_flX11_259 e7 dX11_readsBracket_41 ?_
    refine go_if_eq hC (tgt := 48) dX11_readsBracket_44 (by decide) (fun hc => ?_) (fun hc => ?_)
    · have h := mt_ip h hc
      refine go_aload_n hC 0 dX11_readsBracket_48 rfl rfl ?_
      refine go_dup hC dX11_readsBracket_49 rfl ?_
      obtain ⟨v8, e8, h⟩ := mt_ob h
      refine go_getI hC mt_flX11_253 e8 dX11_readsBracket_50 ?_
      refine go_iconst (v := 1) hC dX11_readsBracket_53 (by decide) ?_
      refine go_iadd hC dX11_readsBracket_54 ?_
      obtain ⟨S9, e9, h⟩ := mt_ob h
      refine go_putI hC mt_flX11_253 e9 dX11_readsBracket_55 ?_
      refine go_aload_n hC 0 dX11_readsBracket_58 rfl rfl ?_
      obtain ⟨v11, S10, e11, h⟩ := mt_ob2 h
      refine go_callVi hC [] [] (m_X11_often e11) mt_cvX11_274 (k_X11_often e11) dX11_readsBracket_59 rfl rfl (by omega) (Nat.le_of_ble_eq_true rfl) ⟨Nat.le_refl _, Nat.le_refl _⟩ ?_
      refine go_pop hC dX11_readsBracket_62 rfl ?_
      exact go_vret hC (mt_rev h hE) dX11_readsBracket_63
    · have h := mt_in' h hc
      exact go_vret hC (mt_rev h hE) dX11_readsBracket_47
  · have h := mt_ip h hc
    refine go_aload_n hC 0 dX11_readsBracket_8 rfl rfl ?_
    refine go_iconst (v := 3) hC dX11_readsBracket_9 (by decide) ?_
    refine go_iload_n hC 1 dX11_readsBracket_10 rfl rfl ?_
    obtain ⟨S12, e12, h⟩ := mt_ob h
    refine go_callVv hC [.int 3, .int x1] [] (m_X11_bad e12) mt_cvX11_271 (k_X11_bad e12) dX11_readsBracket_11 rfl rfl (by omega) (Nat.le_of_ble_eq_true rfl) ⟨Nat.le_refl _, Nat.le_refl _⟩ ?_
    exact go_vret hC (mt_rev h hE) dX11_readsBracket_14
set_option maxHeartbeats 4000000 in
set_option maxRecDepth 100000 in
theorem ov_X11_readsBracket {T : mt_S} {rr : Nat → Int32 → mt_S → Option (mt_S)}  (hr : ∀ (x0 : Nat) (x1 : Int32) (S S' : mt_S), mt_cp S T → rr x0 x1 S = some S' → rr x0 x1 (mt_ov S T) = some (mt_ov S' T) ∧ mt_cp S' T) {x0 : Nat} {x1 : Int32} {S : mt_S} {S' : mt_S} (hp : mt_cp S T) (h : f_X11_readsBracket rr x0 x1 S = some S') : f_X11_readsBracket rr x0 x1 (mt_ov S T) = some (mt_ov S' T) ∧ mt_cp S' T := by
  unfold f_X11_readsBracket at h ⊢
  obtain ⟨hg, h⟩ := mt_gd h
  refine ov_t (ov_K hp hg) ?_
  obtain ⟨v1, e1, h⟩ := mt_ob h
  refine ov_b (ov_rI hp e1) ?_
  by_cases hc : v1 = 3
  · have h := mt_ip h hc
    refine ov_t hc ?_
    obtain ⟨S12, e12, h⟩ := mt_ob h
    obtain ⟨o_, hp⟩ := ov_X11_bad hp e12
    refine ov_b o_ ?_
    exact ov_retv hp h
  · have h := mt_in' h hc
    refine ov_f hc ?_
    obtain ⟨v2, e2, h⟩ := mt_ob h
    refine ov_b (ov_rI hp e2) ?_
    obtain ⟨S3, e3, h⟩ := mt_ob h
    obtain ⟨o_, hp⟩ := ov_wI hp e3
    refine ov_b o_ ?_
    obtain ⟨S4, e4, h⟩ := mt_ob h
    obtain ⟨o_, hp⟩ := hr _ _ _ _ hp e4
    refine ov_b o_ ?_
    obtain ⟨v5, e5, h⟩ := mt_ob h
    refine ov_b (ov_rI hp e5) ?_
    obtain ⟨S6, e6, h⟩ := mt_ob h
    obtain ⟨o_, hp⟩ := ov_wI hp e6
    refine ov_b o_ ?_
    obtain ⟨v7, e7, h⟩ := mt_ob h
    refine ov_b (ov_rI hp e7) ?_
    by_cases hc : v7 = 0
    · have h := mt_ip h hc
      refine ov_t hc ?_
      obtain ⟨v8, e8, h⟩ := mt_ob h
      refine ov_b (ov_rI hp e8) ?_
      obtain ⟨S9, e9, h⟩ := mt_ob h
      obtain ⟨o_, hp⟩ := ov_wI hp e9
      refine ov_b o_ ?_
      obtain ⟨v11, S10, e11, h⟩ := mt_ob2 h
      obtain ⟨o_, hp⟩ := ov_X11_often hp e11
      refine ov_b2 o_ ?_
      exact ov_retv hp h
    · have h := mt_in' h hc
      refine ov_f hc ?_
      exact ov_retv hp h
def f_X11_reads_L0s (rr : Nat → Int32 → mt_S → Option (mt_S)) (rc : Nat → Int32 → mt_S → Option (mt_S)) (x0 : Nat) (x1 : Int32) (S : mt_S) : Option (mt_S) :=
  Option.bind (mt_rI S x0 11 33) fun v1 =>
  if v1 = 0 then
   mt_b2 (f_X11_here x0 S) fun v3 S2 =>
   Option.bind (mt_rI S2 x0 11 32) fun v4 =>
   if v3 = 0 then
    Option.bind (mt_rI S2 x0 11 32) fun v25 =>
    Option.bind (mt_rI S2 x0 11 31) fun v26 =>
    if v25 < v26 then
     if v3 = 93 then
      if x1 = 0 then
       Option.bind (mt_rI S2 x0 11 32) fun v37 =>
       Option.bind (mt_wI S2 x0 11 32 (v37 + 1)) fun S38 =>
       if v3 = 108 then
        mt_b2 (f_X11_often x0 S38) fun v40 S39 =>
        rc x0 x1 S39
       else
       if v3 = 114 then
        mt_b2 (f_X11_often x0 S38) fun v42 S41 =>
        rc x0 x1 S41
       else
       if v3 = 117 then
        mt_b2 (f_X11_often x0 S38) fun v46 S45 =>
        rc x0 x1 S45
       else
       if v3 = 91 then
        Option.bind (f_X11_readsBracket rr x0 v4 S38) fun S44 =>
        rc x0 x1 S44
       else
       if v3 = 104 then
        rc x0 x1 S38
       else
        Option.bind (f_X11_bad x0 1 v4 S38) fun S43 =>
        rc x0 x1 S43
      else
       some S2
     else
      Option.bind (mt_rI S2 x0 11 32) fun v27 =>
      Option.bind (mt_wI S2 x0 11 32 (v27 + 1)) fun S28 =>
      if v3 = 108 then
       mt_b2 (f_X11_often x0 S28) fun v30 S29 =>
       rc x0 x1 S29
      else
      if v3 = 114 then
       mt_b2 (f_X11_often x0 S28) fun v32 S31 =>
       rc x0 x1 S31
      else
      if v3 = 117 then
       mt_b2 (f_X11_often x0 S28) fun v36 S35 =>
       rc x0 x1 S35
      else
      if v3 = 91 then
       Option.bind (f_X11_readsBracket rr x0 v4 S28) fun S34 =>
       rc x0 x1 S34
      else
      if v3 = 104 then
       rc x0 x1 S28
      else
       Option.bind (f_X11_bad x0 1 v4 S28) fun S33 =>
       rc x0 x1 S33
    else
    if x1 = 0 then
     some S2
    else
     Option.bind (mt_rI S2 x0 11 31) fun v47 =>
     Option.bind (f_X11_bad x0 1 v47 S2) fun S48 =>
     some S48
   else
   if v3 = 93 then
    if x1 = 0 then
     Option.bind (mt_rI S2 x0 11 32) fun v15 =>
     Option.bind (mt_wI S2 x0 11 32 (v15 + 1)) fun S16 =>
     if v3 = 108 then
      mt_b2 (f_X11_often x0 S16) fun v18 S17 =>
      rc x0 x1 S17
     else
     if v3 = 114 then
      mt_b2 (f_X11_often x0 S16) fun v20 S19 =>
      rc x0 x1 S19
     else
     if v3 = 117 then
      mt_b2 (f_X11_often x0 S16) fun v24 S23 =>
      rc x0 x1 S23
     else
     if v3 = 91 then
      Option.bind (f_X11_readsBracket rr x0 v4 S16) fun S22 =>
      rc x0 x1 S22
     else
     if v3 = 104 then
      rc x0 x1 S16
     else
      Option.bind (f_X11_bad x0 1 v4 S16) fun S21 =>
      rc x0 x1 S21
    else
     some S2
   else
    Option.bind (mt_rI S2 x0 11 32) fun v5 =>
    Option.bind (mt_wI S2 x0 11 32 (v5 + 1)) fun S6 =>
    if v3 = 108 then
     mt_b2 (f_X11_often x0 S6) fun v8 S7 =>
     rc x0 x1 S7
    else
    if v3 = 114 then
     mt_b2 (f_X11_often x0 S6) fun v10 S9 =>
     rc x0 x1 S9
    else
    if v3 = 117 then
     mt_b2 (f_X11_often x0 S6) fun v14 S13 =>
     rc x0 x1 S13
    else
    if v3 = 91 then
     Option.bind (f_X11_readsBracket rr x0 v4 S6) fun S12 =>
     rc x0 x1 S12
    else
    if v3 = 104 then
     rc x0 x1 S6
    else
     Option.bind (f_X11_bad x0 1 v4 S6) fun S11 =>
     rc x0 x1 S11
  else
   some S
def f_X11_reads_L0 (rr : Nat → Int32 → mt_S → Option (mt_S)) : Nat → Nat → Int32 → mt_S → Option (mt_S)
  | 0 => fun _ _ _ => none
  | n + 1 => f_X11_reads_L0s rr (f_X11_reads_L0 rr n)
set_option maxHeartbeats 4000000 in
set_option maxRecDepth 100000 in
theorem m_X11_reads_L0 {B : mt_B} {E : mt_E} {S' : mt_S} {dr : Nat} (hC : mt_Cx B E cX11_reads RX11 none 4 (dr + 4) 0 0) (hE : mt_End B E (0, 0) none S') (rr : Nat → Int32 → mt_S → Option (mt_S)) (hr : ∀ (x0 : Nat) (x1 : Int32) (S S' : mt_S), rr x0 x1 S = some S' → mt_M B yX11_reads cX11_reads 4 none dr [mt_rf B x0, .int x1] S none S') (hkr : ∀ (x0 : Nat) (x1 : Int32) (S S' : mt_S), rr x0 x1 S = some S' → mt_isK S x0 11 = true) : ∀ (n : Nat) (x0 : Nat) (x1 : Int32) (S : mt_S), f_X11_reads_L0 rr n x0 x1 S = some S' → mt_Go B E (0, 0) S 0 [(0, mt_rf B x0), (1, .int x1)] [] := by
  intro n
  induction n with
  | zero =>
    intro x0 x1 S h
    cases h
  | succ n ih =>
    intro x0 x1 S h
    have h : f_X11_reads_L0s rr (f_X11_reads_L0 rr n) x0 x1 S = some S' := h
    unfold f_X11_reads_L0s at h
    refine go_aload_n hC 0 dX11_reads_0 rfl rfl ?_
    obtain ⟨v1, e1, h⟩ := mt_ob h
    refine go_getI hC mt_flX11_259 e1 dX11_reads_1 ?_
    refine go_if_ne hC (tgt := 122) dX11_reads_4 (by decide) (fun hc => ?_) (fun hc => ?_)
    · have h := mt_in' h hc
      exact go_vret hC (mt_rev h hE) dX11_reads_122
    · have h := mt_ip h hc
      refine go_aload_n hC 0 dX11_reads_7 rfl rfl ?_
      obtain ⟨v3, S2, e3, h⟩ := mt_ob2 h
      refine go_callVi hC [] [] (m_X11_here e3) mt_cvX11_265 (k_X11_here e3) dX11_reads_8 rfl rfl (by omega) (Nat.le_of_ble_eq_true rfl) ⟨Nat.le_refl _, Nat.le_refl _⟩ ?_
      refine go_istore_n hC [1, 2, 0] (lv1 := [(0, mt_rf B x0), (1, .int x1), (2, .int v3)]) dX11_reads_11 rfl (by decide) rfl ?_
      refine go_aload_n hC 0 dX11_reads_12 rfl rfl ?_
      obtain ⟨v4, e4, h⟩ := mt_ob h
      refine go_getI hC mt_flX11_253 e4 dX11_reads_13 ?_
      refine go_istore_n hC [1, 2, 3, 0] (lv1 := [(0, mt_rf B x0), (1, .int x1), (2, .int v3), (3, .int v4)]) dX11_reads_16 rfl (by decide) rfl ?_
      refine go_iload_n hC 2 dX11_reads_17 rfl rfl ?_
      refine go_if_ne hC (tgt := 46) dX11_reads_18 (by decide) (fun hc => ?_) (fun hc => ?_)
      · have h := mt_in' h hc
        refine go_iload_n hC 2 dX11_reads_46 rfl rfl ?_
        refine go_bipush (v := 93) hC dX11_reads_47 (by decide) ?_
        refine go_icmp_ne hC (tgt := 57) dX11_reads_49 (by decide) (fun hc => ?_) (fun hc => ?_)
        · have h := mt_in' h hc
          refine go_aload_n hC 0 dX11_reads_57 rfl rfl ?_
          refine go_dup hC dX11_reads_58 rfl ?_
          obtain ⟨v5, e5, h⟩ := mt_ob h
          refine go_getI hC mt_flX11_253 e5 dX11_reads_59 ?_
          refine go_iconst (v := 1) hC dX11_reads_62 (by decide) ?_
          refine go_iadd hC dX11_reads_63 ?_
          obtain ⟨S6, e6, h⟩ := mt_ob h
          refine go_putI hC mt_flX11_253 e6 dX11_reads_64 ?_
          refine go_iload_n hC 2 dX11_reads_67 rfl rfl ?_
          refine go_bipush (v := 108) hC dX11_reads_68 (by decide) ?_
          refine go_icmp_eq hC (tgt := 85) dX11_reads_70 (by decide) (fun hc => ?_) (fun hc => ?_)
          · have h := mt_ip h hc
            refine go_aload_n hC 0 dX11_reads_85 rfl rfl ?_
            obtain ⟨v8, S7, e8, h⟩ := mt_ob2 h
            refine go_callVi hC [] [] (m_X11_often e8) mt_cvX11_274 (k_X11_often e8) dX11_reads_86 rfl rfl (by omega) (Nat.le_of_ble_eq_true rfl) ⟨Nat.le_refl _, Nat.le_refl _⟩ ?_
            refine go_pop hC dX11_reads_89 rfl ?_
            refine go_goto hC (tgt := 119) dX11_reads_90 (by decide) ?_
            refine go_goto hC (tgt := 0) dX11_reads_119 (by decide) ?_
            refine go_sub [0, 1] (lv1 := [(0, mt_rf B x0), (1, .int x1)]) rfl ?_
            exact ih _ _ _ h
          · have h := mt_in' h hc
            refine go_iload_n hC 2 dX11_reads_73 rfl rfl ?_
            refine go_bipush (v := 114) hC dX11_reads_74 (by decide) ?_
            refine go_icmp_eq hC (tgt := 85) dX11_reads_76 (by decide) (fun hc => ?_) (fun hc => ?_)
            · have h := mt_ip h hc
              refine go_aload_n hC 0 dX11_reads_85 rfl rfl ?_
              obtain ⟨v10, S9, e10, h⟩ := mt_ob2 h
              refine go_callVi hC [] [] (m_X11_often e10) mt_cvX11_274 (k_X11_often e10) dX11_reads_86 rfl rfl (by omega) (Nat.le_of_ble_eq_true rfl) ⟨Nat.le_refl _, Nat.le_refl _⟩ ?_
              refine go_pop hC dX11_reads_89 rfl ?_
              refine go_goto hC (tgt := 119) dX11_reads_90 (by decide) ?_
              refine go_goto hC (tgt := 0) dX11_reads_119 (by decide) ?_
              refine go_sub [0, 1] (lv1 := [(0, mt_rf B x0), (1, .int x1)]) rfl ?_
              exact ih _ _ _ h
            · have h := mt_in' h hc
              refine go_iload_n hC 2 dX11_reads_79 rfl rfl ?_
              refine go_bipush (v := 117) hC dX11_reads_80 (by decide) ?_
              refine go_icmp_ne hC (tgt := 93) dX11_reads_82 (by decide) (fun hc => ?_) (fun hc => ?_)
              · have h := mt_in' h hc
                refine go_iload_n hC 2 dX11_reads_93 rfl rfl ?_
                refine go_bipush (v := 91) hC dX11_reads_94 (by decide) ?_
                refine go_icmp_ne hC (tgt := 107) dX11_reads_96 (by decide) (fun hc => ?_) (fun hc => ?_)
                · have h := mt_in' h hc
                  refine go_iload_n hC 2 dX11_reads_107 rfl rfl ?_
                  refine go_bipush (v := 104) hC dX11_reads_108 (by decide) ?_
                  refine go_icmp_eq hC (tgt := 119) dX11_reads_110 (by decide) (fun hc => ?_) (fun hc => ?_)
                  · have h := mt_ip h hc
                    refine go_goto hC (tgt := 0) dX11_reads_119 (by decide) ?_
                    refine go_sub [0, 1] (lv1 := [(0, mt_rf B x0), (1, .int x1)]) rfl ?_
                    exact ih _ _ _ h
                  · have h := mt_in' h hc
                    refine go_aload_n hC 0 dX11_reads_113 rfl rfl ?_
                    refine go_iconst (v := 1) hC dX11_reads_114 (by decide) ?_
                    refine go_iload_n hC 3 dX11_reads_115 rfl rfl ?_
                    obtain ⟨S11, e11, h⟩ := mt_ob h
                    refine go_callVv hC [.int 1, .int v4] [] (m_X11_bad e11) mt_cvX11_271 (k_X11_bad e11) dX11_reads_116 rfl rfl (by omega) (Nat.le_of_ble_eq_true rfl) ⟨Nat.le_refl _, Nat.le_refl _⟩ ?_
                    refine go_goto hC (tgt := 0) dX11_reads_119 (by decide) ?_
                    refine go_sub [0, 1] (lv1 := [(0, mt_rf B x0), (1, .int x1)]) rfl ?_
                    exact ih _ _ _ h
                · have h := mt_ip h hc
                  refine go_aload_n hC 0 dX11_reads_99 rfl rfl ?_
                  refine go_iload_n hC 3 dX11_reads_100 rfl rfl ?_
                  obtain ⟨S12, e12, h⟩ := mt_ob h
                  refine go_callVv hC [.int v4] [] (m_X11_readsBracket hr hkr e12) mt_cvX11_277 (k_X11_readsBracket e12) dX11_reads_101 rfl rfl (by omega) (Nat.le_of_ble_eq_true rfl) ⟨Nat.le_refl _, Nat.le_refl _⟩ ?_
                  refine go_goto hC (tgt := 119) dX11_reads_104 (by decide) ?_
                  refine go_goto hC (tgt := 0) dX11_reads_119 (by decide) ?_
                  refine go_sub [0, 1] (lv1 := [(0, mt_rf B x0), (1, .int x1)]) rfl ?_
                  exact ih _ _ _ h
              · have h := mt_ip h hc
                refine go_aload_n hC 0 dX11_reads_85 rfl rfl ?_
                obtain ⟨v14, S13, e14, h⟩ := mt_ob2 h
                refine go_callVi hC [] [] (m_X11_often e14) mt_cvX11_274 (k_X11_often e14) dX11_reads_86 rfl rfl (by omega) (Nat.le_of_ble_eq_true rfl) ⟨Nat.le_refl _, Nat.le_refl _⟩ ?_
                refine go_pop hC dX11_reads_89 rfl ?_
                refine go_goto hC (tgt := 119) dX11_reads_90 (by decide) ?_
                refine go_goto hC (tgt := 0) dX11_reads_119 (by decide) ?_
                refine go_sub [0, 1] (lv1 := [(0, mt_rf B x0), (1, .int x1)]) rfl ?_
                exact ih _ _ _ h
        · have h := mt_ip h hc
          refine go_iload_n hC 1 dX11_reads_52 rfl rfl ?_
          refine go_if_eq hC (tgt := 57) dX11_reads_53 (by decide) (fun hc => ?_) (fun hc => ?_)
          · have h := mt_ip h hc
            refine go_aload_n hC 0 dX11_reads_57 rfl rfl ?_
            refine go_dup hC dX11_reads_58 rfl ?_
            obtain ⟨v15, e15, h⟩ := mt_ob h
            refine go_getI hC mt_flX11_253 e15 dX11_reads_59 ?_
            refine go_iconst (v := 1) hC dX11_reads_62 (by decide) ?_
            refine go_iadd hC dX11_reads_63 ?_
            obtain ⟨S16, e16, h⟩ := mt_ob h
            refine go_putI hC mt_flX11_253 e16 dX11_reads_64 ?_
            refine go_iload_n hC 2 dX11_reads_67 rfl rfl ?_
            refine go_bipush (v := 108) hC dX11_reads_68 (by decide) ?_
            refine go_icmp_eq hC (tgt := 85) dX11_reads_70 (by decide) (fun hc => ?_) (fun hc => ?_)
            · have h := mt_ip h hc
              refine go_aload_n hC 0 dX11_reads_85 rfl rfl ?_
              obtain ⟨v18, S17, e18, h⟩ := mt_ob2 h
              refine go_callVi hC [] [] (m_X11_often e18) mt_cvX11_274 (k_X11_often e18) dX11_reads_86 rfl rfl (by omega) (Nat.le_of_ble_eq_true rfl) ⟨Nat.le_refl _, Nat.le_refl _⟩ ?_
              refine go_pop hC dX11_reads_89 rfl ?_
              refine go_goto hC (tgt := 119) dX11_reads_90 (by decide) ?_
              refine go_goto hC (tgt := 0) dX11_reads_119 (by decide) ?_
              refine go_sub [0, 1] (lv1 := [(0, mt_rf B x0), (1, .int x1)]) rfl ?_
              exact ih _ _ _ h
            · have h := mt_in' h hc
              refine go_iload_n hC 2 dX11_reads_73 rfl rfl ?_
              refine go_bipush (v := 114) hC dX11_reads_74 (by decide) ?_
              refine go_icmp_eq hC (tgt := 85) dX11_reads_76 (by decide) (fun hc => ?_) (fun hc => ?_)
              · have h := mt_ip h hc
                refine go_aload_n hC 0 dX11_reads_85 rfl rfl ?_
                obtain ⟨v20, S19, e20, h⟩ := mt_ob2 h
                refine go_callVi hC [] [] (m_X11_often e20) mt_cvX11_274 (k_X11_often e20) dX11_reads_86 rfl rfl (by omega) (Nat.le_of_ble_eq_true rfl) ⟨Nat.le_refl _, Nat.le_refl _⟩ ?_
                refine go_pop hC dX11_reads_89 rfl ?_
                refine go_goto hC (tgt := 119) dX11_reads_90 (by decide) ?_
                refine go_goto hC (tgt := 0) dX11_reads_119 (by decide) ?_
                refine go_sub [0, 1] (lv1 := [(0, mt_rf B x0), (1, .int x1)]) rfl ?_
                exact ih _ _ _ h
              · have h := mt_in' h hc
                refine go_iload_n hC 2 dX11_reads_79 rfl rfl ?_
                refine go_bipush (v := 117) hC dX11_reads_80 (by decide) ?_
                refine go_icmp_ne hC (tgt := 93) dX11_reads_82 (by decide) (fun hc => ?_) (fun hc => ?_)
                · have h := mt_in' h hc
                  refine go_iload_n hC 2 dX11_reads_93 rfl rfl ?_
                  refine go_bipush (v := 91) hC dX11_reads_94 (by decide) ?_
                  refine go_icmp_ne hC (tgt := 107) dX11_reads_96 (by decide) (fun hc => ?_) (fun hc => ?_)
                  · have h := mt_in' h hc
                    refine go_iload_n hC 2 dX11_reads_107 rfl rfl ?_
                    refine go_bipush (v := 104) hC dX11_reads_108 (by decide) ?_
                    refine go_icmp_eq hC (tgt := 119) dX11_reads_110 (by decide) (fun hc => ?_) (fun hc => ?_)
                    · have h := mt_ip h hc
                      refine go_goto hC (tgt := 0) dX11_reads_119 (by decide) ?_
                      refine go_sub [0, 1] (lv1 := [(0, mt_rf B x0), (1, .int x1)]) rfl ?_
                      exact ih _ _ _ h
                    · have h := mt_in' h hc
                      refine go_aload_n hC 0 dX11_reads_113 rfl rfl ?_
                      refine go_iconst (v := 1) hC dX11_reads_114 (by decide) ?_
                      refine go_iload_n hC 3 dX11_reads_115 rfl rfl ?_
                      obtain ⟨S21, e21, h⟩ := mt_ob h
                      refine go_callVv hC [.int 1, .int v4] [] (m_X11_bad e21) mt_cvX11_271 (k_X11_bad e21) dX11_reads_116 rfl rfl (by omega) (Nat.le_of_ble_eq_true rfl) ⟨Nat.le_refl _, Nat.le_refl _⟩ ?_
                      refine go_goto hC (tgt := 0) dX11_reads_119 (by decide) ?_
                      refine go_sub [0, 1] (lv1 := [(0, mt_rf B x0), (1, .int x1)]) rfl ?_
                      exact ih _ _ _ h
                  · have h := mt_ip h hc
                    refine go_aload_n hC 0 dX11_reads_99 rfl rfl ?_
                    refine go_iload_n hC 3 dX11_reads_100 rfl rfl ?_
                    obtain ⟨S22, e22, h⟩ := mt_ob h
                    refine go_callVv hC [.int v4] [] (m_X11_readsBracket hr hkr e22) mt_cvX11_277 (k_X11_readsBracket e22) dX11_reads_101 rfl rfl (by omega) (Nat.le_of_ble_eq_true rfl) ⟨Nat.le_refl _, Nat.le_refl _⟩ ?_
                    refine go_goto hC (tgt := 119) dX11_reads_104 (by decide) ?_
                    refine go_goto hC (tgt := 0) dX11_reads_119 (by decide) ?_
                    refine go_sub [0, 1] (lv1 := [(0, mt_rf B x0), (1, .int x1)]) rfl ?_
                    exact ih _ _ _ h
                · have h := mt_ip h hc
                  refine go_aload_n hC 0 dX11_reads_85 rfl rfl ?_
                  obtain ⟨v24, S23, e24, h⟩ := mt_ob2 h
                  refine go_callVi hC [] [] (m_X11_often e24) mt_cvX11_274 (k_X11_often e24) dX11_reads_86 rfl rfl (by omega) (Nat.le_of_ble_eq_true rfl) ⟨Nat.le_refl _, Nat.le_refl _⟩ ?_
                  refine go_pop hC dX11_reads_89 rfl ?_
                  refine go_goto hC (tgt := 119) dX11_reads_90 (by decide) ?_
                  refine go_goto hC (tgt := 0) dX11_reads_119 (by decide) ?_
                  refine go_sub [0, 1] (lv1 := [(0, mt_rf B x0), (1, .int x1)]) rfl ?_
                  exact ih _ _ _ h
          · have h := mt_in' h hc
            exact go_vret hC (mt_rev h hE) dX11_reads_56
      · have h := mt_ip h hc
        refine go_aload_n hC 0 dX11_reads_21 rfl rfl ?_
        obtain ⟨v25, e25, h⟩ := mt_ob h
        refine go_getI hC mt_flX11_253 e25 dX11_reads_22 ?_
        refine go_aload_n hC 0 dX11_reads_25 rfl rfl ?_
        obtain ⟨v26, e26, h⟩ := mt_ob h
        refine go_getI hC mt_flX11_256 e26 dX11_reads_26 ?_
        refine go_icmp_lt hC (tgt := 46) dX11_reads_29 (by decide) (fun hc => ?_) (fun hc => ?_)
        · have h := mt_ip h hc
          refine go_iload_n hC 2 dX11_reads_46 rfl rfl ?_
          refine go_bipush (v := 93) hC dX11_reads_47 (by decide) ?_
          refine go_icmp_ne hC (tgt := 57) dX11_reads_49 (by decide) (fun hc => ?_) (fun hc => ?_)
          · have h := mt_in' h hc
            refine go_aload_n hC 0 dX11_reads_57 rfl rfl ?_
            refine go_dup hC dX11_reads_58 rfl ?_
            obtain ⟨v27, e27, h⟩ := mt_ob h
            refine go_getI hC mt_flX11_253 e27 dX11_reads_59 ?_
            refine go_iconst (v := 1) hC dX11_reads_62 (by decide) ?_
            refine go_iadd hC dX11_reads_63 ?_
            obtain ⟨S28, e28, h⟩ := mt_ob h
            refine go_putI hC mt_flX11_253 e28 dX11_reads_64 ?_
            refine go_iload_n hC 2 dX11_reads_67 rfl rfl ?_
            refine go_bipush (v := 108) hC dX11_reads_68 (by decide) ?_
            refine go_icmp_eq hC (tgt := 85) dX11_reads_70 (by decide) (fun hc => ?_) (fun hc => ?_)
            · have h := mt_ip h hc
              refine go_aload_n hC 0 dX11_reads_85 rfl rfl ?_
              obtain ⟨v30, S29, e30, h⟩ := mt_ob2 h
              refine go_callVi hC [] [] (m_X11_often e30) mt_cvX11_274 (k_X11_often e30) dX11_reads_86 rfl rfl (by omega) (Nat.le_of_ble_eq_true rfl) ⟨Nat.le_refl _, Nat.le_refl _⟩ ?_
              refine go_pop hC dX11_reads_89 rfl ?_
              refine go_goto hC (tgt := 119) dX11_reads_90 (by decide) ?_
              refine go_goto hC (tgt := 0) dX11_reads_119 (by decide) ?_
              refine go_sub [0, 1] (lv1 := [(0, mt_rf B x0), (1, .int x1)]) rfl ?_
              exact ih _ _ _ h
            · have h := mt_in' h hc
              refine go_iload_n hC 2 dX11_reads_73 rfl rfl ?_
              refine go_bipush (v := 114) hC dX11_reads_74 (by decide) ?_
              refine go_icmp_eq hC (tgt := 85) dX11_reads_76 (by decide) (fun hc => ?_) (fun hc => ?_)
              · have h := mt_ip h hc
                refine go_aload_n hC 0 dX11_reads_85 rfl rfl ?_
                obtain ⟨v32, S31, e32, h⟩ := mt_ob2 h
                refine go_callVi hC [] [] (m_X11_often e32) mt_cvX11_274 (k_X11_often e32) dX11_reads_86 rfl rfl (by omega) (Nat.le_of_ble_eq_true rfl) ⟨Nat.le_refl _, Nat.le_refl _⟩ ?_
                refine go_pop hC dX11_reads_89 rfl ?_
                refine go_goto hC (tgt := 119) dX11_reads_90 (by decide) ?_
                refine go_goto hC (tgt := 0) dX11_reads_119 (by decide) ?_
                refine go_sub [0, 1] (lv1 := [(0, mt_rf B x0), (1, .int x1)]) rfl ?_
                exact ih _ _ _ h
              · have h := mt_in' h hc
                refine go_iload_n hC 2 dX11_reads_79 rfl rfl ?_
                refine go_bipush (v := 117) hC dX11_reads_80 (by decide) ?_
                refine go_icmp_ne hC (tgt := 93) dX11_reads_82 (by decide) (fun hc => ?_) (fun hc => ?_)
                · have h := mt_in' h hc
                  refine go_iload_n hC 2 dX11_reads_93 rfl rfl ?_
                  refine go_bipush (v := 91) hC dX11_reads_94 (by decide) ?_
                  refine go_icmp_ne hC (tgt := 107) dX11_reads_96 (by decide) (fun hc => ?_) (fun hc => ?_)
                  · have h := mt_in' h hc
                    refine go_iload_n hC 2 dX11_reads_107 rfl rfl ?_
                    refine go_bipush (v := 104) hC dX11_reads_108 (by decide) ?_
                    refine go_icmp_eq hC (tgt := 119) dX11_reads_110 (by decide) (fun hc => ?_) (fun hc => ?_)
                    · have h := mt_ip h hc
                      refine go_goto hC (tgt := 0) dX11_reads_119 (by decide) ?_
                      refine go_sub [0, 1] (lv1 := [(0, mt_rf B x0), (1, .int x1)]) rfl ?_
                      exact ih _ _ _ h
                    · have h := mt_in' h hc
                      refine go_aload_n hC 0 dX11_reads_113 rfl rfl ?_
                      refine go_iconst (v := 1) hC dX11_reads_114 (by decide) ?_
                      refine go_iload_n hC 3 dX11_reads_115 rfl rfl ?_
                      obtain ⟨S33, e33, h⟩ := mt_ob h
                      refine go_callVv hC [.int 1, .int v4] [] (m_X11_bad e33) mt_cvX11_271 (k_X11_bad e33) dX11_reads_116 rfl rfl (by omega) (Nat.le_of_ble_eq_true rfl) ⟨Nat.le_refl _, Nat.le_refl _⟩ ?_
                      refine go_goto hC (tgt := 0) dX11_reads_119 (by decide) ?_
                      refine go_sub [0, 1] (lv1 := [(0, mt_rf B x0), (1, .int x1)]) rfl ?_
                      exact ih _ _ _ h
                  · have h := mt_ip h hc
                    refine go_aload_n hC 0 dX11_reads_99 rfl rfl ?_
                    refine go_iload_n hC 3 dX11_reads_100 rfl rfl ?_
                    obtain ⟨S34, e34, h⟩ := mt_ob h
                    refine go_callVv hC [.int v4] [] (m_X11_readsBracket hr hkr e34) mt_cvX11_277 (k_X11_readsBracket e34) dX11_reads_101 rfl rfl (by omega) (Nat.le_of_ble_eq_true rfl) ⟨Nat.le_refl _, Nat.le_refl _⟩ ?_
                    refine go_goto hC (tgt := 119) dX11_reads_104 (by decide) ?_
                    refine go_goto hC (tgt := 0) dX11_reads_119 (by decide) ?_
                    refine go_sub [0, 1] (lv1 := [(0, mt_rf B x0), (1, .int x1)]) rfl ?_
                    exact ih _ _ _ h
                · have h := mt_ip h hc
                  refine go_aload_n hC 0 dX11_reads_85 rfl rfl ?_
                  obtain ⟨v36, S35, e36, h⟩ := mt_ob2 h
                  refine go_callVi hC [] [] (m_X11_often e36) mt_cvX11_274 (k_X11_often e36) dX11_reads_86 rfl rfl (by omega) (Nat.le_of_ble_eq_true rfl) ⟨Nat.le_refl _, Nat.le_refl _⟩ ?_
                  refine go_pop hC dX11_reads_89 rfl ?_
                  refine go_goto hC (tgt := 119) dX11_reads_90 (by decide) ?_
                  refine go_goto hC (tgt := 0) dX11_reads_119 (by decide) ?_
                  refine go_sub [0, 1] (lv1 := [(0, mt_rf B x0), (1, .int x1)]) rfl ?_
                  exact ih _ _ _ h
          · have h := mt_ip h hc
            refine go_iload_n hC 1 dX11_reads_52 rfl rfl ?_
            refine go_if_eq hC (tgt := 57) dX11_reads_53 (by decide) (fun hc => ?_) (fun hc => ?_)
            · have h := mt_ip h hc
              refine go_aload_n hC 0 dX11_reads_57 rfl rfl ?_
              refine go_dup hC dX11_reads_58 rfl ?_
              obtain ⟨v37, e37, h⟩ := mt_ob h
              refine go_getI hC mt_flX11_253 e37 dX11_reads_59 ?_
              refine go_iconst (v := 1) hC dX11_reads_62 (by decide) ?_
              refine go_iadd hC dX11_reads_63 ?_
              obtain ⟨S38, e38, h⟩ := mt_ob h
              refine go_putI hC mt_flX11_253 e38 dX11_reads_64 ?_
              refine go_iload_n hC 2 dX11_reads_67 rfl rfl ?_
              refine go_bipush (v := 108) hC dX11_reads_68 (by decide) ?_
              refine go_icmp_eq hC (tgt := 85) dX11_reads_70 (by decide) (fun hc => ?_) (fun hc => ?_)
              · have h := mt_ip h hc
                refine go_aload_n hC 0 dX11_reads_85 rfl rfl ?_
                obtain ⟨v40, S39, e40, h⟩ := mt_ob2 h
                refine go_callVi hC [] [] (m_X11_often e40) mt_cvX11_274 (k_X11_often e40) dX11_reads_86 rfl rfl (by omega) (Nat.le_of_ble_eq_true rfl) ⟨Nat.le_refl _, Nat.le_refl _⟩ ?_
                refine go_pop hC dX11_reads_89 rfl ?_
                refine go_goto hC (tgt := 119) dX11_reads_90 (by decide) ?_
                refine go_goto hC (tgt := 0) dX11_reads_119 (by decide) ?_
                refine go_sub [0, 1] (lv1 := [(0, mt_rf B x0), (1, .int x1)]) rfl ?_
                exact ih _ _ _ h
              · have h := mt_in' h hc
                refine go_iload_n hC 2 dX11_reads_73 rfl rfl ?_
                refine go_bipush (v := 114) hC dX11_reads_74 (by decide) ?_
                refine go_icmp_eq hC (tgt := 85) dX11_reads_76 (by decide) (fun hc => ?_) (fun hc => ?_)
                · have h := mt_ip h hc
                  refine go_aload_n hC 0 dX11_reads_85 rfl rfl ?_
                  obtain ⟨v42, S41, e42, h⟩ := mt_ob2 h
                  refine go_callVi hC [] [] (m_X11_often e42) mt_cvX11_274 (k_X11_often e42) dX11_reads_86 rfl rfl (by omega) (Nat.le_of_ble_eq_true rfl) ⟨Nat.le_refl _, Nat.le_refl _⟩ ?_
                  refine go_pop hC dX11_reads_89 rfl ?_
                  refine go_goto hC (tgt := 119) dX11_reads_90 (by decide) ?_
                  refine go_goto hC (tgt := 0) dX11_reads_119 (by decide) ?_
                  refine go_sub [0, 1] (lv1 := [(0, mt_rf B x0), (1, .int x1)]) rfl ?_
                  exact ih _ _ _ h
                · have h := mt_in' h hc
                  refine go_iload_n hC 2 dX11_reads_79 rfl rfl ?_
                  refine go_bipush (v := 117) hC dX11_reads_80 (by decide) ?_
                  refine go_icmp_ne hC (tgt := 93) dX11_reads_82 (by decide) (fun hc => ?_) (fun hc => ?_)
                  · have h := mt_in' h hc
                    refine go_iload_n hC 2 dX11_reads_93 rfl rfl ?_
                    refine go_bipush (v := 91) hC dX11_reads_94 (by decide) ?_
                    refine go_icmp_ne hC (tgt := 107) dX11_reads_96 (by decide) (fun hc => ?_) (fun hc => ?_)
                    · have h := mt_in' h hc
                      refine go_iload_n hC 2 dX11_reads_107 rfl rfl ?_
                      refine go_bipush (v := 104) hC dX11_reads_108 (by decide) ?_
                      refine go_icmp_eq hC (tgt := 119) dX11_reads_110 (by decide) (fun hc => ?_) (fun hc => ?_)
                      · have h := mt_ip h hc
                        refine go_goto hC (tgt := 0) dX11_reads_119 (by decide) ?_
                        refine go_sub [0, 1] (lv1 := [(0, mt_rf B x0), (1, .int x1)]) rfl ?_
                        exact ih _ _ _ h
                      · have h := mt_in' h hc
                        refine go_aload_n hC 0 dX11_reads_113 rfl rfl ?_
                        refine go_iconst (v := 1) hC dX11_reads_114 (by decide) ?_
                        refine go_iload_n hC 3 dX11_reads_115 rfl rfl ?_
                        obtain ⟨S43, e43, h⟩ := mt_ob h
                        refine go_callVv hC [.int 1, .int v4] [] (m_X11_bad e43) mt_cvX11_271 (k_X11_bad e43) dX11_reads_116 rfl rfl (by omega) (Nat.le_of_ble_eq_true rfl) ⟨Nat.le_refl _, Nat.le_refl _⟩ ?_
                        refine go_goto hC (tgt := 0) dX11_reads_119 (by decide) ?_
                        refine go_sub [0, 1] (lv1 := [(0, mt_rf B x0), (1, .int x1)]) rfl ?_
                        exact ih _ _ _ h
                    · have h := mt_ip h hc
                      refine go_aload_n hC 0 dX11_reads_99 rfl rfl ?_
                      refine go_iload_n hC 3 dX11_reads_100 rfl rfl ?_
                      obtain ⟨S44, e44, h⟩ := mt_ob h
                      refine go_callVv hC [.int v4] [] (m_X11_readsBracket hr hkr e44) mt_cvX11_277 (k_X11_readsBracket e44) dX11_reads_101 rfl rfl (by omega) (Nat.le_of_ble_eq_true rfl) ⟨Nat.le_refl _, Nat.le_refl _⟩ ?_
                      refine go_goto hC (tgt := 119) dX11_reads_104 (by decide) ?_
                      refine go_goto hC (tgt := 0) dX11_reads_119 (by decide) ?_
                      refine go_sub [0, 1] (lv1 := [(0, mt_rf B x0), (1, .int x1)]) rfl ?_
                      exact ih _ _ _ h
                  · have h := mt_ip h hc
                    refine go_aload_n hC 0 dX11_reads_85 rfl rfl ?_
                    obtain ⟨v46, S45, e46, h⟩ := mt_ob2 h
                    refine go_callVi hC [] [] (m_X11_often e46) mt_cvX11_274 (k_X11_often e46) dX11_reads_86 rfl rfl (by omega) (Nat.le_of_ble_eq_true rfl) ⟨Nat.le_refl _, Nat.le_refl _⟩ ?_
                    refine go_pop hC dX11_reads_89 rfl ?_
                    refine go_goto hC (tgt := 119) dX11_reads_90 (by decide) ?_
                    refine go_goto hC (tgt := 0) dX11_reads_119 (by decide) ?_
                    refine go_sub [0, 1] (lv1 := [(0, mt_rf B x0), (1, .int x1)]) rfl ?_
                    exact ih _ _ _ h
            · have h := mt_in' h hc
              exact go_vret hC (mt_rev h hE) dX11_reads_56
        · have h := mt_in' h hc
          refine go_iload_n hC 1 dX11_reads_32 rfl rfl ?_
          refine go_if_eq hC (tgt := 45) dX11_reads_33 (by decide) (fun hc => ?_) (fun hc => ?_)
          · have h := mt_ip h hc
            exact go_vret hC (mt_rev h hE) dX11_reads_45
          · have h := mt_in' h hc
            refine go_aload_n hC 0 dX11_reads_36 rfl rfl ?_
            refine go_iconst (v := 1) hC dX11_reads_37 (by decide) ?_
            refine go_aload_n hC 0 dX11_reads_38 rfl rfl ?_
            obtain ⟨v47, e47, h⟩ := mt_ob h
            refine go_getI hC mt_flX11_256 e47 dX11_reads_39 ?_
            obtain ⟨S48, e48, h⟩ := mt_ob h
            refine go_callVv hC [.int 1, .int v47] [] (m_X11_bad e48) mt_cvX11_271 (k_X11_bad e48) dX11_reads_42 rfl rfl (by omega) (Nat.le_of_ble_eq_true rfl) ⟨Nat.le_refl _, Nat.le_refl _⟩ ?_
            exact go_vret hC (mt_rev h hE) dX11_reads_45
set_option maxHeartbeats 4000000 in
set_option maxRecDepth 100000 in
theorem ov_X11_reads_L0 {T : mt_S} {S' : mt_S} {rr : Nat → Int32 → mt_S → Option (mt_S)} (hr : ∀ (x0 : Nat) (x1 : Int32) (S S' : mt_S), mt_cp S T → rr x0 x1 S = some S' → rr x0 x1 (mt_ov S T) = some (mt_ov S' T) ∧ mt_cp S' T) : ∀ (n : Nat) (x0 : Nat) (x1 : Int32) (S : mt_S), mt_cp S T → f_X11_reads_L0 rr n x0 x1 S = some S' → f_X11_reads_L0 rr n x0 x1 (mt_ov S T) = some (mt_ov S' T) ∧ mt_cp S' T := by
  intro n
  induction n with
  | zero =>
    intro x0 x1 S hp h
    cases h
  | succ n ih =>
    intro x0 x1 S hp h
    have h : f_X11_reads_L0s rr (f_X11_reads_L0 rr n) x0 x1 S = some S' := h
    show f_X11_reads_L0s rr (f_X11_reads_L0 rr n) x0 x1 (mt_ov S T) = some (mt_ov S' T) ∧ mt_cp S' T
    unfold f_X11_reads_L0s at h ⊢
    obtain ⟨v1, e1, h⟩ := mt_ob h
    refine ov_b (ov_rI hp e1) ?_
    by_cases hc : v1 = 0
    · have h := mt_ip h hc
      refine ov_t hc ?_
      obtain ⟨v3, S2, e3, h⟩ := mt_ob2 h
      obtain ⟨o_, hp⟩ := ov_X11_here hp e3
      refine ov_b2 o_ ?_
      obtain ⟨v4, e4, h⟩ := mt_ob h
      refine ov_b (ov_rI hp e4) ?_
      by_cases hc : v3 = 0
      · have h := mt_ip h hc
        refine ov_t hc ?_
        obtain ⟨v25, e25, h⟩ := mt_ob h
        refine ov_b (ov_rI hp e25) ?_
        obtain ⟨v26, e26, h⟩ := mt_ob h
        refine ov_b (ov_rI hp e26) ?_
        by_cases hc : v25 < v26
        · have h := mt_ip h hc
          refine ov_t hc ?_
          by_cases hc : v3 = 93
          · have h := mt_ip h hc
            refine ov_t hc ?_
            by_cases hc : x1 = 0
            · have h := mt_ip h hc
              refine ov_t hc ?_
              obtain ⟨v37, e37, h⟩ := mt_ob h
              refine ov_b (ov_rI hp e37) ?_
              obtain ⟨S38, e38, h⟩ := mt_ob h
              obtain ⟨o_, hp⟩ := ov_wI hp e38
              refine ov_b o_ ?_
              by_cases hc : v3 = 108
              · have h := mt_ip h hc
                refine ov_t hc ?_
                obtain ⟨v40, S39, e40, h⟩ := mt_ob2 h
                obtain ⟨o_, hp⟩ := ov_X11_often hp e40
                refine ov_b2 o_ ?_
                exact ih _ _ _ hp h
              · have h := mt_in' h hc
                refine ov_f hc ?_
                by_cases hc : v3 = 114
                · have h := mt_ip h hc
                  refine ov_t hc ?_
                  obtain ⟨v42, S41, e42, h⟩ := mt_ob2 h
                  obtain ⟨o_, hp⟩ := ov_X11_often hp e42
                  refine ov_b2 o_ ?_
                  exact ih _ _ _ hp h
                · have h := mt_in' h hc
                  refine ov_f hc ?_
                  by_cases hc : v3 = 117
                  · have h := mt_ip h hc
                    refine ov_t hc ?_
                    obtain ⟨v46, S45, e46, h⟩ := mt_ob2 h
                    obtain ⟨o_, hp⟩ := ov_X11_often hp e46
                    refine ov_b2 o_ ?_
                    exact ih _ _ _ hp h
                  · have h := mt_in' h hc
                    refine ov_f hc ?_
                    by_cases hc : v3 = 91
                    · have h := mt_ip h hc
                      refine ov_t hc ?_
                      obtain ⟨S44, e44, h⟩ := mt_ob h
                      obtain ⟨o_, hp⟩ := ov_X11_readsBracket hr hp e44
                      refine ov_b o_ ?_
                      exact ih _ _ _ hp h
                    · have h := mt_in' h hc
                      refine ov_f hc ?_
                      by_cases hc : v3 = 104
                      · have h := mt_ip h hc
                        refine ov_t hc ?_
                        exact ih _ _ _ hp h
                      · have h := mt_in' h hc
                        refine ov_f hc ?_
                        obtain ⟨S43, e43, h⟩ := mt_ob h
                        obtain ⟨o_, hp⟩ := ov_X11_bad hp e43
                        refine ov_b o_ ?_
                        exact ih _ _ _ hp h
            · have h := mt_in' h hc
              refine ov_f hc ?_
              exact ov_retv hp h
          · have h := mt_in' h hc
            refine ov_f hc ?_
            obtain ⟨v27, e27, h⟩ := mt_ob h
            refine ov_b (ov_rI hp e27) ?_
            obtain ⟨S28, e28, h⟩ := mt_ob h
            obtain ⟨o_, hp⟩ := ov_wI hp e28
            refine ov_b o_ ?_
            by_cases hc : v3 = 108
            · have h := mt_ip h hc
              refine ov_t hc ?_
              obtain ⟨v30, S29, e30, h⟩ := mt_ob2 h
              obtain ⟨o_, hp⟩ := ov_X11_often hp e30
              refine ov_b2 o_ ?_
              exact ih _ _ _ hp h
            · have h := mt_in' h hc
              refine ov_f hc ?_
              by_cases hc : v3 = 114
              · have h := mt_ip h hc
                refine ov_t hc ?_
                obtain ⟨v32, S31, e32, h⟩ := mt_ob2 h
                obtain ⟨o_, hp⟩ := ov_X11_often hp e32
                refine ov_b2 o_ ?_
                exact ih _ _ _ hp h
              · have h := mt_in' h hc
                refine ov_f hc ?_
                by_cases hc : v3 = 117
                · have h := mt_ip h hc
                  refine ov_t hc ?_
                  obtain ⟨v36, S35, e36, h⟩ := mt_ob2 h
                  obtain ⟨o_, hp⟩ := ov_X11_often hp e36
                  refine ov_b2 o_ ?_
                  exact ih _ _ _ hp h
                · have h := mt_in' h hc
                  refine ov_f hc ?_
                  by_cases hc : v3 = 91
                  · have h := mt_ip h hc
                    refine ov_t hc ?_
                    obtain ⟨S34, e34, h⟩ := mt_ob h
                    obtain ⟨o_, hp⟩ := ov_X11_readsBracket hr hp e34
                    refine ov_b o_ ?_
                    exact ih _ _ _ hp h
                  · have h := mt_in' h hc
                    refine ov_f hc ?_
                    by_cases hc : v3 = 104
                    · have h := mt_ip h hc
                      refine ov_t hc ?_
                      exact ih _ _ _ hp h
                    · have h := mt_in' h hc
                      refine ov_f hc ?_
                      obtain ⟨S33, e33, h⟩ := mt_ob h
                      obtain ⟨o_, hp⟩ := ov_X11_bad hp e33
                      refine ov_b o_ ?_
                      exact ih _ _ _ hp h
        · have h := mt_in' h hc
          refine ov_f hc ?_
          by_cases hc : x1 = 0
          · have h := mt_ip h hc
            refine ov_t hc ?_
            exact ov_retv hp h
          · have h := mt_in' h hc
            refine ov_f hc ?_
            obtain ⟨v47, e47, h⟩ := mt_ob h
            refine ov_b (ov_rI hp e47) ?_
            obtain ⟨S48, e48, h⟩ := mt_ob h
            obtain ⟨o_, hp⟩ := ov_X11_bad hp e48
            refine ov_b o_ ?_
            exact ov_retv hp h
      · have h := mt_in' h hc
        refine ov_f hc ?_
        by_cases hc : v3 = 93
        · have h := mt_ip h hc
          refine ov_t hc ?_
          by_cases hc : x1 = 0
          · have h := mt_ip h hc
            refine ov_t hc ?_
            obtain ⟨v15, e15, h⟩ := mt_ob h
            refine ov_b (ov_rI hp e15) ?_
            obtain ⟨S16, e16, h⟩ := mt_ob h
            obtain ⟨o_, hp⟩ := ov_wI hp e16
            refine ov_b o_ ?_
            by_cases hc : v3 = 108
            · have h := mt_ip h hc
              refine ov_t hc ?_
              obtain ⟨v18, S17, e18, h⟩ := mt_ob2 h
              obtain ⟨o_, hp⟩ := ov_X11_often hp e18
              refine ov_b2 o_ ?_
              exact ih _ _ _ hp h
            · have h := mt_in' h hc
              refine ov_f hc ?_
              by_cases hc : v3 = 114
              · have h := mt_ip h hc
                refine ov_t hc ?_
                obtain ⟨v20, S19, e20, h⟩ := mt_ob2 h
                obtain ⟨o_, hp⟩ := ov_X11_often hp e20
                refine ov_b2 o_ ?_
                exact ih _ _ _ hp h
              · have h := mt_in' h hc
                refine ov_f hc ?_
                by_cases hc : v3 = 117
                · have h := mt_ip h hc
                  refine ov_t hc ?_
                  obtain ⟨v24, S23, e24, h⟩ := mt_ob2 h
                  obtain ⟨o_, hp⟩ := ov_X11_often hp e24
                  refine ov_b2 o_ ?_
                  exact ih _ _ _ hp h
                · have h := mt_in' h hc
                  refine ov_f hc ?_
                  by_cases hc : v3 = 91
                  · have h := mt_ip h hc
                    refine ov_t hc ?_
                    obtain ⟨S22, e22, h⟩ := mt_ob h
                    obtain ⟨o_, hp⟩ := ov_X11_readsBracket hr hp e22
                    refine ov_b o_ ?_
                    exact ih _ _ _ hp h
                  · have h := mt_in' h hc
                    refine ov_f hc ?_
                    by_cases hc : v3 = 104
                    · have h := mt_ip h hc
                      refine ov_t hc ?_
                      exact ih _ _ _ hp h
                    · have h := mt_in' h hc
                      refine ov_f hc ?_
                      obtain ⟨S21, e21, h⟩ := mt_ob h
                      obtain ⟨o_, hp⟩ := ov_X11_bad hp e21
                      refine ov_b o_ ?_
                      exact ih _ _ _ hp h
          · have h := mt_in' h hc
            refine ov_f hc ?_
            exact ov_retv hp h
        · have h := mt_in' h hc
          refine ov_f hc ?_
          obtain ⟨v5, e5, h⟩ := mt_ob h
          refine ov_b (ov_rI hp e5) ?_
          obtain ⟨S6, e6, h⟩ := mt_ob h
          obtain ⟨o_, hp⟩ := ov_wI hp e6
          refine ov_b o_ ?_
          by_cases hc : v3 = 108
          · have h := mt_ip h hc
            refine ov_t hc ?_
            obtain ⟨v8, S7, e8, h⟩ := mt_ob2 h
            obtain ⟨o_, hp⟩ := ov_X11_often hp e8
            refine ov_b2 o_ ?_
            exact ih _ _ _ hp h
          · have h := mt_in' h hc
            refine ov_f hc ?_
            by_cases hc : v3 = 114
            · have h := mt_ip h hc
              refine ov_t hc ?_
              obtain ⟨v10, S9, e10, h⟩ := mt_ob2 h
              obtain ⟨o_, hp⟩ := ov_X11_often hp e10
              refine ov_b2 o_ ?_
              exact ih _ _ _ hp h
            · have h := mt_in' h hc
              refine ov_f hc ?_
              by_cases hc : v3 = 117
              · have h := mt_ip h hc
                refine ov_t hc ?_
                obtain ⟨v14, S13, e14, h⟩ := mt_ob2 h
                obtain ⟨o_, hp⟩ := ov_X11_often hp e14
                refine ov_b2 o_ ?_
                exact ih _ _ _ hp h
              · have h := mt_in' h hc
                refine ov_f hc ?_
                by_cases hc : v3 = 91
                · have h := mt_ip h hc
                  refine ov_t hc ?_
                  obtain ⟨S12, e12, h⟩ := mt_ob h
                  obtain ⟨o_, hp⟩ := ov_X11_readsBracket hr hp e12
                  refine ov_b o_ ?_
                  exact ih _ _ _ hp h
                · have h := mt_in' h hc
                  refine ov_f hc ?_
                  by_cases hc : v3 = 104
                  · have h := mt_ip h hc
                    refine ov_t hc ?_
                    exact ih _ _ _ hp h
                  · have h := mt_in' h hc
                    refine ov_f hc ?_
                    obtain ⟨S11, e11, h⟩ := mt_ob h
                    obtain ⟨o_, hp⟩ := ov_X11_bad hp e11
                    refine ov_b o_ ?_
                    exact ih _ _ _ hp h
    · have h := mt_in' h hc
      refine ov_f hc ?_
      exact ov_retv hp h
def f_X11_readss (rr : Nat → Int32 → mt_S → Option (mt_S)) (x0 : Nat) (x1 : Int32) (S : mt_S) : Option (mt_S) :=
  if mt_isK S x0 11 = true then
   f_X11_reads_L0 rr 1000 x0 x1 S
  else none
def f_X11_reads : Nat → Nat → Int32 → mt_S → Option (mt_S)
  | 0 => fun _ _ _ => none
  | n + 1 => f_X11_readss (f_X11_reads n)
theorem k_X11_reads {n : Nat} {x0 : Nat} {x1 : Int32} {S : mt_S} {S' : mt_S} (h : f_X11_reads n x0 x1 S = some S') : mt_isK S x0 11 = true := by
  cases n with
  | zero => cases h
  | succ n =>
    have h : f_X11_readss (f_X11_reads n) x0 x1 S = some S' := h
    unfold f_X11_readss at h
    exact (mt_gd h).1
set_option maxHeartbeats 4000000 in
set_option maxRecDepth 100000 in
theorem ms_X11_reads {B : mt_B} (rr : Nat → Int32 → mt_S → Option (mt_S)) {dr : Nat} (hr : ∀ (x0 : Nat) (x1 : Int32) (S S' : mt_S), rr x0 x1 S = some S' → mt_M B yX11_reads cX11_reads 4 none dr [mt_rf B x0, .int x1] S none S') (hkr : ∀ (x0 : Nat) (x1 : Int32) (S S' : mt_S), rr x0 x1 S = some S' → mt_isK S x0 11 = true) {x0 : Nat} {x1 : Int32} {S : mt_S} {S' : mt_S} (h : f_X11_readss rr x0 x1 S = some S') : mt_M B yX11_reads cX11_reads 4 none (dr + 4) [mt_rf B x0, .int x1] S none S' := by
  unfold f_X11_readss at h
  refine mt_M.of (by decide) (Nat.le_of_ble_eq_true rfl) (fun E hC hE => ?_)
  obtain ⟨hk0, h⟩ := mt_gd h
  exact m_X11_reads_L0 hC hE rr hr hkr 1000 _ _ _ h
set_option maxHeartbeats 4000000 in
set_option maxRecDepth 100000 in
theorem mr_X11_reads {B : mt_B} : ∀ (n : Nat) (x0 : Nat) (x1 : Int32) (S S' : mt_S), f_X11_reads n x0 x1 S = some S' → mt_M B yX11_reads cX11_reads 4 none (4 * n) [mt_rf B x0, .int x1] S none S' := by
  intro n
  induction n with
  | zero =>
    intro x0 x1 S S' h
    cases h
  | succ n ih =>
    intro x0 x1 S S' h
    have h : f_X11_readss (f_X11_reads n) x0 x1 S = some S' := h
    have h2 := ms_X11_reads (rr := f_X11_reads n) (dr := 4 * n) ih (fun _ _ _ _ h => k_X11_reads h) h
    rw [show 4 * (n + 1) = 4 * n + 4 from by omega]
    exact h2
theorem m_X11_reads {B : mt_B} {x0 : Nat} {x1 : Int32} {S : mt_S} {S' : mt_S} (h : f_X11_reads 6 x0 x1 S = some S') : mt_M B yX11_reads cX11_reads 4 none 24 [mt_rf B x0, .int x1] S none S' := mr_X11_reads 6 _ _ _ _ h
set_option maxHeartbeats 4000000 in
set_option maxRecDepth 100000 in
theorem ovs_X11_reads {T : mt_S} {rr : Nat → Int32 → mt_S → Option (mt_S)} (hr : ∀ (x0 : Nat) (x1 : Int32) (S S' : mt_S), mt_cp S T → rr x0 x1 S = some S' → rr x0 x1 (mt_ov S T) = some (mt_ov S' T) ∧ mt_cp S' T) {x0 : Nat} {x1 : Int32} {S : mt_S} {S' : mt_S} (hp : mt_cp S T) (h : f_X11_readss rr x0 x1 S = some S') : f_X11_readss rr x0 x1 (mt_ov S T) = some (mt_ov S' T) ∧ mt_cp S' T := by
  unfold f_X11_readss at h ⊢
  obtain ⟨hg, h⟩ := mt_gd h
  refine ov_t (ov_K hp hg) ?_
  exact ov_X11_reads_L0 hr 1000 _ _ _ hp h
set_option maxHeartbeats 4000000 in
set_option maxRecDepth 100000 in
theorem ovr_X11_reads {T : mt_S} : ∀ (n : Nat) (x0 : Nat) (x1 : Int32) (S S' : mt_S), mt_cp S T → f_X11_reads n x0 x1 S = some S' → f_X11_reads n x0 x1 (mt_ov S T) = some (mt_ov S' T) ∧ mt_cp S' T := by
  intro n
  induction n with
  | zero =>
    intro x0 x1 S S' hp h
    cases h
  | succ n ih =>
    intro x0 x1 S S' hp h
    exact ovs_X11_reads (rr := f_X11_reads n) ih hp h
theorem ov_X11_reads {T : mt_S} {x0 : Nat} {x1 : Int32} {S : mt_S} {S' : mt_S} (hp : mt_cp S T) (h : f_X11_reads 6 x0 x1 S = some S') : f_X11_reads 6 x0 x1 (mt_ov S T) = some (mt_ov S' T) ∧ mt_cp S' T := ovr_X11_reads 6 _ _ _ _ hp h
def f_X11_path (x0 : Nat) (S : mt_S) : Option (Int32 × mt_S) :=
  if mt_isK S x0 11 = true then
   Option.bind (mt_wI S x0 11 0 0) fun S1 =>
   Option.bind (mt_rI S1 x0 11 2) fun v2 =>
   Option.bind (mt_wI S1 x0 11 31 v2) fun S3 =>
   Option.bind (mt_wI S3 x0 11 2 0) fun S4 =>
   Option.bind (mt_wI S4 x0 11 33 0) fun S5 =>
   Option.bind (mt_wI S5 x0 11 32 0) fun S6 =>
   Option.bind (mt_wI S6 x0 11 35 0) fun S7 =>
   Option.bind (mt_rI S7 x0 11 31) fun v8 =>
   if v8 ≤ 200 then
    Option.bind (f_X11_reads 6 x0 0 S7) fun S9 =>
    Option.bind (mt_rI S9 x0 11 33) fun v10 =>
    if v10 = 0 then
     Option.bind (mt_rR S9 x0 11 3) fun v11 =>
     Option.bind (mt_rR S9 x0 11 6) fun v12 =>
     Option.bind (f_X11_copy v11 0 v12 0 S9) fun S13 =>
     Option.bind (mt_wI S13 x0 11 32 0) fun S14 =>
     Option.bind (mt_wI S14 x0 11 36 0) fun S15 =>
     Option.bind (mt_wI S15 x0 11 37 0) fun S16 =>
     Option.bind (f_X11_goes 6 x0 0 S16) fun S17 =>
     Option.bind (mt_rI S17 x0 11 36) fun v18 =>
     if v18 ≤ 0 then
      Option.bind (mt_rI S17 x0 11 36) fun v19 =>
      some (v19, S17)
     else
      Option.bind (f_X11_stay x0 S17) fun S20 =>
      Option.bind (mt_rI S20 x0 11 36) fun v21 =>
      some (v21, S20)
    else
     Option.bind (mt_rI S9 x0 11 34) fun v22 =>
     some ((-1000) - v22, S9)
   else
    Option.bind (f_X11_bad x0 1 200 S7) fun S23 =>
    Option.bind (f_X11_reads 6 x0 0 S23) fun S24 =>
    Option.bind (mt_rI S24 x0 11 33) fun v25 =>
    if v25 = 0 then
     Option.bind (mt_rR S24 x0 11 3) fun v26 =>
     Option.bind (mt_rR S24 x0 11 6) fun v27 =>
     Option.bind (f_X11_copy v26 0 v27 0 S24) fun S28 =>
     Option.bind (mt_wI S28 x0 11 32 0) fun S29 =>
     Option.bind (mt_wI S29 x0 11 36 0) fun S30 =>
     Option.bind (mt_wI S30 x0 11 37 0) fun S31 =>
     Option.bind (f_X11_goes 6 x0 0 S31) fun S32 =>
     Option.bind (mt_rI S32 x0 11 36) fun v33 =>
     if v33 ≤ 0 then
      Option.bind (mt_rI S32 x0 11 36) fun v34 =>
      some (v34, S32)
     else
      Option.bind (f_X11_stay x0 S32) fun S35 =>
      Option.bind (mt_rI S35 x0 11 36) fun v36 =>
      some (v36, S35)
    else
     Option.bind (mt_rI S24 x0 11 34) fun v37 =>
     some ((-1000) - v37, S24)
  else none
theorem k_X11_path {x0 : Nat} {S : mt_S} {r : Int32} {S' : mt_S} (h : f_X11_path x0 S = some (r, S')) : mt_isK S x0 11 = true := by
  unfold f_X11_path at h
  exact (mt_gd h).1
set_option maxHeartbeats 4000000 in
set_option maxRecDepth 100000 in
theorem m_X11_path {B : mt_B}  {x0 : Nat} {S : mt_S} {r : Int32} {S' : mt_S} (h : f_X11_path x0 S = some (r, S')) : mt_M B yX11_path cX11_path 1 (some .int) 31 [mt_rf B x0] S (some (.int r)) S' := by
  unfold f_X11_path at h
  refine mt_M.of (by decide) (Nat.le_of_ble_eq_true rfl) (fun E hC hE => ?_)
  obtain ⟨hk0, h⟩ := mt_gd h
  refine go_aload_n hC 0 dX11_path_0 rfl rfl ?_
  refine go_iconst (v := 0) hC dX11_path_1 (by decide) ?_
  obtain ⟨S1, e1, h⟩ := mt_ob h
  refine go_putI hC mt_flX11_1 e1 dX11_path_2 ?_
  refine go_aload_n hC 0 dX11_path_5 rfl rfl ?_
  refine go_aload_n hC 0 dX11_path_6 rfl rfl ?_
  obtain ⟨v2, e2, h⟩ := mt_ob h
  refine go_getI hC mt_flX11_11 e2 dX11_path_7 ?_
  obtain ⟨S3, e3, h⟩ := mt_ob h
  refine go_putI hC mt_flX11_256 e3 dX11_path_10 ?_
  refine go_aload_n hC 0 dX11_path_13 rfl rfl ?_
  refine go_iconst (v := 0) hC dX11_path_14 (by decide) ?_
  obtain ⟨S4, e4, h⟩ := mt_ob h
  refine go_putI hC mt_flX11_11 e4 dX11_path_15 ?_
  refine go_aload_n hC 0 dX11_path_18 rfl rfl ?_
  refine go_iconst (v := 0) hC dX11_path_19 (by decide) ?_
  obtain ⟨S5, e5, h⟩ := mt_ob h
  refine go_putI hC mt_flX11_259 e5 dX11_path_20 ?_
  refine go_aload_n hC 0 dX11_path_23 rfl rfl ?_
  refine go_iconst (v := 0) hC dX11_path_24 (by decide) ?_
  obtain ⟨S6, e6, h⟩ := mt_ob h
  refine go_putI hC mt_flX11_253 e6 dX11_path_25 ?_
  refine go_aload_n hC 0 dX11_path_28 rfl rfl ?_
  refine go_iconst (v := 0) hC dX11_path_29 (by decide) ?_
  obtain ⟨S7, e7, h⟩ := mt_ob h
  refine go_putI hC mt_flX11_280 e7 dX11_path_30 ?_
  refine go_aload_n hC 0 dX11_path_33 rfl rfl ?_
  obtain ⟨v8, e8, h⟩ := mt_ob h
  refine go_getI hC mt_flX11_256 e8 dX11_path_34 ?_
  refine go_sipush (v := 200) hC dX11_path_37 (by decide) ?_
  refine go_icmp_le hC (tgt := 51) dX11_path_40 (by decide) (fun hc => ?_) (fun hc => ?_)
  · have h := mt_ip h hc
    refine go_aload_n hC 0 dX11_path_51 rfl rfl ?_
    refine go_iconst (v := 0) hC dX11_path_52 (by decide) ?_
    obtain ⟨S9, e9, h⟩ := mt_ob h
    refine go_callVv hC [.int 0] [] (m_X11_reads e9) mt_cvX11_283 (k_X11_reads e9) dX11_path_53 rfl rfl (by decide) (Nat.le_of_ble_eq_true rfl) ⟨Nat.le_refl _, Nat.le_refl _⟩ ?_
    refine go_aload_n hC 0 dX11_path_56 rfl rfl ?_
    obtain ⟨v10, e10, h⟩ := mt_ob h
    refine go_getI hC mt_flX11_259 e10 dX11_path_57 ?_
    refine go_if_eq hC (tgt := 72) dX11_path_60 (by decide) (fun hc => ?_) (fun hc => ?_)
    · have h := mt_ip h hc
      refine go_aload_n hC 0 dX11_path_72 rfl rfl ?_
      obtain ⟨v11, e11, h⟩ := mt_ob h
      refine go_getR hC mt_flX11_24 e11 dX11_path_73 ?_
      refine go_iconst (v := 0) hC dX11_path_76 (by decide) ?_
      refine go_aload_n hC 0 dX11_path_77 rfl rfl ?_
      obtain ⟨v12, e12, h⟩ := mt_ob h
      refine go_getR hC mt_flX11_33 e12 dX11_path_78 ?_
      refine go_iconst (v := 0) hC dX11_path_81 (by decide) ?_
      obtain ⟨S13, e13, h⟩ := mt_ob h
      refine go_callSv hC [mt_rf B v11, .int 0, mt_rf B v12, .int 0] [] (m_X11_copy e13) mt_csX11_59 dX11_path_82 rfl rfl (by decide) (Nat.le_of_ble_eq_true rfl) ⟨Nat.le_refl _, Nat.le_refl _⟩ ?_
      refine go_aload_n hC 0 dX11_path_85 rfl rfl ?_
      refine go_iconst (v := 0) hC dX11_path_86 (by decide) ?_
      obtain ⟨S14, e14, h⟩ := mt_ob h
      refine go_putI hC mt_flX11_253 e14 dX11_path_87 ?_
      refine go_aload_n hC 0 dX11_path_90 rfl rfl ?_
      refine go_iconst (v := 0) hC dX11_path_91 (by decide) ?_
      obtain ⟨S15, e15, h⟩ := mt_ob h
      refine go_putI hC mt_flX11_291 e15 dX11_path_92 ?_
      refine go_aload_n hC 0 dX11_path_95 rfl rfl ?_
      refine go_iconst (v := 0) hC dX11_path_96 (by decide) ?_
      obtain ⟨S16, e16, h⟩ := mt_ob h
      refine go_putZ hC mt_flX11_287 e16 (Or.inl rfl) dX11_path_97 ?_
      refine go_aload_n hC 0 dX11_path_100 rfl rfl ?_
      refine go_iconst (v := 0) hC dX11_path_101 (by decide) ?_
      obtain ⟨S17, e17, h⟩ := mt_ob h
      refine go_callVv hC [.int 0] [] (m_X11_goes e17) mt_cvX11_300 (k_X11_goes e17) dX11_path_102 rfl rfl (by decide) (Nat.le_of_ble_eq_true rfl) ⟨Nat.le_refl _, Nat.le_refl _⟩ ?_
      refine go_aload_n hC 0 dX11_path_105 rfl rfl ?_
      obtain ⟨v18, e18, h⟩ := mt_ob h
      refine go_getI hC mt_flX11_291 e18 dX11_path_106 ?_
      refine go_if_le hC (tgt := 116) dX11_path_109 (by decide) (fun hc => ?_) (fun hc => ?_)
      · have h := mt_ip h hc
        refine go_aload_n hC 0 dX11_path_116 rfl rfl ?_
        obtain ⟨v19, e19, h⟩ := mt_ob h
        refine go_getI hC mt_flX11_291 e19 dX11_path_117 ?_
        exact go_iret hC (mt_rei h hE) dX11_path_120
      · have h := mt_in' h hc
        refine go_aload_n hC 0 dX11_path_112 rfl rfl ?_
        obtain ⟨S20, e20, h⟩ := mt_ob h
        refine go_callVv hC [] [] (m_X11_stay e20) mt_cvX11_105 (k_X11_stay e20) dX11_path_113 rfl rfl (by decide) (Nat.le_of_ble_eq_true rfl) ⟨Nat.le_refl _, Nat.le_refl _⟩ ?_
        refine go_aload_n hC 0 dX11_path_116 rfl rfl ?_
        obtain ⟨v21, e21, h⟩ := mt_ob h
        refine go_getI hC mt_flX11_291 e21 dX11_path_117 ?_
        exact go_iret hC (mt_rei h hE) dX11_path_120
    · have h := mt_in' h hc
      refine go_sipush (v := (-1000)) hC dX11_path_63 (by decide) ?_
      refine go_aload_n hC 0 dX11_path_66 rfl rfl ?_
      obtain ⟨v22, e22, h⟩ := mt_ob h
      refine go_getI hC mt_flX11_262 e22 dX11_path_67 ?_
      refine go_isub hC dX11_path_70 ?_
      exact go_iret hC (mt_rei h hE) dX11_path_71
  · have h := mt_in' h hc
    refine go_aload_n hC 0 dX11_path_43 rfl rfl ?_
    refine go_iconst (v := 1) hC dX11_path_44 (by decide) ?_
    refine go_sipush (v := 200) hC dX11_path_45 (by decide) ?_
    obtain ⟨S23, e23, h⟩ := mt_ob h
    refine go_callVv hC [.int 1, .int 200] [] (m_X11_bad e23) mt_cvX11_271 (k_X11_bad e23) dX11_path_48 rfl rfl (by decide) (Nat.le_of_ble_eq_true rfl) ⟨Nat.le_refl _, Nat.le_refl _⟩ ?_
    refine go_aload_n hC 0 dX11_path_51 rfl rfl ?_
    refine go_iconst (v := 0) hC dX11_path_52 (by decide) ?_
    obtain ⟨S24, e24, h⟩ := mt_ob h
    refine go_callVv hC [.int 0] [] (m_X11_reads e24) mt_cvX11_283 (k_X11_reads e24) dX11_path_53 rfl rfl (by decide) (Nat.le_of_ble_eq_true rfl) ⟨Nat.le_refl _, Nat.le_refl _⟩ ?_
    refine go_aload_n hC 0 dX11_path_56 rfl rfl ?_
    obtain ⟨v25, e25, h⟩ := mt_ob h
    refine go_getI hC mt_flX11_259 e25 dX11_path_57 ?_
    refine go_if_eq hC (tgt := 72) dX11_path_60 (by decide) (fun hc => ?_) (fun hc => ?_)
    · have h := mt_ip h hc
      refine go_aload_n hC 0 dX11_path_72 rfl rfl ?_
      obtain ⟨v26, e26, h⟩ := mt_ob h
      refine go_getR hC mt_flX11_24 e26 dX11_path_73 ?_
      refine go_iconst (v := 0) hC dX11_path_76 (by decide) ?_
      refine go_aload_n hC 0 dX11_path_77 rfl rfl ?_
      obtain ⟨v27, e27, h⟩ := mt_ob h
      refine go_getR hC mt_flX11_33 e27 dX11_path_78 ?_
      refine go_iconst (v := 0) hC dX11_path_81 (by decide) ?_
      obtain ⟨S28, e28, h⟩ := mt_ob h
      refine go_callSv hC [mt_rf B v26, .int 0, mt_rf B v27, .int 0] [] (m_X11_copy e28) mt_csX11_59 dX11_path_82 rfl rfl (by decide) (Nat.le_of_ble_eq_true rfl) ⟨Nat.le_refl _, Nat.le_refl _⟩ ?_
      refine go_aload_n hC 0 dX11_path_85 rfl rfl ?_
      refine go_iconst (v := 0) hC dX11_path_86 (by decide) ?_
      obtain ⟨S29, e29, h⟩ := mt_ob h
      refine go_putI hC mt_flX11_253 e29 dX11_path_87 ?_
      refine go_aload_n hC 0 dX11_path_90 rfl rfl ?_
      refine go_iconst (v := 0) hC dX11_path_91 (by decide) ?_
      obtain ⟨S30, e30, h⟩ := mt_ob h
      refine go_putI hC mt_flX11_291 e30 dX11_path_92 ?_
      refine go_aload_n hC 0 dX11_path_95 rfl rfl ?_
      refine go_iconst (v := 0) hC dX11_path_96 (by decide) ?_
      obtain ⟨S31, e31, h⟩ := mt_ob h
      refine go_putZ hC mt_flX11_287 e31 (Or.inl rfl) dX11_path_97 ?_
      refine go_aload_n hC 0 dX11_path_100 rfl rfl ?_
      refine go_iconst (v := 0) hC dX11_path_101 (by decide) ?_
      obtain ⟨S32, e32, h⟩ := mt_ob h
      refine go_callVv hC [.int 0] [] (m_X11_goes e32) mt_cvX11_300 (k_X11_goes e32) dX11_path_102 rfl rfl (by decide) (Nat.le_of_ble_eq_true rfl) ⟨Nat.le_refl _, Nat.le_refl _⟩ ?_
      refine go_aload_n hC 0 dX11_path_105 rfl rfl ?_
      obtain ⟨v33, e33, h⟩ := mt_ob h
      refine go_getI hC mt_flX11_291 e33 dX11_path_106 ?_
      refine go_if_le hC (tgt := 116) dX11_path_109 (by decide) (fun hc => ?_) (fun hc => ?_)
      · have h := mt_ip h hc
        refine go_aload_n hC 0 dX11_path_116 rfl rfl ?_
        obtain ⟨v34, e34, h⟩ := mt_ob h
        refine go_getI hC mt_flX11_291 e34 dX11_path_117 ?_
        exact go_iret hC (mt_rei h hE) dX11_path_120
      · have h := mt_in' h hc
        refine go_aload_n hC 0 dX11_path_112 rfl rfl ?_
        obtain ⟨S35, e35, h⟩ := mt_ob h
        refine go_callVv hC [] [] (m_X11_stay e35) mt_cvX11_105 (k_X11_stay e35) dX11_path_113 rfl rfl (by decide) (Nat.le_of_ble_eq_true rfl) ⟨Nat.le_refl _, Nat.le_refl _⟩ ?_
        refine go_aload_n hC 0 dX11_path_116 rfl rfl ?_
        obtain ⟨v36, e36, h⟩ := mt_ob h
        refine go_getI hC mt_flX11_291 e36 dX11_path_117 ?_
        exact go_iret hC (mt_rei h hE) dX11_path_120
    · have h := mt_in' h hc
      refine go_sipush (v := (-1000)) hC dX11_path_63 (by decide) ?_
      refine go_aload_n hC 0 dX11_path_66 rfl rfl ?_
      obtain ⟨v37, e37, h⟩ := mt_ob h
      refine go_getI hC mt_flX11_262 e37 dX11_path_67 ?_
      refine go_isub hC dX11_path_70 ?_
      exact go_iret hC (mt_rei h hE) dX11_path_71
set_option maxHeartbeats 4000000 in
set_option maxRecDepth 100000 in
theorem ov_X11_path {T : mt_S}  {x0 : Nat} {S : mt_S} {r : Int32} {S' : mt_S} (hp : mt_cp S T) (h : f_X11_path x0 S = some (r, S')) : f_X11_path x0 (mt_ov S T) = some (r, mt_ov S' T) ∧ mt_cp S' T := by
  unfold f_X11_path at h ⊢
  obtain ⟨hg, h⟩ := mt_gd h
  refine ov_t (ov_K hp hg) ?_
  obtain ⟨S1, e1, h⟩ := mt_ob h
  obtain ⟨o_, hp⟩ := ov_wI hp e1
  refine ov_b o_ ?_
  obtain ⟨v2, e2, h⟩ := mt_ob h
  refine ov_b (ov_rI hp e2) ?_
  obtain ⟨S3, e3, h⟩ := mt_ob h
  obtain ⟨o_, hp⟩ := ov_wI hp e3
  refine ov_b o_ ?_
  obtain ⟨S4, e4, h⟩ := mt_ob h
  obtain ⟨o_, hp⟩ := ov_wI hp e4
  refine ov_b o_ ?_
  obtain ⟨S5, e5, h⟩ := mt_ob h
  obtain ⟨o_, hp⟩ := ov_wI hp e5
  refine ov_b o_ ?_
  obtain ⟨S6, e6, h⟩ := mt_ob h
  obtain ⟨o_, hp⟩ := ov_wI hp e6
  refine ov_b o_ ?_
  obtain ⟨S7, e7, h⟩ := mt_ob h
  obtain ⟨o_, hp⟩ := ov_wI hp e7
  refine ov_b o_ ?_
  obtain ⟨v8, e8, h⟩ := mt_ob h
  refine ov_b (ov_rI hp e8) ?_
  by_cases hc : v8 ≤ 200
  · have h := mt_ip h hc
    refine ov_t hc ?_
    obtain ⟨S9, e9, h⟩ := mt_ob h
    obtain ⟨o_, hp⟩ := ov_X11_reads hp e9
    refine ov_b o_ ?_
    obtain ⟨v10, e10, h⟩ := mt_ob h
    refine ov_b (ov_rI hp e10) ?_
    by_cases hc : v10 = 0
    · have h := mt_ip h hc
      refine ov_t hc ?_
      obtain ⟨v11, e11, h⟩ := mt_ob h
      refine ov_b (ov_rR hp e11) ?_
      obtain ⟨v12, e12, h⟩ := mt_ob h
      refine ov_b (ov_rR hp e12) ?_
      obtain ⟨S13, e13, h⟩ := mt_ob h
      obtain ⟨o_, hp⟩ := ov_X11_copy hp e13
      refine ov_b o_ ?_
      obtain ⟨S14, e14, h⟩ := mt_ob h
      obtain ⟨o_, hp⟩ := ov_wI hp e14
      refine ov_b o_ ?_
      obtain ⟨S15, e15, h⟩ := mt_ob h
      obtain ⟨o_, hp⟩ := ov_wI hp e15
      refine ov_b o_ ?_
      obtain ⟨S16, e16, h⟩ := mt_ob h
      obtain ⟨o_, hp⟩ := ov_wI hp e16
      refine ov_b o_ ?_
      obtain ⟨S17, e17, h⟩ := mt_ob h
      obtain ⟨o_, hp⟩ := ov_X11_goes hp e17
      refine ov_b o_ ?_
      obtain ⟨v18, e18, h⟩ := mt_ob h
      refine ov_b (ov_rI hp e18) ?_
      by_cases hc : v18 ≤ 0
      · have h := mt_ip h hc
        refine ov_t hc ?_
        obtain ⟨v19, e19, h⟩ := mt_ob h
        refine ov_b (ov_rI hp e19) ?_
        exact ov_ret hp h
      · have h := mt_in' h hc
        refine ov_f hc ?_
        obtain ⟨S20, e20, h⟩ := mt_ob h
        obtain ⟨o_, hp⟩ := ov_X11_stay hp e20
        refine ov_b o_ ?_
        obtain ⟨v21, e21, h⟩ := mt_ob h
        refine ov_b (ov_rI hp e21) ?_
        exact ov_ret hp h
    · have h := mt_in' h hc
      refine ov_f hc ?_
      obtain ⟨v22, e22, h⟩ := mt_ob h
      refine ov_b (ov_rI hp e22) ?_
      exact ov_ret hp h
  · have h := mt_in' h hc
    refine ov_f hc ?_
    obtain ⟨S23, e23, h⟩ := mt_ob h
    obtain ⟨o_, hp⟩ := ov_X11_bad hp e23
    refine ov_b o_ ?_
    obtain ⟨S24, e24, h⟩ := mt_ob h
    obtain ⟨o_, hp⟩ := ov_X11_reads hp e24
    refine ov_b o_ ?_
    obtain ⟨v25, e25, h⟩ := mt_ob h
    refine ov_b (ov_rI hp e25) ?_
    by_cases hc : v25 = 0
    · have h := mt_ip h hc
      refine ov_t hc ?_
      obtain ⟨v26, e26, h⟩ := mt_ob h
      refine ov_b (ov_rR hp e26) ?_
      obtain ⟨v27, e27, h⟩ := mt_ob h
      refine ov_b (ov_rR hp e27) ?_
      obtain ⟨S28, e28, h⟩ := mt_ob h
      obtain ⟨o_, hp⟩ := ov_X11_copy hp e28
      refine ov_b o_ ?_
      obtain ⟨S29, e29, h⟩ := mt_ob h
      obtain ⟨o_, hp⟩ := ov_wI hp e29
      refine ov_b o_ ?_
      obtain ⟨S30, e30, h⟩ := mt_ob h
      obtain ⟨o_, hp⟩ := ov_wI hp e30
      refine ov_b o_ ?_
      obtain ⟨S31, e31, h⟩ := mt_ob h
      obtain ⟨o_, hp⟩ := ov_wI hp e31
      refine ov_b o_ ?_
      obtain ⟨S32, e32, h⟩ := mt_ob h
      obtain ⟨o_, hp⟩ := ov_X11_goes hp e32
      refine ov_b o_ ?_
      obtain ⟨v33, e33, h⟩ := mt_ob h
      refine ov_b (ov_rI hp e33) ?_
      by_cases hc : v33 ≤ 0
      · have h := mt_ip h hc
        refine ov_t hc ?_
        obtain ⟨v34, e34, h⟩ := mt_ob h
        refine ov_b (ov_rI hp e34) ?_
        exact ov_ret hp h
      · have h := mt_in' h hc
        refine ov_f hc ?_
        obtain ⟨S35, e35, h⟩ := mt_ob h
        obtain ⟨o_, hp⟩ := ov_X11_stay hp e35
        refine ov_b o_ ?_
        obtain ⟨v36, e36, h⟩ := mt_ob h
        refine ov_b (ov_rI hp e36) ?_
        exact ov_ret hp h
    · have h := mt_in' h hc
      refine ov_f hc ?_
      obtain ⟨v37, e37, h⟩ := mt_ob h
      refine ov_b (ov_rI hp e37) ?_
      exact ov_ret hp h
def f_X11_fault (x0 : Nat) (S : mt_S) : Option (Int32 × mt_S) :=
  if mt_isK S x0 11 = true then
   Option.bind (mt_wI S x0 11 0 0) fun S1 =>
   Option.bind (mt_rI S1 x0 11 33) fun v2 =>
   some (v2, S1)
  else none
theorem k_X11_fault {x0 : Nat} {S : mt_S} {r : Int32} {S' : mt_S} (h : f_X11_fault x0 S = some (r, S')) : mt_isK S x0 11 = true := by
  unfold f_X11_fault at h
  exact (mt_gd h).1
set_option maxHeartbeats 4000000 in
set_option maxRecDepth 100000 in
theorem m_X11_fault {B : mt_B}  {x0 : Nat} {S : mt_S} {r : Int32} {S' : mt_S} (h : f_X11_fault x0 S = some (r, S')) : mt_M B yX11_fault cX11_fault 1 (some .int) 1 [mt_rf B x0] S (some (.int r)) S' := by
  unfold f_X11_fault at h
  refine mt_M.of (by decide) (Nat.le_of_ble_eq_true rfl) (fun E hC hE => ?_)
  obtain ⟨hk0, h⟩ := mt_gd h
  refine go_aload_n hC 0 dX11_fault_0 rfl rfl ?_
  refine go_iconst (v := 0) hC dX11_fault_1 (by decide) ?_
  obtain ⟨S1, e1, h⟩ := mt_ob h
  refine go_putI hC mt_flX11_1 e1 dX11_fault_2 ?_
  refine go_aload_n hC 0 dX11_fault_5 rfl rfl ?_
  obtain ⟨v2, e2, h⟩ := mt_ob h
  refine go_getI hC mt_flX11_259 e2 dX11_fault_6 ?_
  exact go_iret hC (mt_rei h hE) dX11_fault_9
set_option maxHeartbeats 4000000 in
set_option maxRecDepth 100000 in
theorem ov_X11_fault {T : mt_S}  {x0 : Nat} {S : mt_S} {r : Int32} {S' : mt_S} (hp : mt_cp S T) (h : f_X11_fault x0 S = some (r, S')) : f_X11_fault x0 (mt_ov S T) = some (r, mt_ov S' T) ∧ mt_cp S' T := by
  unfold f_X11_fault at h ⊢
  obtain ⟨hg, h⟩ := mt_gd h
  refine ov_t (ov_K hp hg) ?_
  obtain ⟨S1, e1, h⟩ := mt_ob h
  obtain ⟨o_, hp⟩ := ov_wI hp e1
  refine ov_b o_ ?_
  obtain ⟨v2, e2, h⟩ := mt_ob h
  refine ov_b (ov_rI hp e2) ?_
  exact ov_ret hp h
def f_X11_draw (x0 : Nat) (x1 : Int32) (S : mt_S) : Option (Int32 × mt_S) :=
  if mt_isK S x0 11 = true then
   Option.bind (mt_rI S x0 11 38) fun v1 =>
   Option.bind (mt_wI S x0 11 38 ((v1 * 1103515245) + 12345)) fun S2 =>
   Option.bind (mt_rI S2 x0 11 38) fun v3 =>
   if x1 = 0 then none else
   some (((v3.toUInt32 >>> ((8 : Int32).toUInt32 &&& Int32.toUInt32 31)).toInt32) - ((v3.toUInt32 >>> ((8 : Int32).toUInt32 &&& Int32.toUInt32 31)).toInt32) / x1 * x1, S2)
  else none
theorem k_X11_draw {x0 : Nat} {x1 : Int32} {S : mt_S} {r : Int32} {S' : mt_S} (h : f_X11_draw x0 x1 S = some (r, S')) : mt_isK S x0 11 = true := by
  unfold f_X11_draw at h
  exact (mt_gd h).1
set_option maxHeartbeats 4000000 in
set_option maxRecDepth 100000 in
theorem m_X11_draw {B : mt_B}  {x0 : Nat} {x1 : Int32} {S : mt_S} {r : Int32} {S' : mt_S} (h : f_X11_draw x0 x1 S = some (r, S')) : mt_M B yX11_draw cX11_draw 2 (some .int) 1 [mt_rf B x0, .int x1] S (some (.int r)) S' := by
  unfold f_X11_draw at h
  refine mt_M.of (by decide) (Nat.le_of_ble_eq_true rfl) (fun E hC hE => ?_)
  obtain ⟨hk0, h⟩ := mt_gd h
  refine go_aload_n hC 0 dX11_draw_0 rfl rfl ?_
  refine go_aload_n hC 0 dX11_draw_1 rfl rfl ?_
  obtain ⟨v1, e1, h⟩ := mt_ob h
  refine go_getI hC mt_flX11_303 e1 dX11_draw_2 ?_
  refine go_ldcw hC dX11_draw_5 mt_kX11_306 ?_
  refine go_imul hC dX11_draw_8 ?_
  refine go_sipush (v := 12345) hC dX11_draw_9 (by decide) ?_
  refine go_iadd hC dX11_draw_12 ?_
  obtain ⟨S2, e2, h⟩ := mt_ob h
  refine go_putI hC mt_flX11_303 e2 dX11_draw_13 ?_
  refine go_aload_n hC 0 dX11_draw_16 rfl rfl ?_
  obtain ⟨v3, e3, h⟩ := mt_ob h
  refine go_getI hC mt_flX11_303 e3 dX11_draw_17 ?_
  refine go_bipush (v := 8) hC dX11_draw_20 (by decide) ?_
  refine go_iushr hC dX11_draw_22 ?_
  refine go_iload_n hC 1 dX11_draw_23 rfl rfl ?_
  have g4 : ¬ x1 = 0 := fun q => by rw [if_pos q] at h; cases h
  have h := mt_in' h g4
  refine go_irem hC dX11_draw_24 g4 ?_
  exact go_iret hC (mt_rei h hE) dX11_draw_25
set_option maxHeartbeats 4000000 in
set_option maxRecDepth 100000 in
theorem ov_X11_draw {T : mt_S}  {x0 : Nat} {x1 : Int32} {S : mt_S} {r : Int32} {S' : mt_S} (hp : mt_cp S T) (h : f_X11_draw x0 x1 S = some (r, S')) : f_X11_draw x0 x1 (mt_ov S T) = some (r, mt_ov S' T) ∧ mt_cp S' T := by
  unfold f_X11_draw at h ⊢
  obtain ⟨hg, h⟩ := mt_gd h
  refine ov_t (ov_K hp hg) ?_
  obtain ⟨v1, e1, h⟩ := mt_ob h
  refine ov_b (ov_rI hp e1) ?_
  obtain ⟨S2, e2, h⟩ := mt_ob h
  obtain ⟨o_, hp⟩ := ov_wI hp e2
  refine ov_b o_ ?_
  obtain ⟨v3, e3, h⟩ := mt_ob h
  refine ov_b (ov_rI hp e3) ?_
  have hz : ¬ x1 = 0 := fun q => by rw [if_pos q] at h; cases h
  have h := mt_in' h hz
  refine ov_f hz ?_
  exact ov_ret hp h
def f_X11_draws (x0 : Nat) (S : mt_S) : Option (Int32 × mt_S) :=
  if mt_isK S x0 11 = true then
   mt_b2 (f_X11_draw x0 8 S) fun v2 S1 =>
   if 7 ≤ v2 then
    mt_b2 (f_X11_markHere x0 S1) fun v4 S3 =>
    if v4 = (-1) then
     Option.bind (mt_rR S3 x0 11 3) fun v5 =>
     Option.bind (mt_aI S3 v5 13 2) fun v6 =>
     if v6 = 16 then
      some (0, S3)
     else
      Option.bind (f_X11_marks x0 S3) fun S7 =>
      some (1, S7)
    else
     some (0, S3)
   else
   if v2 = 0 then
    mt_b2 (f_X11_steps x0 117 S1) fun v15 S14 =>
    if v15 = 0 ∨ v15 = 1 then
     some (v15, S14)
    else none
   else
   if 4 ≤ v2 then
    mt_b2 (f_X11_steps x0 114 S1) fun v9 S8 =>
    if v9 = 0 ∨ v9 = 1 then
     some (v9, S8)
    else none
   else
    mt_b2 (f_X11_steps x0 108 S1) fun v12 S11 =>
    if v12 = 0 ∨ v12 = 1 then
     some (v12, S11)
    else none
  else none
theorem k_X11_draws {x0 : Nat} {S : mt_S} {r : Int32} {S' : mt_S} (h : f_X11_draws x0 S = some (r, S')) : mt_isK S x0 11 = true := by
  unfold f_X11_draws at h
  exact (mt_gd h).1
set_option maxHeartbeats 4000000 in
set_option maxRecDepth 100000 in
theorem m_X11_draws {B : mt_B}  {x0 : Nat} {S : mt_S} {r : Int32} {S' : mt_S} (h : f_X11_draws x0 S = some (r, S')) : mt_M B yX11_draws cX11_draws 2 (some .boolean) 6 [mt_rf B x0] S (some (.int r)) S' := by
  unfold f_X11_draws at h
  refine mt_M.of (by decide) (Nat.le_of_ble_eq_true rfl) (fun E hC hE => ?_)
  obtain ⟨hk0, h⟩ := mt_gd h
  refine go_aload_n hC 0 dX11_draws_0 rfl rfl ?_
  refine go_bipush (v := 8) hC dX11_draws_1 (by decide) ?_
  obtain ⟨v2, S1, e2, h⟩ := mt_ob2 h
  refine go_callVi hC [.int 8] [] (m_X11_draw e2) mt_cvX11_307 (k_X11_draw e2) dX11_draws_3 rfl rfl (by decide) (Nat.le_of_ble_eq_true rfl) ⟨Nat.le_refl _, Nat.le_refl _⟩ ?_
  refine go_istore_n hC [1, 0] (lv1 := [(0, mt_rf B x0), (1, .int v2)]) dX11_draws_6 rfl (by decide) rfl ?_
  refine go_iload_n hC 1 dX11_draws_7 rfl rfl ?_
  refine go_bipush (v := 7) hC dX11_draws_8 (by decide) ?_
  refine go_icmp_ge hC (tgt := 39) dX11_draws_10 (by decide) (fun hc => ?_) (fun hc => ?_)
  · have h := mt_ip h hc
    refine go_aload_n hC 0 dX11_draws_39 rfl rfl ?_
    obtain ⟨v4, S3, e4, h⟩ := mt_ob2 h
    refine go_callVi hC [] [] (m_X11_markHere e4) mt_cvX11_244 (k_X11_markHere e4) dX11_draws_40 rfl rfl (by decide) (Nat.le_of_ble_eq_true rfl) ⟨Nat.le_refl _, Nat.le_refl _⟩ ?_
    refine go_iconst (v := (-1)) hC dX11_draws_43 (by decide) ?_
    refine go_icmp_ne hC (tgt := 58) dX11_draws_44 (by decide) (fun hc => ?_) (fun hc => ?_)
    · have h := mt_in' h hc
      refine go_iconst (v := 0) hC dX11_draws_58 (by decide) ?_
      exact go_zret hC (mt_rei h hE) (Or.inl rfl) dX11_draws_59
    · have h := mt_ip h hc
      refine go_aload_n hC 0 dX11_draws_47 rfl rfl ?_
      obtain ⟨v5, e5, h⟩ := mt_ob h
      refine go_getR hC mt_flX11_24 e5 dX11_draws_48 ?_
      refine go_iconst (v := 2) hC dX11_draws_51 (by decide) ?_
      obtain ⟨v6, e6, h⟩ := mt_ob h
      refine go_iald hC e6 dX11_draws_52 ?_
      refine go_bipush (v := 16) hC dX11_draws_53 (by decide) ?_
      refine go_icmp_ne hC (tgt := 60) dX11_draws_55 (by decide) (fun hc => ?_) (fun hc => ?_)
      · have h := mt_in' h hc
        refine go_aload_n hC 0 dX11_draws_60 rfl rfl ?_
        obtain ⟨S7, e7, h⟩ := mt_ob h
        refine go_callVv hC [] [] (m_X11_marks e7) mt_cvX11_247 (k_X11_marks e7) dX11_draws_61 rfl rfl (by decide) (Nat.le_of_ble_eq_true rfl) ⟨Nat.le_refl _, Nat.le_refl _⟩ ?_
        refine go_iconst (v := 1) hC dX11_draws_64 (by decide) ?_
        exact go_zret hC (mt_rei h hE) (Or.inr rfl) dX11_draws_65
      · have h := mt_ip h hc
        refine go_iconst (v := 0) hC dX11_draws_58 (by decide) ?_
        exact go_zret hC (mt_rei h hE) (Or.inl rfl) dX11_draws_59
  · have h := mt_in' h hc
    refine go_aload_n hC 0 dX11_draws_13 rfl rfl ?_
    refine go_iload_n hC 1 dX11_draws_14 rfl rfl ?_
    refine go_if_ne hC (tgt := 23) dX11_draws_15 (by decide) (fun hc => ?_) (fun hc => ?_)
    · have h := mt_in' h hc
      refine go_iload_n hC 1 dX11_draws_23 rfl rfl ?_
      refine go_iconst (v := 4) hC dX11_draws_24 (by decide) ?_
      refine go_icmp_ge hC (tgt := 33) dX11_draws_25 (by decide) (fun hc => ?_) (fun hc => ?_)
      · have h := mt_ip h hc
        refine go_bipush (v := 114) hC dX11_draws_33 (by decide) ?_
        obtain ⟨v9, S8, e9, h⟩ := mt_ob2 h
        refine go_callVi hC [.int 114] [] (m_X11_steps e9) mt_cvX11_101 (k_X11_steps e9) dX11_draws_35 rfl rfl (by decide) (Nat.le_of_ble_eq_true rfl) ⟨Nat.le_refl _, Nat.le_refl _⟩ ?_
        obtain ⟨g10, h⟩ := mt_gd h
        exact go_zret hC (mt_rei h hE) g10 dX11_draws_38
      · have h := mt_in' h hc
        refine go_bipush (v := 108) hC dX11_draws_28 (by decide) ?_
        refine go_goto hC (tgt := 35) dX11_draws_30 (by decide) ?_
        obtain ⟨v12, S11, e12, h⟩ := mt_ob2 h
        refine go_callVi hC [.int 108] [] (m_X11_steps e12) mt_cvX11_101 (k_X11_steps e12) dX11_draws_35 rfl rfl (by decide) (Nat.le_of_ble_eq_true rfl) ⟨Nat.le_refl _, Nat.le_refl _⟩ ?_
        obtain ⟨g13, h⟩ := mt_gd h
        exact go_zret hC (mt_rei h hE) g13 dX11_draws_38
    · have h := mt_ip h hc
      refine go_bipush (v := 117) hC dX11_draws_18 (by decide) ?_
      refine go_goto hC (tgt := 35) dX11_draws_20 (by decide) ?_
      obtain ⟨v15, S14, e15, h⟩ := mt_ob2 h
      refine go_callVi hC [.int 117] [] (m_X11_steps e15) mt_cvX11_101 (k_X11_steps e15) dX11_draws_35 rfl rfl (by decide) (Nat.le_of_ble_eq_true rfl) ⟨Nat.le_refl _, Nat.le_refl _⟩ ?_
      obtain ⟨g16, h⟩ := mt_gd h
      exact go_zret hC (mt_rei h hE) g16 dX11_draws_38
set_option maxHeartbeats 4000000 in
set_option maxRecDepth 100000 in
theorem ov_X11_draws {T : mt_S}  {x0 : Nat} {S : mt_S} {r : Int32} {S' : mt_S} (hp : mt_cp S T) (h : f_X11_draws x0 S = some (r, S')) : f_X11_draws x0 (mt_ov S T) = some (r, mt_ov S' T) ∧ mt_cp S' T := by
  unfold f_X11_draws at h ⊢
  obtain ⟨hg, h⟩ := mt_gd h
  refine ov_t (ov_K hp hg) ?_
  obtain ⟨v2, S1, e2, h⟩ := mt_ob2 h
  obtain ⟨o_, hp⟩ := ov_X11_draw hp e2
  refine ov_b2 o_ ?_
  by_cases hc : 7 ≤ v2
  · have h := mt_ip h hc
    refine ov_t hc ?_
    obtain ⟨v4, S3, e4, h⟩ := mt_ob2 h
    obtain ⟨o_, hp⟩ := ov_X11_markHere hp e4
    refine ov_b2 o_ ?_
    by_cases hc : v4 = (-1)
    · have h := mt_ip h hc
      refine ov_t hc ?_
      obtain ⟨v5, e5, h⟩ := mt_ob h
      refine ov_b (ov_rR hp e5) ?_
      obtain ⟨v6, e6, h⟩ := mt_ob h
      refine ov_b (ov_aI hp e6) ?_
      by_cases hc : v6 = 16
      · have h := mt_ip h hc
        refine ov_t hc ?_
        exact ov_ret hp h
      · have h := mt_in' h hc
        refine ov_f hc ?_
        obtain ⟨S7, e7, h⟩ := mt_ob h
        obtain ⟨o_, hp⟩ := ov_X11_marks hp e7
        refine ov_b o_ ?_
        exact ov_ret hp h
    · have h := mt_in' h hc
      refine ov_f hc ?_
      exact ov_ret hp h
  · have h := mt_in' h hc
    refine ov_f hc ?_
    by_cases hc : v2 = 0
    · have h := mt_ip h hc
      refine ov_t hc ?_
      obtain ⟨v15, S14, e15, h⟩ := mt_ob2 h
      obtain ⟨o_, hp⟩ := ov_X11_steps hp e15
      refine ov_b2 o_ ?_
      obtain ⟨hg, h⟩ := mt_gd h
      refine ov_t hg ?_
      exact ov_ret hp h
    · have h := mt_in' h hc
      refine ov_f hc ?_
      by_cases hc : 4 ≤ v2
      · have h := mt_ip h hc
        refine ov_t hc ?_
        obtain ⟨v9, S8, e9, h⟩ := mt_ob2 h
        obtain ⟨o_, hp⟩ := ov_X11_steps hp e9
        refine ov_b2 o_ ?_
        obtain ⟨hg, h⟩ := mt_gd h
        refine ov_t hg ?_
        exact ov_ret hp h
      · have h := mt_in' h hc
        refine ov_f hc ?_
        obtain ⟨v12, S11, e12, h⟩ := mt_ob2 h
        obtain ⟨o_, hp⟩ := ov_X11_steps hp e12
        refine ov_b2 o_ ?_
        obtain ⟨hg, h⟩ := mt_gd h
        refine ov_t hg ?_
        exact ov_ret hp h
def f_X11_drawn_L42s (rc : Nat → Int32 → Int32 → Int32 → mt_S → Option (Int32 × mt_S)) (x0 : Nat) (x1 : Int32) (x3 : Int32) (x4 : Int32) (S : mt_S) : Option (Int32 × mt_S) :=
  if x1 ≤ x4 then
   if x3 ≤ 0 then
    some (x3, S)
   else
    Option.bind (f_X11_stay x0 S) fun S8 =>
    some (x3, S8)
  else
   mt_b2 (f_X11_draws x0 S) fun v10 S9 =>
   if v10 = 0 then
    rc x0 x1 x3 (x4 + 1) S9
   else
    rc x0 x1 (x3 + 1) (x4 + 1) S9
def f_X11_drawn_L42 : Nat → Nat → Int32 → Int32 → Int32 → mt_S → Option (Int32 × mt_S)
  | 0 => fun _ _ _ _ _ => none
  | n + 1 => f_X11_drawn_L42s (f_X11_drawn_L42 n)
set_option maxHeartbeats 4000000 in
set_option maxRecDepth 100000 in
theorem m_X11_drawn_L42 {B : mt_B} {E : mt_E} {r : Int32} {S' : mt_S} (hC : mt_Cx B E cX11_drawn RX11 (some .int) 5 7 0 0) (hE : mt_End B E (0, 0) (some (.int r)) S') : ∀ (n : Nat) (x0 : Nat) (x1 : Int32) (x3 : Int32) (x4 : Int32) (S : mt_S), f_X11_drawn_L42 n x0 x1 x3 x4 S = some (r, S') → mt_Go B E (0, 0) S 42 [(0, mt_rf B x0), (1, .int x1), (3, .int x3), (4, .int x4)] [] := by
  intro n
  induction n with
  | zero =>
    intro x0 x1 x3 x4 S h
    cases h
  | succ n ih =>
    intro x0 x1 x3 x4 S h
    have h : f_X11_drawn_L42s (f_X11_drawn_L42 n) x0 x1 x3 x4 S = some (r, S') := h
    unfold f_X11_drawn_L42s at h
    refine go_iload hC 3 dX11_drawn_42 rfl ?_
    refine go_iload_n hC 1 dX11_drawn_44 rfl rfl ?_
    refine go_icmp_ge hC (tgt := 64) dX11_drawn_45 (by decide) (fun hc => ?_) (fun hc => ?_)
    · have h := mt_ip h hc
      refine go_iload_n hC 2 dX11_drawn_64 rfl rfl ?_
      refine go_if_le hC (tgt := 72) dX11_drawn_65 (by decide) (fun hc => ?_) (fun hc => ?_)
      · have h := mt_ip h hc
        refine go_iload_n hC 2 dX11_drawn_72 rfl rfl ?_
        exact go_iret hC (mt_rei h hE) dX11_drawn_73
      · have h := mt_in' h hc
        refine go_aload_n hC 0 dX11_drawn_68 rfl rfl ?_
        obtain ⟨S8, e8, h⟩ := mt_ob h
        refine go_callVv hC [] [] (m_X11_stay e8) mt_cvX11_105 (k_X11_stay e8) dX11_drawn_69 rfl rfl (by decide) (Nat.le_of_ble_eq_true rfl) ⟨Nat.le_refl _, Nat.le_refl _⟩ ?_
        refine go_iload_n hC 2 dX11_drawn_72 rfl rfl ?_
        exact go_iret hC (mt_rei h hE) dX11_drawn_73
    · have h := mt_in' h hc
      refine go_aload_n hC 0 dX11_drawn_48 rfl rfl ?_
      obtain ⟨v10, S9, e10, h⟩ := mt_ob2 h
      refine go_callVi hC [] [] (m_X11_draws e10) mt_cvX11_312 (k_X11_draws e10) dX11_drawn_49 rfl rfl (by decide) (Nat.le_of_ble_eq_true rfl) ⟨Nat.le_refl _, Nat.le_refl _⟩ ?_
      refine go_if_eq hC (tgt := 58) dX11_drawn_52 (by decide) (fun hc => ?_) (fun hc => ?_)
      · have h := mt_ip h hc
        refine go_iinc hC 3 [1, 2, 3, 0] (v := x4 + 1) (lv1 := [(0, mt_rf B x0), (1, .int x1), (3, .int x3), (4, .int (x4 + 1))]) dX11_drawn_58 rfl rfl (by decide) rfl ?_
        refine go_goto hC (tgt := 42) dX11_drawn_61 (by decide) ?_
        exact ih _ _ _ _ _ h
      · have h := mt_in' h hc
        refine go_iinc hC 2 [1, 2, 0, 3] (v := x3 + 1) (lv1 := [(0, mt_rf B x0), (1, .int x1), (3, .int (x3 + 1)), (4, .int x4)]) dX11_drawn_55 rfl rfl (by decide) rfl ?_
        refine go_iinc hC 3 [1, 2, 3, 0] (v := x4 + 1) (lv1 := [(0, mt_rf B x0), (1, .int x1), (3, .int (x3 + 1)), (4, .int (x4 + 1))]) dX11_drawn_58 rfl rfl (by decide) rfl ?_
        refine go_goto hC (tgt := 42) dX11_drawn_61 (by decide) ?_
        exact ih _ _ _ _ _ h
set_option maxHeartbeats 4000000 in
set_option maxRecDepth 100000 in
theorem ov_X11_drawn_L42 {T : mt_S} {r : Int32} {S' : mt_S} : ∀ (n : Nat) (x0 : Nat) (x1 : Int32) (x3 : Int32) (x4 : Int32) (S : mt_S), mt_cp S T → f_X11_drawn_L42 n x0 x1 x3 x4 S = some (r, S') → f_X11_drawn_L42 n x0 x1 x3 x4 (mt_ov S T) = some (r, mt_ov S' T) ∧ mt_cp S' T := by
  intro n
  induction n with
  | zero =>
    intro x0 x1 x3 x4 S hp h
    cases h
  | succ n ih =>
    intro x0 x1 x3 x4 S hp h
    have h : f_X11_drawn_L42s (f_X11_drawn_L42 n) x0 x1 x3 x4 S = some (r, S') := h
    show f_X11_drawn_L42s (f_X11_drawn_L42 n) x0 x1 x3 x4 (mt_ov S T) = some (r, mt_ov S' T) ∧ mt_cp S' T
    unfold f_X11_drawn_L42s at h ⊢
    by_cases hc : x1 ≤ x4
    · have h := mt_ip h hc
      refine ov_t hc ?_
      by_cases hc : x3 ≤ 0
      · have h := mt_ip h hc
        refine ov_t hc ?_
        exact ov_ret hp h
      · have h := mt_in' h hc
        refine ov_f hc ?_
        obtain ⟨S8, e8, h⟩ := mt_ob h
        obtain ⟨o_, hp⟩ := ov_X11_stay hp e8
        refine ov_b o_ ?_
        exact ov_ret hp h
    · have h := mt_in' h hc
      refine ov_f hc ?_
      obtain ⟨v10, S9, e10, h⟩ := mt_ob2 h
      obtain ⟨o_, hp⟩ := ov_X11_draws hp e10
      refine ov_b2 o_ ?_
      by_cases hc : v10 = 0
      · have h := mt_ip h hc
        refine ov_t hc ?_
        exact ih _ _ _ _ _ hp h
      · have h := mt_in' h hc
        refine ov_f hc ?_
        exact ih _ _ _ _ _ hp h
def f_X11_drawn (x0 : Nat) (x1 : Int32) (x2 : Int32) (S : mt_S) : Option (Int32 × mt_S) :=
  if mt_isK S x0 11 = true then
   Option.bind (mt_wI S x0 11 0 0) fun S1 =>
   mt_b2 (f_X11_isIn x1.toInt64 1 60 S1) fun v3 S2 =>
   if v3 = 0 then
    some ((-1), S2)
   else
    Option.bind (mt_rR S2 x0 11 3) fun v4 =>
    Option.bind (mt_rR S2 x0 11 6) fun v5 =>
    Option.bind (f_X11_copy v4 0 v5 0 S2) fun S6 =>
    Option.bind (mt_wI S6 x0 11 38 x2) fun S7 =>
    f_X11_drawn_L42 1000 x0 x1 0 0 S7
  else none
theorem k_X11_drawn {x0 : Nat} {x1 : Int32} {x2 : Int32} {S : mt_S} {r : Int32} {S' : mt_S} (h : f_X11_drawn x0 x1 x2 S = some (r, S')) : mt_isK S x0 11 = true := by
  unfold f_X11_drawn at h
  exact (mt_gd h).1
set_option maxHeartbeats 4000000 in
set_option maxRecDepth 100000 in
theorem m_X11_drawn {B : mt_B}  {x0 : Nat} {x1 : Int32} {x2 : Int32} {S : mt_S} {r : Int32} {S' : mt_S} (h : f_X11_drawn x0 x1 x2 S = some (r, S')) : mt_M B yX11_drawn cX11_drawn 5 (some .int) 7 [mt_rf B x0, .int x1, .int x2] S (some (.int r)) S' := by
  unfold f_X11_drawn at h
  refine mt_M.of (by decide) (Nat.le_of_ble_eq_true rfl) (fun E hC hE => ?_)
  obtain ⟨hk0, h⟩ := mt_gd h
  refine go_aload_n hC 0 dX11_drawn_0 rfl rfl ?_
  refine go_iconst (v := 0) hC dX11_drawn_1 (by decide) ?_
  obtain ⟨S1, e1, h⟩ := mt_ob h
  refine go_putI hC mt_flX11_1 e1 dX11_drawn_2 ?_
  refine go_iload_n hC 1 dX11_drawn_5 rfl rfl ?_
  refine go_i2l hC dX11_drawn_6 ?_
  refine go_lconst (v := 1) hC dX11_drawn_7 (by decide) ?_
  refine go_ldc2 hC dX11_drawn_8 mt_kX11_310 ?_
  obtain ⟨v3, S2, e3, h⟩ := mt_ob2 h
  refine go_callSi hC [.long x1.toInt64, .long 1, .long 60] [] (m_X11_isIn e3) mt_csX11_91 dX11_drawn_11 rfl rfl (by decide) (Nat.le_of_ble_eq_true rfl) ⟨Nat.le_refl _, Nat.le_refl _⟩ ?_
  refine go_if_ne hC (tgt := 19) dX11_drawn_14 (by decide) (fun hc => ?_) (fun hc => ?_)
  · have h := mt_in' h hc
    refine go_aload_n hC 0 dX11_drawn_19 rfl rfl ?_
    obtain ⟨v4, e4, h⟩ := mt_ob h
    refine go_getR hC mt_flX11_24 e4 dX11_drawn_20 ?_
    refine go_iconst (v := 0) hC dX11_drawn_23 (by decide) ?_
    refine go_aload_n hC 0 dX11_drawn_24 rfl rfl ?_
    obtain ⟨v5, e5, h⟩ := mt_ob h
    refine go_getR hC mt_flX11_33 e5 dX11_drawn_25 ?_
    refine go_iconst (v := 0) hC dX11_drawn_28 (by decide) ?_
    obtain ⟨S6, e6, h⟩ := mt_ob h
    refine go_callSv hC [mt_rf B v4, .int 0, mt_rf B v5, .int 0] [] (m_X11_copy e6) mt_csX11_59 dX11_drawn_29 rfl rfl (by decide) (Nat.le_of_ble_eq_true rfl) ⟨Nat.le_refl _, Nat.le_refl _⟩ ?_
    refine go_aload_n hC 0 dX11_drawn_32 rfl rfl ?_
    refine go_iload_n hC 2 dX11_drawn_33 rfl rfl ?_
    obtain ⟨S7, e7, h⟩ := mt_ob h
    refine go_putI hC mt_flX11_303 e7 dX11_drawn_34 ?_
    refine go_iconst (v := 0) hC dX11_drawn_37 (by decide) ?_
    refine go_istore_n hC [1, 2, 3, 0] (lv1 := [(0, mt_rf B x0), (1, .int x1), (2, .int x2), (3, .int 0)]) dX11_drawn_38 rfl (by decide) rfl ?_
    refine go_iconst (v := 0) hC dX11_drawn_39 (by decide) ?_
    refine go_istore hC [1, 2, 3, 4, 0] (lv1 := [(0, mt_rf B x0), (1, .int x1), (2, .int x2), (3, .int 0), (4, .int 0)]) dX11_drawn_40 (by decide) rfl ?_
    refine go_sub [0, 1, 3, 4] (lv1 := [(0, mt_rf B x0), (1, .int x1), (3, .int 0), (4, .int 0)]) rfl ?_
    exact m_X11_drawn_L42 hC hE 1000 _ _ _ _ _ h
  · have h := mt_ip h hc
    refine go_iconst (v := (-1)) hC dX11_drawn_17 (by decide) ?_
    exact go_iret hC (mt_rei h hE) dX11_drawn_18
set_option maxHeartbeats 4000000 in
set_option maxRecDepth 100000 in
theorem ov_X11_drawn {T : mt_S}  {x0 : Nat} {x1 : Int32} {x2 : Int32} {S : mt_S} {r : Int32} {S' : mt_S} (hp : mt_cp S T) (h : f_X11_drawn x0 x1 x2 S = some (r, S')) : f_X11_drawn x0 x1 x2 (mt_ov S T) = some (r, mt_ov S' T) ∧ mt_cp S' T := by
  unfold f_X11_drawn at h ⊢
  obtain ⟨hg, h⟩ := mt_gd h
  refine ov_t (ov_K hp hg) ?_
  obtain ⟨S1, e1, h⟩ := mt_ob h
  obtain ⟨o_, hp⟩ := ov_wI hp e1
  refine ov_b o_ ?_
  obtain ⟨v3, S2, e3, h⟩ := mt_ob2 h
  obtain ⟨o_, hp⟩ := ov_X11_isIn hp e3
  refine ov_b2 o_ ?_
  by_cases hc : v3 = 0
  · have h := mt_ip h hc
    refine ov_t hc ?_
    exact ov_ret hp h
  · have h := mt_in' h hc
    refine ov_f hc ?_
    obtain ⟨v4, e4, h⟩ := mt_ob h
    refine ov_b (ov_rR hp e4) ?_
    obtain ⟨v5, e5, h⟩ := mt_ob h
    refine ov_b (ov_rR hp e5) ?_
    obtain ⟨S6, e6, h⟩ := mt_ob h
    obtain ⟨o_, hp⟩ := ov_X11_copy hp e6
    refine ov_b o_ ?_
    obtain ⟨S7, e7, h⟩ := mt_ob h
    obtain ⟨o_, hp⟩ := ov_wI hp e7
    refine ov_b o_ ?_
    exact ov_X11_drawn_L42 1000 _ _ _ _ _ hp h
def f_X11_now (x0 : Nat) (x1 : Int32) (S : mt_S) : Option (Int32 × mt_S) :=
  if mt_isK S x0 11 = true then
   Option.bind (mt_wI S x0 11 0 0) fun S1 =>
   Option.bind (f_X11_lays x0 S1) fun S2 =>
   if x1 = 0 then
    Option.bind (mt_rR S2 x0 11 3) fun v3 =>
    Option.bind (mt_aI S2 v3 13 0) fun v4 =>
    some (v4, S2)
   else
   if x1 = 1 then
    Option.bind (mt_rR S2 x0 11 3) fun v5 =>
    Option.bind (mt_aI S2 v5 13 1) fun v6 =>
    some (v6, S2)
   else
   if x1 = 2 then
    Option.bind (mt_rI S2 x0 11 10) fun v7 =>
    some (v7, S2)
   else
   if x1 = 3 then
    Option.bind (mt_rI S2 x0 11 11) fun v8 =>
    some (v8, S2)
   else
   if x1 = 4 then
    Option.bind (mt_rI S2 x0 11 12) fun v9 =>
    some (v9, S2)
   else
   if x1 = 5 then
    Option.bind (mt_rI S2 x0 11 13) fun v10 =>
    some (v10, S2)
   else
   if x1 = 6 then
    Option.bind (mt_rI S2 x0 11 14) fun v11 =>
    some (v11, S2)
   else
   if x1 = 7 then
    Option.bind (mt_rR S2 x0 11 3) fun v12 =>
    Option.bind (mt_aI S2 v12 13 2) fun v13 =>
    some (v13, S2)
   else
   if x1 = 8 then
    Option.bind (mt_rI S2 x0 11 9) fun v14 =>
    some (v14, S2)
   else
   if x1 = 9 then
    Option.bind (mt_rI S2 x0 11 2) fun v15 =>
    some (v15, S2)
   else
    some ((-1), S2)
  else none
theorem k_X11_now {x0 : Nat} {x1 : Int32} {S : mt_S} {r : Int32} {S' : mt_S} (h : f_X11_now x0 x1 S = some (r, S')) : mt_isK S x0 11 = true := by
  unfold f_X11_now at h
  exact (mt_gd h).1
set_option maxHeartbeats 4000000 in
set_option maxRecDepth 100000 in
theorem m_X11_now {B : mt_B}  {x0 : Nat} {x1 : Int32} {S : mt_S} {r : Int32} {S' : mt_S} (h : f_X11_now x0 x1 S = some (r, S')) : mt_M B yX11_now cX11_now 2 (some .int) 3 [mt_rf B x0, .int x1] S (some (.int r)) S' := by
  unfold f_X11_now at h
  refine mt_M.of (by decide) (Nat.le_of_ble_eq_true rfl) (fun E hC hE => ?_)
  obtain ⟨hk0, h⟩ := mt_gd h
  refine go_aload_n hC 0 dX11_now_0 rfl rfl ?_
  refine go_iconst (v := 0) hC dX11_now_1 (by decide) ?_
  obtain ⟨S1, e1, h⟩ := mt_ob h
  refine go_putI hC mt_flX11_1 e1 dX11_now_2 ?_
  refine go_aload_n hC 0 dX11_now_5 rfl rfl ?_
  obtain ⟨S2, e2, h⟩ := mt_ob h
  refine go_callVv hC [] [] (m_X11_lays e2) mt_cvX11_95 (k_X11_lays e2) dX11_now_6 rfl rfl (by decide) (Nat.le_of_ble_eq_true rfl) ⟨Nat.le_refl _, Nat.le_refl _⟩ ?_
  refine go_iload_n hC 1 dX11_now_9 rfl rfl ?_
  by_cases hc0 : x1 = 0
  · have h := mt_ip h hc0
    refine go_tabIn hC (v := 0) (off := 54) (tgt := 64) dX11_now_10 hc0 (by decide) (by decide) (by decide +kernel) (by decide) ?_
    refine go_aload_n hC 0 dX11_now_64 rfl rfl ?_
    obtain ⟨v3, e3, h⟩ := mt_ob h
    refine go_getR hC mt_flX11_24 e3 dX11_now_65 ?_
    refine go_iconst (v := 0) hC dX11_now_68 (by decide) ?_
    obtain ⟨v4, e4, h⟩ := mt_ob h
    refine go_iald hC e4 dX11_now_69 ?_
    exact go_iret hC (mt_rei h hE) dX11_now_70
  · have h := mt_in' h hc0
    by_cases hc1 : x1 = 1
    · have h := mt_ip h hc1
      refine go_tabIn hC (v := 1) (off := 61) (tgt := 71) dX11_now_10 hc1 (by decide) (by decide) (by decide +kernel) (by decide) ?_
      refine go_aload_n hC 0 dX11_now_71 rfl rfl ?_
      obtain ⟨v5, e5, h⟩ := mt_ob h
      refine go_getR hC mt_flX11_24 e5 dX11_now_72 ?_
      refine go_iconst (v := 1) hC dX11_now_75 (by decide) ?_
      obtain ⟨v6, e6, h⟩ := mt_ob h
      refine go_iald hC e6 dX11_now_76 ?_
      exact go_iret hC (mt_rei h hE) dX11_now_77
    · have h := mt_in' h hc1
      by_cases hc2 : x1 = 2
      · have h := mt_ip h hc2
        refine go_tabIn hC (v := 2) (off := 68) (tgt := 78) dX11_now_10 hc2 (by decide) (by decide) (by decide +kernel) (by decide) ?_
        refine go_aload_n hC 0 dX11_now_78 rfl rfl ?_
        obtain ⟨v7, e7, h⟩ := mt_ob h
        refine go_getI hC mt_flX11_66 e7 dX11_now_79 ?_
        exact go_iret hC (mt_rei h hE) dX11_now_82
      · have h := mt_in' h hc2
        by_cases hc3 : x1 = 3
        · have h := mt_ip h hc3
          refine go_tabIn hC (v := 3) (off := 73) (tgt := 83) dX11_now_10 hc3 (by decide) (by decide) (by decide +kernel) (by decide) ?_
          refine go_aload_n hC 0 dX11_now_83 rfl rfl ?_
          obtain ⟨v8, e8, h⟩ := mt_ob h
          refine go_getI hC mt_flX11_69 e8 dX11_now_84 ?_
          exact go_iret hC (mt_rei h hE) dX11_now_87
        · have h := mt_in' h hc3
          by_cases hc4 : x1 = 4
          · have h := mt_ip h hc4
            refine go_tabIn hC (v := 4) (off := 78) (tgt := 88) dX11_now_10 hc4 (by decide) (by decide) (by decide +kernel) (by decide) ?_
            refine go_aload_n hC 0 dX11_now_88 rfl rfl ?_
            obtain ⟨v9, e9, h⟩ := mt_ob h
            refine go_getI hC mt_flX11_72 e9 dX11_now_89 ?_
            exact go_iret hC (mt_rei h hE) dX11_now_92
          · have h := mt_in' h hc4
            by_cases hc5 : x1 = 5
            · have h := mt_ip h hc5
              refine go_tabIn hC (v := 5) (off := 83) (tgt := 93) dX11_now_10 hc5 (by decide) (by decide) (by decide +kernel) (by decide) ?_
              refine go_aload_n hC 0 dX11_now_93 rfl rfl ?_
              obtain ⟨v10, e10, h⟩ := mt_ob h
              refine go_getI hC mt_flX11_75 e10 dX11_now_94 ?_
              exact go_iret hC (mt_rei h hE) dX11_now_97
            · have h := mt_in' h hc5
              by_cases hc6 : x1 = 6
              · have h := mt_ip h hc6
                refine go_tabIn hC (v := 6) (off := 88) (tgt := 98) dX11_now_10 hc6 (by decide) (by decide) (by decide +kernel) (by decide) ?_
                refine go_aload_n hC 0 dX11_now_98 rfl rfl ?_
                obtain ⟨v11, e11, h⟩ := mt_ob h
                refine go_getI hC mt_flX11_78 e11 dX11_now_99 ?_
                exact go_iret hC (mt_rei h hE) dX11_now_102
              · have h := mt_in' h hc6
                by_cases hc7 : x1 = 7
                · have h := mt_ip h hc7
                  refine go_tabIn hC (v := 7) (off := 93) (tgt := 103) dX11_now_10 hc7 (by decide) (by decide) (by decide +kernel) (by decide) ?_
                  refine go_aload_n hC 0 dX11_now_103 rfl rfl ?_
                  obtain ⟨v12, e12, h⟩ := mt_ob h
                  refine go_getR hC mt_flX11_24 e12 dX11_now_104 ?_
                  refine go_iconst (v := 2) hC dX11_now_107 (by decide) ?_
                  obtain ⟨v13, e13, h⟩ := mt_ob h
                  refine go_iald hC e13 dX11_now_108 ?_
                  exact go_iret hC (mt_rei h hE) dX11_now_109
                · have h := mt_in' h hc7
                  by_cases hc8 : x1 = 8
                  · have h := mt_ip h hc8
                    refine go_tabIn hC (v := 8) (off := 100) (tgt := 110) dX11_now_10 hc8 (by decide) (by decide) (by decide +kernel) (by decide) ?_
                    refine go_aload_n hC 0 dX11_now_110 rfl rfl ?_
                    obtain ⟨v14, e14, h⟩ := mt_ob h
                    refine go_getI hC mt_flX11_56 e14 dX11_now_111 ?_
                    exact go_iret hC (mt_rei h hE) dX11_now_114
                  · have h := mt_in' h hc8
                    by_cases hc9 : x1 = 9
                    · have h := mt_ip h hc9
                      refine go_tabIn hC (v := 9) (off := 105) (tgt := 115) dX11_now_10 hc9 (by decide) (by decide) (by decide +kernel) (by decide) ?_
                      refine go_aload_n hC 0 dX11_now_115 rfl rfl ?_
                      obtain ⟨v15, e15, h⟩ := mt_ob h
                      refine go_getI hC mt_flX11_11 e15 dX11_now_116 ?_
                      exact go_iret hC (mt_rei h hE) dX11_now_119
                    · have h := mt_in' h hc9
                      have t0 := lv_neT hc0 (a := 0) rfl
                      have t1 := lv_neT hc1 (a := 1) rfl
                      have t2 := lv_neT hc2 (a := 2) rfl
                      have t3 := lv_neT hc3 (a := 3) rfl
                      have t4 := lv_neT hc4 (a := 4) rfl
                      have t5 := lv_neT hc5 (a := 5) rfl
                      have t6 := lv_neT hc6 (a := 6) rfl
                      have t7 := lv_neT hc7 (a := 7) rfl
                      have t8 := lv_neT hc8 (a := 8) rfl
                      have t9 := lv_neT hc9 (a := 9) rfl
                      refine go_tabOut hC (tgt := 120) dX11_now_10 (by omega) (by decide) ?_
                      refine go_iconst (v := (-1)) hC dX11_now_120 (by decide) ?_
                      exact go_iret hC (mt_rei h hE) dX11_now_121
set_option maxHeartbeats 4000000 in
set_option maxRecDepth 100000 in
theorem ov_X11_now {T : mt_S}  {x0 : Nat} {x1 : Int32} {S : mt_S} {r : Int32} {S' : mt_S} (hp : mt_cp S T) (h : f_X11_now x0 x1 S = some (r, S')) : f_X11_now x0 x1 (mt_ov S T) = some (r, mt_ov S' T) ∧ mt_cp S' T := by
  unfold f_X11_now at h ⊢
  obtain ⟨hg, h⟩ := mt_gd h
  refine ov_t (ov_K hp hg) ?_
  obtain ⟨S1, e1, h⟩ := mt_ob h
  obtain ⟨o_, hp⟩ := ov_wI hp e1
  refine ov_b o_ ?_
  obtain ⟨S2, e2, h⟩ := mt_ob h
  obtain ⟨o_, hp⟩ := ov_X11_lays hp e2
  refine ov_b o_ ?_
  by_cases hc : x1 = 0
  · have h := mt_ip h hc
    refine ov_t hc ?_
    obtain ⟨v3, e3, h⟩ := mt_ob h
    refine ov_b (ov_rR hp e3) ?_
    obtain ⟨v4, e4, h⟩ := mt_ob h
    refine ov_b (ov_aI hp e4) ?_
    exact ov_ret hp h
  · have h := mt_in' h hc
    refine ov_f hc ?_
    by_cases hc : x1 = 1
    · have h := mt_ip h hc
      refine ov_t hc ?_
      obtain ⟨v5, e5, h⟩ := mt_ob h
      refine ov_b (ov_rR hp e5) ?_
      obtain ⟨v6, e6, h⟩ := mt_ob h
      refine ov_b (ov_aI hp e6) ?_
      exact ov_ret hp h
    · have h := mt_in' h hc
      refine ov_f hc ?_
      by_cases hc : x1 = 2
      · have h := mt_ip h hc
        refine ov_t hc ?_
        obtain ⟨v7, e7, h⟩ := mt_ob h
        refine ov_b (ov_rI hp e7) ?_
        exact ov_ret hp h
      · have h := mt_in' h hc
        refine ov_f hc ?_
        by_cases hc : x1 = 3
        · have h := mt_ip h hc
          refine ov_t hc ?_
          obtain ⟨v8, e8, h⟩ := mt_ob h
          refine ov_b (ov_rI hp e8) ?_
          exact ov_ret hp h
        · have h := mt_in' h hc
          refine ov_f hc ?_
          by_cases hc : x1 = 4
          · have h := mt_ip h hc
            refine ov_t hc ?_
            obtain ⟨v9, e9, h⟩ := mt_ob h
            refine ov_b (ov_rI hp e9) ?_
            exact ov_ret hp h
          · have h := mt_in' h hc
            refine ov_f hc ?_
            by_cases hc : x1 = 5
            · have h := mt_ip h hc
              refine ov_t hc ?_
              obtain ⟨v10, e10, h⟩ := mt_ob h
              refine ov_b (ov_rI hp e10) ?_
              exact ov_ret hp h
            · have h := mt_in' h hc
              refine ov_f hc ?_
              by_cases hc : x1 = 6
              · have h := mt_ip h hc
                refine ov_t hc ?_
                obtain ⟨v11, e11, h⟩ := mt_ob h
                refine ov_b (ov_rI hp e11) ?_
                exact ov_ret hp h
              · have h := mt_in' h hc
                refine ov_f hc ?_
                by_cases hc : x1 = 7
                · have h := mt_ip h hc
                  refine ov_t hc ?_
                  obtain ⟨v12, e12, h⟩ := mt_ob h
                  refine ov_b (ov_rR hp e12) ?_
                  obtain ⟨v13, e13, h⟩ := mt_ob h
                  refine ov_b (ov_aI hp e13) ?_
                  exact ov_ret hp h
                · have h := mt_in' h hc
                  refine ov_f hc ?_
                  by_cases hc : x1 = 8
                  · have h := mt_ip h hc
                    refine ov_t hc ?_
                    obtain ⟨v14, e14, h⟩ := mt_ob h
                    refine ov_b (ov_rI hp e14) ?_
                    exact ov_ret hp h
                  · have h := mt_in' h hc
                    refine ov_f hc ?_
                    by_cases hc : x1 = 9
                    · have h := mt_ip h hc
                      refine ov_t hc ?_
                      obtain ⟨v15, e15, h⟩ := mt_ob h
                      refine ov_b (ov_rI hp e15) ?_
                      exact ov_ret hp h
                    · have h := mt_in' h hc
                      refine ov_f hc ?_
                      exact ov_ret hp h
def f_X11_undo (x0 : Nat) (S : mt_S) : Option (Int32 × mt_S) :=
  if mt_isK S x0 11 = true then
   Option.bind (mt_wI S x0 11 0 0) fun S1 =>
   Option.bind (mt_rI S1 x0 11 9) fun v2 =>
   if v2 = 0 then
    some ((-1), S1)
   else
    Option.bind (mt_rI S1 x0 11 9) fun v3 =>
    Option.bind (mt_wI S1 x0 11 9 (v3 - 1)) fun S4 =>
    Option.bind (mt_rR S4 x0 11 5) fun v5 =>
    Option.bind (mt_rI S4 x0 11 9) fun v6 =>
    Option.bind (mt_rR S4 x0 11 3) fun v7 =>
    Option.bind (f_X11_copy v5 (35 * v6) v7 0 S4) fun S8 =>
    Option.bind (mt_rI S8 x0 11 9) fun v9 =>
    some (v9, S8)
  else none
theorem k_X11_undo {x0 : Nat} {S : mt_S} {r : Int32} {S' : mt_S} (h : f_X11_undo x0 S = some (r, S')) : mt_isK S x0 11 = true := by
  unfold f_X11_undo at h
  exact (mt_gd h).1
set_option maxHeartbeats 4000000 in
set_option maxRecDepth 100000 in
theorem m_X11_undo {B : mt_B}  {x0 : Nat} {S : mt_S} {r : Int32} {S' : mt_S} (h : f_X11_undo x0 S = some (r, S')) : mt_M B yX11_undo cX11_undo 1 (some .int) 2 [mt_rf B x0] S (some (.int r)) S' := by
  unfold f_X11_undo at h
  refine mt_M.of (by decide) (Nat.le_of_ble_eq_true rfl) (fun E hC hE => ?_)
  obtain ⟨hk0, h⟩ := mt_gd h
  refine go_aload_n hC 0 dX11_undo_0 rfl rfl ?_
  refine go_iconst (v := 0) hC dX11_undo_1 (by decide) ?_
  obtain ⟨S1, e1, h⟩ := mt_ob h
  refine go_putI hC mt_flX11_1 e1 dX11_undo_2 ?_
  refine go_aload_n hC 0 dX11_undo_5 rfl rfl ?_
  obtain ⟨v2, e2, h⟩ := mt_ob h
  refine go_getI hC mt_flX11_56 e2 dX11_undo_6 ?_
  refine go_if_ne hC (tgt := 14) dX11_undo_9 (by decide) (fun hc => ?_) (fun hc => ?_)
  · have h := mt_in' h hc
    refine go_aload_n hC 0 dX11_undo_14 rfl rfl ?_
    refine go_dup hC dX11_undo_15 rfl ?_
    obtain ⟨v3, e3, h⟩ := mt_ob h
    refine go_getI hC mt_flX11_56 e3 dX11_undo_16 ?_
    refine go_iconst (v := 1) hC dX11_undo_19 (by decide) ?_
    refine go_isub hC dX11_undo_20 ?_
    obtain ⟨S4, e4, h⟩ := mt_ob h
    refine go_putI hC mt_flX11_56 e4 dX11_undo_21 ?_
    refine go_aload_n hC 0 dX11_undo_24 rfl rfl ?_
    obtain ⟨v5, e5, h⟩ := mt_ob h
    refine go_getR hC mt_flX11_30 e5 dX11_undo_25 ?_
    refine go_bipush (v := 35) hC dX11_undo_28 (by decide) ?_
    refine go_aload_n hC 0 dX11_undo_30 rfl rfl ?_
    obtain ⟨v6, e6, h⟩ := mt_ob h
    refine go_getI hC mt_flX11_56 e6 dX11_undo_31 ?_
    refine go_imul hC dX11_undo_34 ?_
    refine go_aload_n hC 0 dX11_undo_35 rfl rfl ?_
    obtain ⟨v7, e7, h⟩ := mt_ob h
    refine go_getR hC mt_flX11_24 e7 dX11_undo_36 ?_
    refine go_iconst (v := 0) hC dX11_undo_39 (by decide) ?_
    obtain ⟨S8, e8, h⟩ := mt_ob h
    refine go_callSv hC [mt_rf B v5, .int (35 * v6), mt_rf B v7, .int 0] [] (m_X11_copy e8) mt_csX11_59 dX11_undo_40 rfl rfl (by decide) (Nat.le_of_ble_eq_true rfl) ⟨Nat.le_refl _, Nat.le_refl _⟩ ?_
    refine go_aload_n hC 0 dX11_undo_43 rfl rfl ?_
    obtain ⟨v9, e9, h⟩ := mt_ob h
    refine go_getI hC mt_flX11_56 e9 dX11_undo_44 ?_
    exact go_iret hC (mt_rei h hE) dX11_undo_47
  · have h := mt_ip h hc
    refine go_iconst (v := (-1)) hC dX11_undo_12 (by decide) ?_
    exact go_iret hC (mt_rei h hE) dX11_undo_13
set_option maxHeartbeats 4000000 in
set_option maxRecDepth 100000 in
theorem ov_X11_undo {T : mt_S}  {x0 : Nat} {S : mt_S} {r : Int32} {S' : mt_S} (hp : mt_cp S T) (h : f_X11_undo x0 S = some (r, S')) : f_X11_undo x0 (mt_ov S T) = some (r, mt_ov S' T) ∧ mt_cp S' T := by
  unfold f_X11_undo at h ⊢
  obtain ⟨hg, h⟩ := mt_gd h
  refine ov_t (ov_K hp hg) ?_
  obtain ⟨S1, e1, h⟩ := mt_ob h
  obtain ⟨o_, hp⟩ := ov_wI hp e1
  refine ov_b o_ ?_
  obtain ⟨v2, e2, h⟩ := mt_ob h
  refine ov_b (ov_rI hp e2) ?_
  by_cases hc : v2 = 0
  · have h := mt_ip h hc
    refine ov_t hc ?_
    exact ov_ret hp h
  · have h := mt_in' h hc
    refine ov_f hc ?_
    obtain ⟨v3, e3, h⟩ := mt_ob h
    refine ov_b (ov_rI hp e3) ?_
    obtain ⟨S4, e4, h⟩ := mt_ob h
    obtain ⟨o_, hp⟩ := ov_wI hp e4
    refine ov_b o_ ?_
    obtain ⟨v5, e5, h⟩ := mt_ob h
    refine ov_b (ov_rR hp e5) ?_
    obtain ⟨v6, e6, h⟩ := mt_ob h
    refine ov_b (ov_rI hp e6) ?_
    obtain ⟨v7, e7, h⟩ := mt_ob h
    refine ov_b (ov_rR hp e7) ?_
    obtain ⟨S8, e8, h⟩ := mt_ob h
    obtain ⟨o_, hp⟩ := ov_X11_copy hp e8
    refine ov_b o_ ?_
    obtain ⟨v9, e9, h⟩ := mt_ob h
    refine ov_b (ov_rI hp e9) ?_
    exact ov_ret hp h
def f_X11_image (x0 : Nat) (x1 : Int32) (S : mt_S) : Option (Int32 × mt_S) :=
  if mt_isK S x0 11 = true then
   Option.bind (mt_wI S x0 11 0 0) fun S1 =>
   mt_b2 (f_X11_isIn x1.toInt64 0 1 S1) fun v3 S2 =>
   if v3 = 0 then
    some (0, S2)
   else
    Option.bind (mt_rR S2 x0 11 3) fun v4 =>
    Option.bind (mt_rR S2 x0 11 4) fun v5 =>
    Option.bind (f_X11_copy v4 0 v5 (35 * x1) S2) fun S6 =>
    Option.bind (mt_rR S6 x0 11 8) fun v7 =>
    Option.bind (mt_sI S6 v7 15 x1 (vp_nar .boolean 1)) fun S8 =>
    some (1, S8)
  else none
theorem k_X11_image {x0 : Nat} {x1 : Int32} {S : mt_S} {r : Int32} {S' : mt_S} (h : f_X11_image x0 x1 S = some (r, S')) : mt_isK S x0 11 = true := by
  unfold f_X11_image at h
  exact (mt_gd h).1
set_option maxHeartbeats 4000000 in
set_option maxRecDepth 100000 in
theorem m_X11_image {B : mt_B}  {x0 : Nat} {x1 : Int32} {S : mt_S} {r : Int32} {S' : mt_S} (h : f_X11_image x0 x1 S = some (r, S')) : mt_M B yX11_image cX11_image 2 (some .boolean) 2 [mt_rf B x0, .int x1] S (some (.int r)) S' := by
  unfold f_X11_image at h
  refine mt_M.of (by decide) (Nat.le_of_ble_eq_true rfl) (fun E hC hE => ?_)
  obtain ⟨hk0, h⟩ := mt_gd h
  refine go_aload_n hC 0 dX11_image_0 rfl rfl ?_
  refine go_iconst (v := 0) hC dX11_image_1 (by decide) ?_
  obtain ⟨S1, e1, h⟩ := mt_ob h
  refine go_putI hC mt_flX11_1 e1 dX11_image_2 ?_
  refine go_iload_n hC 1 dX11_image_5 rfl rfl ?_
  refine go_i2l hC dX11_image_6 ?_
  refine go_lconst (v := 0) hC dX11_image_7 (by decide) ?_
  refine go_lconst (v := 1) hC dX11_image_8 (by decide) ?_
  obtain ⟨v3, S2, e3, h⟩ := mt_ob2 h
  refine go_callSi hC [.long x1.toInt64, .long 0, .long 1] [] (m_X11_isIn e3) mt_csX11_91 dX11_image_9 rfl rfl (by decide) (Nat.le_of_ble_eq_true rfl) ⟨Nat.le_refl _, Nat.le_refl _⟩ ?_
  refine go_if_ne hC (tgt := 17) dX11_image_12 (by decide) (fun hc => ?_) (fun hc => ?_)
  · have h := mt_in' h hc
    refine go_aload_n hC 0 dX11_image_17 rfl rfl ?_
    obtain ⟨v4, e4, h⟩ := mt_ob h
    refine go_getR hC mt_flX11_24 e4 dX11_image_18 ?_
    refine go_iconst (v := 0) hC dX11_image_21 (by decide) ?_
    refine go_aload_n hC 0 dX11_image_22 rfl rfl ?_
    obtain ⟨v5, e5, h⟩ := mt_ob h
    refine go_getR hC mt_flX11_27 e5 dX11_image_23 ?_
    refine go_bipush (v := 35) hC dX11_image_26 (by decide) ?_
    refine go_iload_n hC 1 dX11_image_28 rfl rfl ?_
    refine go_imul hC dX11_image_29 ?_
    obtain ⟨S6, e6, h⟩ := mt_ob h
    refine go_callSv hC [mt_rf B v4, .int 0, mt_rf B v5, .int (35 * x1)] [] (m_X11_copy e6) mt_csX11_59 dX11_image_30 rfl rfl (by decide) (Nat.le_of_ble_eq_true rfl) ⟨Nat.le_refl _, Nat.le_refl _⟩ ?_
    refine go_aload_n hC 0 dX11_image_33 rfl rfl ?_
    obtain ⟨v7, e7, h⟩ := mt_ob h
    refine go_getR hC mt_flX11_39 e7 dX11_image_34 ?_
    refine go_iload_n hC 1 dX11_image_37 rfl rfl ?_
    refine go_iconst (v := 1) hC dX11_image_38 (by decide) ?_
    obtain ⟨S8, e8, h⟩ := mt_ob h
    refine go_zast hC e8 dX11_image_39 ?_
    refine go_iconst (v := 1) hC dX11_image_40 (by decide) ?_
    exact go_zret hC (mt_rei h hE) (Or.inr rfl) dX11_image_41
  · have h := mt_ip h hc
    refine go_iconst (v := 0) hC dX11_image_15 (by decide) ?_
    exact go_zret hC (mt_rei h hE) (Or.inl rfl) dX11_image_16
set_option maxHeartbeats 4000000 in
set_option maxRecDepth 100000 in
theorem ov_X11_image {T : mt_S}  {x0 : Nat} {x1 : Int32} {S : mt_S} {r : Int32} {S' : mt_S} (hp : mt_cp S T) (h : f_X11_image x0 x1 S = some (r, S')) : f_X11_image x0 x1 (mt_ov S T) = some (r, mt_ov S' T) ∧ mt_cp S' T := by
  unfold f_X11_image at h ⊢
  obtain ⟨hg, h⟩ := mt_gd h
  refine ov_t (ov_K hp hg) ?_
  obtain ⟨S1, e1, h⟩ := mt_ob h
  obtain ⟨o_, hp⟩ := ov_wI hp e1
  refine ov_b o_ ?_
  obtain ⟨v3, S2, e3, h⟩ := mt_ob2 h
  obtain ⟨o_, hp⟩ := ov_X11_isIn hp e3
  refine ov_b2 o_ ?_
  by_cases hc : v3 = 0
  · have h := mt_ip h hc
    refine ov_t hc ?_
    exact ov_ret hp h
  · have h := mt_in' h hc
    refine ov_f hc ?_
    obtain ⟨v4, e4, h⟩ := mt_ob h
    refine ov_b (ov_rR hp e4) ?_
    obtain ⟨v5, e5, h⟩ := mt_ob h
    refine ov_b (ov_rR hp e5) ?_
    obtain ⟨S6, e6, h⟩ := mt_ob h
    obtain ⟨o_, hp⟩ := ov_X11_copy hp e6
    refine ov_b o_ ?_
    obtain ⟨v7, e7, h⟩ := mt_ob h
    refine ov_b (ov_rR hp e7) ?_
    obtain ⟨S8, e8, h⟩ := mt_ob h
    obtain ⟨o_, hp⟩ := ov_sI hp e8
    refine ov_b o_ ?_
    exact ov_ret hp h
def f_X11_restore (x0 : Nat) (x1 : Int32) (S : mt_S) : Option (Int32 × mt_S) :=
  if mt_isK S x0 11 = true then
   Option.bind (mt_wI S x0 11 0 0) fun S1 =>
   mt_b2 (f_X11_isIn x1.toInt64 0 1 S1) fun v3 S2 =>
   if v3 = 0 then
    some (0, S2)
   else
    Option.bind (mt_rR S2 x0 11 8) fun v4 =>
    Option.bind (mt_aI S2 v4 15 x1) fun v5 =>
    if v5 = 0 then
     some (0, S2)
    else
     Option.bind (mt_rR S2 x0 11 4) fun v6 =>
     Option.bind (mt_rR S2 x0 11 3) fun v7 =>
     Option.bind (f_X11_copy v6 (35 * x1) v7 0 S2) fun S8 =>
     Option.bind (mt_wI S8 x0 11 9 0) fun S9 =>
     some (1, S9)
  else none
theorem k_X11_restore {x0 : Nat} {x1 : Int32} {S : mt_S} {r : Int32} {S' : mt_S} (h : f_X11_restore x0 x1 S = some (r, S')) : mt_isK S x0 11 = true := by
  unfold f_X11_restore at h
  exact (mt_gd h).1
set_option maxHeartbeats 4000000 in
set_option maxRecDepth 100000 in
theorem m_X11_restore {B : mt_B}  {x0 : Nat} {x1 : Int32} {S : mt_S} {r : Int32} {S' : mt_S} (h : f_X11_restore x0 x1 S = some (r, S')) : mt_M B yX11_restore cX11_restore 2 (some .boolean) 2 [mt_rf B x0, .int x1] S (some (.int r)) S' := by
  unfold f_X11_restore at h
  refine mt_M.of (by decide) (Nat.le_of_ble_eq_true rfl) (fun E hC hE => ?_)
  obtain ⟨hk0, h⟩ := mt_gd h
  refine go_aload_n hC 0 dX11_restore_0 rfl rfl ?_
  refine go_iconst (v := 0) hC dX11_restore_1 (by decide) ?_
  obtain ⟨S1, e1, h⟩ := mt_ob h
  refine go_putI hC mt_flX11_1 e1 dX11_restore_2 ?_
  refine go_iload_n hC 1 dX11_restore_5 rfl rfl ?_
  refine go_i2l hC dX11_restore_6 ?_
  refine go_lconst (v := 0) hC dX11_restore_7 (by decide) ?_
  refine go_lconst (v := 1) hC dX11_restore_8 (by decide) ?_
  obtain ⟨v3, S2, e3, h⟩ := mt_ob2 h
  refine go_callSi hC [.long x1.toInt64, .long 0, .long 1] [] (m_X11_isIn e3) mt_csX11_91 dX11_restore_9 rfl rfl (by decide) (Nat.le_of_ble_eq_true rfl) ⟨Nat.le_refl _, Nat.le_refl _⟩ ?_
  refine go_if_eq hC (tgt := 24) dX11_restore_12 (by decide) (fun hc => ?_) (fun hc => ?_)
  · have h := mt_ip h hc
    refine go_iconst (v := 0) hC dX11_restore_24 (by decide) ?_
    exact go_zret hC (mt_rei h hE) (Or.inl rfl) dX11_restore_25
  · have h := mt_in' h hc
    refine go_aload_n hC 0 dX11_restore_15 rfl rfl ?_
    obtain ⟨v4, e4, h⟩ := mt_ob h
    refine go_getR hC mt_flX11_39 e4 dX11_restore_16 ?_
    refine go_iload_n hC 1 dX11_restore_19 rfl rfl ?_
    obtain ⟨v5, e5, h⟩ := mt_ob h
    refine go_zald hC e5 dX11_restore_20 ?_
    refine go_if_ne hC (tgt := 26) dX11_restore_21 (by decide) (fun hc => ?_) (fun hc => ?_)
    · have h := mt_in' h hc
      refine go_aload_n hC 0 dX11_restore_26 rfl rfl ?_
      obtain ⟨v6, e6, h⟩ := mt_ob h
      refine go_getR hC mt_flX11_27 e6 dX11_restore_27 ?_
      refine go_bipush (v := 35) hC dX11_restore_30 (by decide) ?_
      refine go_iload_n hC 1 dX11_restore_32 rfl rfl ?_
      refine go_imul hC dX11_restore_33 ?_
      refine go_aload_n hC 0 dX11_restore_34 rfl rfl ?_
      obtain ⟨v7, e7, h⟩ := mt_ob h
      refine go_getR hC mt_flX11_24 e7 dX11_restore_35 ?_
      refine go_iconst (v := 0) hC dX11_restore_38 (by decide) ?_
      obtain ⟨S8, e8, h⟩ := mt_ob h
      refine go_callSv hC [mt_rf B v6, .int (35 * x1), mt_rf B v7, .int 0] [] (m_X11_copy e8) mt_csX11_59 dX11_restore_39 rfl rfl (by decide) (Nat.le_of_ble_eq_true rfl) ⟨Nat.le_refl _, Nat.le_refl _⟩ ?_
      refine go_aload_n hC 0 dX11_restore_42 rfl rfl ?_
      refine go_iconst (v := 0) hC dX11_restore_43 (by decide) ?_
      obtain ⟨S9, e9, h⟩ := mt_ob h
      refine go_putI hC mt_flX11_56 e9 dX11_restore_44 ?_
      refine go_iconst (v := 1) hC dX11_restore_47 (by decide) ?_
      exact go_zret hC (mt_rei h hE) (Or.inr rfl) dX11_restore_48
    · have h := mt_ip h hc
      refine go_iconst (v := 0) hC dX11_restore_24 (by decide) ?_
      exact go_zret hC (mt_rei h hE) (Or.inl rfl) dX11_restore_25
set_option maxHeartbeats 4000000 in
set_option maxRecDepth 100000 in
theorem ov_X11_restore {T : mt_S}  {x0 : Nat} {x1 : Int32} {S : mt_S} {r : Int32} {S' : mt_S} (hp : mt_cp S T) (h : f_X11_restore x0 x1 S = some (r, S')) : f_X11_restore x0 x1 (mt_ov S T) = some (r, mt_ov S' T) ∧ mt_cp S' T := by
  unfold f_X11_restore at h ⊢
  obtain ⟨hg, h⟩ := mt_gd h
  refine ov_t (ov_K hp hg) ?_
  obtain ⟨S1, e1, h⟩ := mt_ob h
  obtain ⟨o_, hp⟩ := ov_wI hp e1
  refine ov_b o_ ?_
  obtain ⟨v3, S2, e3, h⟩ := mt_ob2 h
  obtain ⟨o_, hp⟩ := ov_X11_isIn hp e3
  refine ov_b2 o_ ?_
  by_cases hc : v3 = 0
  · have h := mt_ip h hc
    refine ov_t hc ?_
    exact ov_ret hp h
  · have h := mt_in' h hc
    refine ov_f hc ?_
    obtain ⟨v4, e4, h⟩ := mt_ob h
    refine ov_b (ov_rR hp e4) ?_
    obtain ⟨v5, e5, h⟩ := mt_ob h
    refine ov_b (ov_aI hp e5) ?_
    by_cases hc : v5 = 0
    · have h := mt_ip h hc
      refine ov_t hc ?_
      exact ov_ret hp h
    · have h := mt_in' h hc
      refine ov_f hc ?_
      obtain ⟨v6, e6, h⟩ := mt_ob h
      refine ov_b (ov_rR hp e6) ?_
      obtain ⟨v7, e7, h⟩ := mt_ob h
      refine ov_b (ov_rR hp e7) ?_
      obtain ⟨S8, e8, h⟩ := mt_ob h
      obtain ⟨o_, hp⟩ := ov_X11_copy hp e8
      refine ov_b o_ ?_
      obtain ⟨S9, e9, h⟩ := mt_ob h
      obtain ⟨o_, hp⟩ := ov_wI hp e9
      refine ov_b o_ ?_
      exact ov_ret hp h
