def f_X2_size (x0 : Nat) (S : mt_S) : Option (Int32 × mt_S) :=
  if mt_isK S x0 2 = true then
   Option.bind (mt_rI S x0 2 2) fun v1 =>
   some (v1, S)
  else none
theorem k_X2_size {x0 : Nat} {S : mt_S} {r : Int32} {S' : mt_S} (h : f_X2_size x0 S = some (r, S')) : mt_isK S x0 2 = true := by
  unfold f_X2_size at h
  exact (mt_gd h).1
set_option maxHeartbeats 4000000 in
set_option maxRecDepth 100000 in
theorem m_X2_size {B : mt_B}  {x0 : Nat} {S : mt_S} {r : Int32} {S' : mt_S} (h : f_X2_size x0 S = some (r, S')) : mt_M B yX2_size cX2_size 1 (some .int) 1 [mt_rf B x0] S (some (.int r)) S' := by
  unfold f_X2_size at h
  refine mt_M.of (by decide) (Nat.le_of_ble_eq_true rfl) (fun E hC hE => ?_)
  obtain ⟨hk0, h⟩ := mt_gd h
  refine go_aload_n hC 0 dX2_size_0 rfl rfl ?_
  obtain ⟨v1, e1, h⟩ := mt_ob h
  refine go_getI hC mt_flX2_22 e1 dX2_size_1 ?_
  exact go_iret hC (mt_rei h hE) dX2_size_4
set_option maxHeartbeats 4000000 in
set_option maxRecDepth 100000 in
theorem ov_X2_size {T : mt_S}  {x0 : Nat} {S : mt_S} {r : Int32} {S' : mt_S} (hp : mt_cp S T) (h : f_X2_size x0 S = some (r, S')) : f_X2_size x0 (mt_ov S T) = some (r, mt_ov S' T) ∧ mt_cp S' T := by
  unfold f_X2_size at h ⊢
  obtain ⟨hg, h⟩ := mt_gd h
  refine ov_t (ov_K hp hg) ?_
  obtain ⟨v1, e1, h⟩ := mt_ob h
  refine ov_b (ov_rI hp e1) ?_
  exact ov_ret hp h
def f_X3_copyRow (x0 : Nat) (x1 : Nat) (x2 : Int32) (x3 : Int32) (S : mt_S) : Option (mt_S) :=
  if mt_isK S x0 3 = true then
   Option.bind (mt_rR S x0 3 0) fun v1 =>
   Option.bind (mt_rR S x1 3 0) fun v2 =>
   Option.bind (mt_aL S v2 x2) fun v3 =>
   Option.bind (mt_sL S v1 x3 v3) fun S4 =>
   Option.bind (mt_rR S4 x0 3 1) fun v5 =>
   Option.bind (mt_rR S4 x1 3 1) fun v6 =>
   Option.bind (mt_aI S4 v6 13 x2) fun v7 =>
   Option.bind (mt_sI S4 v5 13 x3 v7) fun S8 =>
   Option.bind (mt_rR S8 x0 3 2) fun v9 =>
   Option.bind (mt_rR S8 x1 3 2) fun v10 =>
   Option.bind (mt_aI S8 v10 13 x2) fun v11 =>
   Option.bind (mt_sI S8 v9 13 x3 v11) fun S12 =>
   some S12
  else none
theorem k_X3_copyRow {x0 : Nat} {x1 : Nat} {x2 : Int32} {x3 : Int32} {S : mt_S} {S' : mt_S} (h : f_X3_copyRow x0 x1 x2 x3 S = some S') : mt_isK S x0 3 = true := by
  unfold f_X3_copyRow at h
  exact (mt_gd h).1
set_option maxHeartbeats 4000000 in
set_option maxRecDepth 100000 in
theorem m_X3_copyRow {B : mt_B}  {x0 : Nat} {x1 : Nat} {x2 : Int32} {x3 : Int32} {S : mt_S} {S' : mt_S} (h : f_X3_copyRow x0 x1 x2 x3 S = some S') : mt_M B yX3_copyRow cX3_copyRow 4 none 1 [mt_rf B x0, mt_rf B x1, .int x2, .int x3] S none S' := by
  unfold f_X3_copyRow at h
  refine mt_M.of (by decide) (Nat.le_of_ble_eq_true rfl) (fun E hC hE => ?_)
  obtain ⟨hk0, h⟩ := mt_gd h
  refine go_aload_n hC 0 dX3_copyRow_0 rfl rfl ?_
  obtain ⟨v1, e1, h⟩ := mt_ob h
  refine go_getR hC mt_flX3_9 e1 dX3_copyRow_1 ?_
  refine go_iload_n hC 3 dX3_copyRow_4 rfl rfl ?_
  refine go_aload_n hC 1 dX3_copyRow_5 rfl rfl ?_
  obtain ⟨v2, e2, h⟩ := mt_ob h
  refine go_getR hC mt_flX3_9 e2 dX3_copyRow_6 ?_
  refine go_iload_n hC 2 dX3_copyRow_9 rfl rfl ?_
  obtain ⟨v3, e3, h⟩ := mt_ob h
  refine go_lald hC e3 dX3_copyRow_10 ?_
  obtain ⟨S4, e4, h⟩ := mt_ob h
  refine go_last hC e4 dX3_copyRow_11 ?_
  refine go_aload_n hC 0 dX3_copyRow_12 rfl rfl ?_
  obtain ⟨v5, e5, h⟩ := mt_ob h
  refine go_getR hC mt_flX3_15 e5 dX3_copyRow_13 ?_
  refine go_iload_n hC 3 dX3_copyRow_16 rfl rfl ?_
  refine go_aload_n hC 1 dX3_copyRow_17 rfl rfl ?_
  obtain ⟨v6, e6, h⟩ := mt_ob h
  refine go_getR hC mt_flX3_15 e6 dX3_copyRow_18 ?_
  refine go_iload_n hC 2 dX3_copyRow_21 rfl rfl ?_
  obtain ⟨v7, e7, h⟩ := mt_ob h
  refine go_iald hC e7 dX3_copyRow_22 ?_
  obtain ⟨S8, e8, h⟩ := mt_ob h
  refine go_iast hC e8 dX3_copyRow_23 ?_
  refine go_aload_n hC 0 dX3_copyRow_24 rfl rfl ?_
  obtain ⟨v9, e9, h⟩ := mt_ob h
  refine go_getR hC mt_flX3_19 e9 dX3_copyRow_25 ?_
  refine go_iload_n hC 3 dX3_copyRow_28 rfl rfl ?_
  refine go_aload_n hC 1 dX3_copyRow_29 rfl rfl ?_
  obtain ⟨v10, e10, h⟩ := mt_ob h
  refine go_getR hC mt_flX3_19 e10 dX3_copyRow_30 ?_
  refine go_iload_n hC 2 dX3_copyRow_33 rfl rfl ?_
  obtain ⟨v11, e11, h⟩ := mt_ob h
  refine go_iald hC e11 dX3_copyRow_34 ?_
  obtain ⟨S12, e12, h⟩ := mt_ob h
  refine go_iast hC e12 dX3_copyRow_35 ?_
  exact go_vret hC (mt_rev h hE) dX3_copyRow_36
set_option maxHeartbeats 4000000 in
set_option maxRecDepth 100000 in
theorem ov_X3_copyRow {T : mt_S}  {x0 : Nat} {x1 : Nat} {x2 : Int32} {x3 : Int32} {S : mt_S} {S' : mt_S} (hp : mt_cp S T) (h : f_X3_copyRow x0 x1 x2 x3 S = some S') : f_X3_copyRow x0 x1 x2 x3 (mt_ov S T) = some (mt_ov S' T) ∧ mt_cp S' T := by
  unfold f_X3_copyRow at h ⊢
  obtain ⟨hg, h⟩ := mt_gd h
  refine ov_t (ov_K hp hg) ?_
  obtain ⟨v1, e1, h⟩ := mt_ob h
  refine ov_b (ov_rR hp e1) ?_
  obtain ⟨v2, e2, h⟩ := mt_ob h
  refine ov_b (ov_rR hp e2) ?_
  obtain ⟨v3, e3, h⟩ := mt_ob h
  refine ov_b (ov_aL hp e3) ?_
  obtain ⟨S4, e4, h⟩ := mt_ob h
  obtain ⟨o_, hp⟩ := ov_sL hp e4
  refine ov_b o_ ?_
  obtain ⟨v5, e5, h⟩ := mt_ob h
  refine ov_b (ov_rR hp e5) ?_
  obtain ⟨v6, e6, h⟩ := mt_ob h
  refine ov_b (ov_rR hp e6) ?_
  obtain ⟨v7, e7, h⟩ := mt_ob h
  refine ov_b (ov_aI hp e7) ?_
  obtain ⟨S8, e8, h⟩ := mt_ob h
  obtain ⟨o_, hp⟩ := ov_sI hp e8
  refine ov_b o_ ?_
  obtain ⟨v9, e9, h⟩ := mt_ob h
  refine ov_b (ov_rR hp e9) ?_
  obtain ⟨v10, e10, h⟩ := mt_ob h
  refine ov_b (ov_rR hp e10) ?_
  obtain ⟨v11, e11, h⟩ := mt_ob h
  refine ov_b (ov_aI hp e11) ?_
  obtain ⟨S12, e12, h⟩ := mt_ob h
  obtain ⟨o_, hp⟩ := ov_sI hp e12
  refine ov_b o_ ?_
  exact ov_retv hp h
def f_X3_copyFrom_L10s (rc : Nat → Nat → Int32 → mt_S → Option (mt_S)) (x0 : Nat) (x1 : Nat) (x2 : Int32) (S : mt_S) : Option (mt_S) :=
  Option.bind (mt_rI S x0 3 3) fun v3 =>
  if v3 ≤ x2 then
   some S
  else
   Option.bind (f_X3_copyRow x0 x1 x2 x2 S) fun S4 =>
   rc x0 x1 (x2 + 1) S4
def f_X3_copyFrom_L10 : Nat → Nat → Nat → Int32 → mt_S → Option (mt_S)
  | 0 => fun _ _ _ _ => none
  | n + 1 => f_X3_copyFrom_L10s (f_X3_copyFrom_L10 n)
set_option maxHeartbeats 4000000 in
set_option maxRecDepth 100000 in
theorem m_X3_copyFrom_L10 {B : mt_B} {E : mt_E} {S' : mt_S} (hC : mt_Cx B E cX3_copyFrom RX3 none 3 2 0 0) (hE : mt_End B E (0, 0) none S') : ∀ (n : Nat) (x0 : Nat) (x1 : Nat) (x2 : Int32) (S : mt_S), f_X3_copyFrom_L10 n x0 x1 x2 S = some S' → mt_Go B E (0, 0) S 10 [(0, mt_rf B x0), (1, mt_rf B x1), (2, .int x2)] [] := by
  intro n
  induction n with
  | zero =>
    intro x0 x1 x2 S h
    cases h
  | succ n ih =>
    intro x0 x1 x2 S h
    have h : f_X3_copyFrom_L10s (f_X3_copyFrom_L10 n) x0 x1 x2 S = some S' := h
    unfold f_X3_copyFrom_L10s at h
    refine go_iload_n hC 2 dX3_copyFrom_10 rfl rfl ?_
    refine go_aload_n hC 0 dX3_copyFrom_11 rfl rfl ?_
    obtain ⟨v3, e3, h⟩ := mt_ob h
    refine go_getI hC mt_flX3_22 e3 dX3_copyFrom_12 ?_
    refine go_icmp_ge hC (tgt := 31) dX3_copyFrom_15 (by decide) (fun hc => ?_) (fun hc => ?_)
    · have h := mt_ip h hc
      exact go_vret hC (mt_rev h hE) dX3_copyFrom_31
    · have h := mt_in' h hc
      refine go_aload_n hC 0 dX3_copyFrom_18 rfl rfl ?_
      refine go_aload_n hC 1 dX3_copyFrom_19 rfl rfl ?_
      refine go_iload_n hC 2 dX3_copyFrom_20 rfl rfl ?_
      refine go_iload_n hC 2 dX3_copyFrom_21 rfl rfl ?_
      obtain ⟨S4, e4, h⟩ := mt_ob h
      refine go_callVv hC [mt_rf B x1, .int x2, .int x2] [] (m_X3_copyRow e4) mt_cvX3_26 (k_X3_copyRow e4) dX3_copyFrom_22 rfl rfl (by decide) (Nat.le_of_ble_eq_true rfl) ⟨Nat.le_refl _, Nat.le_refl _⟩ ?_
      refine go_iinc hC 2 [1, 2, 0] (v := x2 + 1) (lv1 := [(0, mt_rf B x0), (1, mt_rf B x1), (2, .int (x2 + 1))]) dX3_copyFrom_25 rfl rfl (by decide) rfl ?_
      refine go_goto hC (tgt := 10) dX3_copyFrom_28 (by decide) ?_
      exact ih _ _ _ _ h
set_option maxHeartbeats 4000000 in
set_option maxRecDepth 100000 in
theorem ov_X3_copyFrom_L10 {T : mt_S} {S' : mt_S} : ∀ (n : Nat) (x0 : Nat) (x1 : Nat) (x2 : Int32) (S : mt_S), mt_cp S T → f_X3_copyFrom_L10 n x0 x1 x2 S = some S' → f_X3_copyFrom_L10 n x0 x1 x2 (mt_ov S T) = some (mt_ov S' T) ∧ mt_cp S' T := by
  intro n
  induction n with
  | zero =>
    intro x0 x1 x2 S hp h
    cases h
  | succ n ih =>
    intro x0 x1 x2 S hp h
    have h : f_X3_copyFrom_L10s (f_X3_copyFrom_L10 n) x0 x1 x2 S = some S' := h
    show f_X3_copyFrom_L10s (f_X3_copyFrom_L10 n) x0 x1 x2 (mt_ov S T) = some (mt_ov S' T) ∧ mt_cp S' T
    unfold f_X3_copyFrom_L10s at h ⊢
    obtain ⟨v3, e3, h⟩ := mt_ob h
    refine ov_b (ov_rI hp e3) ?_
    by_cases hc : v3 ≤ x2
    · have h := mt_ip h hc
      refine ov_t hc ?_
      exact ov_retv hp h
    · have h := mt_in' h hc
      refine ov_f hc ?_
      obtain ⟨S4, e4, h⟩ := mt_ob h
      obtain ⟨o_, hp⟩ := ov_X3_copyRow hp e4
      refine ov_b o_ ?_
      exact ih _ _ _ _ hp h
def f_X3_copyFrom (x0 : Nat) (x1 : Nat) (S : mt_S) : Option (mt_S) :=
  if mt_isK S x0 3 = true then
   Option.bind (mt_rI S x1 3 3) fun v1 =>
   Option.bind (mt_wI S x0 3 3 v1) fun S2 =>
   f_X3_copyFrom_L10 1000 x0 x1 0 S2
  else none
theorem k_X3_copyFrom {x0 : Nat} {x1 : Nat} {S : mt_S} {S' : mt_S} (h : f_X3_copyFrom x0 x1 S = some S') : mt_isK S x0 3 = true := by
  unfold f_X3_copyFrom at h
  exact (mt_gd h).1
set_option maxHeartbeats 4000000 in
set_option maxRecDepth 100000 in
theorem m_X3_copyFrom {B : mt_B}  {x0 : Nat} {x1 : Nat} {S : mt_S} {S' : mt_S} (h : f_X3_copyFrom x0 x1 S = some S') : mt_M B yX3_copyFrom cX3_copyFrom 3 none 2 [mt_rf B x0, mt_rf B x1] S none S' := by
  unfold f_X3_copyFrom at h
  refine mt_M.of (by decide) (Nat.le_of_ble_eq_true rfl) (fun E hC hE => ?_)
  obtain ⟨hk0, h⟩ := mt_gd h
  refine go_aload_n hC 0 dX3_copyFrom_0 rfl rfl ?_
  refine go_aload_n hC 1 dX3_copyFrom_1 rfl rfl ?_
  obtain ⟨v1, e1, h⟩ := mt_ob h
  refine go_getI hC mt_flX3_22 e1 dX3_copyFrom_2 ?_
  obtain ⟨S2, e2, h⟩ := mt_ob h
  refine go_putI hC mt_flX3_22 e2 dX3_copyFrom_5 ?_
  refine go_iconst (v := 0) hC dX3_copyFrom_8 (by decide) ?_
  refine go_istore_n hC [1, 2, 0] (lv1 := [(0, mt_rf B x0), (1, mt_rf B x1), (2, .int 0)]) dX3_copyFrom_9 rfl (by decide) rfl ?_
  exact m_X3_copyFrom_L10 hC hE 1000 _ _ _ _ h
set_option maxHeartbeats 4000000 in
set_option maxRecDepth 100000 in
theorem ov_X3_copyFrom {T : mt_S}  {x0 : Nat} {x1 : Nat} {S : mt_S} {S' : mt_S} (hp : mt_cp S T) (h : f_X3_copyFrom x0 x1 S = some S') : f_X3_copyFrom x0 x1 (mt_ov S T) = some (mt_ov S' T) ∧ mt_cp S' T := by
  unfold f_X3_copyFrom at h ⊢
  obtain ⟨hg, h⟩ := mt_gd h
  refine ov_t (ov_K hp hg) ?_
  obtain ⟨v1, e1, h⟩ := mt_ob h
  refine ov_b (ov_rI hp e1) ?_
  obtain ⟨S2, e2, h⟩ := mt_ob h
  obtain ⟨o_, hp⟩ := ov_wI hp e2
  refine ov_b o_ ?_
  exact ov_X3_copyFrom_L10 1000 _ _ _ _ hp h
def f_X5_copyFrom (x0 : Nat) (x1 : Nat) (S : mt_S) : Option (mt_S) :=
  if mt_isK S x0 5 = true then
   Option.bind (mt_rR S x0 5 0) fun v1 =>
   Option.bind (mt_rR S x1 5 0) fun v2 =>
   Option.bind (f_X4_copyFrom v1 v2 S) fun S3 =>
   Option.bind (mt_rR S3 x0 5 1) fun v4 =>
   Option.bind (mt_rR S3 x1 5 1) fun v5 =>
   Option.bind (f_X3_copyFrom v4 v5 S3) fun S6 =>
   some S6
  else none
theorem k_X5_copyFrom {x0 : Nat} {x1 : Nat} {S : mt_S} {S' : mt_S} (h : f_X5_copyFrom x0 x1 S = some S') : mt_isK S x0 5 = true := by
  unfold f_X5_copyFrom at h
  exact (mt_gd h).1
set_option maxHeartbeats 4000000 in
set_option maxRecDepth 100000 in
theorem m_X5_copyFrom {B : mt_B}  {x0 : Nat} {x1 : Nat} {S : mt_S} {S' : mt_S} (h : f_X5_copyFrom x0 x1 S = some S') : mt_M B yX5_copyFrom cX5_copyFrom 2 none 3 [mt_rf B x0, mt_rf B x1] S none S' := by
  unfold f_X5_copyFrom at h
  refine mt_M.of (by decide) (Nat.le_of_ble_eq_true rfl) (fun E hC hE => ?_)
  obtain ⟨hk0, h⟩ := mt_gd h
  refine go_aload_n hC 0 dX5_copyFrom_0 rfl rfl ?_
  obtain ⟨v1, e1, h⟩ := mt_ob h
  refine go_getR hC mt_flX5_12 e1 dX5_copyFrom_1 ?_
  refine go_aload_n hC 1 dX5_copyFrom_4 rfl rfl ?_
  obtain ⟨v2, e2, h⟩ := mt_ob h
  refine go_getR hC mt_flX5_12 e2 dX5_copyFrom_5 ?_
  obtain ⟨S3, e3, h⟩ := mt_ob h
  refine go_callVv hC [mt_rf B v2] [] (m_X4_copyFrom e3) mt_cvX5_36 (k_X4_copyFrom e3) dX5_copyFrom_8 rfl rfl (by decide) (Nat.le_of_ble_eq_true rfl) ⟨Nat.le_refl _, Nat.le_refl _⟩ ?_
  refine go_aload_n hC 0 dX5_copyFrom_11 rfl rfl ?_
  obtain ⟨v4, e4, h⟩ := mt_ob h
  refine go_getR hC mt_flX5_21 e4 dX5_copyFrom_12 ?_
  refine go_aload_n hC 1 dX5_copyFrom_15 rfl rfl ?_
  obtain ⟨v5, e5, h⟩ := mt_ob h
  refine go_getR hC mt_flX5_21 e5 dX5_copyFrom_16 ?_
  obtain ⟨S6, e6, h⟩ := mt_ob h
  refine go_callVv hC [mt_rf B v5] [] (m_X3_copyFrom e6) mt_cvX5_40 (k_X3_copyFrom e6) dX5_copyFrom_19 rfl rfl (by decide) (Nat.le_of_ble_eq_true rfl) ⟨Nat.le_refl _, Nat.le_refl _⟩ ?_
  exact go_vret hC (mt_rev h hE) dX5_copyFrom_22
set_option maxHeartbeats 4000000 in
set_option maxRecDepth 100000 in
theorem ov_X5_copyFrom {T : mt_S}  {x0 : Nat} {x1 : Nat} {S : mt_S} {S' : mt_S} (hp : mt_cp S T) (h : f_X5_copyFrom x0 x1 S = some S') : f_X5_copyFrom x0 x1 (mt_ov S T) = some (mt_ov S' T) ∧ mt_cp S' T := by
  unfold f_X5_copyFrom at h ⊢
  obtain ⟨hg, h⟩ := mt_gd h
  refine ov_t (ov_K hp hg) ?_
  obtain ⟨v1, e1, h⟩ := mt_ob h
  refine ov_b (ov_rR hp e1) ?_
  obtain ⟨v2, e2, h⟩ := mt_ob h
  refine ov_b (ov_rR hp e2) ?_
  obtain ⟨S3, e3, h⟩ := mt_ob h
  obtain ⟨o_, hp⟩ := ov_X4_copyFrom hp e3
  refine ov_b o_ ?_
  obtain ⟨v4, e4, h⟩ := mt_ob h
  refine ov_b (ov_rR hp e4) ?_
  obtain ⟨v5, e5, h⟩ := mt_ob h
  refine ov_b (ov_rR hp e5) ?_
  obtain ⟨S6, e6, h⟩ := mt_ob h
  obtain ⟨o_, hp⟩ := ov_X3_copyFrom hp e6
  refine ov_b o_ ?_
  exact ov_retv hp h
def f_X2_note (x0 : Nat) (x1 : Nat) (S : mt_S) : Option (mt_S) :=
  if mt_isK S x0 2 = true then
   Option.bind (mt_rR S x0 2 0) fun v1 =>
   Option.bind (mt_rI S x0 2 1) fun v2 =>
   Option.bind (mt_aR S v1 v2) fun v3 =>
   Option.bind (f_X5_copyFrom v3 x1 S) fun S4 =>
   some S4
  else none
theorem k_X2_note {x0 : Nat} {x1 : Nat} {S : mt_S} {S' : mt_S} (h : f_X2_note x0 x1 S = some S') : mt_isK S x0 2 = true := by
  unfold f_X2_note at h
  exact (mt_gd h).1
set_option maxHeartbeats 4000000 in
set_option maxRecDepth 100000 in
theorem m_X2_note {B : mt_B}  {x0 : Nat} {x1 : Nat} {S : mt_S} {S' : mt_S} (h : f_X2_note x0 x1 S = some S') : mt_M B yX2_note cX2_note 2 none 4 [mt_rf B x0, mt_rf B x1] S none S' := by
  unfold f_X2_note at h
  refine mt_M.of (by decide) (Nat.le_of_ble_eq_true rfl) (fun E hC hE => ?_)
  obtain ⟨hk0, h⟩ := mt_gd h
  refine go_aload_n hC 0 dX2_note_0 rfl rfl ?_
  obtain ⟨v1, e1, h⟩ := mt_ob h
  refine go_getR hC mt_flX2_13 e1 dX2_note_1 ?_
  refine go_aload_n hC 0 dX2_note_4 rfl rfl ?_
  obtain ⟨v2, e2, h⟩ := mt_ob h
  refine go_getI hC mt_flX2_18 e2 dX2_note_5 ?_
  obtain ⟨v3, e3, h⟩ := mt_ob h
  refine go_aald hC e3 dX2_note_8 ?_
  refine go_aload_n hC 1 dX2_note_9 rfl rfl ?_
  obtain ⟨S4, e4, h⟩ := mt_ob h
  refine go_callVv hC [mt_rf B x1] [] (m_X5_copyFrom e4) mt_cvX2_25 (k_X5_copyFrom e4) dX2_note_10 rfl rfl (by decide) (Nat.le_of_ble_eq_true rfl) ⟨Nat.le_refl _, Nat.le_refl _⟩ ?_
  exact go_vret hC (mt_rev h hE) dX2_note_13
set_option maxHeartbeats 4000000 in
set_option maxRecDepth 100000 in
theorem ov_X2_note {T : mt_S}  {x0 : Nat} {x1 : Nat} {S : mt_S} {S' : mt_S} (hp : mt_cp S T) (h : f_X2_note x0 x1 S = some S') : f_X2_note x0 x1 (mt_ov S T) = some (mt_ov S' T) ∧ mt_cp S' T := by
  unfold f_X2_note at h ⊢
  obtain ⟨hg, h⟩ := mt_gd h
  refine ov_t (ov_K hp hg) ?_
  obtain ⟨v1, e1, h⟩ := mt_ob h
  refine ov_b (ov_rR hp e1) ?_
  obtain ⟨v2, e2, h⟩ := mt_ob h
  refine ov_b (ov_rI hp e2) ?_
  obtain ⟨v3, e3, h⟩ := mt_ob h
  refine ov_b (ov_aR hp e3) ?_
  obtain ⟨S4, e4, h⟩ := mt_ob h
  obtain ⟨o_, hp⟩ := ov_X5_copyFrom hp e4
  refine ov_b o_ ?_
  exact ov_retv hp h
def f_X2_keep (x0 : Nat) (S : mt_S) : Option (mt_S) :=
  if mt_isK S x0 2 = true then
   Option.bind (mt_rI S x0 2 1) fun v1 =>
   Option.bind (mt_wI S x0 2 1 ((v1 + 1) - (v1 + 1) / 9 * 9)) fun S2 =>
   Option.bind (mt_rI S2 x0 2 2) fun v3 =>
   mt_b2 (f_J9_min_7cf53 (v3 + 1) 8 S2) fun v5 S4 =>
   Option.bind (mt_wI S4 x0 2 2 v5) fun S6 =>
   some S6
  else none
theorem k_X2_keep {x0 : Nat} {S : mt_S} {S' : mt_S} (h : f_X2_keep x0 S = some S') : mt_isK S x0 2 = true := by
  unfold f_X2_keep at h
  exact (mt_gd h).1
set_option maxHeartbeats 4000000 in
set_option maxRecDepth 100000 in
theorem m_X2_keep {B : mt_B}  {x0 : Nat} {S : mt_S} {S' : mt_S} (h : f_X2_keep x0 S = some S') : mt_M B yX2_keep cX2_keep 1 none 2 [mt_rf B x0] S none S' := by
  unfold f_X2_keep at h
  refine mt_M.of (by decide) (Nat.le_of_ble_eq_true rfl) (fun E hC hE => ?_)
  obtain ⟨hk0, h⟩ := mt_gd h
  refine go_aload_n hC 0 dX2_keep_0 rfl rfl ?_
  refine go_aload_n hC 0 dX2_keep_1 rfl rfl ?_
  obtain ⟨v1, e1, h⟩ := mt_ob h
  refine go_getI hC mt_flX2_18 e1 dX2_keep_2 ?_
  refine go_iconst (v := 1) hC dX2_keep_5 (by decide) ?_
  refine go_iadd hC dX2_keep_6 ?_
  refine go_bipush (v := 9) hC dX2_keep_7 (by decide) ?_
  refine go_irem hC dX2_keep_9 (by decide) ?_
  obtain ⟨S2, e2, h⟩ := mt_ob h
  refine go_putI hC mt_flX2_18 e2 dX2_keep_10 ?_
  refine go_aload_n hC 0 dX2_keep_13 rfl rfl ?_
  refine go_aload_n hC 0 dX2_keep_14 rfl rfl ?_
  obtain ⟨v3, e3, h⟩ := mt_ob h
  refine go_getI hC mt_flX2_22 e3 dX2_keep_15 ?_
  refine go_iconst (v := 1) hC dX2_keep_18 (by decide) ?_
  refine go_iadd hC dX2_keep_19 ?_
  refine go_bipush (v := 8) hC dX2_keep_20 (by decide) ?_
  obtain ⟨v5, S4, e5, h⟩ := mt_ob2 h
  refine go_callSi hC [.int (v3 + 1), .int 8] [mt_rf B x0] (m_J9_min_7cf53 e5) mt_csX2_29 dX2_keep_22 rfl rfl (by decide) (Nat.le_of_ble_eq_true rfl) ⟨Nat.le_refl _, Nat.le_refl _⟩ ?_
  obtain ⟨S6, e6, h⟩ := mt_ob h
  refine go_putI hC mt_flX2_22 e6 dX2_keep_25 ?_
  exact go_vret hC (mt_rev h hE) dX2_keep_28
set_option maxHeartbeats 4000000 in
set_option maxRecDepth 100000 in
theorem ov_X2_keep {T : mt_S}  {x0 : Nat} {S : mt_S} {S' : mt_S} (hp : mt_cp S T) (h : f_X2_keep x0 S = some S') : f_X2_keep x0 (mt_ov S T) = some (mt_ov S' T) ∧ mt_cp S' T := by
  unfold f_X2_keep at h ⊢
  obtain ⟨hg, h⟩ := mt_gd h
  refine ov_t (ov_K hp hg) ?_
  obtain ⟨v1, e1, h⟩ := mt_ob h
  refine ov_b (ov_rI hp e1) ?_
  obtain ⟨S2, e2, h⟩ := mt_ob h
  obtain ⟨o_, hp⟩ := ov_wI hp e2
  refine ov_b o_ ?_
  obtain ⟨v3, e3, h⟩ := mt_ob h
  refine ov_b (ov_rI hp e3) ?_
  obtain ⟨v5, S4, e5, h⟩ := mt_ob2 h
  obtain ⟨o_, hp⟩ := ov_J9_min_7cf53 hp e5
  refine ov_b2 o_ ?_
  obtain ⟨S6, e6, h⟩ := mt_ob h
  obtain ⟨o_, hp⟩ := ov_wI hp e6
  refine ov_b o_ ?_
  exact ov_retv hp h
def f_X2_takeBack (x0 : Nat) (x1 : Nat) (S : mt_S) : Option (Int32 × mt_S) :=
  if mt_isK S x0 2 = true then
   Option.bind (mt_rI S x0 2 2) fun v1 =>
   if v1 = 0 then
    some (0, S)
   else
    Option.bind (mt_rI S x0 2 1) fun v2 =>
    Option.bind (mt_wI S x0 2 1 (((v2 + 9) - 1) - ((v2 + 9) - 1) / 9 * 9)) fun S3 =>
    Option.bind (mt_rI S3 x0 2 2) fun v4 =>
    Option.bind (mt_wI S3 x0 2 2 (v4 - 1)) fun S5 =>
    Option.bind (mt_rR S5 x0 2 0) fun v6 =>
    Option.bind (mt_rI S5 x0 2 1) fun v7 =>
    Option.bind (mt_aR S5 v6 v7) fun v8 =>
    Option.bind (f_X5_copyFrom x1 v8 S5) fun S9 =>
    some (1, S9)
  else none
theorem k_X2_takeBack {x0 : Nat} {x1 : Nat} {S : mt_S} {r : Int32} {S' : mt_S} (h : f_X2_takeBack x0 x1 S = some (r, S')) : mt_isK S x0 2 = true := by
  unfold f_X2_takeBack at h
  exact (mt_gd h).1
set_option maxHeartbeats 4000000 in
set_option maxRecDepth 100000 in
theorem m_X2_takeBack {B : mt_B}  {x0 : Nat} {x1 : Nat} {S : mt_S} {r : Int32} {S' : mt_S} (h : f_X2_takeBack x0 x1 S = some (r, S')) : mt_M B yX2_takeBack cX2_takeBack 2 (some .boolean) 4 [mt_rf B x0, mt_rf B x1] S (some (.int r)) S' := by
  unfold f_X2_takeBack at h
  refine mt_M.of (by decide) (Nat.le_of_ble_eq_true rfl) (fun E hC hE => ?_)
  obtain ⟨hk0, h⟩ := mt_gd h
  refine go_aload_n hC 0 dX2_takeBack_0 rfl rfl ?_
  obtain ⟨v1, e1, h⟩ := mt_ob h
  refine go_getI hC mt_flX2_22 e1 dX2_takeBack_1 ?_
  refine go_if_ne hC (tgt := 9) dX2_takeBack_4 (by decide) (fun hc => ?_) (fun hc => ?_)
  · have h := mt_in' h hc
    refine go_aload_n hC 0 dX2_takeBack_9 rfl rfl ?_
    refine go_aload_n hC 0 dX2_takeBack_10 rfl rfl ?_
    obtain ⟨v2, e2, h⟩ := mt_ob h
    refine go_getI hC mt_flX2_18 e2 dX2_takeBack_11 ?_
    refine go_bipush (v := 9) hC dX2_takeBack_14 (by decide) ?_
    refine go_iadd hC dX2_takeBack_16 ?_
    refine go_iconst (v := 1) hC dX2_takeBack_17 (by decide) ?_
    refine go_isub hC dX2_takeBack_18 ?_
    refine go_bipush (v := 9) hC dX2_takeBack_19 (by decide) ?_
    refine go_irem hC dX2_takeBack_21 (by decide) ?_
    obtain ⟨S3, e3, h⟩ := mt_ob h
    refine go_putI hC mt_flX2_18 e3 dX2_takeBack_22 ?_
    refine go_aload_n hC 0 dX2_takeBack_25 rfl rfl ?_
    refine go_dup hC dX2_takeBack_26 rfl ?_
    obtain ⟨v4, e4, h⟩ := mt_ob h
    refine go_getI hC mt_flX2_22 e4 dX2_takeBack_27 ?_
    refine go_iconst (v := 1) hC dX2_takeBack_30 (by decide) ?_
    refine go_isub hC dX2_takeBack_31 ?_
    obtain ⟨S5, e5, h⟩ := mt_ob h
    refine go_putI hC mt_flX2_22 e5 dX2_takeBack_32 ?_
    refine go_aload_n hC 1 dX2_takeBack_35 rfl rfl ?_
    refine go_aload_n hC 0 dX2_takeBack_36 rfl rfl ?_
    obtain ⟨v6, e6, h⟩ := mt_ob h
    refine go_getR hC mt_flX2_13 e6 dX2_takeBack_37 ?_
    refine go_aload_n hC 0 dX2_takeBack_40 rfl rfl ?_
    obtain ⟨v7, e7, h⟩ := mt_ob h
    refine go_getI hC mt_flX2_18 e7 dX2_takeBack_41 ?_
    obtain ⟨v8, e8, h⟩ := mt_ob h
    refine go_aald hC e8 dX2_takeBack_44 ?_
    obtain ⟨S9, e9, h⟩ := mt_ob h
    refine go_callVv hC [mt_rf B v8] [] (m_X5_copyFrom e9) mt_cvX2_25 (k_X5_copyFrom e9) dX2_takeBack_45 rfl rfl (by decide) (Nat.le_of_ble_eq_true rfl) ⟨Nat.le_refl _, Nat.le_refl _⟩ ?_
    refine go_iconst (v := 1) hC dX2_takeBack_48 (by decide) ?_
    exact go_zret hC (mt_rei h hE) (Or.inr rfl) dX2_takeBack_49
  · have h := mt_ip h hc
    refine go_iconst (v := 0) hC dX2_takeBack_7 (by decide) ?_
    exact go_zret hC (mt_rei h hE) (Or.inl rfl) dX2_takeBack_8
set_option maxHeartbeats 4000000 in
set_option maxRecDepth 100000 in
theorem ov_X2_takeBack {T : mt_S}  {x0 : Nat} {x1 : Nat} {S : mt_S} {r : Int32} {S' : mt_S} (hp : mt_cp S T) (h : f_X2_takeBack x0 x1 S = some (r, S')) : f_X2_takeBack x0 x1 (mt_ov S T) = some (r, mt_ov S' T) ∧ mt_cp S' T := by
  unfold f_X2_takeBack at h ⊢
  obtain ⟨hg, h⟩ := mt_gd h
  refine ov_t (ov_K hp hg) ?_
  obtain ⟨v1, e1, h⟩ := mt_ob h
  refine ov_b (ov_rI hp e1) ?_
  by_cases hc : v1 = 0
  · have h := mt_ip h hc
    refine ov_t hc ?_
    exact ov_ret hp h
  · have h := mt_in' h hc
    refine ov_f hc ?_
    obtain ⟨v2, e2, h⟩ := mt_ob h
    refine ov_b (ov_rI hp e2) ?_
    obtain ⟨S3, e3, h⟩ := mt_ob h
    obtain ⟨o_, hp⟩ := ov_wI hp e3
    refine ov_b o_ ?_
    obtain ⟨v4, e4, h⟩ := mt_ob h
    refine ov_b (ov_rI hp e4) ?_
    obtain ⟨S5, e5, h⟩ := mt_ob h
    obtain ⟨o_, hp⟩ := ov_wI hp e5
    refine ov_b o_ ?_
    obtain ⟨v6, e6, h⟩ := mt_ob h
    refine ov_b (ov_rR hp e6) ?_
    obtain ⟨v7, e7, h⟩ := mt_ob h
    refine ov_b (ov_rI hp e7) ?_
    obtain ⟨v8, e8, h⟩ := mt_ob h
    refine ov_b (ov_aR hp e8) ?_
    obtain ⟨S9, e9, h⟩ := mt_ob h
    obtain ⟨o_, hp⟩ := ov_X5_copyFrom hp e9
    refine ov_b o_ ?_
    exact ov_ret hp h
def f_X2_forget (x0 : Nat) (S : mt_S) : Option (mt_S) :=
  if mt_isK S x0 2 = true then
   Option.bind (mt_wI S x0 2 2 0) fun S1 =>
   some S1
  else none
theorem k_X2_forget {x0 : Nat} {S : mt_S} {S' : mt_S} (h : f_X2_forget x0 S = some S') : mt_isK S x0 2 = true := by
  unfold f_X2_forget at h
  exact (mt_gd h).1
set_option maxHeartbeats 4000000 in
set_option maxRecDepth 100000 in
theorem m_X2_forget {B : mt_B}  {x0 : Nat} {S : mt_S} {S' : mt_S} (h : f_X2_forget x0 S = some S') : mt_M B yX2_forget cX2_forget 1 none 1 [mt_rf B x0] S none S' := by
  unfold f_X2_forget at h
  refine mt_M.of (by decide) (Nat.le_of_ble_eq_true rfl) (fun E hC hE => ?_)
  obtain ⟨hk0, h⟩ := mt_gd h
  refine go_aload_n hC 0 dX2_forget_0 rfl rfl ?_
  refine go_iconst (v := 0) hC dX2_forget_1 (by decide) ?_
  obtain ⟨S1, e1, h⟩ := mt_ob h
  refine go_putI hC mt_flX2_22 e1 dX2_forget_2 ?_
  exact go_vret hC (mt_rev h hE) dX2_forget_5
set_option maxHeartbeats 4000000 in
set_option maxRecDepth 100000 in
theorem ov_X2_forget {T : mt_S}  {x0 : Nat} {S : mt_S} {S' : mt_S} (hp : mt_cp S T) (h : f_X2_forget x0 S = some S') : f_X2_forget x0 (mt_ov S T) = some (mt_ov S' T) ∧ mt_cp S' T := by
  unfold f_X2_forget at h ⊢
  obtain ⟨hg, h⟩ := mt_gd h
  refine ov_t (ov_K hp hg) ?_
  obtain ⟨S1, e1, h⟩ := mt_ob h
  obtain ⟨o_, hp⟩ := ov_wI hp e1
  refine ov_b o_ ?_
  exact ov_retv hp h
def f_X3_size (x0 : Nat) (S : mt_S) : Option (Int32 × mt_S) :=
  if mt_isK S x0 3 = true then
   Option.bind (mt_rI S x0 3 3) fun v1 =>
   some (v1, S)
  else none
theorem k_X3_size {x0 : Nat} {S : mt_S} {r : Int32} {S' : mt_S} (h : f_X3_size x0 S = some (r, S')) : mt_isK S x0 3 = true := by
  unfold f_X3_size at h
  exact (mt_gd h).1
set_option maxHeartbeats 4000000 in
set_option maxRecDepth 100000 in
theorem m_X3_size {B : mt_B}  {x0 : Nat} {S : mt_S} {r : Int32} {S' : mt_S} (h : f_X3_size x0 S = some (r, S')) : mt_M B yX3_size cX3_size 1 (some .int) 1 [mt_rf B x0] S (some (.int r)) S' := by
  unfold f_X3_size at h
  refine mt_M.of (by decide) (Nat.le_of_ble_eq_true rfl) (fun E hC hE => ?_)
  obtain ⟨hk0, h⟩ := mt_gd h
  refine go_aload_n hC 0 dX3_size_0 rfl rfl ?_
  obtain ⟨v1, e1, h⟩ := mt_ob h
  refine go_getI hC mt_flX3_22 e1 dX3_size_1 ?_
  exact go_iret hC (mt_rei h hE) dX3_size_4
set_option maxHeartbeats 4000000 in
set_option maxRecDepth 100000 in
theorem ov_X3_size {T : mt_S}  {x0 : Nat} {S : mt_S} {r : Int32} {S' : mt_S} (hp : mt_cp S T) (h : f_X3_size x0 S = some (r, S')) : f_X3_size x0 (mt_ov S T) = some (r, mt_ov S' T) ∧ mt_cp S' T := by
  unfold f_X3_size at h ⊢
  obtain ⟨hg, h⟩ := mt_gd h
  refine ov_t (ov_K hp hg) ?_
  obtain ⟨v1, e1, h⟩ := mt_ob h
  refine ov_b (ov_rI hp e1) ?_
  exact ov_ret hp h
def f_X3_isFull (x0 : Nat) (S : mt_S) : Option (Int32 × mt_S) :=
  if mt_isK S x0 3 = true then
   Option.bind (mt_rI S x0 3 3) fun v1 =>
   if v1 < 16 then
    some (0, S)
   else
    some (1, S)
  else none
theorem k_X3_isFull {x0 : Nat} {S : mt_S} {r : Int32} {S' : mt_S} (h : f_X3_isFull x0 S = some (r, S')) : mt_isK S x0 3 = true := by
  unfold f_X3_isFull at h
  exact (mt_gd h).1
set_option maxHeartbeats 4000000 in
set_option maxRecDepth 100000 in
theorem m_X3_isFull {B : mt_B}  {x0 : Nat} {S : mt_S} {r : Int32} {S' : mt_S} (h : f_X3_isFull x0 S = some (r, S')) : mt_M B yX3_isFull cX3_isFull 1 (some .boolean) 1 [mt_rf B x0] S (some (.int r)) S' := by
  unfold f_X3_isFull at h
  refine mt_M.of (by decide) (Nat.le_of_ble_eq_true rfl) (fun E hC hE => ?_)
  obtain ⟨hk0, h⟩ := mt_gd h
  refine go_aload_n hC 0 dX3_isFull_0 rfl rfl ?_
  obtain ⟨v1, e1, h⟩ := mt_ob h
  refine go_getI hC mt_flX3_22 e1 dX3_isFull_1 ?_
  refine go_bipush (v := 16) hC dX3_isFull_4 (by decide) ?_
  refine go_icmp_lt hC (tgt := 13) dX3_isFull_6 (by decide) (fun hc => ?_) (fun hc => ?_)
  · have h := mt_ip h hc
    refine go_iconst (v := 0) hC dX3_isFull_13 (by decide) ?_
    exact go_zret hC (mt_rei h hE) (Or.inl rfl) dX3_isFull_14
  · have h := mt_in' h hc
    refine go_iconst (v := 1) hC dX3_isFull_9 (by decide) ?_
    refine go_goto hC (tgt := 14) dX3_isFull_10 (by decide) ?_
    exact go_zret hC (mt_rei h hE) (Or.inr rfl) dX3_isFull_14
set_option maxHeartbeats 4000000 in
set_option maxRecDepth 100000 in
theorem ov_X3_isFull {T : mt_S}  {x0 : Nat} {S : mt_S} {r : Int32} {S' : mt_S} (hp : mt_cp S T) (h : f_X3_isFull x0 S = some (r, S')) : f_X3_isFull x0 (mt_ov S T) = some (r, mt_ov S' T) ∧ mt_cp S' T := by
  unfold f_X3_isFull at h ⊢
  obtain ⟨hg, h⟩ := mt_gd h
  refine ov_t (ov_K hp hg) ?_
  obtain ⟨v1, e1, h⟩ := mt_ob h
  refine ov_b (ov_rI hp e1) ?_
  by_cases hc : v1 < 16
  · have h := mt_ip h hc
    refine ov_t hc ?_
    exact ov_ret hp h
  · have h := mt_in' h hc
    refine ov_f hc ?_
    exact ov_ret hp h
def f_X3_has (x0 : Nat) (x1 : Int32) (S : mt_S) : Option (Int32 × mt_S) :=
  if mt_isK S x0 3 = true then
   if x1 < 0 then
    some (0, S)
   else
    Option.bind (mt_rI S x0 3 3) fun v1 =>
    if v1 ≤ x1 then
     some (0, S)
    else
     some (1, S)
  else none
theorem k_X3_has {x0 : Nat} {x1 : Int32} {S : mt_S} {r : Int32} {S' : mt_S} (h : f_X3_has x0 x1 S = some (r, S')) : mt_isK S x0 3 = true := by
  unfold f_X3_has at h
  exact (mt_gd h).1
set_option maxHeartbeats 4000000 in
set_option maxRecDepth 100000 in
theorem m_X3_has {B : mt_B}  {x0 : Nat} {x1 : Int32} {S : mt_S} {r : Int32} {S' : mt_S} (h : f_X3_has x0 x1 S = some (r, S')) : mt_M B yX3_has cX3_has 2 (some .boolean) 1 [mt_rf B x0, .int x1] S (some (.int r)) S' := by
  unfold f_X3_has at h
  refine mt_M.of (by decide) (Nat.le_of_ble_eq_true rfl) (fun E hC hE => ?_)
  obtain ⟨hk0, h⟩ := mt_gd h
  refine go_iload_n hC 1 dX3_has_0 rfl rfl ?_
  refine go_if_lt hC (tgt := 16) dX3_has_1 (by decide) (fun hc => ?_) (fun hc => ?_)
  · have h := mt_ip h hc
    refine go_iconst (v := 0) hC dX3_has_16 (by decide) ?_
    exact go_zret hC (mt_rei h hE) (Or.inl rfl) dX3_has_17
  · have h := mt_in' h hc
    refine go_iload_n hC 1 dX3_has_4 rfl rfl ?_
    refine go_aload_n hC 0 dX3_has_5 rfl rfl ?_
    obtain ⟨v1, e1, h⟩ := mt_ob h
    refine go_getI hC mt_flX3_22 e1 dX3_has_6 ?_
    refine go_icmp_ge hC (tgt := 16) dX3_has_9 (by decide) (fun hc => ?_) (fun hc => ?_)
    · have h := mt_ip h hc
      refine go_iconst (v := 0) hC dX3_has_16 (by decide) ?_
      exact go_zret hC (mt_rei h hE) (Or.inl rfl) dX3_has_17
    · have h := mt_in' h hc
      refine go_iconst (v := 1) hC dX3_has_12 (by decide) ?_
      refine go_goto hC (tgt := 17) dX3_has_13 (by decide) ?_
      exact go_zret hC (mt_rei h hE) (Or.inr rfl) dX3_has_17
set_option maxHeartbeats 4000000 in
set_option maxRecDepth 100000 in
theorem ov_X3_has {T : mt_S}  {x0 : Nat} {x1 : Int32} {S : mt_S} {r : Int32} {S' : mt_S} (hp : mt_cp S T) (h : f_X3_has x0 x1 S = some (r, S')) : f_X3_has x0 x1 (mt_ov S T) = some (r, mt_ov S' T) ∧ mt_cp S' T := by
  unfold f_X3_has at h ⊢
  obtain ⟨hg, h⟩ := mt_gd h
  refine ov_t (ov_K hp hg) ?_
  by_cases hc : x1 < 0
  · have h := mt_ip h hc
    refine ov_t hc ?_
    exact ov_ret hp h
  · have h := mt_in' h hc
    refine ov_f hc ?_
    obtain ⟨v1, e1, h⟩ := mt_ob h
    refine ov_b (ov_rI hp e1) ?_
    by_cases hc : v1 ≤ x1
    · have h := mt_ip h hc
      refine ov_t hc ?_
      exact ov_ret hp h
    · have h := mt_in' h hc
      refine ov_f hc ?_
      exact ov_ret hp h
def f_X3_numberAt (x0 : Nat) (x1 : Int32) (S : mt_S) : Option (Int64 × mt_S) :=
  if mt_isK S x0 3 = true then
   mt_b2 (f_X3_has x0 x1 S) fun v2 S1 =>
   if v2 = 0 then
    some ((-1), S1)
   else
    Option.bind (mt_rR S1 x0 3 0) fun v3 =>
    Option.bind (mt_aL S1 v3 x1) fun v4 =>
    some (v4, S1)
  else none
theorem k_X3_numberAt {x0 : Nat} {x1 : Int32} {S : mt_S} {r : Int64} {S' : mt_S} (h : f_X3_numberAt x0 x1 S = some (r, S')) : mt_isK S x0 3 = true := by
  unfold f_X3_numberAt at h
  exact (mt_gd h).1
set_option maxHeartbeats 4000000 in
set_option maxRecDepth 100000 in
theorem m_X3_numberAt {B : mt_B}  {x0 : Nat} {x1 : Int32} {S : mt_S} {r : Int64} {S' : mt_S} (h : f_X3_numberAt x0 x1 S = some (r, S')) : mt_M B yX3_numberAt cX3_numberAt 2 (some .long) 2 [mt_rf B x0, .int x1] S (some (.long r)) S' := by
  unfold f_X3_numberAt at h
  refine mt_M.of (by decide) (Nat.le_of_ble_eq_true rfl) (fun E hC hE => ?_)
  obtain ⟨hk0, h⟩ := mt_gd h
  refine go_aload_n hC 0 dX3_numberAt_0 rfl rfl ?_
  refine go_iload_n hC 1 dX3_numberAt_1 rfl rfl ?_
  obtain ⟨v2, S1, e2, h⟩ := mt_ob2 h
  refine go_callVi hC [.int x1] [] (m_X3_has e2) mt_cvX3_30 (k_X3_has e2) dX3_numberAt_2 rfl rfl (by decide) (Nat.le_of_ble_eq_true rfl) ⟨Nat.le_refl _, Nat.le_refl _⟩ ?_
  refine go_if_eq hC (tgt := 17) dX3_numberAt_5 (by decide) (fun hc => ?_) (fun hc => ?_)
  · have h := mt_ip h hc
    refine go_ldc2 hC dX3_numberAt_17 mt_kX3_34 ?_
    exact go_lret hC (mt_rel h hE) dX3_numberAt_20
  · have h := mt_in' h hc
    refine go_aload_n hC 0 dX3_numberAt_8 rfl rfl ?_
    obtain ⟨v3, e3, h⟩ := mt_ob h
    refine go_getR hC mt_flX3_9 e3 dX3_numberAt_9 ?_
    refine go_iload_n hC 1 dX3_numberAt_12 rfl rfl ?_
    obtain ⟨v4, e4, h⟩ := mt_ob h
    refine go_lald hC e4 dX3_numberAt_13 ?_
    refine go_goto hC (tgt := 20) dX3_numberAt_14 (by decide) ?_
    exact go_lret hC (mt_rel h hE) dX3_numberAt_20
set_option maxHeartbeats 4000000 in
set_option maxRecDepth 100000 in
theorem ov_X3_numberAt {T : mt_S}  {x0 : Nat} {x1 : Int32} {S : mt_S} {r : Int64} {S' : mt_S} (hp : mt_cp S T) (h : f_X3_numberAt x0 x1 S = some (r, S')) : f_X3_numberAt x0 x1 (mt_ov S T) = some (r, mt_ov S' T) ∧ mt_cp S' T := by
  unfold f_X3_numberAt at h ⊢
  obtain ⟨hg, h⟩ := mt_gd h
  refine ov_t (ov_K hp hg) ?_
  obtain ⟨v2, S1, e2, h⟩ := mt_ob2 h
  obtain ⟨o_, hp⟩ := ov_X3_has hp e2
  refine ov_b2 o_ ?_
  by_cases hc : v2 = 0
  · have h := mt_ip h hc
    refine ov_t hc ?_
    exact ov_ret hp h
  · have h := mt_in' h hc
    refine ov_f hc ?_
    obtain ⟨v3, e3, h⟩ := mt_ob h
    refine ov_b (ov_rR hp e3) ?_
    obtain ⟨v4, e4, h⟩ := mt_ob h
    refine ov_b (ov_aL hp e4) ?_
    exact ov_ret hp h
def f_X3_pAt (x0 : Nat) (x1 : Int32) (S : mt_S) : Option (Int32 × mt_S) :=
  if mt_isK S x0 3 = true then
   mt_b2 (f_X3_has x0 x1 S) fun v2 S1 =>
   if v2 = 0 then
    some ((-1), S1)
   else
    Option.bind (mt_rR S1 x0 3 1) fun v3 =>
    Option.bind (mt_aI S1 v3 13 x1) fun v4 =>
    some (v4, S1)
  else none
theorem k_X3_pAt {x0 : Nat} {x1 : Int32} {S : mt_S} {r : Int32} {S' : mt_S} (h : f_X3_pAt x0 x1 S = some (r, S')) : mt_isK S x0 3 = true := by
  unfold f_X3_pAt at h
  exact (mt_gd h).1
set_option maxHeartbeats 4000000 in
set_option maxRecDepth 100000 in
theorem m_X3_pAt {B : mt_B}  {x0 : Nat} {x1 : Int32} {S : mt_S} {r : Int32} {S' : mt_S} (h : f_X3_pAt x0 x1 S = some (r, S')) : mt_M B yX3_pAt cX3_pAt 2 (some .int) 2 [mt_rf B x0, .int x1] S (some (.int r)) S' := by
  unfold f_X3_pAt at h
  refine mt_M.of (by decide) (Nat.le_of_ble_eq_true rfl) (fun E hC hE => ?_)
  obtain ⟨hk0, h⟩ := mt_gd h
  refine go_aload_n hC 0 dX3_pAt_0 rfl rfl ?_
  refine go_iload_n hC 1 dX3_pAt_1 rfl rfl ?_
  obtain ⟨v2, S1, e2, h⟩ := mt_ob2 h
  refine go_callVi hC [.int x1] [] (m_X3_has e2) mt_cvX3_30 (k_X3_has e2) dX3_pAt_2 rfl rfl (by decide) (Nat.le_of_ble_eq_true rfl) ⟨Nat.le_refl _, Nat.le_refl _⟩ ?_
  refine go_if_eq hC (tgt := 17) dX3_pAt_5 (by decide) (fun hc => ?_) (fun hc => ?_)
  · have h := mt_ip h hc
    refine go_iconst (v := (-1)) hC dX3_pAt_17 (by decide) ?_
    exact go_iret hC (mt_rei h hE) dX3_pAt_18
  · have h := mt_in' h hc
    refine go_aload_n hC 0 dX3_pAt_8 rfl rfl ?_
    obtain ⟨v3, e3, h⟩ := mt_ob h
    refine go_getR hC mt_flX3_15 e3 dX3_pAt_9 ?_
    refine go_iload_n hC 1 dX3_pAt_12 rfl rfl ?_
    obtain ⟨v4, e4, h⟩ := mt_ob h
    refine go_iald hC e4 dX3_pAt_13 ?_
    refine go_goto hC (tgt := 18) dX3_pAt_14 (by decide) ?_
    exact go_iret hC (mt_rei h hE) dX3_pAt_18
set_option maxHeartbeats 4000000 in
set_option maxRecDepth 100000 in
theorem ov_X3_pAt {T : mt_S}  {x0 : Nat} {x1 : Int32} {S : mt_S} {r : Int32} {S' : mt_S} (hp : mt_cp S T) (h : f_X3_pAt x0 x1 S = some (r, S')) : f_X3_pAt x0 x1 (mt_ov S T) = some (r, mt_ov S' T) ∧ mt_cp S' T := by
  unfold f_X3_pAt at h ⊢
  obtain ⟨hg, h⟩ := mt_gd h
  refine ov_t (ov_K hp hg) ?_
  obtain ⟨v2, S1, e2, h⟩ := mt_ob2 h
  obtain ⟨o_, hp⟩ := ov_X3_has hp e2
  refine ov_b2 o_ ?_
  by_cases hc : v2 = 0
  · have h := mt_ip h hc
    refine ov_t hc ?_
    exact ov_ret hp h
  · have h := mt_in' h hc
    refine ov_f hc ?_
    obtain ⟨v3, e3, h⟩ := mt_ob h
    refine ov_b (ov_rR hp e3) ?_
    obtain ⟨v4, e4, h⟩ := mt_ob h
    refine ov_b (ov_aI hp e4) ?_
    exact ov_ret hp h
def f_X3_qAt (x0 : Nat) (x1 : Int32) (S : mt_S) : Option (Int32 × mt_S) :=
  if mt_isK S x0 3 = true then
   mt_b2 (f_X3_has x0 x1 S) fun v2 S1 =>
   if v2 = 0 then
    some ((-1), S1)
   else
    Option.bind (mt_rR S1 x0 3 2) fun v3 =>
    Option.bind (mt_aI S1 v3 13 x1) fun v4 =>
    some (v4, S1)
  else none
theorem k_X3_qAt {x0 : Nat} {x1 : Int32} {S : mt_S} {r : Int32} {S' : mt_S} (h : f_X3_qAt x0 x1 S = some (r, S')) : mt_isK S x0 3 = true := by
  unfold f_X3_qAt at h
  exact (mt_gd h).1
set_option maxHeartbeats 4000000 in
set_option maxRecDepth 100000 in
theorem m_X3_qAt {B : mt_B}  {x0 : Nat} {x1 : Int32} {S : mt_S} {r : Int32} {S' : mt_S} (h : f_X3_qAt x0 x1 S = some (r, S')) : mt_M B yX3_qAt cX3_qAt 2 (some .int) 2 [mt_rf B x0, .int x1] S (some (.int r)) S' := by
  unfold f_X3_qAt at h
  refine mt_M.of (by decide) (Nat.le_of_ble_eq_true rfl) (fun E hC hE => ?_)
  obtain ⟨hk0, h⟩ := mt_gd h
  refine go_aload_n hC 0 dX3_qAt_0 rfl rfl ?_
  refine go_iload_n hC 1 dX3_qAt_1 rfl rfl ?_
  obtain ⟨v2, S1, e2, h⟩ := mt_ob2 h
  refine go_callVi hC [.int x1] [] (m_X3_has e2) mt_cvX3_30 (k_X3_has e2) dX3_qAt_2 rfl rfl (by decide) (Nat.le_of_ble_eq_true rfl) ⟨Nat.le_refl _, Nat.le_refl _⟩ ?_
  refine go_if_eq hC (tgt := 17) dX3_qAt_5 (by decide) (fun hc => ?_) (fun hc => ?_)
  · have h := mt_ip h hc
    refine go_iconst (v := (-1)) hC dX3_qAt_17 (by decide) ?_
    exact go_iret hC (mt_rei h hE) dX3_qAt_18
  · have h := mt_in' h hc
    refine go_aload_n hC 0 dX3_qAt_8 rfl rfl ?_
    obtain ⟨v3, e3, h⟩ := mt_ob h
    refine go_getR hC mt_flX3_19 e3 dX3_qAt_9 ?_
    refine go_iload_n hC 1 dX3_qAt_12 rfl rfl ?_
    obtain ⟨v4, e4, h⟩ := mt_ob h
    refine go_iald hC e4 dX3_qAt_13 ?_
    refine go_goto hC (tgt := 18) dX3_qAt_14 (by decide) ?_
    exact go_iret hC (mt_rei h hE) dX3_qAt_18
set_option maxHeartbeats 4000000 in
set_option maxRecDepth 100000 in
theorem ov_X3_qAt {T : mt_S}  {x0 : Nat} {x1 : Int32} {S : mt_S} {r : Int32} {S' : mt_S} (hp : mt_cp S T) (h : f_X3_qAt x0 x1 S = some (r, S')) : f_X3_qAt x0 x1 (mt_ov S T) = some (r, mt_ov S' T) ∧ mt_cp S' T := by
  unfold f_X3_qAt at h ⊢
  obtain ⟨hg, h⟩ := mt_gd h
  refine ov_t (ov_K hp hg) ?_
  obtain ⟨v2, S1, e2, h⟩ := mt_ob2 h
  obtain ⟨o_, hp⟩ := ov_X3_has hp e2
  refine ov_b2 o_ ?_
  by_cases hc : v2 = 0
  · have h := mt_ip h hc
    refine ov_t hc ?_
    exact ov_ret hp h
  · have h := mt_in' h hc
    refine ov_f hc ?_
    obtain ⟨v3, e3, h⟩ := mt_ob h
    refine ov_b (ov_rR hp e3) ?_
    obtain ⟨v4, e4, h⟩ := mt_ob h
    refine ov_b (ov_aI hp e4) ?_
    exact ov_ret hp h
def f_X3_indexOf_L2s (rc : Nat → Int32 → Int32 → Int32 → mt_S → Option (Int32 × mt_S)) (x0 : Nat) (x1 : Int32) (x2 : Int32) (x3 : Int32) (S : mt_S) : Option (Int32 × mt_S) :=
  Option.bind (mt_rI S x0 3 3) fun v1 =>
  if v1 ≤ x3 then
   some ((-1), S)
  else
   Option.bind (mt_rR S x0 3 1) fun v2 =>
   Option.bind (mt_aI S v2 13 x3) fun v3 =>
   if v3 = x1 then
    Option.bind (mt_rR S x0 3 2) fun v4 =>
    Option.bind (mt_aI S v4 13 x3) fun v5 =>
    if v5 = x2 then
     some (x3, S)
    else
     rc x0 x1 x2 (x3 + 1) S
   else
    rc x0 x1 x2 (x3 + 1) S
def f_X3_indexOf_L2 : Nat → Nat → Int32 → Int32 → Int32 → mt_S → Option (Int32 × mt_S)
  | 0 => fun _ _ _ _ _ => none
  | n + 1 => f_X3_indexOf_L2s (f_X3_indexOf_L2 n)
set_option maxHeartbeats 4000000 in
set_option maxRecDepth 100000 in
theorem m_X3_indexOf_L2 {B : mt_B} {E : mt_E} {r : Int32} {S' : mt_S} (hC : mt_Cx B E cX3_indexOf RX3 (some .int) 4 1 0 0) (hE : mt_End B E (0, 0) (some (.int r)) S') : ∀ (n : Nat) (x0 : Nat) (x1 : Int32) (x2 : Int32) (x3 : Int32) (S : mt_S), f_X3_indexOf_L2 n x0 x1 x2 x3 S = some (r, S') → mt_Go B E (0, 0) S 2 [(0, mt_rf B x0), (1, .int x1), (2, .int x2), (3, .int x3)] [] := by
  intro n
  induction n with
  | zero =>
    intro x0 x1 x2 x3 S h
    cases h
  | succ n ih =>
    intro x0 x1 x2 x3 S h
    have h : f_X3_indexOf_L2s (f_X3_indexOf_L2 n) x0 x1 x2 x3 S = some (r, S') := h
    unfold f_X3_indexOf_L2s at h
    refine go_iload_n hC 3 dX3_indexOf_2 rfl rfl ?_
    refine go_aload_n hC 0 dX3_indexOf_3 rfl rfl ?_
    obtain ⟨v1, e1, h⟩ := mt_ob h
    refine go_getI hC mt_flX3_22 e1 dX3_indexOf_4 ?_
    refine go_icmp_ge hC (tgt := 38) dX3_indexOf_7 (by decide) (fun hc => ?_) (fun hc => ?_)
    · have h := mt_ip h hc
      refine go_iconst (v := (-1)) hC dX3_indexOf_38 (by decide) ?_
      exact go_iret hC (mt_rei h hE) dX3_indexOf_39
    · have h := mt_in' h hc
      refine go_aload_n hC 0 dX3_indexOf_10 rfl rfl ?_
      obtain ⟨v2, e2, h⟩ := mt_ob h
      refine go_getR hC mt_flX3_15 e2 dX3_indexOf_11 ?_
      refine go_iload_n hC 3 dX3_indexOf_14 rfl rfl ?_
      obtain ⟨v3, e3, h⟩ := mt_ob h
      refine go_iald hC e3 dX3_indexOf_15 ?_
      refine go_iload_n hC 1 dX3_indexOf_16 rfl rfl ?_
      refine go_icmp_ne hC (tgt := 32) dX3_indexOf_17 (by decide) (fun hc => ?_) (fun hc => ?_)
      · have h := mt_in' h hc
        refine go_iinc hC 3 [1, 2, 3, 0] (v := x3 + 1) (lv1 := [(0, mt_rf B x0), (1, .int x1), (2, .int x2), (3, .int (x3 + 1))]) dX3_indexOf_32 rfl rfl (by decide) rfl ?_
        refine go_goto hC (tgt := 2) dX3_indexOf_35 (by decide) ?_
        exact ih _ _ _ _ _ h
      · have h := mt_ip h hc
        refine go_aload_n hC 0 dX3_indexOf_20 rfl rfl ?_
        obtain ⟨v4, e4, h⟩ := mt_ob h
        refine go_getR hC mt_flX3_19 e4 dX3_indexOf_21 ?_
        refine go_iload_n hC 3 dX3_indexOf_24 rfl rfl ?_
        obtain ⟨v5, e5, h⟩ := mt_ob h
        refine go_iald hC e5 dX3_indexOf_25 ?_
        refine go_iload_n hC 2 dX3_indexOf_26 rfl rfl ?_
        refine go_icmp_ne hC (tgt := 32) dX3_indexOf_27 (by decide) (fun hc => ?_) (fun hc => ?_)
        · have h := mt_in' h hc
          refine go_iinc hC 3 [1, 2, 3, 0] (v := x3 + 1) (lv1 := [(0, mt_rf B x0), (1, .int x1), (2, .int x2), (3, .int (x3 + 1))]) dX3_indexOf_32 rfl rfl (by decide) rfl ?_
          refine go_goto hC (tgt := 2) dX3_indexOf_35 (by decide) ?_
          exact ih _ _ _ _ _ h
        · have h := mt_ip h hc
          refine go_iload_n hC 3 dX3_indexOf_30 rfl rfl ?_
          exact go_iret hC (mt_rei h hE) dX3_indexOf_31
set_option maxHeartbeats 4000000 in
set_option maxRecDepth 100000 in
theorem ov_X3_indexOf_L2 {T : mt_S} {r : Int32} {S' : mt_S} : ∀ (n : Nat) (x0 : Nat) (x1 : Int32) (x2 : Int32) (x3 : Int32) (S : mt_S), mt_cp S T → f_X3_indexOf_L2 n x0 x1 x2 x3 S = some (r, S') → f_X3_indexOf_L2 n x0 x1 x2 x3 (mt_ov S T) = some (r, mt_ov S' T) ∧ mt_cp S' T := by
  intro n
  induction n with
  | zero =>
    intro x0 x1 x2 x3 S hp h
    cases h
  | succ n ih =>
    intro x0 x1 x2 x3 S hp h
    have h : f_X3_indexOf_L2s (f_X3_indexOf_L2 n) x0 x1 x2 x3 S = some (r, S') := h
    show f_X3_indexOf_L2s (f_X3_indexOf_L2 n) x0 x1 x2 x3 (mt_ov S T) = some (r, mt_ov S' T) ∧ mt_cp S' T
    unfold f_X3_indexOf_L2s at h ⊢
    obtain ⟨v1, e1, h⟩ := mt_ob h
    refine ov_b (ov_rI hp e1) ?_
    by_cases hc : v1 ≤ x3
    · have h := mt_ip h hc
      refine ov_t hc ?_
      exact ov_ret hp h
    · have h := mt_in' h hc
      refine ov_f hc ?_
      obtain ⟨v2, e2, h⟩ := mt_ob h
      refine ov_b (ov_rR hp e2) ?_
      obtain ⟨v3, e3, h⟩ := mt_ob h
      refine ov_b (ov_aI hp e3) ?_
      by_cases hc : v3 = x1
      · have h := mt_ip h hc
        refine ov_t hc ?_
        obtain ⟨v4, e4, h⟩ := mt_ob h
        refine ov_b (ov_rR hp e4) ?_
        obtain ⟨v5, e5, h⟩ := mt_ob h
        refine ov_b (ov_aI hp e5) ?_
        by_cases hc : v5 = x2
        · have h := mt_ip h hc
          refine ov_t hc ?_
          exact ov_ret hp h
        · have h := mt_in' h hc
          refine ov_f hc ?_
          exact ih _ _ _ _ _ hp h
      · have h := mt_in' h hc
        refine ov_f hc ?_
        exact ih _ _ _ _ _ hp h
def f_X3_indexOf (x0 : Nat) (x1 : Int32) (x2 : Int32) (S : mt_S) : Option (Int32 × mt_S) :=
  if mt_isK S x0 3 = true then
   f_X3_indexOf_L2 1000 x0 x1 x2 0 S
  else none
theorem k_X3_indexOf {x0 : Nat} {x1 : Int32} {x2 : Int32} {S : mt_S} {r : Int32} {S' : mt_S} (h : f_X3_indexOf x0 x1 x2 S = some (r, S')) : mt_isK S x0 3 = true := by
  unfold f_X3_indexOf at h
  exact (mt_gd h).1
set_option maxHeartbeats 4000000 in
set_option maxRecDepth 100000 in
theorem m_X3_indexOf {B : mt_B}  {x0 : Nat} {x1 : Int32} {x2 : Int32} {S : mt_S} {r : Int32} {S' : mt_S} (h : f_X3_indexOf x0 x1 x2 S = some (r, S')) : mt_M B yX3_indexOf cX3_indexOf 4 (some .int) 1 [mt_rf B x0, .int x1, .int x2] S (some (.int r)) S' := by
  unfold f_X3_indexOf at h
  refine mt_M.of (by decide) (Nat.le_of_ble_eq_true rfl) (fun E hC hE => ?_)
  obtain ⟨hk0, h⟩ := mt_gd h
  refine go_iconst (v := 0) hC dX3_indexOf_0 (by decide) ?_
  refine go_istore_n hC [1, 2, 3, 0] (lv1 := [(0, mt_rf B x0), (1, .int x1), (2, .int x2), (3, .int 0)]) dX3_indexOf_1 rfl (by decide) rfl ?_
  exact m_X3_indexOf_L2 hC hE 1000 _ _ _ _ _ h
set_option maxHeartbeats 4000000 in
set_option maxRecDepth 100000 in
theorem ov_X3_indexOf {T : mt_S}  {x0 : Nat} {x1 : Int32} {x2 : Int32} {S : mt_S} {r : Int32} {S' : mt_S} (hp : mt_cp S T) (h : f_X3_indexOf x0 x1 x2 S = some (r, S')) : f_X3_indexOf x0 x1 x2 (mt_ov S T) = some (r, mt_ov S' T) ∧ mt_cp S' T := by
  unfold f_X3_indexOf at h ⊢
  obtain ⟨hg, h⟩ := mt_gd h
  refine ov_t (ov_K hp hg) ?_
  exact ov_X3_indexOf_L2 1000 _ _ _ _ _ hp h
def f_X3_put_L14s (rc : Nat → Int64 → Int32 → Int32 → Int32 → mt_S → Option (mt_S)) (x0 : Nat) (x1 : Int64) (x3 : Int32) (x4 : Int32) (x5 : Int32) (S : mt_S) : Option (mt_S) :=
  if x5 ≤ 0 then
   Option.bind (mt_rR S x0 3 0) fun v4 =>
   Option.bind (mt_sL S v4 x5 x1) fun S5 =>
   Option.bind (mt_rR S5 x0 3 1) fun v6 =>
   Option.bind (mt_sI S5 v6 13 x5 x3) fun S7 =>
   Option.bind (mt_rR S7 x0 3 2) fun v8 =>
   Option.bind (mt_sI S7 v8 13 x5 x4) fun S9 =>
   Option.bind (mt_rI S9 x0 3 3) fun v10 =>
   Option.bind (mt_wI S9 x0 3 3 (v10 + 1)) fun S11 =>
   some S11
  else
   Option.bind (mt_rR S x0 3 0) fun v12 =>
   Option.bind (mt_aL S v12 (x5 - 1)) fun v13 =>
   if v13 ≤ x1 then
    Option.bind (mt_rR S x0 3 0) fun v14 =>
    Option.bind (mt_sL S v14 x5 x1) fun S15 =>
    Option.bind (mt_rR S15 x0 3 1) fun v16 =>
    Option.bind (mt_sI S15 v16 13 x5 x3) fun S17 =>
    Option.bind (mt_rR S17 x0 3 2) fun v18 =>
    Option.bind (mt_sI S17 v18 13 x5 x4) fun S19 =>
    Option.bind (mt_rI S19 x0 3 3) fun v20 =>
    Option.bind (mt_wI S19 x0 3 3 (v20 + 1)) fun S21 =>
    some S21
   else
    Option.bind (f_X3_copyRow x0 x0 (x5 - 1) x5 S) fun S22 =>
    rc x0 x1 x3 x4 (x5 + (-1)) S22
def f_X3_put_L14 : Nat → Nat → Int64 → Int32 → Int32 → Int32 → mt_S → Option (mt_S)
  | 0 => fun _ _ _ _ _ _ => none
  | n + 1 => f_X3_put_L14s (f_X3_put_L14 n)
set_option maxHeartbeats 4000000 in
set_option maxRecDepth 100000 in
theorem m_X3_put_L14 {B : mt_B} {E : mt_E} {S' : mt_S} (hC : mt_Cx B E cX3_put RX3 none 6 2 0 0) (hE : mt_End B E (0, 0) none S') : ∀ (n : Nat) (x0 : Nat) (x1 : Int64) (x3 : Int32) (x4 : Int32) (x5 : Int32) (S : mt_S), f_X3_put_L14 n x0 x1 x3 x4 x5 S = some S' → mt_Go B E (0, 0) S 14 [(0, mt_rf B x0), (1, .long x1), (3, .int x3), (4, .int x4), (5, .int x5)] [] := by
  intro n
  induction n with
  | zero =>
    intro x0 x1 x3 x4 x5 S h
    cases h
  | succ n ih =>
    intro x0 x1 x3 x4 x5 S h
    have h : f_X3_put_L14s (f_X3_put_L14 n) x0 x1 x3 x4 x5 S = some S' := h
    unfold f_X3_put_L14s at h
    refine go_iload hC 4 dX3_put_14 rfl ?_
    refine go_if_le hC (tgt := 50) dX3_put_16 (by decide) (fun hc => ?_) (fun hc => ?_)
    · have h := mt_ip h hc
      refine go_aload_n hC 0 dX3_put_50 rfl rfl ?_
      obtain ⟨v4, e4, h⟩ := mt_ob h
      refine go_getR hC mt_flX3_9 e4 dX3_put_51 ?_
      refine go_iload hC 4 dX3_put_54 rfl ?_
      refine go_lload_n hC 1 dX3_put_56 rfl rfl ?_
      obtain ⟨S5, e5, h⟩ := mt_ob h
      refine go_last hC e5 dX3_put_57 ?_
      refine go_aload_n hC 0 dX3_put_58 rfl rfl ?_
      obtain ⟨v6, e6, h⟩ := mt_ob h
      refine go_getR hC mt_flX3_15 e6 dX3_put_59 ?_
      refine go_iload hC 4 dX3_put_62 rfl ?_
      refine go_iload_n hC 2 dX3_put_64 rfl rfl ?_
      obtain ⟨S7, e7, h⟩ := mt_ob h
      refine go_iast hC e7 dX3_put_65 ?_
      refine go_aload_n hC 0 dX3_put_66 rfl rfl ?_
      obtain ⟨v8, e8, h⟩ := mt_ob h
      refine go_getR hC mt_flX3_19 e8 dX3_put_67 ?_
      refine go_iload hC 4 dX3_put_70 rfl ?_
      refine go_iload hC 3 dX3_put_72 rfl ?_
      obtain ⟨S9, e9, h⟩ := mt_ob h
      refine go_iast hC e9 dX3_put_74 ?_
      refine go_aload_n hC 0 dX3_put_75 rfl rfl ?_
      refine go_dup hC dX3_put_76 rfl ?_
      obtain ⟨v10, e10, h⟩ := mt_ob h
      refine go_getI hC mt_flX3_22 e10 dX3_put_77 ?_
      refine go_iconst (v := 1) hC dX3_put_80 (by decide) ?_
      refine go_iadd hC dX3_put_81 ?_
      obtain ⟨S11, e11, h⟩ := mt_ob h
      refine go_putI hC mt_flX3_22 e11 dX3_put_82 ?_
      exact go_vret hC (mt_rev h hE) dX3_put_85
    · have h := mt_in' h hc
      refine go_aload_n hC 0 dX3_put_19 rfl rfl ?_
      obtain ⟨v12, e12, h⟩ := mt_ob h
      refine go_getR hC mt_flX3_9 e12 dX3_put_20 ?_
      refine go_iload hC 4 dX3_put_23 rfl ?_
      refine go_iconst (v := 1) hC dX3_put_25 (by decide) ?_
      refine go_isub hC dX3_put_26 ?_
      obtain ⟨v13, e13, h⟩ := mt_ob h
      refine go_lald hC e13 dX3_put_27 ?_
      refine go_lload_n hC 1 dX3_put_28 rfl rfl ?_
      refine go_lcmp_le hC (tgt := 50) dX3_put_29 dX3_put_30 (by decide) (fun hc => ?_) (fun hc => ?_)
      · have h := mt_ip h hc
        refine go_aload_n hC 0 dX3_put_50 rfl rfl ?_
        obtain ⟨v14, e14, h⟩ := mt_ob h
        refine go_getR hC mt_flX3_9 e14 dX3_put_51 ?_
        refine go_iload hC 4 dX3_put_54 rfl ?_
        refine go_lload_n hC 1 dX3_put_56 rfl rfl ?_
        obtain ⟨S15, e15, h⟩ := mt_ob h
        refine go_last hC e15 dX3_put_57 ?_
        refine go_aload_n hC 0 dX3_put_58 rfl rfl ?_
        obtain ⟨v16, e16, h⟩ := mt_ob h
        refine go_getR hC mt_flX3_15 e16 dX3_put_59 ?_
        refine go_iload hC 4 dX3_put_62 rfl ?_
        refine go_iload_n hC 2 dX3_put_64 rfl rfl ?_
        obtain ⟨S17, e17, h⟩ := mt_ob h
        refine go_iast hC e17 dX3_put_65 ?_
        refine go_aload_n hC 0 dX3_put_66 rfl rfl ?_
        obtain ⟨v18, e18, h⟩ := mt_ob h
        refine go_getR hC mt_flX3_19 e18 dX3_put_67 ?_
        refine go_iload hC 4 dX3_put_70 rfl ?_
        refine go_iload hC 3 dX3_put_72 rfl ?_
        obtain ⟨S19, e19, h⟩ := mt_ob h
        refine go_iast hC e19 dX3_put_74 ?_
        refine go_aload_n hC 0 dX3_put_75 rfl rfl ?_
        refine go_dup hC dX3_put_76 rfl ?_
        obtain ⟨v20, e20, h⟩ := mt_ob h
        refine go_getI hC mt_flX3_22 e20 dX3_put_77 ?_
        refine go_iconst (v := 1) hC dX3_put_80 (by decide) ?_
        refine go_iadd hC dX3_put_81 ?_
        obtain ⟨S21, e21, h⟩ := mt_ob h
        refine go_putI hC mt_flX3_22 e21 dX3_put_82 ?_
        exact go_vret hC (mt_rev h hE) dX3_put_85
      · have h := mt_in' h hc
        refine go_aload_n hC 0 dX3_put_33 rfl rfl ?_
        refine go_aload_n hC 0 dX3_put_34 rfl rfl ?_
        refine go_iload hC 4 dX3_put_35 rfl ?_
        refine go_iconst (v := 1) hC dX3_put_37 (by decide) ?_
        refine go_isub hC dX3_put_38 ?_
        refine go_iload hC 4 dX3_put_39 rfl ?_
        obtain ⟨S22, e22, h⟩ := mt_ob h
        refine go_callVv hC [mt_rf B x0, .int (x5 - 1), .int x5] [] (m_X3_copyRow e22) mt_cvX3_26 (k_X3_copyRow e22) dX3_put_41 rfl rfl (by decide) (Nat.le_of_ble_eq_true rfl) ⟨Nat.le_refl _, Nat.le_refl _⟩ ?_
        refine go_iinc hC 4 [1, 2, 3, 4, 0] (v := x5 + (-1)) (lv1 := [(0, mt_rf B x0), (1, .long x1), (3, .int x3), (4, .int x4), (5, .int (x5 + (-1)))]) dX3_put_44 rfl rfl (by decide) rfl ?_
        refine go_goto hC (tgt := 14) dX3_put_47 (by decide) ?_
        exact ih _ _ _ _ _ _ h
set_option maxHeartbeats 4000000 in
set_option maxRecDepth 100000 in
theorem ov_X3_put_L14 {T : mt_S} {S' : mt_S} : ∀ (n : Nat) (x0 : Nat) (x1 : Int64) (x3 : Int32) (x4 : Int32) (x5 : Int32) (S : mt_S), mt_cp S T → f_X3_put_L14 n x0 x1 x3 x4 x5 S = some S' → f_X3_put_L14 n x0 x1 x3 x4 x5 (mt_ov S T) = some (mt_ov S' T) ∧ mt_cp S' T := by
  intro n
  induction n with
  | zero =>
    intro x0 x1 x3 x4 x5 S hp h
    cases h
  | succ n ih =>
    intro x0 x1 x3 x4 x5 S hp h
    have h : f_X3_put_L14s (f_X3_put_L14 n) x0 x1 x3 x4 x5 S = some S' := h
    show f_X3_put_L14s (f_X3_put_L14 n) x0 x1 x3 x4 x5 (mt_ov S T) = some (mt_ov S' T) ∧ mt_cp S' T
    unfold f_X3_put_L14s at h ⊢
    by_cases hc : x5 ≤ 0
    · have h := mt_ip h hc
      refine ov_t hc ?_
      obtain ⟨v4, e4, h⟩ := mt_ob h
      refine ov_b (ov_rR hp e4) ?_
      obtain ⟨S5, e5, h⟩ := mt_ob h
      obtain ⟨o_, hp⟩ := ov_sL hp e5
      refine ov_b o_ ?_
      obtain ⟨v6, e6, h⟩ := mt_ob h
      refine ov_b (ov_rR hp e6) ?_
      obtain ⟨S7, e7, h⟩ := mt_ob h
      obtain ⟨o_, hp⟩ := ov_sI hp e7
      refine ov_b o_ ?_
      obtain ⟨v8, e8, h⟩ := mt_ob h
      refine ov_b (ov_rR hp e8) ?_
      obtain ⟨S9, e9, h⟩ := mt_ob h
      obtain ⟨o_, hp⟩ := ov_sI hp e9
      refine ov_b o_ ?_
      obtain ⟨v10, e10, h⟩ := mt_ob h
      refine ov_b (ov_rI hp e10) ?_
      obtain ⟨S11, e11, h⟩ := mt_ob h
      obtain ⟨o_, hp⟩ := ov_wI hp e11
      refine ov_b o_ ?_
      exact ov_retv hp h
    · have h := mt_in' h hc
      refine ov_f hc ?_
      obtain ⟨v12, e12, h⟩ := mt_ob h
      refine ov_b (ov_rR hp e12) ?_
      obtain ⟨v13, e13, h⟩ := mt_ob h
      refine ov_b (ov_aL hp e13) ?_
      by_cases hc : v13 ≤ x1
      · have h := mt_ip h hc
        refine ov_t hc ?_
        obtain ⟨v14, e14, h⟩ := mt_ob h
        refine ov_b (ov_rR hp e14) ?_
        obtain ⟨S15, e15, h⟩ := mt_ob h
        obtain ⟨o_, hp⟩ := ov_sL hp e15
        refine ov_b o_ ?_
        obtain ⟨v16, e16, h⟩ := mt_ob h
        refine ov_b (ov_rR hp e16) ?_
        obtain ⟨S17, e17, h⟩ := mt_ob h
        obtain ⟨o_, hp⟩ := ov_sI hp e17
        refine ov_b o_ ?_
        obtain ⟨v18, e18, h⟩ := mt_ob h
        refine ov_b (ov_rR hp e18) ?_
        obtain ⟨S19, e19, h⟩ := mt_ob h
        obtain ⟨o_, hp⟩ := ov_sI hp e19
        refine ov_b o_ ?_
        obtain ⟨v20, e20, h⟩ := mt_ob h
        refine ov_b (ov_rI hp e20) ?_
        obtain ⟨S21, e21, h⟩ := mt_ob h
        obtain ⟨o_, hp⟩ := ov_wI hp e21
        refine ov_b o_ ?_
        exact ov_retv hp h
      · have h := mt_in' h hc
        refine ov_f hc ?_
        obtain ⟨S22, e22, h⟩ := mt_ob h
        obtain ⟨o_, hp⟩ := ov_X3_copyRow hp e22
        refine ov_b o_ ?_
        exact ih _ _ _ _ _ _ hp h
def f_X3_put (x0 : Nat) (x1 : Int64) (x3 : Int32) (x4 : Int32) (S : mt_S) : Option (mt_S) :=
  if mt_isK S x0 3 = true then
   mt_b2 (f_X3_isFull x0 S) fun v2 S1 =>
   if v2 = 0 then
    Option.bind (mt_rI S1 x0 3 3) fun v3 =>
    f_X3_put_L14 1000 x0 x1 x3 x4 v3 S1
   else
    some S1
  else none
theorem k_X3_put {x0 : Nat} {x1 : Int64} {x3 : Int32} {x4 : Int32} {S : mt_S} {S' : mt_S} (h : f_X3_put x0 x1 x3 x4 S = some S') : mt_isK S x0 3 = true := by
  unfold f_X3_put at h
  exact (mt_gd h).1
set_option maxHeartbeats 4000000 in
set_option maxRecDepth 100000 in
theorem m_X3_put {B : mt_B}  {x0 : Nat} {x1 : Int64} {x3 : Int32} {x4 : Int32} {S : mt_S} {S' : mt_S} (h : f_X3_put x0 x1 x3 x4 S = some S') : mt_M B yX3_put cX3_put 6 none 2 [mt_rf B x0, .long x1, .int x3, .int x4] S none S' := by
  unfold f_X3_put at h
  refine mt_M.of (by decide) (Nat.le_of_ble_eq_true rfl) (fun E hC hE => ?_)
  obtain ⟨hk0, h⟩ := mt_gd h
  refine go_aload_n hC 0 dX3_put_0 rfl rfl ?_
  obtain ⟨v2, S1, e2, h⟩ := mt_ob2 h
  refine go_callVi hC [] [] (m_X3_isFull e2) mt_cvX3_36 (k_X3_isFull e2) dX3_put_1 rfl rfl (by decide) (Nat.le_of_ble_eq_true rfl) ⟨Nat.le_refl _, Nat.le_refl _⟩ ?_
  refine go_if_eq hC (tgt := 8) dX3_put_4 (by decide) (fun hc => ?_) (fun hc => ?_)
  · have h := mt_ip h hc
    refine go_aload_n hC 0 dX3_put_8 rfl rfl ?_
    obtain ⟨v3, e3, h⟩ := mt_ob h
    refine go_getI hC mt_flX3_22 e3 dX3_put_9 ?_
    refine go_istore hC [1, 2, 3, 4, 0] (lv1 := [(0, mt_rf B x0), (1, .long x1), (3, .int x3), (4, .int x4), (5, .int v3)]) dX3_put_12 (by decide) rfl ?_
    exact m_X3_put_L14 hC hE 1000 _ _ _ _ _ _ h
  · have h := mt_in' h hc
    exact go_vret hC (mt_rev h hE) dX3_put_7
set_option maxHeartbeats 4000000 in
set_option maxRecDepth 100000 in
theorem ov_X3_put {T : mt_S}  {x0 : Nat} {x1 : Int64} {x3 : Int32} {x4 : Int32} {S : mt_S} {S' : mt_S} (hp : mt_cp S T) (h : f_X3_put x0 x1 x3 x4 S = some S') : f_X3_put x0 x1 x3 x4 (mt_ov S T) = some (mt_ov S' T) ∧ mt_cp S' T := by
  unfold f_X3_put at h ⊢
  obtain ⟨hg, h⟩ := mt_gd h
  refine ov_t (ov_K hp hg) ?_
  obtain ⟨v2, S1, e2, h⟩ := mt_ob2 h
  obtain ⟨o_, hp⟩ := ov_X3_isFull hp e2
  refine ov_b2 o_ ?_
  by_cases hc : v2 = 0
  · have h := mt_ip h hc
    refine ov_t hc ?_
    obtain ⟨v3, e3, h⟩ := mt_ob h
    refine ov_b (ov_rI hp e3) ?_
    exact ov_X3_put_L14 1000 _ _ _ _ _ _ hp h
  · have h := mt_in' h hc
    refine ov_f hc ?_
    exact ov_retv hp h
def f_X3_drop_L13s (rc : Nat → Int32 → mt_S → Option (mt_S)) (x0 : Nat) (x2 : Int32) (S : mt_S) : Option (mt_S) :=
  Option.bind (mt_rI S x0 3 3) fun v3 =>
  if v3 ≤ x2 then
   Option.bind (mt_rI S x0 3 3) fun v4 =>
   Option.bind (mt_wI S x0 3 3 (v4 - 1)) fun S5 =>
   some S5
  else
   Option.bind (f_X3_copyRow x0 x0 x2 (x2 - 1) S) fun S6 =>
   rc x0 (x2 + 1) S6
def f_X3_drop_L13 : Nat → Nat → Int32 → mt_S → Option (mt_S)
  | 0 => fun _ _ _ => none
  | n + 1 => f_X3_drop_L13s (f_X3_drop_L13 n)
set_option maxHeartbeats 4000000 in
set_option maxRecDepth 100000 in
theorem m_X3_drop_L13 {B : mt_B} {E : mt_E} {S' : mt_S} (hC : mt_Cx B E cX3_drop RX3 none 3 2 0 0) (hE : mt_End B E (0, 0) none S') : ∀ (n : Nat) (x0 : Nat) (x2 : Int32) (S : mt_S), f_X3_drop_L13 n x0 x2 S = some S' → mt_Go B E (0, 0) S 13 [(0, mt_rf B x0), (2, .int x2)] [] := by
  intro n
  induction n with
  | zero =>
    intro x0 x2 S h
    cases h
  | succ n ih =>
    intro x0 x2 S h
    have h : f_X3_drop_L13s (f_X3_drop_L13 n) x0 x2 S = some S' := h
    unfold f_X3_drop_L13s at h
    refine go_iload_n hC 1 dX3_drop_13 rfl rfl ?_
    refine go_aload_n hC 0 dX3_drop_14 rfl rfl ?_
    obtain ⟨v3, e3, h⟩ := mt_ob h
    refine go_getI hC mt_flX3_22 e3 dX3_drop_15 ?_
    refine go_icmp_ge hC (tgt := 36) dX3_drop_18 (by decide) (fun hc => ?_) (fun hc => ?_)
    · have h := mt_ip h hc
      refine go_aload_n hC 0 dX3_drop_36 rfl rfl ?_
      refine go_dup hC dX3_drop_37 rfl ?_
      obtain ⟨v4, e4, h⟩ := mt_ob h
      refine go_getI hC mt_flX3_22 e4 dX3_drop_38 ?_
      refine go_iconst (v := 1) hC dX3_drop_41 (by decide) ?_
      refine go_isub hC dX3_drop_42 ?_
      obtain ⟨S5, e5, h⟩ := mt_ob h
      refine go_putI hC mt_flX3_22 e5 dX3_drop_43 ?_
      exact go_vret hC (mt_rev h hE) dX3_drop_46
    · have h := mt_in' h hc
      refine go_aload_n hC 0 dX3_drop_21 rfl rfl ?_
      refine go_aload_n hC 0 dX3_drop_22 rfl rfl ?_
      refine go_iload_n hC 1 dX3_drop_23 rfl rfl ?_
      refine go_iload_n hC 1 dX3_drop_24 rfl rfl ?_
      refine go_iconst (v := 1) hC dX3_drop_25 (by decide) ?_
      refine go_isub hC dX3_drop_26 ?_
      obtain ⟨S6, e6, h⟩ := mt_ob h
      refine go_callVv hC [mt_rf B x0, .int x2, .int (x2 - 1)] [] (m_X3_copyRow e6) mt_cvX3_26 (k_X3_copyRow e6) dX3_drop_27 rfl rfl (by decide) (Nat.le_of_ble_eq_true rfl) ⟨Nat.le_refl _, Nat.le_refl _⟩ ?_
      refine go_iinc hC 1 [1, 0] (v := x2 + 1) (lv1 := [(0, mt_rf B x0), (2, .int (x2 + 1))]) dX3_drop_30 rfl rfl (by decide) rfl ?_
      refine go_goto hC (tgt := 13) dX3_drop_33 (by decide) ?_
      exact ih _ _ _ h
set_option maxHeartbeats 4000000 in
set_option maxRecDepth 100000 in
theorem ov_X3_drop_L13 {T : mt_S} {S' : mt_S} : ∀ (n : Nat) (x0 : Nat) (x2 : Int32) (S : mt_S), mt_cp S T → f_X3_drop_L13 n x0 x2 S = some S' → f_X3_drop_L13 n x0 x2 (mt_ov S T) = some (mt_ov S' T) ∧ mt_cp S' T := by
  intro n
  induction n with
  | zero =>
    intro x0 x2 S hp h
    cases h
  | succ n ih =>
    intro x0 x2 S hp h
    have h : f_X3_drop_L13s (f_X3_drop_L13 n) x0 x2 S = some S' := h
    show f_X3_drop_L13s (f_X3_drop_L13 n) x0 x2 (mt_ov S T) = some (mt_ov S' T) ∧ mt_cp S' T
    unfold f_X3_drop_L13s at h ⊢
    obtain ⟨v3, e3, h⟩ := mt_ob h
    refine ov_b (ov_rI hp e3) ?_
    by_cases hc : v3 ≤ x2
    · have h := mt_ip h hc
      refine ov_t hc ?_
      obtain ⟨v4, e4, h⟩ := mt_ob h
      refine ov_b (ov_rI hp e4) ?_
      obtain ⟨S5, e5, h⟩ := mt_ob h
      obtain ⟨o_, hp⟩ := ov_wI hp e5
      refine ov_b o_ ?_
      exact ov_retv hp h
    · have h := mt_in' h hc
      refine ov_f hc ?_
      obtain ⟨S6, e6, h⟩ := mt_ob h
      obtain ⟨o_, hp⟩ := ov_X3_copyRow hp e6
      refine ov_b o_ ?_
      exact ih _ _ _ hp h
def f_X3_drop (x0 : Nat) (x1 : Int32) (S : mt_S) : Option (mt_S) :=
  if mt_isK S x0 3 = true then
   mt_b2 (f_X3_has x0 x1 S) fun v2 S1 =>
   if v2 = 0 then
    some S1
   else
    f_X3_drop_L13 1000 x0 (x1 + 1) S1
  else none
theorem k_X3_drop {x0 : Nat} {x1 : Int32} {S : mt_S} {S' : mt_S} (h : f_X3_drop x0 x1 S = some S') : mt_isK S x0 3 = true := by
  unfold f_X3_drop at h
  exact (mt_gd h).1
set_option maxHeartbeats 4000000 in
set_option maxRecDepth 100000 in
theorem m_X3_drop {B : mt_B}  {x0 : Nat} {x1 : Int32} {S : mt_S} {S' : mt_S} (h : f_X3_drop x0 x1 S = some S') : mt_M B yX3_drop cX3_drop 3 none 2 [mt_rf B x0, .int x1] S none S' := by
  unfold f_X3_drop at h
  refine mt_M.of (by decide) (Nat.le_of_ble_eq_true rfl) (fun E hC hE => ?_)
  obtain ⟨hk0, h⟩ := mt_gd h
  refine go_aload_n hC 0 dX3_drop_0 rfl rfl ?_
  refine go_iload_n hC 1 dX3_drop_1 rfl rfl ?_
  obtain ⟨v2, S1, e2, h⟩ := mt_ob2 h
  refine go_callVi hC [.int x1] [] (m_X3_has e2) mt_cvX3_30 (k_X3_has e2) dX3_drop_2 rfl rfl (by decide) (Nat.le_of_ble_eq_true rfl) ⟨Nat.le_refl _, Nat.le_refl _⟩ ?_
  refine go_if_ne hC (tgt := 9) dX3_drop_5 (by decide) (fun hc => ?_) (fun hc => ?_)
  · have h := mt_in' h hc
    refine go_iload_n hC 1 dX3_drop_9 rfl rfl ?_
    refine go_iconst (v := 1) hC dX3_drop_10 (by decide) ?_
    refine go_iadd hC dX3_drop_11 ?_
    refine go_istore_n hC [1, 2, 0] (lv1 := [(0, mt_rf B x0), (1, .int x1), (2, .int (x1 + 1))]) dX3_drop_12 rfl (by decide) rfl ?_
    refine go_sub [0, 2] (lv1 := [(0, mt_rf B x0), (2, .int (x1 + 1))]) rfl ?_
    exact m_X3_drop_L13 hC hE 1000 _ _ _ h
  · have h := mt_ip h hc
    exact go_vret hC (mt_rev h hE) dX3_drop_8
set_option maxHeartbeats 4000000 in
set_option maxRecDepth 100000 in
theorem ov_X3_drop {T : mt_S}  {x0 : Nat} {x1 : Int32} {S : mt_S} {S' : mt_S} (hp : mt_cp S T) (h : f_X3_drop x0 x1 S = some S') : f_X3_drop x0 x1 (mt_ov S T) = some (mt_ov S' T) ∧ mt_cp S' T := by
  unfold f_X3_drop at h ⊢
  obtain ⟨hg, h⟩ := mt_gd h
  refine ov_t (ov_K hp hg) ?_
  obtain ⟨v2, S1, e2, h⟩ := mt_ob2 h
  obtain ⟨o_, hp⟩ := ov_X3_has hp e2
  refine ov_b2 o_ ?_
  by_cases hc : v2 = 0
  · have h := mt_ip h hc
    refine ov_t hc ?_
    exact ov_retv hp h
  · have h := mt_in' h hc
    refine ov_f hc ?_
    exact ov_X3_drop_L13 1000 _ _ _ hp h
def f_X3_lastTo_L7s (rc : Nat → Int64 → Int64 → Int32 → mt_S → Option (Int64 × mt_S)) (x0 : Nat) (x1 : Int64) (x3 : Int64) (x5 : Int32) (S : mt_S) : Option (Int64 × mt_S) :=
  Option.bind (mt_rI S x0 3 3) fun v1 =>
  if v1 ≤ x5 then
   some (x3, S)
  else
   Option.bind (mt_rR S x0 3 0) fun v2 =>
   Option.bind (mt_aL S v2 x5) fun v3 =>
   if x1 < v3 then
    some (x3, S)
   else
    Option.bind (mt_rR S x0 3 0) fun v4 =>
    Option.bind (mt_aL S v4 x5) fun v5 =>
    rc x0 x1 v5 (x5 + 1) S
def f_X3_lastTo_L7 : Nat → Nat → Int64 → Int64 → Int32 → mt_S → Option (Int64 × mt_S)
  | 0 => fun _ _ _ _ _ => none
  | n + 1 => f_X3_lastTo_L7s (f_X3_lastTo_L7 n)
set_option maxHeartbeats 4000000 in
set_option maxRecDepth 100000 in
theorem m_X3_lastTo_L7 {B : mt_B} {E : mt_E} {r : Int64} {S' : mt_S} (hC : mt_Cx B E cX3_lastTo RX3 (some .long) 6 1 0 0) (hE : mt_End B E (0, 0) (some (.long r)) S') : ∀ (n : Nat) (x0 : Nat) (x1 : Int64) (x3 : Int64) (x5 : Int32) (S : mt_S), f_X3_lastTo_L7 n x0 x1 x3 x5 S = some (r, S') → mt_Go B E (0, 0) S 7 [(0, mt_rf B x0), (1, .long x1), (3, .long x3), (5, .int x5)] [] := by
  intro n
  induction n with
  | zero =>
    intro x0 x1 x3 x5 S h
    cases h
  | succ n ih =>
    intro x0 x1 x3 x5 S h
    have h : f_X3_lastTo_L7s (f_X3_lastTo_L7 n) x0 x1 x3 x5 S = some (r, S') := h
    unfold f_X3_lastTo_L7s at h
    refine go_iload hC 3 dX3_lastTo_7 rfl ?_
    refine go_aload_n hC 0 dX3_lastTo_9 rfl rfl ?_
    obtain ⟨v1, e1, h⟩ := mt_ob h
    refine go_getI hC mt_flX3_22 e1 dX3_lastTo_10 ?_
    refine go_icmp_ge hC (tgt := 42) dX3_lastTo_13 (by decide) (fun hc => ?_) (fun hc => ?_)
    · have h := mt_ip h hc
      refine go_lload_n hC 2 dX3_lastTo_42 rfl rfl ?_
      exact go_lret hC (mt_rel h hE) dX3_lastTo_43
    · have h := mt_in' h hc
      refine go_aload_n hC 0 dX3_lastTo_16 rfl rfl ?_
      obtain ⟨v2, e2, h⟩ := mt_ob h
      refine go_getR hC mt_flX3_9 e2 dX3_lastTo_17 ?_
      refine go_iload hC 3 dX3_lastTo_20 rfl ?_
      obtain ⟨v3, e3, h⟩ := mt_ob h
      refine go_lald hC e3 dX3_lastTo_22 ?_
      refine go_lload_n hC 1 dX3_lastTo_23 rfl rfl ?_
      refine go_lcmp_gt hC (tgt := 42) dX3_lastTo_24 dX3_lastTo_25 (by decide) (fun hc => ?_) (fun hc => ?_)
      · have h := mt_ip h hc
        refine go_lload_n hC 2 dX3_lastTo_42 rfl rfl ?_
        exact go_lret hC (mt_rel h hE) dX3_lastTo_43
      · have h := mt_in' h hc
        refine go_aload_n hC 0 dX3_lastTo_28 rfl rfl ?_
        obtain ⟨v4, e4, h⟩ := mt_ob h
        refine go_getR hC mt_flX3_9 e4 dX3_lastTo_29 ?_
        refine go_iload hC 3 dX3_lastTo_32 rfl ?_
        obtain ⟨v5, e5, h⟩ := mt_ob h
        refine go_lald hC e5 dX3_lastTo_34 ?_
        refine go_lstore_n hC [1, 2, 0, 3] (lv1 := [(0, mt_rf B x0), (1, .long x1), (3, .long v5), (5, .int x5)]) dX3_lastTo_35 rfl (by decide) rfl ?_
        refine go_iinc hC 3 [1, 2, 3, 0] (v := x5 + 1) (lv1 := [(0, mt_rf B x0), (1, .long x1), (3, .long v5), (5, .int (x5 + 1))]) dX3_lastTo_36 rfl rfl (by decide) rfl ?_
        refine go_goto hC (tgt := 7) dX3_lastTo_39 (by decide) ?_
        exact ih _ _ _ _ _ h
set_option maxHeartbeats 4000000 in
set_option maxRecDepth 100000 in
theorem ov_X3_lastTo_L7 {T : mt_S} {r : Int64} {S' : mt_S} : ∀ (n : Nat) (x0 : Nat) (x1 : Int64) (x3 : Int64) (x5 : Int32) (S : mt_S), mt_cp S T → f_X3_lastTo_L7 n x0 x1 x3 x5 S = some (r, S') → f_X3_lastTo_L7 n x0 x1 x3 x5 (mt_ov S T) = some (r, mt_ov S' T) ∧ mt_cp S' T := by
  intro n
  induction n with
  | zero =>
    intro x0 x1 x3 x5 S hp h
    cases h
  | succ n ih =>
    intro x0 x1 x3 x5 S hp h
    have h : f_X3_lastTo_L7s (f_X3_lastTo_L7 n) x0 x1 x3 x5 S = some (r, S') := h
    show f_X3_lastTo_L7s (f_X3_lastTo_L7 n) x0 x1 x3 x5 (mt_ov S T) = some (r, mt_ov S' T) ∧ mt_cp S' T
    unfold f_X3_lastTo_L7s at h ⊢
    obtain ⟨v1, e1, h⟩ := mt_ob h
    refine ov_b (ov_rI hp e1) ?_
    by_cases hc : v1 ≤ x5
    · have h := mt_ip h hc
      refine ov_t hc ?_
      exact ov_ret hp h
    · have h := mt_in' h hc
      refine ov_f hc ?_
      obtain ⟨v2, e2, h⟩ := mt_ob h
      refine ov_b (ov_rR hp e2) ?_
      obtain ⟨v3, e3, h⟩ := mt_ob h
      refine ov_b (ov_aL hp e3) ?_
      by_cases hc : x1 < v3
      · have h := mt_ip h hc
        refine ov_t hc ?_
        exact ov_ret hp h
      · have h := mt_in' h hc
        refine ov_f hc ?_
        obtain ⟨v4, e4, h⟩ := mt_ob h
        refine ov_b (ov_rR hp e4) ?_
        obtain ⟨v5, e5, h⟩ := mt_ob h
        refine ov_b (ov_aL hp e5) ?_
        exact ih _ _ _ _ _ hp h
def f_X3_lastTo (x0 : Nat) (x1 : Int64) (S : mt_S) : Option (Int64 × mt_S) :=
  if mt_isK S x0 3 = true then
   f_X3_lastTo_L7 1000 x0 x1 (-1) 0 S
  else none
theorem k_X3_lastTo {x0 : Nat} {x1 : Int64} {S : mt_S} {r : Int64} {S' : mt_S} (h : f_X3_lastTo x0 x1 S = some (r, S')) : mt_isK S x0 3 = true := by
  unfold f_X3_lastTo at h
  exact (mt_gd h).1
set_option maxHeartbeats 4000000 in
set_option maxRecDepth 100000 in
theorem m_X3_lastTo {B : mt_B}  {x0 : Nat} {x1 : Int64} {S : mt_S} {r : Int64} {S' : mt_S} (h : f_X3_lastTo x0 x1 S = some (r, S')) : mt_M B yX3_lastTo cX3_lastTo 6 (some .long) 1 [mt_rf B x0, .long x1] S (some (.long r)) S' := by
  unfold f_X3_lastTo at h
  refine mt_M.of (by decide) (Nat.le_of_ble_eq_true rfl) (fun E hC hE => ?_)
  obtain ⟨hk0, h⟩ := mt_gd h
  refine go_ldc2 hC dX3_lastTo_0 mt_kX3_34 ?_
  refine go_lstore_n hC [1, 2, 0] (lv1 := [(0, mt_rf B x0), (1, .long x1), (3, .long (-1))]) dX3_lastTo_3 rfl (by decide) rfl ?_
  refine go_iconst (v := 0) hC dX3_lastTo_4 (by decide) ?_
  refine go_istore hC [1, 2, 3, 0] (lv1 := [(0, mt_rf B x0), (1, .long x1), (3, .long (-1)), (5, .int 0)]) dX3_lastTo_5 (by decide) rfl ?_
  exact m_X3_lastTo_L7 hC hE 1000 _ _ _ _ _ h
set_option maxHeartbeats 4000000 in
set_option maxRecDepth 100000 in
theorem ov_X3_lastTo {T : mt_S}  {x0 : Nat} {x1 : Int64} {S : mt_S} {r : Int64} {S' : mt_S} (hp : mt_cp S T) (h : f_X3_lastTo x0 x1 S = some (r, S')) : f_X3_lastTo x0 x1 (mt_ov S T) = some (r, mt_ov S' T) ∧ mt_cp S' T := by
  unfold f_X3_lastTo at h ⊢
  obtain ⟨hg, h⟩ := mt_gd h
  refine ov_t (ov_K hp hg) ?_
  exact ov_X3_lastTo_L7 1000 _ _ _ _ _ hp h
def f_X3_nextFrom_L2s (rc : Nat → Int64 → Int32 → mt_S → Option (Int64 × mt_S)) (x0 : Nat) (x1 : Int64) (x3 : Int32) (S : mt_S) : Option (Int64 × mt_S) :=
  Option.bind (mt_rI S x0 3 3) fun v1 =>
  if v1 ≤ x3 then
   some ((-1), S)
  else
   Option.bind (mt_rR S x0 3 0) fun v2 =>
   Option.bind (mt_aL S v2 x3) fun v3 =>
   if v3 < x1 then
    rc x0 x1 (x3 + 1) S
   else
    Option.bind (mt_rR S x0 3 0) fun v4 =>
    Option.bind (mt_aL S v4 x3) fun v5 =>
    some (v5, S)
def f_X3_nextFrom_L2 : Nat → Nat → Int64 → Int32 → mt_S → Option (Int64 × mt_S)
  | 0 => fun _ _ _ _ => none
  | n + 1 => f_X3_nextFrom_L2s (f_X3_nextFrom_L2 n)
set_option maxHeartbeats 4000000 in
set_option maxRecDepth 100000 in
theorem m_X3_nextFrom_L2 {B : mt_B} {E : mt_E} {r : Int64} {S' : mt_S} (hC : mt_Cx B E cX3_nextFrom RX3 (some .long) 4 1 0 0) (hE : mt_End B E (0, 0) (some (.long r)) S') : ∀ (n : Nat) (x0 : Nat) (x1 : Int64) (x3 : Int32) (S : mt_S), f_X3_nextFrom_L2 n x0 x1 x3 S = some (r, S') → mt_Go B E (0, 0) S 2 [(0, mt_rf B x0), (1, .long x1), (3, .int x3)] [] := by
  intro n
  induction n with
  | zero =>
    intro x0 x1 x3 S h
    cases h
  | succ n ih =>
    intro x0 x1 x3 S h
    have h : f_X3_nextFrom_L2s (f_X3_nextFrom_L2 n) x0 x1 x3 S = some (r, S') := h
    unfold f_X3_nextFrom_L2s at h
    refine go_iload_n hC 2 dX3_nextFrom_2 rfl rfl ?_
    refine go_aload_n hC 0 dX3_nextFrom_3 rfl rfl ?_
    obtain ⟨v1, e1, h⟩ := mt_ob h
    refine go_getI hC mt_flX3_22 e1 dX3_nextFrom_4 ?_
    refine go_icmp_ge hC (tgt := 34) dX3_nextFrom_7 (by decide) (fun hc => ?_) (fun hc => ?_)
    · have h := mt_ip h hc
      refine go_ldc2 hC dX3_nextFrom_34 mt_kX3_34 ?_
      exact go_lret hC (mt_rel h hE) dX3_nextFrom_37
    · have h := mt_in' h hc
      refine go_aload_n hC 0 dX3_nextFrom_10 rfl rfl ?_
      obtain ⟨v2, e2, h⟩ := mt_ob h
      refine go_getR hC mt_flX3_9 e2 dX3_nextFrom_11 ?_
      refine go_iload_n hC 2 dX3_nextFrom_14 rfl rfl ?_
      obtain ⟨v3, e3, h⟩ := mt_ob h
      refine go_lald hC e3 dX3_nextFrom_15 ?_
      refine go_lload_n hC 1 dX3_nextFrom_16 rfl rfl ?_
      refine go_lcmp_lt hC (tgt := 28) dX3_nextFrom_17 dX3_nextFrom_18 (by decide) (fun hc => ?_) (fun hc => ?_)
      · have h := mt_ip h hc
        refine go_iinc hC 2 [1, 2, 0] (v := x3 + 1) (lv1 := [(0, mt_rf B x0), (1, .long x1), (3, .int (x3 + 1))]) dX3_nextFrom_28 rfl rfl (by decide) rfl ?_
        refine go_goto hC (tgt := 2) dX3_nextFrom_31 (by decide) ?_
        exact ih _ _ _ _ h
      · have h := mt_in' h hc
        refine go_aload_n hC 0 dX3_nextFrom_21 rfl rfl ?_
        obtain ⟨v4, e4, h⟩ := mt_ob h
        refine go_getR hC mt_flX3_9 e4 dX3_nextFrom_22 ?_
        refine go_iload_n hC 2 dX3_nextFrom_25 rfl rfl ?_
        obtain ⟨v5, e5, h⟩ := mt_ob h
        refine go_lald hC e5 dX3_nextFrom_26 ?_
        exact go_lret hC (mt_rel h hE) dX3_nextFrom_27
set_option maxHeartbeats 4000000 in
set_option maxRecDepth 100000 in
theorem ov_X3_nextFrom_L2 {T : mt_S} {r : Int64} {S' : mt_S} : ∀ (n : Nat) (x0 : Nat) (x1 : Int64) (x3 : Int32) (S : mt_S), mt_cp S T → f_X3_nextFrom_L2 n x0 x1 x3 S = some (r, S') → f_X3_nextFrom_L2 n x0 x1 x3 (mt_ov S T) = some (r, mt_ov S' T) ∧ mt_cp S' T := by
  intro n
  induction n with
  | zero =>
    intro x0 x1 x3 S hp h
    cases h
  | succ n ih =>
    intro x0 x1 x3 S hp h
    have h : f_X3_nextFrom_L2s (f_X3_nextFrom_L2 n) x0 x1 x3 S = some (r, S') := h
    show f_X3_nextFrom_L2s (f_X3_nextFrom_L2 n) x0 x1 x3 (mt_ov S T) = some (r, mt_ov S' T) ∧ mt_cp S' T
    unfold f_X3_nextFrom_L2s at h ⊢
    obtain ⟨v1, e1, h⟩ := mt_ob h
    refine ov_b (ov_rI hp e1) ?_
    by_cases hc : v1 ≤ x3
    · have h := mt_ip h hc
      refine ov_t hc ?_
      exact ov_ret hp h
    · have h := mt_in' h hc
      refine ov_f hc ?_
      obtain ⟨v2, e2, h⟩ := mt_ob h
      refine ov_b (ov_rR hp e2) ?_
      obtain ⟨v3, e3, h⟩ := mt_ob h
      refine ov_b (ov_aL hp e3) ?_
      by_cases hc : v3 < x1
      · have h := mt_ip h hc
        refine ov_t hc ?_
        exact ih _ _ _ _ hp h
      · have h := mt_in' h hc
        refine ov_f hc ?_
        obtain ⟨v4, e4, h⟩ := mt_ob h
        refine ov_b (ov_rR hp e4) ?_
        obtain ⟨v5, e5, h⟩ := mt_ob h
        refine ov_b (ov_aL hp e5) ?_
        exact ov_ret hp h
def f_X3_nextFrom (x0 : Nat) (x1 : Int64) (S : mt_S) : Option (Int64 × mt_S) :=
  if mt_isK S x0 3 = true then
   f_X3_nextFrom_L2 1000 x0 x1 0 S
  else none
theorem k_X3_nextFrom {x0 : Nat} {x1 : Int64} {S : mt_S} {r : Int64} {S' : mt_S} (h : f_X3_nextFrom x0 x1 S = some (r, S')) : mt_isK S x0 3 = true := by
  unfold f_X3_nextFrom at h
  exact (mt_gd h).1
set_option maxHeartbeats 4000000 in
set_option maxRecDepth 100000 in
theorem m_X3_nextFrom {B : mt_B}  {x0 : Nat} {x1 : Int64} {S : mt_S} {r : Int64} {S' : mt_S} (h : f_X3_nextFrom x0 x1 S = some (r, S')) : mt_M B yX3_nextFrom cX3_nextFrom 4 (some .long) 1 [mt_rf B x0, .long x1] S (some (.long r)) S' := by
  unfold f_X3_nextFrom at h
  refine mt_M.of (by decide) (Nat.le_of_ble_eq_true rfl) (fun E hC hE => ?_)
  obtain ⟨hk0, h⟩ := mt_gd h
  refine go_iconst (v := 0) hC dX3_nextFrom_0 (by decide) ?_
  refine go_istore_n hC [1, 2, 0] (lv1 := [(0, mt_rf B x0), (1, .long x1), (3, .int 0)]) dX3_nextFrom_1 rfl (by decide) rfl ?_
  exact m_X3_nextFrom_L2 hC hE 1000 _ _ _ _ h
set_option maxHeartbeats 4000000 in
set_option maxRecDepth 100000 in
theorem ov_X3_nextFrom {T : mt_S}  {x0 : Nat} {x1 : Int64} {S : mt_S} {r : Int64} {S' : mt_S} (hp : mt_cp S T) (h : f_X3_nextFrom x0 x1 S = some (r, S')) : f_X3_nextFrom x0 x1 (mt_ov S T) = some (r, mt_ov S' T) ∧ mt_cp S' T := by
  unfold f_X3_nextFrom at h ⊢
  obtain ⟨hg, h⟩ := mt_gd h
  refine ov_t (ov_K hp hg) ?_
  exact ov_X3_nextFrom_L2 1000 _ _ _ _ hp h
def f_X5_place (x0 : Nat) (S : mt_S) : Option (Nat × mt_S) :=
  if mt_isK S x0 5 = true then
   Option.bind (mt_rR S x0 5 0) fun v1 =>
   some (v1, S)
  else none
theorem k_X5_place {x0 : Nat} {S : mt_S} {r : Nat} {S' : mt_S} (h : f_X5_place x0 S = some (r, S')) : mt_isK S x0 5 = true := by
  unfold f_X5_place at h
  exact (mt_gd h).1
set_option maxHeartbeats 4000000 in
set_option maxRecDepth 100000 in
theorem m_X5_place {B : mt_B}  {x0 : Nat} {S : mt_S} {r : Nat} {S' : mt_S} (h : f_X5_place x0 S = some (r, S')) : mt_M B yX5_place cX5_place 1 (some (.object "MarkovTree$Place")) 1 [mt_rf B x0] S (some (mt_rf B r)) S' := by
  unfold f_X5_place at h
  refine mt_M.of (by decide) (Nat.le_of_ble_eq_true rfl) (fun E hC hE => ?_)
  obtain ⟨hk0, h⟩ := mt_gd h
  refine go_aload_n hC 0 dX5_place_0 rfl rfl ?_
  obtain ⟨v1, e1, h⟩ := mt_ob h
  refine go_getR hC mt_flX5_12 e1 dX5_place_1 ?_
  exact go_aret hC (Or.inr ⟨_, rfl⟩) (mt_rer h hE) dX5_place_4
set_option maxHeartbeats 4000000 in
set_option maxRecDepth 100000 in
theorem ov_X5_place {T : mt_S}  {x0 : Nat} {S : mt_S} {r : Nat} {S' : mt_S} (hp : mt_cp S T) (h : f_X5_place x0 S = some (r, S')) : f_X5_place x0 (mt_ov S T) = some (r, mt_ov S' T) ∧ mt_cp S' T := by
  unfold f_X5_place at h ⊢
  obtain ⟨hg, h⟩ := mt_gd h
  refine ov_t (ov_K hp hg) ?_
  obtain ⟨v1, e1, h⟩ := mt_ob h
  refine ov_b (ov_rR hp e1) ?_
  exact ov_ret hp h
def f_X5_marks (x0 : Nat) (S : mt_S) : Option (Nat × mt_S) :=
  if mt_isK S x0 5 = true then
   Option.bind (mt_rR S x0 5 1) fun v1 =>
   some (v1, S)
  else none
theorem k_X5_marks {x0 : Nat} {S : mt_S} {r : Nat} {S' : mt_S} (h : f_X5_marks x0 S = some (r, S')) : mt_isK S x0 5 = true := by
  unfold f_X5_marks at h
  exact (mt_gd h).1
set_option maxHeartbeats 4000000 in
set_option maxRecDepth 100000 in
theorem m_X5_marks {B : mt_B}  {x0 : Nat} {S : mt_S} {r : Nat} {S' : mt_S} (h : f_X5_marks x0 S = some (r, S')) : mt_M B yX5_marks cX5_marks 1 (some (.object "MarkovTree$Marks")) 1 [mt_rf B x0] S (some (mt_rf B r)) S' := by
  unfold f_X5_marks at h
  refine mt_M.of (by decide) (Nat.le_of_ble_eq_true rfl) (fun E hC hE => ?_)
  obtain ⟨hk0, h⟩ := mt_gd h
  refine go_aload_n hC 0 dX5_marks_0 rfl rfl ?_
  obtain ⟨v1, e1, h⟩ := mt_ob h
  refine go_getR hC mt_flX5_21 e1 dX5_marks_1 ?_
  exact go_aret hC (Or.inr ⟨_, rfl⟩) (mt_rer h hE) dX5_marks_4
set_option maxHeartbeats 4000000 in
set_option maxRecDepth 100000 in
theorem ov_X5_marks {T : mt_S}  {x0 : Nat} {S : mt_S} {r : Nat} {S' : mt_S} (hp : mt_cp S T) (h : f_X5_marks x0 S = some (r, S')) : f_X5_marks x0 (mt_ov S T) = some (r, mt_ov S' T) ∧ mt_cp S' T := by
  unfold f_X5_marks at h ⊢
  obtain ⟨hg, h⟩ := mt_gd h
  refine ov_t (ov_K hp hg) ?_
  obtain ⟨v1, e1, h⟩ := mt_ob h
  refine ov_b (ov_rR hp e1) ?_
  exact ov_ret hp h
def f_X5_isMarked (x0 : Nat) (S : mt_S) : Option (Int32 × mt_S) :=
  if mt_isK S x0 5 = true then
   Option.bind (mt_rR S x0 5 1) fun v1 =>
   Option.bind (mt_rR S x0 5 0) fun v2 =>
   mt_b2 (f_X4_p v2 S) fun v4 S3 =>
   Option.bind (mt_rR S3 x0 5 0) fun v5 =>
   mt_b2 (f_X4_q v5 S3) fun v7 S6 =>
   mt_b2 (f_X3_indexOf v1 v4 v7 S6) fun v9 S8 =>
   if v9 = (-1) then
    some (0, S8)
   else
    some (1, S8)
  else none
theorem k_X5_isMarked {x0 : Nat} {S : mt_S} {r : Int32} {S' : mt_S} (h : f_X5_isMarked x0 S = some (r, S')) : mt_isK S x0 5 = true := by
  unfold f_X5_isMarked at h
  exact (mt_gd h).1
set_option maxHeartbeats 4000000 in
set_option maxRecDepth 100000 in
theorem m_X5_isMarked {B : mt_B}  {x0 : Nat} {S : mt_S} {r : Int32} {S' : mt_S} (h : f_X5_isMarked x0 S = some (r, S')) : mt_M B yX5_isMarked cX5_isMarked 1 (some .boolean) 2 [mt_rf B x0] S (some (.int r)) S' := by
  unfold f_X5_isMarked at h
  refine mt_M.of (by decide) (Nat.le_of_ble_eq_true rfl) (fun E hC hE => ?_)
  obtain ⟨hk0, h⟩ := mt_gd h
  refine go_aload_n hC 0 dX5_isMarked_0 rfl rfl ?_
  obtain ⟨v1, e1, h⟩ := mt_ob h
  refine go_getR hC mt_flX5_21 e1 dX5_isMarked_1 ?_
  refine go_aload_n hC 0 dX5_isMarked_4 rfl rfl ?_
  obtain ⟨v2, e2, h⟩ := mt_ob h
  refine go_getR hC mt_flX5_12 e2 dX5_isMarked_5 ?_
  obtain ⟨v4, S3, e4, h⟩ := mt_ob2 h
  refine go_callVi hC [] [mt_rf B v1] (m_X4_p e4) mt_cvX5_25 (k_X4_p e4) dX5_isMarked_8 rfl rfl (by decide) (Nat.le_of_ble_eq_true rfl) ⟨Nat.le_refl _, Nat.le_refl _⟩ ?_
  refine go_aload_n hC 0 dX5_isMarked_11 rfl rfl ?_
  obtain ⟨v5, e5, h⟩ := mt_ob h
  refine go_getR hC mt_flX5_12 e5 dX5_isMarked_12 ?_
  obtain ⟨v7, S6, e7, h⟩ := mt_ob2 h
  refine go_callVi hC [] [.int v4, mt_rf B v1] (m_X4_q e7) mt_cvX5_29 (k_X4_q e7) dX5_isMarked_15 rfl rfl (by decide) (Nat.le_of_ble_eq_true rfl) ⟨Nat.le_refl _, Nat.le_refl _⟩ ?_
  obtain ⟨v9, S8, e9, h⟩ := mt_ob2 h
  refine go_callVi hC [.int v4, .int v7] [] (m_X3_indexOf e9) mt_cvX5_32 (k_X3_indexOf e9) dX5_isMarked_18 rfl rfl (by decide) (Nat.le_of_ble_eq_true rfl) ⟨Nat.le_refl _, Nat.le_refl _⟩ ?_
  refine go_iconst (v := (-1)) hC dX5_isMarked_21 (by decide) ?_
  refine go_icmp_eq hC (tgt := 29) dX5_isMarked_22 (by decide) (fun hc => ?_) (fun hc => ?_)
  · have h := mt_ip h hc
    refine go_iconst (v := 0) hC dX5_isMarked_29 (by decide) ?_
    exact go_zret hC (mt_rei h hE) (Or.inl rfl) dX5_isMarked_30
  · have h := mt_in' h hc
    refine go_iconst (v := 1) hC dX5_isMarked_25 (by decide) ?_
    refine go_goto hC (tgt := 30) dX5_isMarked_26 (by decide) ?_
    exact go_zret hC (mt_rei h hE) (Or.inr rfl) dX5_isMarked_30
set_option maxHeartbeats 4000000 in
set_option maxRecDepth 100000 in
theorem ov_X5_isMarked {T : mt_S}  {x0 : Nat} {S : mt_S} {r : Int32} {S' : mt_S} (hp : mt_cp S T) (h : f_X5_isMarked x0 S = some (r, S')) : f_X5_isMarked x0 (mt_ov S T) = some (r, mt_ov S' T) ∧ mt_cp S' T := by
  unfold f_X5_isMarked at h ⊢
  obtain ⟨hg, h⟩ := mt_gd h
  refine ov_t (ov_K hp hg) ?_
  obtain ⟨v1, e1, h⟩ := mt_ob h
  refine ov_b (ov_rR hp e1) ?_
  obtain ⟨v2, e2, h⟩ := mt_ob h
  refine ov_b (ov_rR hp e2) ?_
  obtain ⟨v4, S3, e4, h⟩ := mt_ob2 h
  obtain ⟨o_, hp⟩ := ov_X4_p hp e4
  refine ov_b2 o_ ?_
  obtain ⟨v5, e5, h⟩ := mt_ob h
  refine ov_b (ov_rR hp e5) ?_
  obtain ⟨v7, S6, e7, h⟩ := mt_ob2 h
  obtain ⟨o_, hp⟩ := ov_X4_q hp e7
  refine ov_b2 o_ ?_
  obtain ⟨v9, S8, e9, h⟩ := mt_ob2 h
  obtain ⟨o_, hp⟩ := ov_X3_indexOf hp e9
  refine ov_b2 o_ ?_
  by_cases hc : v9 = (-1)
  · have h := mt_ip h hc
    refine ov_t hc ?_
    exact ov_ret hp h
  · have h := mt_in' h hc
    refine ov_f hc ?_
    exact ov_ret hp h
