def f_X4_goHome (x0 : Nat) (S : mt_S) : Option (mt_S) :=
  if mt_isK S x0 4 = true then
   Option.bind (mt_wI S x0 4 0 0) fun S1 =>
   Option.bind (mt_wI S1 x0 4 1 1) fun S2 =>
   Option.bind (mt_wI S2 x0 4 2 1) fun S3 =>
   Option.bind (mt_wI S3 x0 4 3 0) fun S4 =>
   Option.bind (mt_wI S4 x0 4 4 0) fun S5 =>
   some S5
  else none
theorem k_X4_goHome {x0 : Nat} {S : mt_S} {S' : mt_S} (h : f_X4_goHome x0 S = some S') : mt_isK S x0 4 = true := by
  unfold f_X4_goHome at h
  exact (mt_gd h).1
set_option maxHeartbeats 4000000 in
set_option maxRecDepth 100000 in
theorem m_X4_goHome {B : mt_B}  {x0 : Nat} {S : mt_S} {S' : mt_S} (h : f_X4_goHome x0 S = some S') : mt_M B yX4_goHome cX4_goHome 1 none 1 [mt_rf B x0] S none S' := by
  unfold f_X4_goHome at h
  refine mt_M.of (by decide) (Nat.le_of_ble_eq_true rfl) (fun E hC hE => ?_)
  obtain ⟨hk0, h⟩ := mt_gd h
  refine go_aload_n hC 0 dX4_goHome_0 rfl rfl ?_
  refine go_iconst (v := 0) hC dX4_goHome_1 (by decide) ?_
  obtain ⟨S1, e1, h⟩ := mt_ob h
  refine go_putI hC mt_flX4_14 e1 dX4_goHome_2 ?_
  refine go_aload_n hC 0 dX4_goHome_5 rfl rfl ?_
  refine go_iconst (v := 1) hC dX4_goHome_6 (by decide) ?_
  obtain ⟨S2, e2, h⟩ := mt_ob h
  refine go_putI hC mt_flX4_18 e2 dX4_goHome_7 ?_
  refine go_aload_n hC 0 dX4_goHome_10 rfl rfl ?_
  refine go_iconst (v := 1) hC dX4_goHome_11 (by decide) ?_
  obtain ⟨S3, e3, h⟩ := mt_ob h
  refine go_putI hC mt_flX4_21 e3 dX4_goHome_12 ?_
  refine go_aload_n hC 0 dX4_goHome_15 rfl rfl ?_
  refine go_iconst (v := 0) hC dX4_goHome_16 (by decide) ?_
  obtain ⟨S4, e4, h⟩ := mt_ob h
  refine go_putI hC mt_flX4_24 e4 dX4_goHome_17 ?_
  refine go_aload_n hC 0 dX4_goHome_20 rfl rfl ?_
  refine go_iconst (v := 0) hC dX4_goHome_21 (by decide) ?_
  obtain ⟨S5, e5, h⟩ := mt_ob h
  refine go_putI hC mt_flX4_27 e5 dX4_goHome_22 ?_
  exact go_vret hC (mt_rev h hE) dX4_goHome_25
set_option maxHeartbeats 4000000 in
set_option maxRecDepth 100000 in
theorem ov_X4_goHome {T : mt_S}  {x0 : Nat} {S : mt_S} {S' : mt_S} (hp : mt_cp S T) (h : f_X4_goHome x0 S = some S') : f_X4_goHome x0 (mt_ov S T) = some (mt_ov S' T) ∧ mt_cp S' T := by
  unfold f_X4_goHome at h ⊢
  obtain ⟨hg, h⟩ := mt_gd h
  refine ov_t (ov_K hp hg) ?_
  obtain ⟨S1, e1, h⟩ := mt_ob h
  obtain ⟨o_, hp⟩ := ov_wI hp e1
  refine ov_b o_ ?_
  obtain ⟨S2, e2, h⟩ := mt_ob h
  obtain ⟨o_, hp⟩ := ov_wI hp e2
  refine ov_b o_ ?_
  obtain ⟨S3, e3, h⟩ := mt_ob h
  obtain ⟨o_, hp⟩ := ov_wI hp e3
  refine ov_b o_ ?_
  obtain ⟨S4, e4, h⟩ := mt_ob h
  obtain ⟨o_, hp⟩ := ov_wI hp e4
  refine ov_b o_ ?_
  obtain ⟨S5, e5, h⟩ := mt_ob h
  obtain ⟨o_, hp⟩ := ov_wI hp e5
  refine ov_b o_ ?_
  exact ov_retv hp h
def f_X4_copyFrom (x0 : Nat) (x1 : Nat) (S : mt_S) : Option (mt_S) :=
  if mt_isK S x0 4 = true then
   Option.bind (mt_rI S x1 4 0) fun v1 =>
   Option.bind (mt_wI S x0 4 0 v1) fun S2 =>
   Option.bind (mt_rI S2 x1 4 1) fun v3 =>
   Option.bind (mt_wI S2 x0 4 1 v3) fun S4 =>
   Option.bind (mt_rI S4 x1 4 2) fun v5 =>
   Option.bind (mt_wI S4 x0 4 2 v5) fun S6 =>
   Option.bind (mt_rI S6 x1 4 3) fun v7 =>
   Option.bind (mt_wI S6 x0 4 3 v7) fun S8 =>
   Option.bind (mt_rI S8 x1 4 4) fun v9 =>
   Option.bind (mt_wI S8 x0 4 4 v9) fun S10 =>
   some S10
  else none
theorem k_X4_copyFrom {x0 : Nat} {x1 : Nat} {S : mt_S} {S' : mt_S} (h : f_X4_copyFrom x0 x1 S = some S') : mt_isK S x0 4 = true := by
  unfold f_X4_copyFrom at h
  exact (mt_gd h).1
set_option maxHeartbeats 4000000 in
set_option maxRecDepth 100000 in
theorem m_X4_copyFrom {B : mt_B}  {x0 : Nat} {x1 : Nat} {S : mt_S} {S' : mt_S} (h : f_X4_copyFrom x0 x1 S = some S') : mt_M B yX4_copyFrom cX4_copyFrom 2 none 1 [mt_rf B x0, mt_rf B x1] S none S' := by
  unfold f_X4_copyFrom at h
  refine mt_M.of (by decide) (Nat.le_of_ble_eq_true rfl) (fun E hC hE => ?_)
  obtain ⟨hk0, h⟩ := mt_gd h
  refine go_aload_n hC 0 dX4_copyFrom_0 rfl rfl ?_
  refine go_aload_n hC 1 dX4_copyFrom_1 rfl rfl ?_
  obtain ⟨v1, e1, h⟩ := mt_ob h
  refine go_getI hC mt_flX4_14 e1 dX4_copyFrom_2 ?_
  obtain ⟨S2, e2, h⟩ := mt_ob h
  refine go_putI hC mt_flX4_14 e2 dX4_copyFrom_5 ?_
  refine go_aload_n hC 0 dX4_copyFrom_8 rfl rfl ?_
  refine go_aload_n hC 1 dX4_copyFrom_9 rfl rfl ?_
  obtain ⟨v3, e3, h⟩ := mt_ob h
  refine go_getI hC mt_flX4_18 e3 dX4_copyFrom_10 ?_
  obtain ⟨S4, e4, h⟩ := mt_ob h
  refine go_putI hC mt_flX4_18 e4 dX4_copyFrom_13 ?_
  refine go_aload_n hC 0 dX4_copyFrom_16 rfl rfl ?_
  refine go_aload_n hC 1 dX4_copyFrom_17 rfl rfl ?_
  obtain ⟨v5, e5, h⟩ := mt_ob h
  refine go_getI hC mt_flX4_21 e5 dX4_copyFrom_18 ?_
  obtain ⟨S6, e6, h⟩ := mt_ob h
  refine go_putI hC mt_flX4_21 e6 dX4_copyFrom_21 ?_
  refine go_aload_n hC 0 dX4_copyFrom_24 rfl rfl ?_
  refine go_aload_n hC 1 dX4_copyFrom_25 rfl rfl ?_
  obtain ⟨v7, e7, h⟩ := mt_ob h
  refine go_getI hC mt_flX4_24 e7 dX4_copyFrom_26 ?_
  obtain ⟨S8, e8, h⟩ := mt_ob h
  refine go_putI hC mt_flX4_24 e8 dX4_copyFrom_29 ?_
  refine go_aload_n hC 0 dX4_copyFrom_32 rfl rfl ?_
  refine go_aload_n hC 1 dX4_copyFrom_33 rfl rfl ?_
  obtain ⟨v9, e9, h⟩ := mt_ob h
  refine go_getI hC mt_flX4_27 e9 dX4_copyFrom_34 ?_
  obtain ⟨S10, e10, h⟩ := mt_ob h
  refine go_putI hC mt_flX4_27 e10 dX4_copyFrom_37 ?_
  exact go_vret hC (mt_rev h hE) dX4_copyFrom_40
set_option maxHeartbeats 4000000 in
set_option maxRecDepth 100000 in
theorem ov_X4_copyFrom {T : mt_S}  {x0 : Nat} {x1 : Nat} {S : mt_S} {S' : mt_S} (hp : mt_cp S T) (h : f_X4_copyFrom x0 x1 S = some S') : f_X4_copyFrom x0 x1 (mt_ov S T) = some (mt_ov S' T) ∧ mt_cp S' T := by
  unfold f_X4_copyFrom at h ⊢
  obtain ⟨hg, h⟩ := mt_gd h
  refine ov_t (ov_K hp hg) ?_
  obtain ⟨v1, e1, h⟩ := mt_ob h
  refine ov_b (ov_rI hp e1) ?_
  obtain ⟨S2, e2, h⟩ := mt_ob h
  obtain ⟨o_, hp⟩ := ov_wI hp e2
  refine ov_b o_ ?_
  obtain ⟨v3, e3, h⟩ := mt_ob h
  refine ov_b (ov_rI hp e3) ?_
  obtain ⟨S4, e4, h⟩ := mt_ob h
  obtain ⟨o_, hp⟩ := ov_wI hp e4
  refine ov_b o_ ?_
  obtain ⟨v5, e5, h⟩ := mt_ob h
  refine ov_b (ov_rI hp e5) ?_
  obtain ⟨S6, e6, h⟩ := mt_ob h
  obtain ⟨o_, hp⟩ := ov_wI hp e6
  refine ov_b o_ ?_
  obtain ⟨v7, e7, h⟩ := mt_ob h
  refine ov_b (ov_rI hp e7) ?_
  obtain ⟨S8, e8, h⟩ := mt_ob h
  obtain ⟨o_, hp⟩ := ov_wI hp e8
  refine ov_b o_ ?_
  obtain ⟨v9, e9, h⟩ := mt_ob h
  refine ov_b (ov_rI hp e9) ?_
  obtain ⟨S10, e10, h⟩ := mt_ob h
  obtain ⟨o_, hp⟩ := ov_wI hp e10
  refine ov_b o_ ?_
  exact ov_retv hp h
def f_X4_lowP (x0 : Nat) (S : mt_S) : Option (Int32 × mt_S) :=
  if mt_isK S x0 4 = true then
   Option.bind (mt_rI S x0 4 0) fun v1 =>
   some (v1, S)
  else none
theorem k_X4_lowP {x0 : Nat} {S : mt_S} {r : Int32} {S' : mt_S} (h : f_X4_lowP x0 S = some (r, S')) : mt_isK S x0 4 = true := by
  unfold f_X4_lowP at h
  exact (mt_gd h).1
set_option maxHeartbeats 4000000 in
set_option maxRecDepth 100000 in
theorem m_X4_lowP {B : mt_B}  {x0 : Nat} {S : mt_S} {r : Int32} {S' : mt_S} (h : f_X4_lowP x0 S = some (r, S')) : mt_M B yX4_lowP cX4_lowP 1 (some .int) 1 [mt_rf B x0] S (some (.int r)) S' := by
  unfold f_X4_lowP at h
  refine mt_M.of (by decide) (Nat.le_of_ble_eq_true rfl) (fun E hC hE => ?_)
  obtain ⟨hk0, h⟩ := mt_gd h
  refine go_aload_n hC 0 dX4_lowP_0 rfl rfl ?_
  obtain ⟨v1, e1, h⟩ := mt_ob h
  refine go_getI hC mt_flX4_14 e1 dX4_lowP_1 ?_
  exact go_iret hC (mt_rei h hE) dX4_lowP_4
set_option maxHeartbeats 4000000 in
set_option maxRecDepth 100000 in
theorem ov_X4_lowP {T : mt_S}  {x0 : Nat} {S : mt_S} {r : Int32} {S' : mt_S} (hp : mt_cp S T) (h : f_X4_lowP x0 S = some (r, S')) : f_X4_lowP x0 (mt_ov S T) = some (r, mt_ov S' T) ∧ mt_cp S' T := by
  unfold f_X4_lowP at h ⊢
  obtain ⟨hg, h⟩ := mt_gd h
  refine ov_t (ov_K hp hg) ?_
  obtain ⟨v1, e1, h⟩ := mt_ob h
  refine ov_b (ov_rI hp e1) ?_
  exact ov_ret hp h
def f_X4_lowQ (x0 : Nat) (S : mt_S) : Option (Int32 × mt_S) :=
  if mt_isK S x0 4 = true then
   Option.bind (mt_rI S x0 4 1) fun v1 =>
   some (v1, S)
  else none
theorem k_X4_lowQ {x0 : Nat} {S : mt_S} {r : Int32} {S' : mt_S} (h : f_X4_lowQ x0 S = some (r, S')) : mt_isK S x0 4 = true := by
  unfold f_X4_lowQ at h
  exact (mt_gd h).1
set_option maxHeartbeats 4000000 in
set_option maxRecDepth 100000 in
theorem m_X4_lowQ {B : mt_B}  {x0 : Nat} {S : mt_S} {r : Int32} {S' : mt_S} (h : f_X4_lowQ x0 S = some (r, S')) : mt_M B yX4_lowQ cX4_lowQ 1 (some .int) 1 [mt_rf B x0] S (some (.int r)) S' := by
  unfold f_X4_lowQ at h
  refine mt_M.of (by decide) (Nat.le_of_ble_eq_true rfl) (fun E hC hE => ?_)
  obtain ⟨hk0, h⟩ := mt_gd h
  refine go_aload_n hC 0 dX4_lowQ_0 rfl rfl ?_
  obtain ⟨v1, e1, h⟩ := mt_ob h
  refine go_getI hC mt_flX4_18 e1 dX4_lowQ_1 ?_
  exact go_iret hC (mt_rei h hE) dX4_lowQ_4
set_option maxHeartbeats 4000000 in
set_option maxRecDepth 100000 in
theorem ov_X4_lowQ {T : mt_S}  {x0 : Nat} {S : mt_S} {r : Int32} {S' : mt_S} (hp : mt_cp S T) (h : f_X4_lowQ x0 S = some (r, S')) : f_X4_lowQ x0 (mt_ov S T) = some (r, mt_ov S' T) ∧ mt_cp S' T := by
  unfold f_X4_lowQ at h ⊢
  obtain ⟨hg, h⟩ := mt_gd h
  refine ov_t (ov_K hp hg) ?_
  obtain ⟨v1, e1, h⟩ := mt_ob h
  refine ov_b (ov_rI hp e1) ?_
  exact ov_ret hp h
def f_X4_highP (x0 : Nat) (S : mt_S) : Option (Int32 × mt_S) :=
  if mt_isK S x0 4 = true then
   Option.bind (mt_rI S x0 4 2) fun v1 =>
   some (v1, S)
  else none
theorem k_X4_highP {x0 : Nat} {S : mt_S} {r : Int32} {S' : mt_S} (h : f_X4_highP x0 S = some (r, S')) : mt_isK S x0 4 = true := by
  unfold f_X4_highP at h
  exact (mt_gd h).1
set_option maxHeartbeats 4000000 in
set_option maxRecDepth 100000 in
theorem m_X4_highP {B : mt_B}  {x0 : Nat} {S : mt_S} {r : Int32} {S' : mt_S} (h : f_X4_highP x0 S = some (r, S')) : mt_M B yX4_highP cX4_highP 1 (some .int) 1 [mt_rf B x0] S (some (.int r)) S' := by
  unfold f_X4_highP at h
  refine mt_M.of (by decide) (Nat.le_of_ble_eq_true rfl) (fun E hC hE => ?_)
  obtain ⟨hk0, h⟩ := mt_gd h
  refine go_aload_n hC 0 dX4_highP_0 rfl rfl ?_
  obtain ⟨v1, e1, h⟩ := mt_ob h
  refine go_getI hC mt_flX4_21 e1 dX4_highP_1 ?_
  exact go_iret hC (mt_rei h hE) dX4_highP_4
set_option maxHeartbeats 4000000 in
set_option maxRecDepth 100000 in
theorem ov_X4_highP {T : mt_S}  {x0 : Nat} {S : mt_S} {r : Int32} {S' : mt_S} (hp : mt_cp S T) (h : f_X4_highP x0 S = some (r, S')) : f_X4_highP x0 (mt_ov S T) = some (r, mt_ov S' T) ∧ mt_cp S' T := by
  unfold f_X4_highP at h ⊢
  obtain ⟨hg, h⟩ := mt_gd h
  refine ov_t (ov_K hp hg) ?_
  obtain ⟨v1, e1, h⟩ := mt_ob h
  refine ov_b (ov_rI hp e1) ?_
  exact ov_ret hp h
def f_X4_highQ (x0 : Nat) (S : mt_S) : Option (Int32 × mt_S) :=
  if mt_isK S x0 4 = true then
   Option.bind (mt_rI S x0 4 3) fun v1 =>
   some (v1, S)
  else none
theorem k_X4_highQ {x0 : Nat} {S : mt_S} {r : Int32} {S' : mt_S} (h : f_X4_highQ x0 S = some (r, S')) : mt_isK S x0 4 = true := by
  unfold f_X4_highQ at h
  exact (mt_gd h).1
set_option maxHeartbeats 4000000 in
set_option maxRecDepth 100000 in
theorem m_X4_highQ {B : mt_B}  {x0 : Nat} {S : mt_S} {r : Int32} {S' : mt_S} (h : f_X4_highQ x0 S = some (r, S')) : mt_M B yX4_highQ cX4_highQ 1 (some .int) 1 [mt_rf B x0] S (some (.int r)) S' := by
  unfold f_X4_highQ at h
  refine mt_M.of (by decide) (Nat.le_of_ble_eq_true rfl) (fun E hC hE => ?_)
  obtain ⟨hk0, h⟩ := mt_gd h
  refine go_aload_n hC 0 dX4_highQ_0 rfl rfl ?_
  obtain ⟨v1, e1, h⟩ := mt_ob h
  refine go_getI hC mt_flX4_24 e1 dX4_highQ_1 ?_
  exact go_iret hC (mt_rei h hE) dX4_highQ_4
set_option maxHeartbeats 4000000 in
set_option maxRecDepth 100000 in
theorem ov_X4_highQ {T : mt_S}  {x0 : Nat} {S : mt_S} {r : Int32} {S' : mt_S} (hp : mt_cp S T) (h : f_X4_highQ x0 S = some (r, S')) : f_X4_highQ x0 (mt_ov S T) = some (r, mt_ov S' T) ∧ mt_cp S' T := by
  unfold f_X4_highQ at h ⊢
  obtain ⟨hg, h⟩ := mt_gd h
  refine ov_t (ov_K hp hg) ?_
  obtain ⟨v1, e1, h⟩ := mt_ob h
  refine ov_b (ov_rI hp e1) ?_
  exact ov_ret hp h
def f_X4_steps (x0 : Nat) (S : mt_S) : Option (Int32 × mt_S) :=
  if mt_isK S x0 4 = true then
   Option.bind (mt_rI S x0 4 4) fun v1 =>
   some (v1, S)
  else none
theorem k_X4_steps {x0 : Nat} {S : mt_S} {r : Int32} {S' : mt_S} (h : f_X4_steps x0 S = some (r, S')) : mt_isK S x0 4 = true := by
  unfold f_X4_steps at h
  exact (mt_gd h).1
set_option maxHeartbeats 4000000 in
set_option maxRecDepth 100000 in
theorem m_X4_steps {B : mt_B}  {x0 : Nat} {S : mt_S} {r : Int32} {S' : mt_S} (h : f_X4_steps x0 S = some (r, S')) : mt_M B yX4_steps cX4_steps 1 (some .int) 1 [mt_rf B x0] S (some (.int r)) S' := by
  unfold f_X4_steps at h
  refine mt_M.of (by decide) (Nat.le_of_ble_eq_true rfl) (fun E hC hE => ?_)
  obtain ⟨hk0, h⟩ := mt_gd h
  refine go_aload_n hC 0 dX4_steps_0 rfl rfl ?_
  obtain ⟨v1, e1, h⟩ := mt_ob h
  refine go_getI hC mt_flX4_27 e1 dX4_steps_1 ?_
  exact go_iret hC (mt_rei h hE) dX4_steps_4
set_option maxHeartbeats 4000000 in
set_option maxRecDepth 100000 in
theorem ov_X4_steps {T : mt_S}  {x0 : Nat} {S : mt_S} {r : Int32} {S' : mt_S} (hp : mt_cp S T) (h : f_X4_steps x0 S = some (r, S')) : f_X4_steps x0 (mt_ov S T) = some (r, mt_ov S' T) ∧ mt_cp S' T := by
  unfold f_X4_steps at h ⊢
  obtain ⟨hg, h⟩ := mt_gd h
  refine ov_t (ov_K hp hg) ?_
  obtain ⟨v1, e1, h⟩ := mt_ob h
  refine ov_b (ov_rI hp e1) ?_
  exact ov_ret hp h
def f_X4_p (x0 : Nat) (S : mt_S) : Option (Int32 × mt_S) :=
  if mt_isK S x0 4 = true then
   Option.bind (mt_rI S x0 4 0) fun v1 =>
   Option.bind (mt_rI S x0 4 2) fun v2 =>
   some (v1 + v2, S)
  else none
theorem k_X4_p {x0 : Nat} {S : mt_S} {r : Int32} {S' : mt_S} (h : f_X4_p x0 S = some (r, S')) : mt_isK S x0 4 = true := by
  unfold f_X4_p at h
  exact (mt_gd h).1
set_option maxHeartbeats 4000000 in
set_option maxRecDepth 100000 in
theorem m_X4_p {B : mt_B}  {x0 : Nat} {S : mt_S} {r : Int32} {S' : mt_S} (h : f_X4_p x0 S = some (r, S')) : mt_M B yX4_p cX4_p 1 (some .int) 1 [mt_rf B x0] S (some (.int r)) S' := by
  unfold f_X4_p at h
  refine mt_M.of (by decide) (Nat.le_of_ble_eq_true rfl) (fun E hC hE => ?_)
  obtain ⟨hk0, h⟩ := mt_gd h
  refine go_aload_n hC 0 dX4_p_0 rfl rfl ?_
  obtain ⟨v1, e1, h⟩ := mt_ob h
  refine go_getI hC mt_flX4_14 e1 dX4_p_1 ?_
  refine go_aload_n hC 0 dX4_p_4 rfl rfl ?_
  obtain ⟨v2, e2, h⟩ := mt_ob h
  refine go_getI hC mt_flX4_21 e2 dX4_p_5 ?_
  refine go_iadd hC dX4_p_8 ?_
  exact go_iret hC (mt_rei h hE) dX4_p_9
set_option maxHeartbeats 4000000 in
set_option maxRecDepth 100000 in
theorem ov_X4_p {T : mt_S}  {x0 : Nat} {S : mt_S} {r : Int32} {S' : mt_S} (hp : mt_cp S T) (h : f_X4_p x0 S = some (r, S')) : f_X4_p x0 (mt_ov S T) = some (r, mt_ov S' T) ∧ mt_cp S' T := by
  unfold f_X4_p at h ⊢
  obtain ⟨hg, h⟩ := mt_gd h
  refine ov_t (ov_K hp hg) ?_
  obtain ⟨v1, e1, h⟩ := mt_ob h
  refine ov_b (ov_rI hp e1) ?_
  obtain ⟨v2, e2, h⟩ := mt_ob h
  refine ov_b (ov_rI hp e2) ?_
  exact ov_ret hp h
def f_X4_q (x0 : Nat) (S : mt_S) : Option (Int32 × mt_S) :=
  if mt_isK S x0 4 = true then
   Option.bind (mt_rI S x0 4 1) fun v1 =>
   Option.bind (mt_rI S x0 4 3) fun v2 =>
   some (v1 + v2, S)
  else none
theorem k_X4_q {x0 : Nat} {S : mt_S} {r : Int32} {S' : mt_S} (h : f_X4_q x0 S = some (r, S')) : mt_isK S x0 4 = true := by
  unfold f_X4_q at h
  exact (mt_gd h).1
set_option maxHeartbeats 4000000 in
set_option maxRecDepth 100000 in
theorem m_X4_q {B : mt_B}  {x0 : Nat} {S : mt_S} {r : Int32} {S' : mt_S} (h : f_X4_q x0 S = some (r, S')) : mt_M B yX4_q cX4_q 1 (some .int) 1 [mt_rf B x0] S (some (.int r)) S' := by
  unfold f_X4_q at h
  refine mt_M.of (by decide) (Nat.le_of_ble_eq_true rfl) (fun E hC hE => ?_)
  obtain ⟨hk0, h⟩ := mt_gd h
  refine go_aload_n hC 0 dX4_q_0 rfl rfl ?_
  obtain ⟨v1, e1, h⟩ := mt_ob h
  refine go_getI hC mt_flX4_18 e1 dX4_q_1 ?_
  refine go_aload_n hC 0 dX4_q_4 rfl rfl ?_
  obtain ⟨v2, e2, h⟩ := mt_ob h
  refine go_getI hC mt_flX4_24 e2 dX4_q_5 ?_
  refine go_iadd hC dX4_q_8 ?_
  exact go_iret hC (mt_rei h hE) dX4_q_9
set_option maxHeartbeats 4000000 in
set_option maxRecDepth 100000 in
theorem ov_X4_q {T : mt_S}  {x0 : Nat} {S : mt_S} {r : Int32} {S' : mt_S} (hp : mt_cp S T) (h : f_X4_q x0 S = some (r, S')) : f_X4_q x0 (mt_ov S T) = some (r, mt_ov S' T) ∧ mt_cp S' T := by
  unfold f_X4_q at h ⊢
  obtain ⟨hg, h⟩ := mt_gd h
  refine ov_t (ov_K hp hg) ?_
  obtain ⟨v1, e1, h⟩ := mt_ob h
  refine ov_b (ov_rI hp e1) ?_
  obtain ⟨v2, e2, h⟩ := mt_ob h
  refine ov_b (ov_rI hp e2) ?_
  exact ov_ret hp h
def f_X4_together (x0 : Nat) (S : mt_S) : Option (Int32 × mt_S) :=
  if mt_isK S x0 4 = true then
   mt_b2 (f_X4_p x0 S) fun v2 S1 =>
   mt_b2 (f_X4_q x0 S1) fun v4 S3 =>
   some (v2 + v4, S3)
  else none
theorem k_X4_together {x0 : Nat} {S : mt_S} {r : Int32} {S' : mt_S} (h : f_X4_together x0 S = some (r, S')) : mt_isK S x0 4 = true := by
  unfold f_X4_together at h
  exact (mt_gd h).1
set_option maxHeartbeats 4000000 in
set_option maxRecDepth 100000 in
theorem m_X4_together {B : mt_B}  {x0 : Nat} {S : mt_S} {r : Int32} {S' : mt_S} (h : f_X4_together x0 S = some (r, S')) : mt_M B yX4_together cX4_together 1 (some .int) 2 [mt_rf B x0] S (some (.int r)) S' := by
  unfold f_X4_together at h
  refine mt_M.of (by decide) (Nat.le_of_ble_eq_true rfl) (fun E hC hE => ?_)
  obtain ⟨hk0, h⟩ := mt_gd h
  refine go_aload_n hC 0 dX4_together_0 rfl rfl ?_
  obtain ⟨v2, S1, e2, h⟩ := mt_ob2 h
  refine go_callVi hC [] [] (m_X4_p e2) mt_cvX4_30 (k_X4_p e2) dX4_together_1 rfl rfl (by decide) (Nat.le_of_ble_eq_true rfl) ⟨Nat.le_refl _, Nat.le_refl _⟩ ?_
  refine go_aload_n hC 0 dX4_together_4 rfl rfl ?_
  obtain ⟨v4, S3, e4, h⟩ := mt_ob2 h
  refine go_callVi hC [] [.int v2] (m_X4_q e4) mt_cvX4_34 (k_X4_q e4) dX4_together_5 rfl rfl (by decide) (Nat.le_of_ble_eq_true rfl) ⟨Nat.le_refl _, Nat.le_refl _⟩ ?_
  refine go_iadd hC dX4_together_8 ?_
  exact go_iret hC (mt_rei h hE) dX4_together_9
set_option maxHeartbeats 4000000 in
set_option maxRecDepth 100000 in
theorem ov_X4_together {T : mt_S}  {x0 : Nat} {S : mt_S} {r : Int32} {S' : mt_S} (hp : mt_cp S T) (h : f_X4_together x0 S = some (r, S')) : f_X4_together x0 (mt_ov S T) = some (r, mt_ov S' T) ∧ mt_cp S' T := by
  unfold f_X4_together at h ⊢
  obtain ⟨hg, h⟩ := mt_gd h
  refine ov_t (ov_K hp hg) ?_
  obtain ⟨v2, S1, e2, h⟩ := mt_ob2 h
  obtain ⟨o_, hp⟩ := ov_X4_p hp e2
  refine ov_b2 o_ ?_
  obtain ⟨v4, S3, e4, h⟩ := mt_ob2 h
  obtain ⟨o_, hp⟩ := ov_X4_q hp e4
  refine ov_b2 o_ ?_
  exact ov_ret hp h
def f_X4_isAt (x0 : Nat) (x1 : Int32) (x2 : Int32) (S : mt_S) : Option (Int32 × mt_S) :=
  if mt_isK S x0 4 = true then
   mt_b2 (f_X4_p x0 S) fun v2 S1 =>
   if x1 = v2 then
    mt_b2 (f_X4_q x0 S1) fun v4 S3 =>
    if x2 = v4 then
     some (1, S3)
    else
     some (0, S3)
   else
    some (0, S1)
  else none
theorem k_X4_isAt {x0 : Nat} {x1 : Int32} {x2 : Int32} {S : mt_S} {r : Int32} {S' : mt_S} (h : f_X4_isAt x0 x1 x2 S = some (r, S')) : mt_isK S x0 4 = true := by
  unfold f_X4_isAt at h
  exact (mt_gd h).1
set_option maxHeartbeats 4000000 in
set_option maxRecDepth 100000 in
theorem m_X4_isAt {B : mt_B}  {x0 : Nat} {x1 : Int32} {x2 : Int32} {S : mt_S} {r : Int32} {S' : mt_S} (h : f_X4_isAt x0 x1 x2 S = some (r, S')) : mt_M B yX4_isAt cX4_isAt 3 (some .boolean) 2 [mt_rf B x0, .int x1, .int x2] S (some (.int r)) S' := by
  unfold f_X4_isAt at h
  refine mt_M.of (by decide) (Nat.le_of_ble_eq_true rfl) (fun E hC hE => ?_)
  obtain ⟨hk0, h⟩ := mt_gd h
  refine go_iload_n hC 1 dX4_isAt_0 rfl rfl ?_
  refine go_aload_n hC 0 dX4_isAt_1 rfl rfl ?_
  obtain ⟨v2, S1, e2, h⟩ := mt_ob2 h
  refine go_callVi hC [] [.int x1] (m_X4_p e2) mt_cvX4_30 (k_X4_p e2) dX4_isAt_2 rfl rfl (by decide) (Nat.le_of_ble_eq_true rfl) ⟨Nat.le_refl _, Nat.le_refl _⟩ ?_
  refine go_icmp_ne hC (tgt := 20) dX4_isAt_5 (by decide) (fun hc => ?_) (fun hc => ?_)
  · have h := mt_in' h hc
    refine go_iconst (v := 0) hC dX4_isAt_20 (by decide) ?_
    exact go_zret hC (mt_rei h hE) (Or.inl rfl) dX4_isAt_21
  · have h := mt_ip h hc
    refine go_iload_n hC 2 dX4_isAt_8 rfl rfl ?_
    refine go_aload_n hC 0 dX4_isAt_9 rfl rfl ?_
    obtain ⟨v4, S3, e4, h⟩ := mt_ob2 h
    refine go_callVi hC [] [.int x2] (m_X4_q e4) mt_cvX4_34 (k_X4_q e4) dX4_isAt_10 rfl rfl (by decide) (Nat.le_of_ble_eq_true rfl) ⟨Nat.le_refl _, Nat.le_refl _⟩ ?_
    refine go_icmp_ne hC (tgt := 20) dX4_isAt_13 (by decide) (fun hc => ?_) (fun hc => ?_)
    · have h := mt_in' h hc
      refine go_iconst (v := 0) hC dX4_isAt_20 (by decide) ?_
      exact go_zret hC (mt_rei h hE) (Or.inl rfl) dX4_isAt_21
    · have h := mt_ip h hc
      refine go_iconst (v := 1) hC dX4_isAt_16 (by decide) ?_
      refine go_goto hC (tgt := 21) dX4_isAt_17 (by decide) ?_
      exact go_zret hC (mt_rei h hE) (Or.inr rfl) dX4_isAt_21
set_option maxHeartbeats 4000000 in
set_option maxRecDepth 100000 in
theorem ov_X4_isAt {T : mt_S}  {x0 : Nat} {x1 : Int32} {x2 : Int32} {S : mt_S} {r : Int32} {S' : mt_S} (hp : mt_cp S T) (h : f_X4_isAt x0 x1 x2 S = some (r, S')) : f_X4_isAt x0 x1 x2 (mt_ov S T) = some (r, mt_ov S' T) ∧ mt_cp S' T := by
  unfold f_X4_isAt at h ⊢
  obtain ⟨hg, h⟩ := mt_gd h
  refine ov_t (ov_K hp hg) ?_
  obtain ⟨v2, S1, e2, h⟩ := mt_ob2 h
  obtain ⟨o_, hp⟩ := ov_X4_p hp e2
  refine ov_b2 o_ ?_
  by_cases hc : x1 = v2
  · have h := mt_ip h hc
    refine ov_t hc ?_
    obtain ⟨v4, S3, e4, h⟩ := mt_ob2 h
    obtain ⟨o_, hp⟩ := ov_X4_q hp e4
    refine ov_b2 o_ ?_
    by_cases hc : x2 = v4
    · have h := mt_ip h hc
      refine ov_t hc ?_
      exact ov_ret hp h
    · have h := mt_in' h hc
      refine ov_f hc ?_
      exact ov_ret hp h
  · have h := mt_in' h hc
    refine ov_f hc ?_
    exact ov_ret hp h
def f_X4_stepLeft (x0 : Nat) (S : mt_S) : Option (Int32 × mt_S) :=
  if mt_isK S x0 4 = true then
   mt_b2 (f_X4_together x0 S) fun v2 S1 =>
   Option.bind (mt_rI S1 x0 4 0) fun v3 =>
   Option.bind (mt_rI S1 x0 4 1) fun v4 =>
   if ((v2 + v3) + v4) ≤ 22 then
    Option.bind (mt_rI S1 x0 4 2) fun v5 =>
    Option.bind (mt_rI S1 x0 4 0) fun v6 =>
    Option.bind (mt_wI S1 x0 4 2 (v5 + v6)) fun S7 =>
    Option.bind (mt_rI S7 x0 4 3) fun v8 =>
    Option.bind (mt_rI S7 x0 4 1) fun v9 =>
    Option.bind (mt_wI S7 x0 4 3 (v8 + v9)) fun S10 =>
    Option.bind (mt_rI S10 x0 4 4) fun v11 =>
    Option.bind (mt_wI S10 x0 4 4 (v11 + 1)) fun S12 =>
    some (1, S12)
   else
    some (0, S1)
  else none
theorem k_X4_stepLeft {x0 : Nat} {S : mt_S} {r : Int32} {S' : mt_S} (h : f_X4_stepLeft x0 S = some (r, S')) : mt_isK S x0 4 = true := by
  unfold f_X4_stepLeft at h
  exact (mt_gd h).1
set_option maxHeartbeats 4000000 in
set_option maxRecDepth 100000 in
theorem m_X4_stepLeft {B : mt_B}  {x0 : Nat} {S : mt_S} {r : Int32} {S' : mt_S} (h : f_X4_stepLeft x0 S = some (r, S')) : mt_M B yX4_stepLeft cX4_stepLeft 1 (some .boolean) 3 [mt_rf B x0] S (some (.int r)) S' := by
  unfold f_X4_stepLeft at h
  refine mt_M.of (by decide) (Nat.le_of_ble_eq_true rfl) (fun E hC hE => ?_)
  obtain ⟨hk0, h⟩ := mt_gd h
  refine go_aload_n hC 0 dX4_stepLeft_0 rfl rfl ?_
  obtain ⟨v2, S1, e2, h⟩ := mt_ob2 h
  refine go_callVi hC [] [] (m_X4_together e2) mt_cvX4_37 (k_X4_together e2) dX4_stepLeft_1 rfl rfl (by decide) (Nat.le_of_ble_eq_true rfl) ⟨Nat.le_refl _, Nat.le_refl _⟩ ?_
  refine go_aload_n hC 0 dX4_stepLeft_4 rfl rfl ?_
  obtain ⟨v3, e3, h⟩ := mt_ob h
  refine go_getI hC mt_flX4_14 e3 dX4_stepLeft_5 ?_
  refine go_iadd hC dX4_stepLeft_8 ?_
  refine go_aload_n hC 0 dX4_stepLeft_9 rfl rfl ?_
  obtain ⟨v4, e4, h⟩ := mt_ob h
  refine go_getI hC mt_flX4_18 e4 dX4_stepLeft_10 ?_
  refine go_iadd hC dX4_stepLeft_13 ?_
  refine go_bipush (v := 22) hC dX4_stepLeft_14 (by decide) ?_
  refine go_icmp_le hC (tgt := 21) dX4_stepLeft_16 (by decide) (fun hc => ?_) (fun hc => ?_)
  · have h := mt_ip h hc
    refine go_aload_n hC 0 dX4_stepLeft_21 rfl rfl ?_
    refine go_dup hC dX4_stepLeft_22 rfl ?_
    obtain ⟨v5, e5, h⟩ := mt_ob h
    refine go_getI hC mt_flX4_21 e5 dX4_stepLeft_23 ?_
    refine go_aload_n hC 0 dX4_stepLeft_26 rfl rfl ?_
    obtain ⟨v6, e6, h⟩ := mt_ob h
    refine go_getI hC mt_flX4_14 e6 dX4_stepLeft_27 ?_
    refine go_iadd hC dX4_stepLeft_30 ?_
    obtain ⟨S7, e7, h⟩ := mt_ob h
    refine go_putI hC mt_flX4_21 e7 dX4_stepLeft_31 ?_
    refine go_aload_n hC 0 dX4_stepLeft_34 rfl rfl ?_
    refine go_dup hC dX4_stepLeft_35 rfl ?_
    obtain ⟨v8, e8, h⟩ := mt_ob h
    refine go_getI hC mt_flX4_24 e8 dX4_stepLeft_36 ?_
    refine go_aload_n hC 0 dX4_stepLeft_39 rfl rfl ?_
    obtain ⟨v9, e9, h⟩ := mt_ob h
    refine go_getI hC mt_flX4_18 e9 dX4_stepLeft_40 ?_
    refine go_iadd hC dX4_stepLeft_43 ?_
    obtain ⟨S10, e10, h⟩ := mt_ob h
    refine go_putI hC mt_flX4_24 e10 dX4_stepLeft_44 ?_
    refine go_aload_n hC 0 dX4_stepLeft_47 rfl rfl ?_
    refine go_dup hC dX4_stepLeft_48 rfl ?_
    obtain ⟨v11, e11, h⟩ := mt_ob h
    refine go_getI hC mt_flX4_27 e11 dX4_stepLeft_49 ?_
    refine go_iconst (v := 1) hC dX4_stepLeft_52 (by decide) ?_
    refine go_iadd hC dX4_stepLeft_53 ?_
    obtain ⟨S12, e12, h⟩ := mt_ob h
    refine go_putI hC mt_flX4_27 e12 dX4_stepLeft_54 ?_
    refine go_iconst (v := 1) hC dX4_stepLeft_57 (by decide) ?_
    exact go_zret hC (mt_rei h hE) (Or.inr rfl) dX4_stepLeft_58
  · have h := mt_in' h hc
    refine go_iconst (v := 0) hC dX4_stepLeft_19 (by decide) ?_
    exact go_zret hC (mt_rei h hE) (Or.inl rfl) dX4_stepLeft_20
set_option maxHeartbeats 4000000 in
set_option maxRecDepth 100000 in
theorem ov_X4_stepLeft {T : mt_S}  {x0 : Nat} {S : mt_S} {r : Int32} {S' : mt_S} (hp : mt_cp S T) (h : f_X4_stepLeft x0 S = some (r, S')) : f_X4_stepLeft x0 (mt_ov S T) = some (r, mt_ov S' T) ∧ mt_cp S' T := by
  unfold f_X4_stepLeft at h ⊢
  obtain ⟨hg, h⟩ := mt_gd h
  refine ov_t (ov_K hp hg) ?_
  obtain ⟨v2, S1, e2, h⟩ := mt_ob2 h
  obtain ⟨o_, hp⟩ := ov_X4_together hp e2
  refine ov_b2 o_ ?_
  obtain ⟨v3, e3, h⟩ := mt_ob h
  refine ov_b (ov_rI hp e3) ?_
  obtain ⟨v4, e4, h⟩ := mt_ob h
  refine ov_b (ov_rI hp e4) ?_
  by_cases hc : ((v2 + v3) + v4) ≤ 22
  · have h := mt_ip h hc
    refine ov_t hc ?_
    obtain ⟨v5, e5, h⟩ := mt_ob h
    refine ov_b (ov_rI hp e5) ?_
    obtain ⟨v6, e6, h⟩ := mt_ob h
    refine ov_b (ov_rI hp e6) ?_
    obtain ⟨S7, e7, h⟩ := mt_ob h
    obtain ⟨o_, hp⟩ := ov_wI hp e7
    refine ov_b o_ ?_
    obtain ⟨v8, e8, h⟩ := mt_ob h
    refine ov_b (ov_rI hp e8) ?_
    obtain ⟨v9, e9, h⟩ := mt_ob h
    refine ov_b (ov_rI hp e9) ?_
    obtain ⟨S10, e10, h⟩ := mt_ob h
    obtain ⟨o_, hp⟩ := ov_wI hp e10
    refine ov_b o_ ?_
    obtain ⟨v11, e11, h⟩ := mt_ob h
    refine ov_b (ov_rI hp e11) ?_
    obtain ⟨S12, e12, h⟩ := mt_ob h
    obtain ⟨o_, hp⟩ := ov_wI hp e12
    refine ov_b o_ ?_
    exact ov_ret hp h
  · have h := mt_in' h hc
    refine ov_f hc ?_
    exact ov_ret hp h
def f_X4_stepRight (x0 : Nat) (S : mt_S) : Option (Int32 × mt_S) :=
  if mt_isK S x0 4 = true then
   mt_b2 (f_X4_together x0 S) fun v2 S1 =>
   Option.bind (mt_rI S1 x0 4 2) fun v3 =>
   Option.bind (mt_rI S1 x0 4 3) fun v4 =>
   if ((v2 + v3) + v4) ≤ 22 then
    Option.bind (mt_rI S1 x0 4 0) fun v5 =>
    Option.bind (mt_rI S1 x0 4 2) fun v6 =>
    Option.bind (mt_wI S1 x0 4 0 (v5 + v6)) fun S7 =>
    Option.bind (mt_rI S7 x0 4 1) fun v8 =>
    Option.bind (mt_rI S7 x0 4 3) fun v9 =>
    Option.bind (mt_wI S7 x0 4 1 (v8 + v9)) fun S10 =>
    Option.bind (mt_rI S10 x0 4 4) fun v11 =>
    Option.bind (mt_wI S10 x0 4 4 (v11 + 1)) fun S12 =>
    some (1, S12)
   else
    some (0, S1)
  else none
theorem k_X4_stepRight {x0 : Nat} {S : mt_S} {r : Int32} {S' : mt_S} (h : f_X4_stepRight x0 S = some (r, S')) : mt_isK S x0 4 = true := by
  unfold f_X4_stepRight at h
  exact (mt_gd h).1
set_option maxHeartbeats 4000000 in
set_option maxRecDepth 100000 in
theorem m_X4_stepRight {B : mt_B}  {x0 : Nat} {S : mt_S} {r : Int32} {S' : mt_S} (h : f_X4_stepRight x0 S = some (r, S')) : mt_M B yX4_stepRight cX4_stepRight 1 (some .boolean) 3 [mt_rf B x0] S (some (.int r)) S' := by
  unfold f_X4_stepRight at h
  refine mt_M.of (by decide) (Nat.le_of_ble_eq_true rfl) (fun E hC hE => ?_)
  obtain ⟨hk0, h⟩ := mt_gd h
  refine go_aload_n hC 0 dX4_stepRight_0 rfl rfl ?_
  obtain ⟨v2, S1, e2, h⟩ := mt_ob2 h
  refine go_callVi hC [] [] (m_X4_together e2) mt_cvX4_37 (k_X4_together e2) dX4_stepRight_1 rfl rfl (by decide) (Nat.le_of_ble_eq_true rfl) ⟨Nat.le_refl _, Nat.le_refl _⟩ ?_
  refine go_aload_n hC 0 dX4_stepRight_4 rfl rfl ?_
  obtain ⟨v3, e3, h⟩ := mt_ob h
  refine go_getI hC mt_flX4_21 e3 dX4_stepRight_5 ?_
  refine go_iadd hC dX4_stepRight_8 ?_
  refine go_aload_n hC 0 dX4_stepRight_9 rfl rfl ?_
  obtain ⟨v4, e4, h⟩ := mt_ob h
  refine go_getI hC mt_flX4_24 e4 dX4_stepRight_10 ?_
  refine go_iadd hC dX4_stepRight_13 ?_
  refine go_bipush (v := 22) hC dX4_stepRight_14 (by decide) ?_
  refine go_icmp_le hC (tgt := 21) dX4_stepRight_16 (by decide) (fun hc => ?_) (fun hc => ?_)
  · have h := mt_ip h hc
    refine go_aload_n hC 0 dX4_stepRight_21 rfl rfl ?_
    refine go_dup hC dX4_stepRight_22 rfl ?_
    obtain ⟨v5, e5, h⟩ := mt_ob h
    refine go_getI hC mt_flX4_14 e5 dX4_stepRight_23 ?_
    refine go_aload_n hC 0 dX4_stepRight_26 rfl rfl ?_
    obtain ⟨v6, e6, h⟩ := mt_ob h
    refine go_getI hC mt_flX4_21 e6 dX4_stepRight_27 ?_
    refine go_iadd hC dX4_stepRight_30 ?_
    obtain ⟨S7, e7, h⟩ := mt_ob h
    refine go_putI hC mt_flX4_14 e7 dX4_stepRight_31 ?_
    refine go_aload_n hC 0 dX4_stepRight_34 rfl rfl ?_
    refine go_dup hC dX4_stepRight_35 rfl ?_
    obtain ⟨v8, e8, h⟩ := mt_ob h
    refine go_getI hC mt_flX4_18 e8 dX4_stepRight_36 ?_
    refine go_aload_n hC 0 dX4_stepRight_39 rfl rfl ?_
    obtain ⟨v9, e9, h⟩ := mt_ob h
    refine go_getI hC mt_flX4_24 e9 dX4_stepRight_40 ?_
    refine go_iadd hC dX4_stepRight_43 ?_
    obtain ⟨S10, e10, h⟩ := mt_ob h
    refine go_putI hC mt_flX4_18 e10 dX4_stepRight_44 ?_
    refine go_aload_n hC 0 dX4_stepRight_47 rfl rfl ?_
    refine go_dup hC dX4_stepRight_48 rfl ?_
    obtain ⟨v11, e11, h⟩ := mt_ob h
    refine go_getI hC mt_flX4_27 e11 dX4_stepRight_49 ?_
    refine go_iconst (v := 1) hC dX4_stepRight_52 (by decide) ?_
    refine go_iadd hC dX4_stepRight_53 ?_
    obtain ⟨S12, e12, h⟩ := mt_ob h
    refine go_putI hC mt_flX4_27 e12 dX4_stepRight_54 ?_
    refine go_iconst (v := 1) hC dX4_stepRight_57 (by decide) ?_
    exact go_zret hC (mt_rei h hE) (Or.inr rfl) dX4_stepRight_58
  · have h := mt_in' h hc
    refine go_iconst (v := 0) hC dX4_stepRight_19 (by decide) ?_
    exact go_zret hC (mt_rei h hE) (Or.inl rfl) dX4_stepRight_20
set_option maxHeartbeats 4000000 in
set_option maxRecDepth 100000 in
theorem ov_X4_stepRight {T : mt_S}  {x0 : Nat} {S : mt_S} {r : Int32} {S' : mt_S} (hp : mt_cp S T) (h : f_X4_stepRight x0 S = some (r, S')) : f_X4_stepRight x0 (mt_ov S T) = some (r, mt_ov S' T) ∧ mt_cp S' T := by
  unfold f_X4_stepRight at h ⊢
  obtain ⟨hg, h⟩ := mt_gd h
  refine ov_t (ov_K hp hg) ?_
  obtain ⟨v2, S1, e2, h⟩ := mt_ob2 h
  obtain ⟨o_, hp⟩ := ov_X4_together hp e2
  refine ov_b2 o_ ?_
  obtain ⟨v3, e3, h⟩ := mt_ob h
  refine ov_b (ov_rI hp e3) ?_
  obtain ⟨v4, e4, h⟩ := mt_ob h
  refine ov_b (ov_rI hp e4) ?_
  by_cases hc : ((v2 + v3) + v4) ≤ 22
  · have h := mt_ip h hc
    refine ov_t hc ?_
    obtain ⟨v5, e5, h⟩ := mt_ob h
    refine ov_b (ov_rI hp e5) ?_
    obtain ⟨v6, e6, h⟩ := mt_ob h
    refine ov_b (ov_rI hp e6) ?_
    obtain ⟨S7, e7, h⟩ := mt_ob h
    obtain ⟨o_, hp⟩ := ov_wI hp e7
    refine ov_b o_ ?_
    obtain ⟨v8, e8, h⟩ := mt_ob h
    refine ov_b (ov_rI hp e8) ?_
    obtain ⟨v9, e9, h⟩ := mt_ob h
    refine ov_b (ov_rI hp e9) ?_
    obtain ⟨S10, e10, h⟩ := mt_ob h
    obtain ⟨o_, hp⟩ := ov_wI hp e10
    refine ov_b o_ ?_
    obtain ⟨v11, e11, h⟩ := mt_ob h
    refine ov_b (ov_rI hp e11) ?_
    obtain ⟨S12, e12, h⟩ := mt_ob h
    obtain ⟨o_, hp⟩ := ov_wI hp e12
    refine ov_b o_ ?_
    exact ov_ret hp h
  · have h := mt_in' h hc
    refine ov_f hc ?_
    exact ov_ret hp h
def f_X4_stepUp (x0 : Nat) (S : mt_S) : Option (Int32 × mt_S) :=
  if mt_isK S x0 4 = true then
   Option.bind (mt_rI S x0 4 4) fun v1 =>
   if v1 = 0 then
    some (0, S)
   else
    Option.bind (mt_rI S x0 4 0) fun v2 =>
    Option.bind (mt_rI S x0 4 1) fun v3 =>
    Option.bind (mt_rI S x0 4 2) fun v4 =>
    Option.bind (mt_rI S x0 4 3) fun v5 =>
    if (v2 + v3) ≤ (v4 + v5) then
     Option.bind (mt_rI S x0 4 2) fun v6 =>
     Option.bind (mt_rI S x0 4 0) fun v7 =>
     Option.bind (mt_wI S x0 4 2 (v6 - v7)) fun S8 =>
     Option.bind (mt_rI S8 x0 4 3) fun v9 =>
     Option.bind (mt_rI S8 x0 4 1) fun v10 =>
     Option.bind (mt_wI S8 x0 4 3 (v9 - v10)) fun S11 =>
     Option.bind (mt_rI S11 x0 4 4) fun v12 =>
     Option.bind (mt_wI S11 x0 4 4 (v12 - 1)) fun S13 =>
     some (1, S13)
    else
     Option.bind (mt_rI S x0 4 0) fun v14 =>
     Option.bind (mt_rI S x0 4 2) fun v15 =>
     Option.bind (mt_wI S x0 4 0 (v14 - v15)) fun S16 =>
     Option.bind (mt_rI S16 x0 4 1) fun v17 =>
     Option.bind (mt_rI S16 x0 4 3) fun v18 =>
     Option.bind (mt_wI S16 x0 4 1 (v17 - v18)) fun S19 =>
     Option.bind (mt_rI S19 x0 4 4) fun v20 =>
     Option.bind (mt_wI S19 x0 4 4 (v20 - 1)) fun S21 =>
     some (1, S21)
  else none
theorem k_X4_stepUp {x0 : Nat} {S : mt_S} {r : Int32} {S' : mt_S} (h : f_X4_stepUp x0 S = some (r, S')) : mt_isK S x0 4 = true := by
  unfold f_X4_stepUp at h
  exact (mt_gd h).1
set_option maxHeartbeats 4000000 in
set_option maxRecDepth 100000 in
theorem m_X4_stepUp {B : mt_B}  {x0 : Nat} {S : mt_S} {r : Int32} {S' : mt_S} (h : f_X4_stepUp x0 S = some (r, S')) : mt_M B yX4_stepUp cX4_stepUp 1 (some .boolean) 1 [mt_rf B x0] S (some (.int r)) S' := by
  unfold f_X4_stepUp at h
  refine mt_M.of (by decide) (Nat.le_of_ble_eq_true rfl) (fun E hC hE => ?_)
  obtain ⟨hk0, h⟩ := mt_gd h
  refine go_aload_n hC 0 dX4_stepUp_0 rfl rfl ?_
  obtain ⟨v1, e1, h⟩ := mt_ob h
  refine go_getI hC mt_flX4_27 e1 dX4_stepUp_1 ?_
  refine go_if_ne hC (tgt := 9) dX4_stepUp_4 (by decide) (fun hc => ?_) (fun hc => ?_)
  · have h := mt_in' h hc
    refine go_aload_n hC 0 dX4_stepUp_9 rfl rfl ?_
    obtain ⟨v2, e2, h⟩ := mt_ob h
    refine go_getI hC mt_flX4_14 e2 dX4_stepUp_10 ?_
    refine go_aload_n hC 0 dX4_stepUp_13 rfl rfl ?_
    obtain ⟨v3, e3, h⟩ := mt_ob h
    refine go_getI hC mt_flX4_18 e3 dX4_stepUp_14 ?_
    refine go_iadd hC dX4_stepUp_17 ?_
    refine go_aload_n hC 0 dX4_stepUp_18 rfl rfl ?_
    obtain ⟨v4, e4, h⟩ := mt_ob h
    refine go_getI hC mt_flX4_21 e4 dX4_stepUp_19 ?_
    refine go_aload_n hC 0 dX4_stepUp_22 rfl rfl ?_
    obtain ⟨v5, e5, h⟩ := mt_ob h
    refine go_getI hC mt_flX4_24 e5 dX4_stepUp_23 ?_
    refine go_iadd hC dX4_stepUp_26 ?_
    refine go_icmp_le hC (tgt := 59) dX4_stepUp_27 (by decide) (fun hc => ?_) (fun hc => ?_)
    · have h := mt_ip h hc
      refine go_aload_n hC 0 dX4_stepUp_59 rfl rfl ?_
      refine go_dup hC dX4_stepUp_60 rfl ?_
      obtain ⟨v6, e6, h⟩ := mt_ob h
      refine go_getI hC mt_flX4_21 e6 dX4_stepUp_61 ?_
      refine go_aload_n hC 0 dX4_stepUp_64 rfl rfl ?_
      obtain ⟨v7, e7, h⟩ := mt_ob h
      refine go_getI hC mt_flX4_14 e7 dX4_stepUp_65 ?_
      refine go_isub hC dX4_stepUp_68 ?_
      obtain ⟨S8, e8, h⟩ := mt_ob h
      refine go_putI hC mt_flX4_21 e8 dX4_stepUp_69 ?_
      refine go_aload_n hC 0 dX4_stepUp_72 rfl rfl ?_
      refine go_dup hC dX4_stepUp_73 rfl ?_
      obtain ⟨v9, e9, h⟩ := mt_ob h
      refine go_getI hC mt_flX4_24 e9 dX4_stepUp_74 ?_
      refine go_aload_n hC 0 dX4_stepUp_77 rfl rfl ?_
      obtain ⟨v10, e10, h⟩ := mt_ob h
      refine go_getI hC mt_flX4_18 e10 dX4_stepUp_78 ?_
      refine go_isub hC dX4_stepUp_81 ?_
      obtain ⟨S11, e11, h⟩ := mt_ob h
      refine go_putI hC mt_flX4_24 e11 dX4_stepUp_82 ?_
      refine go_aload_n hC 0 dX4_stepUp_85 rfl rfl ?_
      refine go_dup hC dX4_stepUp_86 rfl ?_
      obtain ⟨v12, e12, h⟩ := mt_ob h
      refine go_getI hC mt_flX4_27 e12 dX4_stepUp_87 ?_
      refine go_iconst (v := 1) hC dX4_stepUp_90 (by decide) ?_
      refine go_isub hC dX4_stepUp_91 ?_
      obtain ⟨S13, e13, h⟩ := mt_ob h
      refine go_putI hC mt_flX4_27 e13 dX4_stepUp_92 ?_
      refine go_iconst (v := 1) hC dX4_stepUp_95 (by decide) ?_
      exact go_zret hC (mt_rei h hE) (Or.inr rfl) dX4_stepUp_96
    · have h := mt_in' h hc
      refine go_aload_n hC 0 dX4_stepUp_30 rfl rfl ?_
      refine go_dup hC dX4_stepUp_31 rfl ?_
      obtain ⟨v14, e14, h⟩ := mt_ob h
      refine go_getI hC mt_flX4_14 e14 dX4_stepUp_32 ?_
      refine go_aload_n hC 0 dX4_stepUp_35 rfl rfl ?_
      obtain ⟨v15, e15, h⟩ := mt_ob h
      refine go_getI hC mt_flX4_21 e15 dX4_stepUp_36 ?_
      refine go_isub hC dX4_stepUp_39 ?_
      obtain ⟨S16, e16, h⟩ := mt_ob h
      refine go_putI hC mt_flX4_14 e16 dX4_stepUp_40 ?_
      refine go_aload_n hC 0 dX4_stepUp_43 rfl rfl ?_
      refine go_dup hC dX4_stepUp_44 rfl ?_
      obtain ⟨v17, e17, h⟩ := mt_ob h
      refine go_getI hC mt_flX4_18 e17 dX4_stepUp_45 ?_
      refine go_aload_n hC 0 dX4_stepUp_48 rfl rfl ?_
      obtain ⟨v18, e18, h⟩ := mt_ob h
      refine go_getI hC mt_flX4_24 e18 dX4_stepUp_49 ?_
      refine go_isub hC dX4_stepUp_52 ?_
      obtain ⟨S19, e19, h⟩ := mt_ob h
      refine go_putI hC mt_flX4_18 e19 dX4_stepUp_53 ?_
      refine go_goto hC (tgt := 85) dX4_stepUp_56 (by decide) ?_
      refine go_aload_n hC 0 dX4_stepUp_85 rfl rfl ?_
      refine go_dup hC dX4_stepUp_86 rfl ?_
      obtain ⟨v20, e20, h⟩ := mt_ob h
      refine go_getI hC mt_flX4_27 e20 dX4_stepUp_87 ?_
      refine go_iconst (v := 1) hC dX4_stepUp_90 (by decide) ?_
      refine go_isub hC dX4_stepUp_91 ?_
      obtain ⟨S21, e21, h⟩ := mt_ob h
      refine go_putI hC mt_flX4_27 e21 dX4_stepUp_92 ?_
      refine go_iconst (v := 1) hC dX4_stepUp_95 (by decide) ?_
      exact go_zret hC (mt_rei h hE) (Or.inr rfl) dX4_stepUp_96
  · have h := mt_ip h hc
    refine go_iconst (v := 0) hC dX4_stepUp_7 (by decide) ?_
    exact go_zret hC (mt_rei h hE) (Or.inl rfl) dX4_stepUp_8
set_option maxHeartbeats 4000000 in
set_option maxRecDepth 100000 in
theorem ov_X4_stepUp {T : mt_S}  {x0 : Nat} {S : mt_S} {r : Int32} {S' : mt_S} (hp : mt_cp S T) (h : f_X4_stepUp x0 S = some (r, S')) : f_X4_stepUp x0 (mt_ov S T) = some (r, mt_ov S' T) ∧ mt_cp S' T := by
  unfold f_X4_stepUp at h ⊢
  obtain ⟨hg, h⟩ := mt_gd h
  refine ov_t (ov_K hp hg) ?_
  obtain ⟨v1, e1, h⟩ := mt_ob h
  refine ov_b (ov_rI hp e1) ?_
  by_cases hc : v1 = 0
  · have h := mt_ip h hc
    refine ov_t hc ?_
    exact ov_ret hp h
  · have h := mt_in' h hc
    refine ov_f hc ?_
    obtain ⟨v2, e2, h⟩ := mt_ob h
    refine ov_b (ov_rI hp e2) ?_
    obtain ⟨v3, e3, h⟩ := mt_ob h
    refine ov_b (ov_rI hp e3) ?_
    obtain ⟨v4, e4, h⟩ := mt_ob h
    refine ov_b (ov_rI hp e4) ?_
    obtain ⟨v5, e5, h⟩ := mt_ob h
    refine ov_b (ov_rI hp e5) ?_
    by_cases hc : (v2 + v3) ≤ (v4 + v5)
    · have h := mt_ip h hc
      refine ov_t hc ?_
      obtain ⟨v6, e6, h⟩ := mt_ob h
      refine ov_b (ov_rI hp e6) ?_
      obtain ⟨v7, e7, h⟩ := mt_ob h
      refine ov_b (ov_rI hp e7) ?_
      obtain ⟨S8, e8, h⟩ := mt_ob h
      obtain ⟨o_, hp⟩ := ov_wI hp e8
      refine ov_b o_ ?_
      obtain ⟨v9, e9, h⟩ := mt_ob h
      refine ov_b (ov_rI hp e9) ?_
      obtain ⟨v10, e10, h⟩ := mt_ob h
      refine ov_b (ov_rI hp e10) ?_
      obtain ⟨S11, e11, h⟩ := mt_ob h
      obtain ⟨o_, hp⟩ := ov_wI hp e11
      refine ov_b o_ ?_
      obtain ⟨v12, e12, h⟩ := mt_ob h
      refine ov_b (ov_rI hp e12) ?_
      obtain ⟨S13, e13, h⟩ := mt_ob h
      obtain ⟨o_, hp⟩ := ov_wI hp e13
      refine ov_b o_ ?_
      exact ov_ret hp h
    · have h := mt_in' h hc
      refine ov_f hc ?_
      obtain ⟨v14, e14, h⟩ := mt_ob h
      refine ov_b (ov_rI hp e14) ?_
      obtain ⟨v15, e15, h⟩ := mt_ob h
      refine ov_b (ov_rI hp e15) ?_
      obtain ⟨S16, e16, h⟩ := mt_ob h
      obtain ⟨o_, hp⟩ := ov_wI hp e16
      refine ov_b o_ ?_
      obtain ⟨v17, e17, h⟩ := mt_ob h
      refine ov_b (ov_rI hp e17) ?_
      obtain ⟨v18, e18, h⟩ := mt_ob h
      refine ov_b (ov_rI hp e18) ?_
      obtain ⟨S19, e19, h⟩ := mt_ob h
      obtain ⟨o_, hp⟩ := ov_wI hp e19
      refine ov_b o_ ?_
      obtain ⟨v20, e20, h⟩ := mt_ob h
      refine ov_b (ov_rI hp e20) ?_
      obtain ⟨S21, e21, h⟩ := mt_ob h
      obtain ⟨o_, hp⟩ := ov_wI hp e21
      refine ov_b o_ ?_
      exact ov_ret hp h
def f_J6_compare_7cf53 (x0 : Int32) (x1 : Int32) (S : mt_S) : Option (Int32 × mt_S) :=
  if x1 ≤ x0 then
   if x0 = x1 then
    some (0, S)
   else
    some (1, S)
  else
   some ((-1), S)
set_option maxHeartbeats 4000000 in
set_option maxRecDepth 100000 in
theorem m_J6_compare_7cf53 {B : mt_B}  {x0 : Int32} {x1 : Int32} {S : mt_S} {r : Int32} {S' : mt_S} (h : f_J6_compare_7cf53 x0 x1 S = some (r, S')) : mt_M B yJ6_compare_7cf53 cJ6_compare_7cf53 2 (some .int) 1 [.int x0, .int x1] S (some (.int r)) S' := by
  unfold f_J6_compare_7cf53 at h
  refine mt_M.ofF (by decide +kernel) (Nat.le_of_ble_eq_true rfl) (fun E hC hE => ?_)
  refine go_iload_n hC 0 dJ6_compare_7cf53_0 rfl rfl ?_
  refine go_iload_n hC 1 dJ6_compare_7cf53_1 rfl rfl ?_
  refine go_icmp_ge hC (tgt := 9) dJ6_compare_7cf53_2 (by decide) (fun hc => ?_) (fun hc => ?_)
  · have h := mt_ip h hc
    refine go_iload_n hC 0 dJ6_compare_7cf53_9 rfl rfl ?_
    refine go_iload_n hC 1 dJ6_compare_7cf53_10 rfl rfl ?_
    refine go_icmp_ne hC (tgt := 18) dJ6_compare_7cf53_11 (by decide) (fun hc => ?_) (fun hc => ?_)
    · have h := mt_in' h hc
      refine go_iconst (v := 1) hC dJ6_compare_7cf53_18 (by decide) ?_
      exact go_iret hC (mt_rei h hE) dJ6_compare_7cf53_19
    · have h := mt_ip h hc
      refine go_iconst (v := 0) hC dJ6_compare_7cf53_14 (by decide) ?_
      refine go_goto hC (tgt := 19) dJ6_compare_7cf53_15 (by decide) ?_
      exact go_iret hC (mt_rei h hE) dJ6_compare_7cf53_19
  · have h := mt_in' h hc
    refine go_iconst (v := (-1)) hC dJ6_compare_7cf53_5 (by decide) ?_
    refine go_goto hC (tgt := 19) dJ6_compare_7cf53_6 (by decide) ?_
    exact go_iret hC (mt_rei h hE) dJ6_compare_7cf53_19
set_option maxHeartbeats 4000000 in
set_option maxRecDepth 100000 in
theorem ov_J6_compare_7cf53 {T : mt_S}  {x0 : Int32} {x1 : Int32} {S : mt_S} {r : Int32} {S' : mt_S} (hp : mt_cp S T) (h : f_J6_compare_7cf53 x0 x1 S = some (r, S')) : f_J6_compare_7cf53 x0 x1 (mt_ov S T) = some (r, mt_ov S' T) ∧ mt_cp S' T := by
  unfold f_J6_compare_7cf53 at h ⊢
  by_cases hc : x1 ≤ x0
  · have h := mt_ip h hc
    refine ov_t hc ?_
    by_cases hc : x0 = x1
    · have h := mt_ip h hc
      refine ov_t hc ?_
      exact ov_ret hp h
    · have h := mt_in' h hc
      refine ov_f hc ?_
      exact ov_ret hp h
  · have h := mt_in' h hc
    refine ov_f hc ?_
    exact ov_ret hp h
def f_X4_sideOf (x0 : Nat) (x1 : Int32) (x2 : Int32) (S : mt_S) : Option (Int32 × mt_S) :=
  if mt_isK S x0 4 = true then
   mt_b2 (f_X4_q x0 S) fun v2 S1 =>
   mt_b2 (f_X4_p x0 S1) fun v4 S3 =>
   mt_b2 (f_J6_compare_7cf53 (x1 * v2) (x2 * v4) S3) fun v6 S5 =>
   some (v6, S5)
  else none
theorem k_X4_sideOf {x0 : Nat} {x1 : Int32} {x2 : Int32} {S : mt_S} {r : Int32} {S' : mt_S} (h : f_X4_sideOf x0 x1 x2 S = some (r, S')) : mt_isK S x0 4 = true := by
  unfold f_X4_sideOf at h
  exact (mt_gd h).1
set_option maxHeartbeats 4000000 in
set_option maxRecDepth 100000 in
theorem m_X4_sideOf {B : mt_B}  {x0 : Nat} {x1 : Int32} {x2 : Int32} {S : mt_S} {r : Int32} {S' : mt_S} (h : f_X4_sideOf x0 x1 x2 S = some (r, S')) : mt_M B yX4_sideOf cX4_sideOf 3 (some .int) 2 [mt_rf B x0, .int x1, .int x2] S (some (.int r)) S' := by
  unfold f_X4_sideOf at h
  refine mt_M.of (by decide) (Nat.le_of_ble_eq_true rfl) (fun E hC hE => ?_)
  obtain ⟨hk0, h⟩ := mt_gd h
  refine go_iload_n hC 1 dX4_sideOf_0 rfl rfl ?_
  refine go_aload_n hC 0 dX4_sideOf_1 rfl rfl ?_
  obtain ⟨v2, S1, e2, h⟩ := mt_ob2 h
  refine go_callVi hC [] [.int x1] (m_X4_q e2) mt_cvX4_34 (k_X4_q e2) dX4_sideOf_2 rfl rfl (by decide) (Nat.le_of_ble_eq_true rfl) ⟨Nat.le_refl _, Nat.le_refl _⟩ ?_
  refine go_imul hC dX4_sideOf_5 ?_
  refine go_iload_n hC 2 dX4_sideOf_6 rfl rfl ?_
  refine go_aload_n hC 0 dX4_sideOf_7 rfl rfl ?_
  obtain ⟨v4, S3, e4, h⟩ := mt_ob2 h
  refine go_callVi hC [] [.int x2, .int (x1 * v2)] (m_X4_p e4) mt_cvX4_30 (k_X4_p e4) dX4_sideOf_8 rfl rfl (by decide) (Nat.le_of_ble_eq_true rfl) ⟨Nat.le_refl _, Nat.le_refl _⟩ ?_
  refine go_imul hC dX4_sideOf_11 ?_
  obtain ⟨v6, S5, e6, h⟩ := mt_ob2 h
  refine go_callSi hC [.int (x1 * v2), .int (x2 * v4)] [] (m_J6_compare_7cf53 e6) mt_csX4_40 dX4_sideOf_12 rfl rfl (by decide) (Nat.le_of_ble_eq_true rfl) ⟨Nat.le_refl _, Nat.le_refl _⟩ ?_
  exact go_iret hC (mt_rei h hE) dX4_sideOf_15
set_option maxHeartbeats 4000000 in
set_option maxRecDepth 100000 in
theorem ov_X4_sideOf {T : mt_S}  {x0 : Nat} {x1 : Int32} {x2 : Int32} {S : mt_S} {r : Int32} {S' : mt_S} (hp : mt_cp S T) (h : f_X4_sideOf x0 x1 x2 S = some (r, S')) : f_X4_sideOf x0 x1 x2 (mt_ov S T) = some (r, mt_ov S' T) ∧ mt_cp S' T := by
  unfold f_X4_sideOf at h ⊢
  obtain ⟨hg, h⟩ := mt_gd h
  refine ov_t (ov_K hp hg) ?_
  obtain ⟨v2, S1, e2, h⟩ := mt_ob2 h
  obtain ⟨o_, hp⟩ := ov_X4_q hp e2
  refine ov_b2 o_ ?_
  obtain ⟨v4, S3, e4, h⟩ := mt_ob2 h
  obtain ⟨o_, hp⟩ := ov_X4_p hp e4
  refine ov_b2 o_ ?_
  obtain ⟨v6, S5, e6, h⟩ := mt_ob2 h
  obtain ⟨o_, hp⟩ := ov_J6_compare_7cf53 hp e6
  refine ov_b2 o_ ?_
  exact ov_ret hp h
def f_X4_stepToSide (x0 : Nat) (x1 : Int32) (S : mt_S) : Option (Int32 × mt_S) :=
  if mt_isK S x0 4 = true then
   if 0 ≤ x1 then
    mt_b2 (f_X4_stepRight x0 S) fun v2 S1 =>
    if v2 = 0 ∨ v2 = 1 then
     some (v2, S1)
    else none
   else
    mt_b2 (f_X4_stepLeft x0 S) fun v5 S4 =>
    if v5 = 0 ∨ v5 = 1 then
     some (v5, S4)
    else none
  else none
theorem k_X4_stepToSide {x0 : Nat} {x1 : Int32} {S : mt_S} {r : Int32} {S' : mt_S} (h : f_X4_stepToSide x0 x1 S = some (r, S')) : mt_isK S x0 4 = true := by
  unfold f_X4_stepToSide at h
  exact (mt_gd h).1
set_option maxHeartbeats 4000000 in
set_option maxRecDepth 100000 in
theorem m_X4_stepToSide {B : mt_B}  {x0 : Nat} {x1 : Int32} {S : mt_S} {r : Int32} {S' : mt_S} (h : f_X4_stepToSide x0 x1 S = some (r, S')) : mt_M B yX4_stepToSide cX4_stepToSide 2 (some .boolean) 4 [mt_rf B x0, .int x1] S (some (.int r)) S' := by
  unfold f_X4_stepToSide at h
  refine mt_M.of (by decide) (Nat.le_of_ble_eq_true rfl) (fun E hC hE => ?_)
  obtain ⟨hk0, h⟩ := mt_gd h
  refine go_iload_n hC 1 dX4_stepToSide_0 rfl rfl ?_
  refine go_if_ge hC (tgt := 11) dX4_stepToSide_1 (by decide) (fun hc => ?_) (fun hc => ?_)
  · have h := mt_ip h hc
    refine go_aload_n hC 0 dX4_stepToSide_11 rfl rfl ?_
    obtain ⟨v2, S1, e2, h⟩ := mt_ob2 h
    refine go_callVi hC [] [] (m_X4_stepRight e2) mt_cvX4_50 (k_X4_stepRight e2) dX4_stepToSide_12 rfl rfl (by decide) (Nat.le_of_ble_eq_true rfl) ⟨Nat.le_refl _, Nat.le_refl _⟩ ?_
    obtain ⟨g3, h⟩ := mt_gd h
    exact go_zret hC (mt_rei h hE) g3 dX4_stepToSide_15
  · have h := mt_in' h hc
    refine go_aload_n hC 0 dX4_stepToSide_4 rfl rfl ?_
    obtain ⟨v5, S4, e5, h⟩ := mt_ob2 h
    refine go_callVi hC [] [] (m_X4_stepLeft e5) mt_cvX4_46 (k_X4_stepLeft e5) dX4_stepToSide_5 rfl rfl (by decide) (Nat.le_of_ble_eq_true rfl) ⟨Nat.le_refl _, Nat.le_refl _⟩ ?_
    refine go_goto hC (tgt := 15) dX4_stepToSide_8 (by decide) ?_
    obtain ⟨g6, h⟩ := mt_gd h
    exact go_zret hC (mt_rei h hE) g6 dX4_stepToSide_15
set_option maxHeartbeats 4000000 in
set_option maxRecDepth 100000 in
theorem ov_X4_stepToSide {T : mt_S}  {x0 : Nat} {x1 : Int32} {S : mt_S} {r : Int32} {S' : mt_S} (hp : mt_cp S T) (h : f_X4_stepToSide x0 x1 S = some (r, S')) : f_X4_stepToSide x0 x1 (mt_ov S T) = some (r, mt_ov S' T) ∧ mt_cp S' T := by
  unfold f_X4_stepToSide at h ⊢
  obtain ⟨hg, h⟩ := mt_gd h
  refine ov_t (ov_K hp hg) ?_
  by_cases hc : 0 ≤ x1
  · have h := mt_ip h hc
    refine ov_t hc ?_
    obtain ⟨v2, S1, e2, h⟩ := mt_ob2 h
    obtain ⟨o_, hp⟩ := ov_X4_stepRight hp e2
    refine ov_b2 o_ ?_
    obtain ⟨hg, h⟩ := mt_gd h
    refine ov_t hg ?_
    exact ov_ret hp h
  · have h := mt_in' h hc
    refine ov_f hc ?_
    obtain ⟨v5, S4, e5, h⟩ := mt_ob2 h
    obtain ⟨o_, hp⟩ := ov_X4_stepLeft hp e5
    refine ov_b2 o_ ?_
    obtain ⟨hg, h⟩ := mt_gd h
    refine ov_t hg ?_
    exact ov_ret hp h
def f_X4_walkTo_L6s (rc : Nat → Int32 → Int32 → Int32 → mt_S → Option (mt_S)) (x0 : Nat) (x1 : Int32) (x2 : Int32) (x3 : Int32) (S : mt_S) : Option (mt_S) :=
  if 22 ≤ x3 then
   some S
  else
   mt_b2 (f_X4_isAt x0 x1 x2 S) fun v3 S2 =>
   if v3 = 0 then
    mt_b2 (f_X4_sideOf x0 x1 x2 S2) fun v5 S4 =>
    mt_b2 (f_X4_stepToSide x0 v5 S4) fun v7 S6 =>
    rc x0 x1 x2 (x3 + 1) S6
   else
    some S2
def f_X4_walkTo_L6 : Nat → Nat → Int32 → Int32 → Int32 → mt_S → Option (mt_S)
  | 0 => fun _ _ _ _ _ => none
  | n + 1 => f_X4_walkTo_L6s (f_X4_walkTo_L6 n)
set_option maxHeartbeats 4000000 in
set_option maxRecDepth 100000 in
theorem m_X4_walkTo_L6 {B : mt_B} {E : mt_E} {S' : mt_S} (hC : mt_Cx B E cX4_walkTo RX4 none 4 5 0 0) (hE : mt_End B E (0, 0) none S') : ∀ (n : Nat) (x0 : Nat) (x1 : Int32) (x2 : Int32) (x3 : Int32) (S : mt_S), f_X4_walkTo_L6 n x0 x1 x2 x3 S = some S' → mt_Go B E (0, 0) S 6 [(0, mt_rf B x0), (1, .int x1), (2, .int x2), (3, .int x3)] [] := by
  intro n
  induction n with
  | zero =>
    intro x0 x1 x2 x3 S h
    cases h
  | succ n ih =>
    intro x0 x1 x2 x3 S h
    have h : f_X4_walkTo_L6s (f_X4_walkTo_L6 n) x0 x1 x2 x3 S = some S' := h
    unfold f_X4_walkTo_L6s at h
    refine go_iload_n hC 3 dX4_walkTo_6 rfl rfl ?_
    refine go_bipush (v := 22) hC dX4_walkTo_7 (by decide) ?_
    refine go_icmp_ge hC (tgt := 38) dX4_walkTo_9 (by decide) (fun hc => ?_) (fun hc => ?_)
    · have h := mt_ip h hc
      exact go_vret hC (mt_rev h hE) dX4_walkTo_38
    · have h := mt_in' h hc
      refine go_aload_n hC 0 dX4_walkTo_12 rfl rfl ?_
      refine go_iload_n hC 1 dX4_walkTo_13 rfl rfl ?_
      refine go_iload_n hC 2 dX4_walkTo_14 rfl rfl ?_
      obtain ⟨v3, S2, e3, h⟩ := mt_ob2 h
      refine go_callVi hC [.int x1, .int x2] [] (m_X4_isAt e3) mt_cvX4_53 (k_X4_isAt e3) dX4_walkTo_15 rfl rfl (by decide) (Nat.le_of_ble_eq_true rfl) ⟨Nat.le_refl _, Nat.le_refl _⟩ ?_
      refine go_if_ne hC (tgt := 38) dX4_walkTo_18 (by decide) (fun hc => ?_) (fun hc => ?_)
      · have h := mt_in' h hc
        exact go_vret hC (mt_rev h hE) dX4_walkTo_38
      · have h := mt_ip h hc
        refine go_aload_n hC 0 dX4_walkTo_21 rfl rfl ?_
        refine go_aload_n hC 0 dX4_walkTo_22 rfl rfl ?_
        refine go_iload_n hC 1 dX4_walkTo_23 rfl rfl ?_
        refine go_iload_n hC 2 dX4_walkTo_24 rfl rfl ?_
        obtain ⟨v5, S4, e5, h⟩ := mt_ob2 h
        refine go_callVi hC [.int x1, .int x2] [mt_rf B x0] (m_X4_sideOf e5) mt_cvX4_57 (k_X4_sideOf e5) dX4_walkTo_25 rfl rfl (by decide) (Nat.le_of_ble_eq_true rfl) ⟨Nat.le_refl _, Nat.le_refl _⟩ ?_
        obtain ⟨v7, S6, e7, h⟩ := mt_ob2 h
        refine go_callVi hC [.int v5] [] (m_X4_stepToSide e7) mt_cvX4_60 (k_X4_stepToSide e7) dX4_walkTo_28 rfl rfl (by decide) (Nat.le_of_ble_eq_true rfl) ⟨Nat.le_refl _, Nat.le_refl _⟩ ?_
        refine go_pop hC dX4_walkTo_31 rfl ?_
        refine go_iinc hC 3 [1, 2, 3, 0] (v := x3 + 1) (lv1 := [(0, mt_rf B x0), (1, .int x1), (2, .int x2), (3, .int (x3 + 1))]) dX4_walkTo_32 rfl rfl (by decide) rfl ?_
        refine go_goto hC (tgt := 6) dX4_walkTo_35 (by decide) ?_
        exact ih _ _ _ _ _ h
set_option maxHeartbeats 4000000 in
set_option maxRecDepth 100000 in
theorem ov_X4_walkTo_L6 {T : mt_S} {S' : mt_S} : ∀ (n : Nat) (x0 : Nat) (x1 : Int32) (x2 : Int32) (x3 : Int32) (S : mt_S), mt_cp S T → f_X4_walkTo_L6 n x0 x1 x2 x3 S = some S' → f_X4_walkTo_L6 n x0 x1 x2 x3 (mt_ov S T) = some (mt_ov S' T) ∧ mt_cp S' T := by
  intro n
  induction n with
  | zero =>
    intro x0 x1 x2 x3 S hp h
    cases h
  | succ n ih =>
    intro x0 x1 x2 x3 S hp h
    have h : f_X4_walkTo_L6s (f_X4_walkTo_L6 n) x0 x1 x2 x3 S = some S' := h
    show f_X4_walkTo_L6s (f_X4_walkTo_L6 n) x0 x1 x2 x3 (mt_ov S T) = some (mt_ov S' T) ∧ mt_cp S' T
    unfold f_X4_walkTo_L6s at h ⊢
    by_cases hc : 22 ≤ x3
    · have h := mt_ip h hc
      refine ov_t hc ?_
      exact ov_retv hp h
    · have h := mt_in' h hc
      refine ov_f hc ?_
      obtain ⟨v3, S2, e3, h⟩ := mt_ob2 h
      obtain ⟨o_, hp⟩ := ov_X4_isAt hp e3
      refine ov_b2 o_ ?_
      by_cases hc : v3 = 0
      · have h := mt_ip h hc
        refine ov_t hc ?_
        obtain ⟨v5, S4, e5, h⟩ := mt_ob2 h
        obtain ⟨o_, hp⟩ := ov_X4_sideOf hp e5
        refine ov_b2 o_ ?_
        obtain ⟨v7, S6, e7, h⟩ := mt_ob2 h
        obtain ⟨o_, hp⟩ := ov_X4_stepToSide hp e7
        refine ov_b2 o_ ?_
        exact ih _ _ _ _ _ hp h
      · have h := mt_in' h hc
        refine ov_f hc ?_
        exact ov_retv hp h
def f_X4_walkTo (x0 : Nat) (x1 : Int32) (x2 : Int32) (S : mt_S) : Option (mt_S) :=
  if mt_isK S x0 4 = true then
   Option.bind (f_X4_goHome x0 S) fun S1 =>
   f_X4_walkTo_L6 1000 x0 x1 x2 0 S1
  else none
theorem k_X4_walkTo {x0 : Nat} {x1 : Int32} {x2 : Int32} {S : mt_S} {S' : mt_S} (h : f_X4_walkTo x0 x1 x2 S = some S') : mt_isK S x0 4 = true := by
  unfold f_X4_walkTo at h
  exact (mt_gd h).1
set_option maxHeartbeats 4000000 in
set_option maxRecDepth 100000 in
theorem m_X4_walkTo {B : mt_B}  {x0 : Nat} {x1 : Int32} {x2 : Int32} {S : mt_S} {S' : mt_S} (h : f_X4_walkTo x0 x1 x2 S = some S') : mt_M B yX4_walkTo cX4_walkTo 4 none 5 [mt_rf B x0, .int x1, .int x2] S none S' := by
  unfold f_X4_walkTo at h
  refine mt_M.of (by decide) (Nat.le_of_ble_eq_true rfl) (fun E hC hE => ?_)
  obtain ⟨hk0, h⟩ := mt_gd h
  refine go_aload_n hC 0 dX4_walkTo_0 rfl rfl ?_
  obtain ⟨S1, e1, h⟩ := mt_ob h
  refine go_callVv hC [] [] (m_X4_goHome e1) mt_cvX4_9 (k_X4_goHome e1) dX4_walkTo_1 rfl rfl (by decide) (Nat.le_of_ble_eq_true rfl) ⟨Nat.le_refl _, Nat.le_refl _⟩ ?_
  refine go_iconst (v := 0) hC dX4_walkTo_4 (by decide) ?_
  refine go_istore_n hC [1, 2, 3, 0] (lv1 := [(0, mt_rf B x0), (1, .int x1), (2, .int x2), (3, .int 0)]) dX4_walkTo_5 rfl (by decide) rfl ?_
  exact m_X4_walkTo_L6 hC hE 1000 _ _ _ _ _ h
set_option maxHeartbeats 4000000 in
set_option maxRecDepth 100000 in
theorem ov_X4_walkTo {T : mt_S}  {x0 : Nat} {x1 : Int32} {x2 : Int32} {S : mt_S} {S' : mt_S} (hp : mt_cp S T) (h : f_X4_walkTo x0 x1 x2 S = some S') : f_X4_walkTo x0 x1 x2 (mt_ov S T) = some (mt_ov S' T) ∧ mt_cp S' T := by
  unfold f_X4_walkTo at h ⊢
  obtain ⟨hg, h⟩ := mt_gd h
  refine ov_t (ov_K hp hg) ?_
  obtain ⟨S1, e1, h⟩ := mt_ob h
  obtain ⟨o_, hp⟩ := ov_X4_goHome hp e1
  refine ov_b o_ ?_
  exact ov_X4_walkTo_L6 1000 _ _ _ _ _ hp h
def f_Jxf58ca_isNaN_12338 (x0 : UInt32) (S : mt_S) : Option (Int32 × mt_S) :=
  if (Op.cmpValue (FP.fcmp x0 x0) .l) = 0 then
   some (0, S)
  else
   some (1, S)
set_option maxHeartbeats 4000000 in
set_option maxRecDepth 100000 in
theorem m_Jxf58ca_isNaN_12338 {B : mt_B}  {x0 : UInt32} {S : mt_S} {r : Int32} {S' : mt_S} (h : f_Jxf58ca_isNaN_12338 x0 S = some (r, S')) : mt_M B yJxf58ca_isNaN_12338 cJxf58ca_isNaN_12338 1 (some .boolean) 1 [.float x0] S (some (.int r)) S' := by
  unfold f_Jxf58ca_isNaN_12338 at h
  refine mt_M.ofF (by decide +kernel) (Nat.le_of_ble_eq_true rfl) (fun E hC hE => ?_)
  refine go_fload_n hC 0 dJxf58ca_isNaN_12338_0 rfl rfl ?_
  refine go_fload_n hC 0 dJxf58ca_isNaN_12338_1 rfl rfl ?_
  refine go_fcmp hC dJxf58ca_isNaN_12338_2 ?_
  refine go_if_eq hC (tgt := 10) dJxf58ca_isNaN_12338_3 (by decide) (fun hc => ?_) (fun hc => ?_)
  · have h := mt_ip h hc
    refine go_iconst (v := 0) hC dJxf58ca_isNaN_12338_10 (by decide) ?_
    exact go_zret hC (mt_rei h hE) (Or.inl rfl) dJxf58ca_isNaN_12338_11
  · have h := mt_in' h hc
    refine go_iconst (v := 1) hC dJxf58ca_isNaN_12338_6 (by decide) ?_
    refine go_goto hC (tgt := 11) dJxf58ca_isNaN_12338_7 (by decide) ?_
    exact go_zret hC (mt_rei h hE) (Or.inr rfl) dJxf58ca_isNaN_12338_11
set_option maxHeartbeats 4000000 in
set_option maxRecDepth 100000 in
theorem ov_Jxf58ca_isNaN_12338 {T : mt_S}  {x0 : UInt32} {S : mt_S} {r : Int32} {S' : mt_S} (hp : mt_cp S T) (h : f_Jxf58ca_isNaN_12338 x0 S = some (r, S')) : f_Jxf58ca_isNaN_12338 x0 (mt_ov S T) = some (r, mt_ov S' T) ∧ mt_cp S' T := by
  unfold f_Jxf58ca_isNaN_12338 at h ⊢
  by_cases hc : (Op.cmpValue (FP.fcmp x0 x0) .l) = 0
  · have h := mt_ip h hc
    refine ov_t hc ?_
    exact ov_ret hp h
  · have h := mt_in' h hc
    refine ov_f hc ?_
    exact ov_ret hp h
def f_Jxf58ca_floatToIntBits_5c35a (x0 : UInt32) (S : mt_S) : Option (Int32 × mt_S) :=
  mt_b2 (f_Jxf58ca_isNaN_12338 x0 S) fun v2 S1 =>
  if v2 = 0 then
   some (x0.toInt32, S1)
  else
   some (2143289344, S1)
set_option maxHeartbeats 4000000 in
set_option maxRecDepth 100000 in
theorem m_Jxf58ca_floatToIntBits_5c35a {B : mt_B}  {x0 : UInt32} {S : mt_S} {r : Int32} {S' : mt_S} (h : f_Jxf58ca_floatToIntBits_5c35a x0 S = some (r, S')) : mt_M B yJxf58ca_floatToIntBits_5c35a cJxf58ca_floatToIntBits_5c35a 1 (some .int) 2 [.float x0] S (some (.int r)) S' := by
  unfold f_Jxf58ca_floatToIntBits_5c35a at h
  refine mt_M.ofF (by decide +kernel) (Nat.le_of_ble_eq_true rfl) (fun E hC hE => ?_)
  refine go_fload_n hC 0 dJxf58ca_floatToIntBits_5c35a_0 rfl rfl ?_
  obtain ⟨v2, S1, e2, h⟩ := mt_ob2 h
  refine go_callSi hC [.float x0] [] (m_Jxf58ca_isNaN_12338 e2) mt_csJxf58ca_59 dJxf58ca_floatToIntBits_5c35a_1 rfl rfl (by decide) (Nat.le_of_ble_eq_true rfl) ⟨Nat.le_refl _, Nat.le_refl _⟩ ?_
  refine go_if_ne hC (tgt := 12) dJxf58ca_floatToIntBits_5c35a_4 (by decide) (fun hc => ?_) (fun hc => ?_)
  · have h := mt_in' h hc
    refine go_ldc hC dJxf58ca_floatToIntBits_5c35a_12 mt_kJxf58ca_77 ?_
    exact go_iret hC (mt_rei h hE) dJxf58ca_floatToIntBits_5c35a_14
  · have h := mt_ip h hc
    refine go_fload_n hC 0 dJxf58ca_floatToIntBits_5c35a_7 rfl rfl ?_
    refine go_f2ib hC mt_f2l mt_f2m mt_f2s mt_f2i (by decide) (by decide) dJxf58ca_floatToIntBits_5c35a_8 ?_
    exact go_iret hC (mt_rei h hE) dJxf58ca_floatToIntBits_5c35a_11
set_option maxHeartbeats 4000000 in
set_option maxRecDepth 100000 in
theorem ov_Jxf58ca_floatToIntBits_5c35a {T : mt_S}  {x0 : UInt32} {S : mt_S} {r : Int32} {S' : mt_S} (hp : mt_cp S T) (h : f_Jxf58ca_floatToIntBits_5c35a x0 S = some (r, S')) : f_Jxf58ca_floatToIntBits_5c35a x0 (mt_ov S T) = some (r, mt_ov S' T) ∧ mt_cp S' T := by
  unfold f_Jxf58ca_floatToIntBits_5c35a at h ⊢
  obtain ⟨v2, S1, e2, h⟩ := mt_ob2 h
  obtain ⟨o_, hp⟩ := ov_Jxf58ca_isNaN_12338 hp e2
  refine ov_b2 o_ ?_
  by_cases hc : v2 = 0
  · have h := mt_ip h hc
    refine ov_t hc ?_
    exact ov_ret hp h
  · have h := mt_in' h hc
    refine ov_f hc ?_
    exact ov_ret hp h
def f_J9_floorMod_f86c9 (x0 : Int64) (x2 : Int64) (S : mt_S) : Option (Int64 × mt_S) :=
  if x2 = 0 then none else
  if 0 ≤ (x0 ^^^ x2) then
   some (x0 - x0 / x2 * x2, S)
  else
  if (x0 - x0 / x2 * x2) = 0 then
   some (x0 - x0 / x2 * x2, S)
  else
   some ((x0 - x0 / x2 * x2) + x2, S)
set_option maxHeartbeats 4000000 in
set_option maxRecDepth 100000 in
theorem m_J9_floorMod_f86c9 {B : mt_B}  {x0 : Int64} {x2 : Int64} {S : mt_S} {r : Int64} {S' : mt_S} (h : f_J9_floorMod_f86c9 x0 x2 S = some (r, S')) : mt_M B yJ9_floorMod_f86c9 cJ9_floorMod_f86c9 6 (some .long) 1 [.long x0, .long x2] S (some (.long r)) S' := by
  unfold f_J9_floorMod_f86c9 at h
  refine mt_M.ofF (by decide +kernel) (Nat.le_of_ble_eq_true rfl) (fun E hC hE => ?_)
  refine go_lload_n hC 0 dJ9_floorMod_f86c9_0 rfl rfl ?_
  refine go_lload_n hC 1 dJ9_floorMod_f86c9_1 rfl rfl ?_
  have g1 : ¬ x2 = 0 := fun q => by rw [if_pos q] at h; cases h
  have h := mt_in' h g1
  refine go_lrem hC dJ9_floorMod_f86c9_2 g1 ?_
  refine go_lstore hC [1, 2, 0] (lv1 := [(0, .long x0), (2, .long x2), (4, .long (x0 - x0 / x2 * x2))]) dJ9_floorMod_f86c9_3 (by decide) rfl ?_
  refine go_lload_n hC 0 dJ9_floorMod_f86c9_5 rfl rfl ?_
  refine go_lload_n hC 1 dJ9_floorMod_f86c9_6 rfl rfl ?_
  refine go_lxor hC dJ9_floorMod_f86c9_7 ?_
  refine go_lconst (v := 0) hC dJ9_floorMod_f86c9_8 (by decide) ?_
  refine go_lcmp_ge hC (tgt := 25) dJ9_floorMod_f86c9_9 dJ9_floorMod_f86c9_10 (by decide) (fun hc => ?_) (fun hc => ?_)
  · have h := mt_ip h hc
    refine go_lload hC 2 dJ9_floorMod_f86c9_25 rfl ?_
    exact go_lret hC (mt_rel h hE) dJ9_floorMod_f86c9_27
  · have h := mt_in' h hc
    refine go_lload hC 2 dJ9_floorMod_f86c9_13 rfl ?_
    refine go_lconst (v := 0) hC dJ9_floorMod_f86c9_15 (by decide) ?_
    refine go_lcmp_eq hC (tgt := 25) dJ9_floorMod_f86c9_16 dJ9_floorMod_f86c9_17 (by decide) (fun hc => ?_) (fun hc => ?_)
    · have h := mt_ip h hc
      refine go_lload hC 2 dJ9_floorMod_f86c9_25 rfl ?_
      exact go_lret hC (mt_rel h hE) dJ9_floorMod_f86c9_27
    · have h := mt_in' h hc
      refine go_lload hC 2 dJ9_floorMod_f86c9_20 rfl ?_
      refine go_lload_n hC 1 dJ9_floorMod_f86c9_22 rfl rfl ?_
      refine go_ladd hC dJ9_floorMod_f86c9_23 ?_
      exact go_lret hC (mt_rel h hE) dJ9_floorMod_f86c9_24
set_option maxHeartbeats 4000000 in
set_option maxRecDepth 100000 in
theorem ov_J9_floorMod_f86c9 {T : mt_S}  {x0 : Int64} {x2 : Int64} {S : mt_S} {r : Int64} {S' : mt_S} (hp : mt_cp S T) (h : f_J9_floorMod_f86c9 x0 x2 S = some (r, S')) : f_J9_floorMod_f86c9 x0 x2 (mt_ov S T) = some (r, mt_ov S' T) ∧ mt_cp S' T := by
  unfold f_J9_floorMod_f86c9 at h ⊢
  have hz : ¬ x2 = 0 := fun q => by rw [if_pos q] at h; cases h
  have h := mt_in' h hz
  refine ov_f hz ?_
  by_cases hc : 0 ≤ (x0 ^^^ x2)
  · have h := mt_ip h hc
    refine ov_t hc ?_
    exact ov_ret hp h
  · have h := mt_in' h hc
    refine ov_f hc ?_
    by_cases hc : (x0 - x0 / x2 * x2) = 0
    · have h := mt_ip h hc
      refine ov_t hc ?_
      exact ov_ret hp h
    · have h := mt_in' h hc
      refine ov_f hc ?_
      exact ov_ret hp h
def f_J9_abs_067f4 (x0 : Int64) (S : mt_S) : Option (Int64 × mt_S) :=
  if 0 ≤ x0 then
   some (x0, S)
  else
   some (-x0, S)
set_option maxHeartbeats 4000000 in
set_option maxRecDepth 100000 in
theorem m_J9_abs_067f4 {B : mt_B}  {x0 : Int64} {S : mt_S} {r : Int64} {S' : mt_S} (h : f_J9_abs_067f4 x0 S = some (r, S')) : mt_M B yJ9_abs_067f4 cJ9_abs_067f4 2 (some .long) 1 [.long x0] S (some (.long r)) S' := by
  unfold f_J9_abs_067f4 at h
  refine mt_M.ofF (by decide +kernel) (Nat.le_of_ble_eq_true rfl) (fun E hC hE => ?_)
  refine go_lload_n hC 0 dJ9_abs_067f4_0 rfl rfl ?_
  refine go_lconst (v := 0) hC dJ9_abs_067f4_1 (by decide) ?_
  refine go_lcmp_ge hC (tgt := 11) dJ9_abs_067f4_2 dJ9_abs_067f4_3 (by decide) (fun hc => ?_) (fun hc => ?_)
  · have h := mt_ip h hc
    refine go_lload_n hC 0 dJ9_abs_067f4_11 rfl rfl ?_
    exact go_lret hC (mt_rel h hE) dJ9_abs_067f4_12
  · have h := mt_in' h hc
    refine go_lload_n hC 0 dJ9_abs_067f4_6 rfl rfl ?_
    refine go_lneg hC dJ9_abs_067f4_7 ?_
    refine go_goto hC (tgt := 12) dJ9_abs_067f4_8 (by decide) ?_
    exact go_lret hC (mt_rel h hE) dJ9_abs_067f4_12
set_option maxHeartbeats 4000000 in
set_option maxRecDepth 100000 in
theorem ov_J9_abs_067f4 {T : mt_S}  {x0 : Int64} {S : mt_S} {r : Int64} {S' : mt_S} (hp : mt_cp S T) (h : f_J9_abs_067f4 x0 S = some (r, S')) : f_J9_abs_067f4 x0 (mt_ov S T) = some (r, mt_ov S' T) ∧ mt_cp S' T := by
  unfold f_J9_abs_067f4 at h ⊢
  by_cases hc : 0 ≤ x0
  · have h := mt_ip h hc
    refine ov_t hc ?_
    exact ov_ret hp h
  · have h := mt_in' h hc
    refine ov_f hc ?_
    exact ov_ret hp h
def f_J9_min_7cf53 (x0 : Int32) (x1 : Int32) (S : mt_S) : Option (Int32 × mt_S) :=
  if x1 < x0 then
   some (x1, S)
  else
   some (x0, S)
set_option maxHeartbeats 4000000 in
set_option maxRecDepth 100000 in
theorem m_J9_min_7cf53 {B : mt_B}  {x0 : Int32} {x1 : Int32} {S : mt_S} {r : Int32} {S' : mt_S} (h : f_J9_min_7cf53 x0 x1 S = some (r, S')) : mt_M B yJ9_min_7cf53 cJ9_min_7cf53 2 (some .int) 1 [.int x0, .int x1] S (some (.int r)) S' := by
  unfold f_J9_min_7cf53 at h
  refine mt_M.ofF (by decide +kernel) (Nat.le_of_ble_eq_true rfl) (fun E hC hE => ?_)
  refine go_iload_n hC 0 dJ9_min_7cf53_0 rfl rfl ?_
  refine go_iload_n hC 1 dJ9_min_7cf53_1 rfl rfl ?_
  refine go_icmp_gt hC (tgt := 9) dJ9_min_7cf53_2 (by decide) (fun hc => ?_) (fun hc => ?_)
  · have h := mt_ip h hc
    refine go_iload_n hC 1 dJ9_min_7cf53_9 rfl rfl ?_
    exact go_iret hC (mt_rei h hE) dJ9_min_7cf53_10
  · have h := mt_in' h hc
    refine go_iload_n hC 0 dJ9_min_7cf53_5 rfl rfl ?_
    refine go_goto hC (tgt := 10) dJ9_min_7cf53_6 (by decide) ?_
    exact go_iret hC (mt_rei h hE) dJ9_min_7cf53_10
set_option maxHeartbeats 4000000 in
set_option maxRecDepth 100000 in
theorem ov_J9_min_7cf53 {T : mt_S}  {x0 : Int32} {x1 : Int32} {S : mt_S} {r : Int32} {S' : mt_S} (hp : mt_cp S T) (h : f_J9_min_7cf53 x0 x1 S = some (r, S')) : f_J9_min_7cf53 x0 x1 (mt_ov S T) = some (r, mt_ov S' T) ∧ mt_cp S' T := by
  unfold f_J9_min_7cf53 at h ⊢
  by_cases hc : x1 < x0
  · have h := mt_ip h hc
    refine ov_t hc ?_
    exact ov_ret hp h
  · have h := mt_in' h hc
    refine ov_f hc ?_
    exact ov_ret hp h
def f_J9_min_f86c9 (x0 : Int64) (x2 : Int64) (S : mt_S) : Option (Int64 × mt_S) :=
  if x2 < x0 then
   some (x2, S)
  else
   some (x0, S)
set_option maxHeartbeats 4000000 in
set_option maxRecDepth 100000 in
theorem m_J9_min_f86c9 {B : mt_B}  {x0 : Int64} {x2 : Int64} {S : mt_S} {r : Int64} {S' : mt_S} (h : f_J9_min_f86c9 x0 x2 S = some (r, S')) : mt_M B yJ9_min_f86c9 cJ9_min_f86c9 4 (some .long) 1 [.long x0, .long x2] S (some (.long r)) S' := by
  unfold f_J9_min_f86c9 at h
  refine mt_M.ofF (by decide +kernel) (Nat.le_of_ble_eq_true rfl) (fun E hC hE => ?_)
  refine go_lload_n hC 0 dJ9_min_f86c9_0 rfl rfl ?_
  refine go_lload_n hC 1 dJ9_min_f86c9_1 rfl rfl ?_
  refine go_lcmp_gt hC (tgt := 10) dJ9_min_f86c9_2 dJ9_min_f86c9_3 (by decide) (fun hc => ?_) (fun hc => ?_)
  · have h := mt_ip h hc
    refine go_lload_n hC 1 dJ9_min_f86c9_10 rfl rfl ?_
    exact go_lret hC (mt_rel h hE) dJ9_min_f86c9_11
  · have h := mt_in' h hc
    refine go_lload_n hC 0 dJ9_min_f86c9_6 rfl rfl ?_
    refine go_goto hC (tgt := 11) dJ9_min_f86c9_7 (by decide) ?_
    exact go_lret hC (mt_rel h hE) dJ9_min_f86c9_11
set_option maxHeartbeats 4000000 in
set_option maxRecDepth 100000 in
theorem ov_J9_min_f86c9 {T : mt_S}  {x0 : Int64} {x2 : Int64} {S : mt_S} {r : Int64} {S' : mt_S} (hp : mt_cp S T) (h : f_J9_min_f86c9 x0 x2 S = some (r, S')) : f_J9_min_f86c9 x0 x2 (mt_ov S T) = some (r, mt_ov S' T) ∧ mt_cp S' T := by
  unfold f_J9_min_f86c9 at h ⊢
  by_cases hc : x2 < x0
  · have h := mt_ip h hc
    refine ov_t hc ?_
    exact ov_ret hp h
  · have h := mt_in' h hc
    refine ov_f hc ?_
    exact ov_ret hp h
