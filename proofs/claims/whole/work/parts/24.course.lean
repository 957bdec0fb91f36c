def f_X0_faultKind (x0 : Nat) (S : mt_S) : Option (Int32 × mt_S) :=
  if mt_isK S x0 0 = true then
   Option.bind (mt_rI S x0 0 9) fun v1 =>
   some (v1, S)
  else none
theorem k_X0_faultKind {x0 : Nat} {S : mt_S} {r : Int32} {S' : mt_S} (h : f_X0_faultKind x0 S = some (r, S')) : mt_isK S x0 0 = true := by
  unfold f_X0_faultKind at h
  exact (mt_gd h).1
set_option maxHeartbeats 4000000 in
set_option maxRecDepth 100000 in
theorem m_X0_faultKind {B : mt_B}  {x0 : Nat} {S : mt_S} {r : Int32} {S' : mt_S} (h : f_X0_faultKind x0 S = some (r, S')) : mt_M B yX0_faultKind cX0_faultKind 1 (some .int) 1 [mt_rf B x0] S (some (.int r)) S' := by
  unfold f_X0_faultKind at h
  refine mt_M.of (by decide) (Nat.le_of_ble_eq_true rfl) (fun E hC hE => ?_)
  obtain ⟨hk0, h⟩ := mt_gd h
  refine go_aload_n hC 0 dX0_faultKind_0 rfl rfl ?_
  obtain ⟨v1, e1, h⟩ := mt_ob h
  refine go_getI hC mt_flX0_25 e1 dX0_faultKind_1 ?_
  exact go_iret hC (mt_rei h hE) dX0_faultKind_4
set_option maxHeartbeats 4000000 in
set_option maxRecDepth 100000 in
theorem ov_X0_faultKind {T : mt_S}  {x0 : Nat} {S : mt_S} {r : Int32} {S' : mt_S} (hp : mt_cp S T) (h : f_X0_faultKind x0 S = some (r, S')) : f_X0_faultKind x0 (mt_ov S T) = some (r, mt_ov S' T) ∧ mt_cp S' T := by
  unfold f_X0_faultKind at h ⊢
  obtain ⟨hg, h⟩ := mt_gd h
  refine ov_t (ov_K hp hg) ?_
  obtain ⟨v1, e1, h⟩ := mt_ob h
  refine ov_b (ov_rI hp e1) ?_
  exact ov_ret hp h
def f_X0_faultPlace (x0 : Nat) (S : mt_S) : Option (Int32 × mt_S) :=
  if mt_isK S x0 0 = true then
   Option.bind (mt_rI S x0 0 10) fun v1 =>
   some (v1, S)
  else none
theorem k_X0_faultPlace {x0 : Nat} {S : mt_S} {r : Int32} {S' : mt_S} (h : f_X0_faultPlace x0 S = some (r, S')) : mt_isK S x0 0 = true := by
  unfold f_X0_faultPlace at h
  exact (mt_gd h).1
set_option maxHeartbeats 4000000 in
set_option maxRecDepth 100000 in
theorem m_X0_faultPlace {B : mt_B}  {x0 : Nat} {S : mt_S} {r : Int32} {S' : mt_S} (h : f_X0_faultPlace x0 S = some (r, S')) : mt_M B yX0_faultPlace cX0_faultPlace 1 (some .int) 1 [mt_rf B x0] S (some (.int r)) S' := by
  unfold f_X0_faultPlace at h
  refine mt_M.of (by decide) (Nat.le_of_ble_eq_true rfl) (fun E hC hE => ?_)
  obtain ⟨hk0, h⟩ := mt_gd h
  refine go_aload_n hC 0 dX0_faultPlace_0 rfl rfl ?_
  obtain ⟨v1, e1, h⟩ := mt_ob h
  refine go_getI hC mt_flX0_29 e1 dX0_faultPlace_1 ?_
  exact go_iret hC (mt_rei h hE) dX0_faultPlace_4
set_option maxHeartbeats 4000000 in
set_option maxRecDepth 100000 in
theorem ov_X0_faultPlace {T : mt_S}  {x0 : Nat} {S : mt_S} {r : Int32} {S' : mt_S} (hp : mt_cp S T) (h : f_X0_faultPlace x0 S = some (r, S')) : f_X0_faultPlace x0 (mt_ov S T) = some (r, mt_ov S' T) ∧ mt_cp S' T := by
  unfold f_X0_faultPlace at h ⊢
  obtain ⟨hg, h⟩ := mt_gd h
  refine ov_t (ov_K hp hg) ?_
  obtain ⟨v1, e1, h⟩ := mt_ob h
  refine ov_b (ov_rI hp e1) ?_
  exact ov_ret hp h
def f_X0_fail (x0 : Nat) (x1 : Int32) (x2 : Int32) (S : mt_S) : Option (mt_S) :=
  if mt_isK S x0 0 = true then
   Option.bind (mt_wI S x0 0 9 x1) fun S1 =>
   Option.bind (mt_wI S1 x0 0 10 x2) fun S2 =>
   some S2
  else none
theorem k_X0_fail {x0 : Nat} {x1 : Int32} {x2 : Int32} {S : mt_S} {S' : mt_S} (h : f_X0_fail x0 x1 x2 S = some S') : mt_isK S x0 0 = true := by
  unfold f_X0_fail at h
  exact (mt_gd h).1
set_option maxHeartbeats 4000000 in
set_option maxRecDepth 100000 in
theorem m_X0_fail {B : mt_B}  {x0 : Nat} {x1 : Int32} {x2 : Int32} {S : mt_S} {S' : mt_S} (h : f_X0_fail x0 x1 x2 S = some S') : mt_M B yX0_fail cX0_fail 3 none 1 [mt_rf B x0, .int x1, .int x2] S none S' := by
  unfold f_X0_fail at h
  refine mt_M.of (by decide) (Nat.le_of_ble_eq_true rfl) (fun E hC hE => ?_)
  obtain ⟨hk0, h⟩ := mt_gd h
  refine go_aload_n hC 0 dX0_fail_0 rfl rfl ?_
  refine go_iload_n hC 1 dX0_fail_1 rfl rfl ?_
  obtain ⟨S1, e1, h⟩ := mt_ob h
  refine go_putI hC mt_flX0_25 e1 dX0_fail_2 ?_
  refine go_aload_n hC 0 dX0_fail_5 rfl rfl ?_
  refine go_iload_n hC 2 dX0_fail_6 rfl rfl ?_
  obtain ⟨S2, e2, h⟩ := mt_ob h
  refine go_putI hC mt_flX0_29 e2 dX0_fail_7 ?_
  exact go_vret hC (mt_rev h hE) dX0_fail_10
set_option maxHeartbeats 4000000 in
set_option maxRecDepth 100000 in
theorem ov_X0_fail {T : mt_S}  {x0 : Nat} {x1 : Int32} {x2 : Int32} {S : mt_S} {S' : mt_S} (hp : mt_cp S T) (h : f_X0_fail x0 x1 x2 S = some S') : f_X0_fail x0 x1 x2 (mt_ov S T) = some (mt_ov S' T) ∧ mt_cp S' T := by
  unfold f_X0_fail at h ⊢
  obtain ⟨hg, h⟩ := mt_gd h
  refine ov_t (ov_K hp hg) ?_
  obtain ⟨S1, e1, h⟩ := mt_ob h
  obtain ⟨o_, hp⟩ := ov_wI hp e1
  refine ov_b o_ ?_
  obtain ⟨S2, e2, h⟩ := mt_ob h
  obtain ⟨o_, hp⟩ := ov_wI hp e2
  refine ov_b o_ ?_
  exact ov_retv hp h
def f_X0_isDigit (x0 : Int32) (S : mt_S) : Option (Int32 × mt_S) :=
  if x0 < 48 then
   some (0, S)
  else
  if 57 < x0 then
   some (0, S)
  else
   some (1, S)
set_option maxHeartbeats 4000000 in
set_option maxRecDepth 100000 in
theorem m_X0_isDigit {B : mt_B}  {x0 : Int32} {S : mt_S} {r : Int32} {S' : mt_S} (h : f_X0_isDigit x0 S = some (r, S')) : mt_M B yX0_isDigit cX0_isDigit 1 (some .boolean) 1 [.int x0] S (some (.int r)) S' := by
  unfold f_X0_isDigit at h
  refine mt_M.of (by decide) (Nat.le_of_ble_eq_true rfl) (fun E hC hE => ?_)
  refine go_iload_n hC 0 dX0_isDigit_0 rfl rfl ?_
  refine go_bipush (v := 48) hC dX0_isDigit_1 (by decide) ?_
  refine go_icmp_lt hC (tgt := 16) dX0_isDigit_3 (by decide) (fun hc => ?_) (fun hc => ?_)
  · have h := mt_ip h hc
    refine go_iconst (v := 0) hC dX0_isDigit_16 (by decide) ?_
    exact go_zret hC (mt_rei h hE) (Or.inl rfl) dX0_isDigit_17
  · have h := mt_in' h hc
    refine go_iload_n hC 0 dX0_isDigit_6 rfl rfl ?_
    refine go_bipush (v := 57) hC dX0_isDigit_7 (by decide) ?_
    refine go_icmp_gt hC (tgt := 16) dX0_isDigit_9 (by decide) (fun hc => ?_) (fun hc => ?_)
    · have h := mt_ip h hc
      refine go_iconst (v := 0) hC dX0_isDigit_16 (by decide) ?_
      exact go_zret hC (mt_rei h hE) (Or.inl rfl) dX0_isDigit_17
    · have h := mt_in' h hc
      refine go_iconst (v := 1) hC dX0_isDigit_12 (by decide) ?_
      refine go_goto hC (tgt := 17) dX0_isDigit_13 (by decide) ?_
      exact go_zret hC (mt_rei h hE) (Or.inr rfl) dX0_isDigit_17
set_option maxHeartbeats 4000000 in
set_option maxRecDepth 100000 in
theorem ov_X0_isDigit {T : mt_S}  {x0 : Int32} {S : mt_S} {r : Int32} {S' : mt_S} (hp : mt_cp S T) (h : f_X0_isDigit x0 S = some (r, S')) : f_X0_isDigit x0 (mt_ov S T) = some (r, mt_ov S' T) ∧ mt_cp S' T := by
  unfold f_X0_isDigit at h ⊢
  by_cases hc : x0 < 48
  · have h := mt_ip h hc
    refine ov_t hc ?_
    exact ov_ret hp h
  · have h := mt_in' h hc
    refine ov_f hc ?_
    by_cases hc : 57 < x0
    · have h := mt_ip h hc
      refine ov_t hc ?_
      exact ov_ret hp h
    · have h := mt_in' h hc
      refine ov_f hc ?_
      exact ov_ret hp h
def f_X0_readNumber_L5s (rc : Nat → Nat → Int32 → Int32 → Int32 → mt_S → Option (Int32 × mt_S)) (x0 : Nat) (x1 : Nat) (x2 : Int32) (x3 : Int32) (x4 : Int32) (S : mt_S) : Option (Int32 × mt_S) :=
  if 200 ≤ x4 then
   Option.bind (mt_rI S x0 0 7) fun v1 =>
   if v1 = 0 then
    Option.bind (f_X0_fail x0 1 x2 S) fun S17 =>
    Option.bind (mt_wI S17 x0 0 7 0) fun S18 =>
    some (x4, S18)
   else
   if 2 < x4 then
    Option.bind (f_X0_fail x0 2 x2 S) fun S2 =>
    Option.bind (mt_wI S2 x0 0 7 0) fun S3 =>
    some (x4, S3)
   else
   if x3 < 1 then
    Option.bind (f_X0_fail x0 2 x2 S) fun S4 =>
    Option.bind (mt_wI S4 x0 0 7 0) fun S5 =>
    some (x4, S5)
   else
   if x3 ≤ 99 then
    Option.bind (mt_rI S x0 0 8) fun v6 =>
    if v6 < 0 then
     Option.bind (mt_wI S x0 0 7 0) fun S7 =>
     some (x4, S7)
    else
     Option.bind (mt_rI S x0 0 8) fun v8 =>
     Option.bind (mt_rI S x0 0 5) fun v9 =>
     if v9 ≤ v8 then
      Option.bind (mt_wI S x0 0 7 0) fun S10 =>
      some (x4, S10)
     else
      Option.bind (mt_rR S x0 0 1) fun v11 =>
      Option.bind (mt_rI S x0 0 8) fun v12 =>
      Option.bind (mt_sI S v11 13 v12 x3) fun S13 =>
      Option.bind (mt_wI S13 x0 0 7 0) fun S14 =>
      some (x4, S14)
   else
    Option.bind (f_X0_fail x0 2 x2 S) fun S15 =>
    Option.bind (mt_wI S15 x0 0 7 0) fun S16 =>
    some (x4, S16)
  else
   mt_b2 (f_X7_at x1 (x2 + x4) S) fun v20 S19 =>
   mt_b2 (f_X0_isDigit v20 S19) fun v22 S21 =>
   if v22 = 0 then
    Option.bind (mt_rI S21 x0 0 7) fun v23 =>
    if v23 = 0 then
     Option.bind (f_X0_fail x0 1 x2 S21) fun S39 =>
     Option.bind (mt_wI S39 x0 0 7 0) fun S40 =>
     some (x4, S40)
    else
    if 2 < x4 then
     Option.bind (f_X0_fail x0 2 x2 S21) fun S24 =>
     Option.bind (mt_wI S24 x0 0 7 0) fun S25 =>
     some (x4, S25)
    else
    if x3 < 1 then
     Option.bind (f_X0_fail x0 2 x2 S21) fun S26 =>
     Option.bind (mt_wI S26 x0 0 7 0) fun S27 =>
     some (x4, S27)
    else
    if x3 ≤ 99 then
     Option.bind (mt_rI S21 x0 0 8) fun v28 =>
     if v28 < 0 then
      Option.bind (mt_wI S21 x0 0 7 0) fun S29 =>
      some (x4, S29)
     else
      Option.bind (mt_rI S21 x0 0 8) fun v30 =>
      Option.bind (mt_rI S21 x0 0 5) fun v31 =>
      if v31 ≤ v30 then
       Option.bind (mt_wI S21 x0 0 7 0) fun S32 =>
       some (x4, S32)
      else
       Option.bind (mt_rR S21 x0 0 1) fun v33 =>
       Option.bind (mt_rI S21 x0 0 8) fun v34 =>
       Option.bind (mt_sI S21 v33 13 v34 x3) fun S35 =>
       Option.bind (mt_wI S35 x0 0 7 0) fun S36 =>
       some (x4, S36)
    else
     Option.bind (f_X0_fail x0 2 x2 S21) fun S37 =>
     Option.bind (mt_wI S37 x0 0 7 0) fun S38 =>
     some (x4, S38)
   else
    mt_b2 (f_X7_at x1 (x2 + x4) S21) fun v42 S41 =>
    mt_b2 (f_J9_min_7cf53 (((x3 * 10) + v42) - 48) 100 S41) fun v44 S43 =>
    rc x0 x1 x2 v44 (x4 + 1) S43
def f_X0_readNumber_L5 : Nat → Nat → Nat → Int32 → Int32 → Int32 → mt_S → Option (Int32 × mt_S)
  | 0 => fun _ _ _ _ _ _ => none
  | n + 1 => f_X0_readNumber_L5s (f_X0_readNumber_L5 n)
set_option maxHeartbeats 4000000 in
set_option maxRecDepth 100000 in
theorem m_X0_readNumber_L5 {B : mt_B} {E : mt_E} {r : Int32} {S' : mt_S} (hC : mt_Cx B E cX0_readNumber RX0 (some .int) 5 2 0 0) (hE : mt_End B E (0, 0) (some (.int r)) S') : ∀ (n : Nat) (x0 : Nat) (x1 : Nat) (x2 : Int32) (x3 : Int32) (x4 : Int32) (S : mt_S), f_X0_readNumber_L5 n x0 x1 x2 x3 x4 S = some (r, S') → mt_Go B E (0, 0) S 5 [(0, mt_rf B x0), (1, mt_rf B x1), (2, .int x2), (3, .int x3), (4, .int x4)] [] := by
  intro n
  induction n with
  | zero =>
    intro x0 x1 x2 x3 x4 S h
    cases h
  | succ n ih =>
    intro x0 x1 x2 x3 x4 S h
    have h : f_X0_readNumber_L5s (f_X0_readNumber_L5 n) x0 x1 x2 x3 x4 S = some (r, S') := h
    unfold f_X0_readNumber_L5s at h
    refine go_iload hC 4 dX0_readNumber_5 rfl ?_
    refine go_sipush (v := 200) hC dX0_readNumber_7 (by decide) ?_
    refine go_icmp_ge hC (tgt := 55) dX0_readNumber_10 (by decide) (fun hc => ?_) (fun hc => ?_)
    · have h := mt_ip h hc
      refine go_aload_n hC 0 dX0_readNumber_55 rfl rfl ?_
      obtain ⟨v1, e1, h⟩ := mt_ob h
      refine go_getI hC mt_flX0_38 e1 dX0_readNumber_56 ?_
      refine go_if_ne hC (tgt := 71) dX0_readNumber_59 (by decide) (fun hc => ?_) (fun hc => ?_)
      · have h := mt_in' h hc
        refine go_iload hC 4 dX0_readNumber_71 rfl ?_
        refine go_iconst (v := 2) hC dX0_readNumber_73 (by decide) ?_
        refine go_icmp_gt hC (tgt := 88) dX0_readNumber_74 (by decide) (fun hc => ?_) (fun hc => ?_)
        · have h := mt_ip h hc
          refine go_aload_n hC 0 dX0_readNumber_88 rfl rfl ?_
          refine go_iconst (v := 2) hC dX0_readNumber_89 (by decide) ?_
          refine go_iload_n hC 2 dX0_readNumber_90 rfl rfl ?_
          obtain ⟨S2, e2, h⟩ := mt_ob h
          refine go_callVv hC [.int 2, .int x2] [] (m_X0_fail e2) mt_cvX0_51 (k_X0_fail e2) dX0_readNumber_91 rfl rfl (by decide) (Nat.le_of_ble_eq_true rfl) ⟨Nat.le_refl _, Nat.le_refl _⟩ ?_
          refine go_goto hC (tgt := 125) dX0_readNumber_94 (by decide) ?_
          refine go_aload_n hC 0 dX0_readNumber_125 rfl rfl ?_
          refine go_iconst (v := 0) hC dX0_readNumber_126 (by decide) ?_
          obtain ⟨S3, e3, h⟩ := mt_ob h
          refine go_putZ hC mt_flX0_38 e3 (Or.inl rfl) dX0_readNumber_127 ?_
          refine go_iload hC 4 dX0_readNumber_130 rfl ?_
          exact go_iret hC (mt_rei h hE) dX0_readNumber_132
        · have h := mt_in' h hc
          refine go_iload_n hC 3 dX0_readNumber_77 rfl rfl ?_
          refine go_iconst (v := 1) hC dX0_readNumber_78 (by decide) ?_
          refine go_icmp_lt hC (tgt := 88) dX0_readNumber_79 (by decide) (fun hc => ?_) (fun hc => ?_)
          · have h := mt_ip h hc
            refine go_aload_n hC 0 dX0_readNumber_88 rfl rfl ?_
            refine go_iconst (v := 2) hC dX0_readNumber_89 (by decide) ?_
            refine go_iload_n hC 2 dX0_readNumber_90 rfl rfl ?_
            obtain ⟨S4, e4, h⟩ := mt_ob h
            refine go_callVv hC [.int 2, .int x2] [] (m_X0_fail e4) mt_cvX0_51 (k_X0_fail e4) dX0_readNumber_91 rfl rfl (by decide) (Nat.le_of_ble_eq_true rfl) ⟨Nat.le_refl _, Nat.le_refl _⟩ ?_
            refine go_goto hC (tgt := 125) dX0_readNumber_94 (by decide) ?_
            refine go_aload_n hC 0 dX0_readNumber_125 rfl rfl ?_
            refine go_iconst (v := 0) hC dX0_readNumber_126 (by decide) ?_
            obtain ⟨S5, e5, h⟩ := mt_ob h
            refine go_putZ hC mt_flX0_38 e5 (Or.inl rfl) dX0_readNumber_127 ?_
            refine go_iload hC 4 dX0_readNumber_130 rfl ?_
            exact go_iret hC (mt_rei h hE) dX0_readNumber_132
          · have h := mt_in' h hc
            refine go_iload_n hC 3 dX0_readNumber_82 rfl rfl ?_
            refine go_bipush (v := 99) hC dX0_readNumber_83 (by decide) ?_
            refine go_icmp_le hC (tgt := 97) dX0_readNumber_85 (by decide) (fun hc => ?_) (fun hc => ?_)
            · have h := mt_ip h hc
              refine go_aload_n hC 0 dX0_readNumber_97 rfl rfl ?_
              obtain ⟨v6, e6, h⟩ := mt_ob h
              refine go_getI hC mt_flX0_42 e6 dX0_readNumber_98 ?_
              refine go_if_lt hC (tgt := 125) dX0_readNumber_101 (by decide) (fun hc => ?_) (fun hc => ?_)
              · have h := mt_ip h hc
                refine go_aload_n hC 0 dX0_readNumber_125 rfl rfl ?_
                refine go_iconst (v := 0) hC dX0_readNumber_126 (by decide) ?_
                obtain ⟨S7, e7, h⟩ := mt_ob h
                refine go_putZ hC mt_flX0_38 e7 (Or.inl rfl) dX0_readNumber_127 ?_
                refine go_iload hC 4 dX0_readNumber_130 rfl ?_
                exact go_iret hC (mt_rei h hE) dX0_readNumber_132
              · have h := mt_in' h hc
                refine go_aload_n hC 0 dX0_readNumber_104 rfl rfl ?_
                obtain ⟨v8, e8, h⟩ := mt_ob h
                refine go_getI hC mt_flX0_42 e8 dX0_readNumber_105 ?_
                refine go_aload_n hC 0 dX0_readNumber_108 rfl rfl ?_
                obtain ⟨v9, e9, h⟩ := mt_ob h
                refine go_getI hC mt_flX0_32 e9 dX0_readNumber_109 ?_
                refine go_icmp_ge hC (tgt := 125) dX0_readNumber_112 (by decide) (fun hc => ?_) (fun hc => ?_)
                · have h := mt_ip h hc
                  refine go_aload_n hC 0 dX0_readNumber_125 rfl rfl ?_
                  refine go_iconst (v := 0) hC dX0_readNumber_126 (by decide) ?_
                  obtain ⟨S10, e10, h⟩ := mt_ob h
                  refine go_putZ hC mt_flX0_38 e10 (Or.inl rfl) dX0_readNumber_127 ?_
                  refine go_iload hC 4 dX0_readNumber_130 rfl ?_
                  exact go_iret hC (mt_rei h hE) dX0_readNumber_132
                · have h := mt_in' h hc
                  refine go_aload_n hC 0 dX0_readNumber_115 rfl rfl ?_
                  obtain ⟨v11, e11, h⟩ := mt_ob h
                  refine go_getR hC mt_flX0_13 e11 dX0_readNumber_116 ?_
                  refine go_aload_n hC 0 dX0_readNumber_119 rfl rfl ?_
                  obtain ⟨v12, e12, h⟩ := mt_ob h
                  refine go_getI hC mt_flX0_42 e12 dX0_readNumber_120 ?_
                  refine go_iload_n hC 3 dX0_readNumber_123 rfl rfl ?_
                  obtain ⟨S13, e13, h⟩ := mt_ob h
                  refine go_iast hC e13 dX0_readNumber_124 ?_
                  refine go_aload_n hC 0 dX0_readNumber_125 rfl rfl ?_
                  refine go_iconst (v := 0) hC dX0_readNumber_126 (by decide) ?_
                  obtain ⟨S14, e14, h⟩ := mt_ob h
                  refine go_putZ hC mt_flX0_38 e14 (Or.inl rfl) dX0_readNumber_127 ?_
                  refine go_iload hC 4 dX0_readNumber_130 rfl ?_
                  exact go_iret hC (mt_rei h hE) dX0_readNumber_132
            · have h := mt_in' h hc
              refine go_aload_n hC 0 dX0_readNumber_88 rfl rfl ?_
              refine go_iconst (v := 2) hC dX0_readNumber_89 (by decide) ?_
              refine go_iload_n hC 2 dX0_readNumber_90 rfl rfl ?_
              obtain ⟨S15, e15, h⟩ := mt_ob h
              refine go_callVv hC [.int 2, .int x2] [] (m_X0_fail e15) mt_cvX0_51 (k_X0_fail e15) dX0_readNumber_91 rfl rfl (by decide) (Nat.le_of_ble_eq_true rfl) ⟨Nat.le_refl _, Nat.le_refl _⟩ ?_
              refine go_goto hC (tgt := 125) dX0_readNumber_94 (by decide) ?_
              refine go_aload_n hC 0 dX0_readNumber_125 rfl rfl ?_
              refine go_iconst (v := 0) hC dX0_readNumber_126 (by decide) ?_
              obtain ⟨S16, e16, h⟩ := mt_ob h
              refine go_putZ hC mt_flX0_38 e16 (Or.inl rfl) dX0_readNumber_127 ?_
              refine go_iload hC 4 dX0_readNumber_130 rfl ?_
              exact go_iret hC (mt_rei h hE) dX0_readNumber_132
      · have h := mt_ip h hc
        refine go_aload_n hC 0 dX0_readNumber_62 rfl rfl ?_
        refine go_iconst (v := 1) hC dX0_readNumber_63 (by decide) ?_
        refine go_iload_n hC 2 dX0_readNumber_64 rfl rfl ?_
        obtain ⟨S17, e17, h⟩ := mt_ob h
        refine go_callVv hC [.int 1, .int x2] [] (m_X0_fail e17) mt_cvX0_51 (k_X0_fail e17) dX0_readNumber_65 rfl rfl (by decide) (Nat.le_of_ble_eq_true rfl) ⟨Nat.le_refl _, Nat.le_refl _⟩ ?_
        refine go_goto hC (tgt := 125) dX0_readNumber_68 (by decide) ?_
        refine go_aload_n hC 0 dX0_readNumber_125 rfl rfl ?_
        refine go_iconst (v := 0) hC dX0_readNumber_126 (by decide) ?_
        obtain ⟨S18, e18, h⟩ := mt_ob h
        refine go_putZ hC mt_flX0_38 e18 (Or.inl rfl) dX0_readNumber_127 ?_
        refine go_iload hC 4 dX0_readNumber_130 rfl ?_
        exact go_iret hC (mt_rei h hE) dX0_readNumber_132
    · have h := mt_in' h hc
      refine go_aload_n hC 1 dX0_readNumber_13 rfl rfl ?_
      refine go_iload_n hC 2 dX0_readNumber_14 rfl rfl ?_
      refine go_iload hC 4 dX0_readNumber_15 rfl ?_
      refine go_iadd hC dX0_readNumber_17 ?_
      obtain ⟨v20, S19, e20, h⟩ := mt_ob2 h
      refine go_callVi hC [.int (x2 + x4)] [] (m_X7_at e20) mt_cvX0_55 (k_X7_at e20) dX0_readNumber_18 rfl rfl (by decide) (Nat.le_of_ble_eq_true rfl) ⟨Nat.le_refl _, Nat.le_refl _⟩ ?_
      obtain ⟨v22, S21, e22, h⟩ := mt_ob2 h
      refine go_callSi hC [.int v20] [] (m_X0_isDigit e22) mt_csX0_59 dX0_readNumber_21 rfl rfl (by decide) (Nat.le_of_ble_eq_true rfl) ⟨Nat.le_refl _, Nat.le_refl _⟩ ?_
      refine go_if_eq hC (tgt := 55) dX0_readNumber_24 (by decide) (fun hc => ?_) (fun hc => ?_)
      · have h := mt_ip h hc
        refine go_aload_n hC 0 dX0_readNumber_55 rfl rfl ?_
        obtain ⟨v23, e23, h⟩ := mt_ob h
        refine go_getI hC mt_flX0_38 e23 dX0_readNumber_56 ?_
        refine go_if_ne hC (tgt := 71) dX0_readNumber_59 (by decide) (fun hc => ?_) (fun hc => ?_)
        · have h := mt_in' h hc
          refine go_iload hC 4 dX0_readNumber_71 rfl ?_
          refine go_iconst (v := 2) hC dX0_readNumber_73 (by decide) ?_
          refine go_icmp_gt hC (tgt := 88) dX0_readNumber_74 (by decide) (fun hc => ?_) (fun hc => ?_)
          · have h := mt_ip h hc
            refine go_aload_n hC 0 dX0_readNumber_88 rfl rfl ?_
            refine go_iconst (v := 2) hC dX0_readNumber_89 (by decide) ?_
            refine go_iload_n hC 2 dX0_readNumber_90 rfl rfl ?_
            obtain ⟨S24, e24, h⟩ := mt_ob h
            refine go_callVv hC [.int 2, .int x2] [] (m_X0_fail e24) mt_cvX0_51 (k_X0_fail e24) dX0_readNumber_91 rfl rfl (by decide) (Nat.le_of_ble_eq_true rfl) ⟨Nat.le_refl _, Nat.le_refl _⟩ ?_
            refine go_goto hC (tgt := 125) dX0_readNumber_94 (by decide) ?_
            refine go_aload_n hC 0 dX0_readNumber_125 rfl rfl ?_
            refine go_iconst (v := 0) hC dX0_readNumber_126 (by decide) ?_
            obtain ⟨S25, e25, h⟩ := mt_ob h
            refine go_putZ hC mt_flX0_38 e25 (Or.inl rfl) dX0_readNumber_127 ?_
            refine go_iload hC 4 dX0_readNumber_130 rfl ?_
            exact go_iret hC (mt_rei h hE) dX0_readNumber_132
          · have h := mt_in' h hc
            refine go_iload_n hC 3 dX0_readNumber_77 rfl rfl ?_
            refine go_iconst (v := 1) hC dX0_readNumber_78 (by decide) ?_
            refine go_icmp_lt hC (tgt := 88) dX0_readNumber_79 (by decide) (fun hc => ?_) (fun hc => ?_)
            · have h := mt_ip h hc
              refine go_aload_n hC 0 dX0_readNumber_88 rfl rfl ?_
              refine go_iconst (v := 2) hC dX0_readNumber_89 (by decide) ?_
              refine go_iload_n hC 2 dX0_readNumber_90 rfl rfl ?_
              obtain ⟨S26, e26, h⟩ := mt_ob h
              refine go_callVv hC [.int 2, .int x2] [] (m_X0_fail e26) mt_cvX0_51 (k_X0_fail e26) dX0_readNumber_91 rfl rfl (by decide) (Nat.le_of_ble_eq_true rfl) ⟨Nat.le_refl _, Nat.le_refl _⟩ ?_
              refine go_goto hC (tgt := 125) dX0_readNumber_94 (by decide) ?_
              refine go_aload_n hC 0 dX0_readNumber_125 rfl rfl ?_
              refine go_iconst (v := 0) hC dX0_readNumber_126 (by decide) ?_
              obtain ⟨S27, e27, h⟩ := mt_ob h
              refine go_putZ hC mt_flX0_38 e27 (Or.inl rfl) dX0_readNumber_127 ?_
              refine go_iload hC 4 dX0_readNumber_130 rfl ?_
              exact go_iret hC (mt_rei h hE) dX0_readNumber_132
            · have h := mt_in' h hc
              refine go_iload_n hC 3 dX0_readNumber_82 rfl rfl ?_
              refine go_bipush (v := 99) hC dX0_readNumber_83 (by decide) ?_
              refine go_icmp_le hC (tgt := 97) dX0_readNumber_85 (by decide) (fun hc => ?_) (fun hc => ?_)
              · have h := mt_ip h hc
                refine go_aload_n hC 0 dX0_readNumber_97 rfl rfl ?_
                obtain ⟨v28, e28, h⟩ := mt_ob h
                refine go_getI hC mt_flX0_42 e28 dX0_readNumber_98 ?_
                refine go_if_lt hC (tgt := 125) dX0_readNumber_101 (by decide) (fun hc => ?_) (fun hc => ?_)
                · have h := mt_ip h hc
                  refine go_aload_n hC 0 dX0_readNumber_125 rfl rfl ?_
                  refine go_iconst (v := 0) hC dX0_readNumber_126 (by decide) ?_
                  obtain ⟨S29, e29, h⟩ := mt_ob h
                  refine go_putZ hC mt_flX0_38 e29 (Or.inl rfl) dX0_readNumber_127 ?_
                  refine go_iload hC 4 dX0_readNumber_130 rfl ?_
                  exact go_iret hC (mt_rei h hE) dX0_readNumber_132
                · have h := mt_in' h hc
                  refine go_aload_n hC 0 dX0_readNumber_104 rfl rfl ?_
                  obtain ⟨v30, e30, h⟩ := mt_ob h
                  refine go_getI hC mt_flX0_42 e30 dX0_readNumber_105 ?_
                  refine go_aload_n hC 0 dX0_readNumber_108 rfl rfl ?_
                  obtain ⟨v31, e31, h⟩ := mt_ob h
                  refine go_getI hC mt_flX0_32 e31 dX0_readNumber_109 ?_
                  refine go_icmp_ge hC (tgt := 125) dX0_readNumber_112 (by decide) (fun hc => ?_) (fun hc => ?_)
                  · have h := mt_ip h hc
                    refine go_aload_n hC 0 dX0_readNumber_125 rfl rfl ?_
                    refine go_iconst (v := 0) hC dX0_readNumber_126 (by decide) ?_
                    obtain ⟨S32, e32, h⟩ := mt_ob h
                    refine go_putZ hC mt_flX0_38 e32 (Or.inl rfl) dX0_readNumber_127 ?_
                    refine go_iload hC 4 dX0_readNumber_130 rfl ?_
                    exact go_iret hC (mt_rei h hE) dX0_readNumber_132
                  · have h := mt_in' h hc
                    refine go_aload_n hC 0 dX0_readNumber_115 rfl rfl ?_
                    obtain ⟨v33, e33, h⟩ := mt_ob h
                    refine go_getR hC mt_flX0_13 e33 dX0_readNumber_116 ?_
                    refine go_aload_n hC 0 dX0_readNumber_119 rfl rfl ?_
                    obtain ⟨v34, e34, h⟩ := mt_ob h
                    refine go_getI hC mt_flX0_42 e34 dX0_readNumber_120 ?_
                    refine go_iload_n hC 3 dX0_readNumber_123 rfl rfl ?_
                    obtain ⟨S35, e35, h⟩ := mt_ob h
                    refine go_iast hC e35 dX0_readNumber_124 ?_
                    refine go_aload_n hC 0 dX0_readNumber_125 rfl rfl ?_
                    refine go_iconst (v := 0) hC dX0_readNumber_126 (by decide) ?_
                    obtain ⟨S36, e36, h⟩ := mt_ob h
                    refine go_putZ hC mt_flX0_38 e36 (Or.inl rfl) dX0_readNumber_127 ?_
                    refine go_iload hC 4 dX0_readNumber_130 rfl ?_
                    exact go_iret hC (mt_rei h hE) dX0_readNumber_132
              · have h := mt_in' h hc
                refine go_aload_n hC 0 dX0_readNumber_88 rfl rfl ?_
                refine go_iconst (v := 2) hC dX0_readNumber_89 (by decide) ?_
                refine go_iload_n hC 2 dX0_readNumber_90 rfl rfl ?_
                obtain ⟨S37, e37, h⟩ := mt_ob h
                refine go_callVv hC [.int 2, .int x2] [] (m_X0_fail e37) mt_cvX0_51 (k_X0_fail e37) dX0_readNumber_91 rfl rfl (by decide) (Nat.le_of_ble_eq_true rfl) ⟨Nat.le_refl _, Nat.le_refl _⟩ ?_
                refine go_goto hC (tgt := 125) dX0_readNumber_94 (by decide) ?_
                refine go_aload_n hC 0 dX0_readNumber_125 rfl rfl ?_
                refine go_iconst (v := 0) hC dX0_readNumber_126 (by decide) ?_
                obtain ⟨S38, e38, h⟩ := mt_ob h
                refine go_putZ hC mt_flX0_38 e38 (Or.inl rfl) dX0_readNumber_127 ?_
                refine go_iload hC 4 dX0_readNumber_130 rfl ?_
                exact go_iret hC (mt_rei h hE) dX0_readNumber_132
        · have h := mt_ip h hc
          refine go_aload_n hC 0 dX0_readNumber_62 rfl rfl ?_
          refine go_iconst (v := 1) hC dX0_readNumber_63 (by decide) ?_
          refine go_iload_n hC 2 dX0_readNumber_64 rfl rfl ?_
          obtain ⟨S39, e39, h⟩ := mt_ob h
          refine go_callVv hC [.int 1, .int x2] [] (m_X0_fail e39) mt_cvX0_51 (k_X0_fail e39) dX0_readNumber_65 rfl rfl (by decide) (Nat.le_of_ble_eq_true rfl) ⟨Nat.le_refl _, Nat.le_refl _⟩ ?_
          refine go_goto hC (tgt := 125) dX0_readNumber_68 (by decide) ?_
          refine go_aload_n hC 0 dX0_readNumber_125 rfl rfl ?_
          refine go_iconst (v := 0) hC dX0_readNumber_126 (by decide) ?_
          obtain ⟨S40, e40, h⟩ := mt_ob h
          refine go_putZ hC mt_flX0_38 e40 (Or.inl rfl) dX0_readNumber_127 ?_
          refine go_iload hC 4 dX0_readNumber_130 rfl ?_
          exact go_iret hC (mt_rei h hE) dX0_readNumber_132
      · have h := mt_in' h hc
        refine go_iload_n hC 3 dX0_readNumber_27 rfl rfl ?_
        refine go_bipush (v := 10) hC dX0_readNumber_28 (by decide) ?_
        refine go_imul hC dX0_readNumber_30 ?_
        refine go_aload_n hC 1 dX0_readNumber_31 rfl rfl ?_
        refine go_iload_n hC 2 dX0_readNumber_32 rfl rfl ?_
        refine go_iload hC 4 dX0_readNumber_33 rfl ?_
        refine go_iadd hC dX0_readNumber_35 ?_
        obtain ⟨v42, S41, e42, h⟩ := mt_ob2 h
        refine go_callVi hC [.int (x2 + x4)] [.int (x3 * 10)] (m_X7_at e42) mt_cvX0_55 (k_X7_at e42) dX0_readNumber_36 rfl rfl (by decide) (Nat.le_of_ble_eq_true rfl) ⟨Nat.le_refl _, Nat.le_refl _⟩ ?_
        refine go_iadd hC dX0_readNumber_39 ?_
        refine go_bipush (v := 48) hC dX0_readNumber_40 (by decide) ?_
        refine go_isub hC dX0_readNumber_42 ?_
        refine go_bipush (v := 100) hC dX0_readNumber_43 (by decide) ?_
        obtain ⟨v44, S43, e44, h⟩ := mt_ob2 h
        refine go_callSi hC [.int (((x3 * 10) + v42) - 48), .int 100] [] (m_J9_min_7cf53 e44) mt_csX0_71 dX0_readNumber_45 rfl rfl (by decide) (Nat.le_of_ble_eq_true rfl) ⟨Nat.le_refl _, Nat.le_refl _⟩ ?_
        refine go_istore_n hC [1, 2, 3, 0, 4] (lv1 := [(0, mt_rf B x0), (1, mt_rf B x1), (2, .int x2), (3, .int v44), (4, .int x4)]) dX0_readNumber_48 rfl (by decide) rfl ?_
        refine go_iinc hC 4 [1, 2, 3, 4, 0] (v := x4 + 1) (lv1 := [(0, mt_rf B x0), (1, mt_rf B x1), (2, .int x2), (3, .int v44), (4, .int (x4 + 1))]) dX0_readNumber_49 rfl rfl (by decide) rfl ?_
        refine go_goto hC (tgt := 5) dX0_readNumber_52 (by decide) ?_
        exact ih _ _ _ _ _ _ h
set_option maxHeartbeats 4000000 in
set_option maxRecDepth 100000 in
theorem ov_X0_readNumber_L5 {T : mt_S} {r : Int32} {S' : mt_S} : ∀ (n : Nat) (x0 : Nat) (x1 : Nat) (x2 : Int32) (x3 : Int32) (x4 : Int32) (S : mt_S), mt_cp S T → f_X0_readNumber_L5 n x0 x1 x2 x3 x4 S = some (r, S') → f_X0_readNumber_L5 n x0 x1 x2 x3 x4 (mt_ov S T) = some (r, mt_ov S' T) ∧ mt_cp S' T := by
  intro n
  induction n with
  | zero =>
    intro x0 x1 x2 x3 x4 S hp h
    cases h
  | succ n ih =>
    intro x0 x1 x2 x3 x4 S hp h
    have h : f_X0_readNumber_L5s (f_X0_readNumber_L5 n) x0 x1 x2 x3 x4 S = some (r, S') := h
    show f_X0_readNumber_L5s (f_X0_readNumber_L5 n) x0 x1 x2 x3 x4 (mt_ov S T) = some (r, mt_ov S' T) ∧ mt_cp S' T
    unfold f_X0_readNumber_L5s at h ⊢
    by_cases hc : 200 ≤ x4
    · have h := mt_ip h hc
      refine ov_t hc ?_
      obtain ⟨v1, e1, h⟩ := mt_ob h
      refine ov_b (ov_rI hp e1) ?_
      by_cases hc : v1 = 0
      · have h := mt_ip h hc
        refine ov_t hc ?_
        obtain ⟨S17, e17, h⟩ := mt_ob h
        obtain ⟨o_, hp⟩ := ov_X0_fail hp e17
        refine ov_b o_ ?_
        obtain ⟨S18, e18, h⟩ := mt_ob h
        obtain ⟨o_, hp⟩ := ov_wI hp e18
        refine ov_b o_ ?_
        exact ov_ret hp h
      · have h := mt_in' h hc
        refine ov_f hc ?_
        by_cases hc : 2 < x4
        · have h := mt_ip h hc
          refine ov_t hc ?_
          obtain ⟨S2, e2, h⟩ := mt_ob h
          obtain ⟨o_, hp⟩ := ov_X0_fail hp e2
          refine ov_b o_ ?_
          obtain ⟨S3, e3, h⟩ := mt_ob h
          obtain ⟨o_, hp⟩ := ov_wI hp e3
          refine ov_b o_ ?_
          exact ov_ret hp h
        · have h := mt_in' h hc
          refine ov_f hc ?_
          by_cases hc : x3 < 1
          · have h := mt_ip h hc
            refine ov_t hc ?_
            obtain ⟨S4, e4, h⟩ := mt_ob h
            obtain ⟨o_, hp⟩ := ov_X0_fail hp e4
            refine ov_b o_ ?_
            obtain ⟨S5, e5, h⟩ := mt_ob h
            obtain ⟨o_, hp⟩ := ov_wI hp e5
            refine ov_b o_ ?_
            exact ov_ret hp h
          · have h := mt_in' h hc
            refine ov_f hc ?_
            by_cases hc : x3 ≤ 99
            · have h := mt_ip h hc
              refine ov_t hc ?_
              obtain ⟨v6, e6, h⟩ := mt_ob h
              refine ov_b (ov_rI hp e6) ?_
              by_cases hc : v6 < 0
              · have h := mt_ip h hc
                refine ov_t hc ?_
                obtain ⟨S7, e7, h⟩ := mt_ob h
                obtain ⟨o_, hp⟩ := ov_wI hp e7
                refine ov_b o_ ?_
                exact ov_ret hp h
              · have h := mt_in' h hc
                refine ov_f hc ?_
                obtain ⟨v8, e8, h⟩ := mt_ob h
                refine ov_b (ov_rI hp e8) ?_
                obtain ⟨v9, e9, h⟩ := mt_ob h
                refine ov_b (ov_rI hp e9) ?_
                by_cases hc : v9 ≤ v8
                · have h := mt_ip h hc
                  refine ov_t hc ?_
                  obtain ⟨S10, e10, h⟩ := mt_ob h
                  obtain ⟨o_, hp⟩ := ov_wI hp e10
                  refine ov_b o_ ?_
                  exact ov_ret hp h
                · have h := mt_in' h hc
                  refine ov_f hc ?_
                  obtain ⟨v11, e11, h⟩ := mt_ob h
                  refine ov_b (ov_rR hp e11) ?_
                  obtain ⟨v12, e12, h⟩ := mt_ob h
                  refine ov_b (ov_rI hp e12) ?_
                  obtain ⟨S13, e13, h⟩ := mt_ob h
                  obtain ⟨o_, hp⟩ := ov_sI hp e13
                  refine ov_b o_ ?_
                  obtain ⟨S14, e14, h⟩ := mt_ob h
                  obtain ⟨o_, hp⟩ := ov_wI hp e14
                  refine ov_b o_ ?_
                  exact ov_ret hp h
            · have h := mt_in' h hc
              refine ov_f hc ?_
              obtain ⟨S15, e15, h⟩ := mt_ob h
              obtain ⟨o_, hp⟩ := ov_X0_fail hp e15
              refine ov_b o_ ?_
              obtain ⟨S16, e16, h⟩ := mt_ob h
              obtain ⟨o_, hp⟩ := ov_wI hp e16
              refine ov_b o_ ?_
              exact ov_ret hp h
    · have h := mt_in' h hc
      refine ov_f hc ?_
      obtain ⟨v20, S19, e20, h⟩ := mt_ob2 h
      obtain ⟨o_, hp⟩ := ov_X7_at hp e20
      refine ov_b2 o_ ?_
      obtain ⟨v22, S21, e22, h⟩ := mt_ob2 h
      obtain ⟨o_, hp⟩ := ov_X0_isDigit hp e22
      refine ov_b2 o_ ?_
      by_cases hc : v22 = 0
      · have h := mt_ip h hc
        refine ov_t hc ?_
        obtain ⟨v23, e23, h⟩ := mt_ob h
        refine ov_b (ov_rI hp e23) ?_
        by_cases hc : v23 = 0
        · have h := mt_ip h hc
          refine ov_t hc ?_
          obtain ⟨S39, e39, h⟩ := mt_ob h
          obtain ⟨o_, hp⟩ := ov_X0_fail hp e39
          refine ov_b o_ ?_
          obtain ⟨S40, e40, h⟩ := mt_ob h
          obtain ⟨o_, hp⟩ := ov_wI hp e40
          refine ov_b o_ ?_
          exact ov_ret hp h
        · have h := mt_in' h hc
          refine ov_f hc ?_
          by_cases hc : 2 < x4
          · have h := mt_ip h hc
            refine ov_t hc ?_
            obtain ⟨S24, e24, h⟩ := mt_ob h
            obtain ⟨o_, hp⟩ := ov_X0_fail hp e24
            refine ov_b o_ ?_
            obtain ⟨S25, e25, h⟩ := mt_ob h
            obtain ⟨o_, hp⟩ := ov_wI hp e25
            refine ov_b o_ ?_
            exact ov_ret hp h
          · have h := mt_in' h hc
            refine ov_f hc ?_
            by_cases hc : x3 < 1
            · have h := mt_ip h hc
              refine ov_t hc ?_
              obtain ⟨S26, e26, h⟩ := mt_ob h
              obtain ⟨o_, hp⟩ := ov_X0_fail hp e26
              refine ov_b o_ ?_
              obtain ⟨S27, e27, h⟩ := mt_ob h
              obtain ⟨o_, hp⟩ := ov_wI hp e27
              refine ov_b o_ ?_
              exact ov_ret hp h
            · have h := mt_in' h hc
              refine ov_f hc ?_
              by_cases hc : x3 ≤ 99
              · have h := mt_ip h hc
                refine ov_t hc ?_
                obtain ⟨v28, e28, h⟩ := mt_ob h
                refine ov_b (ov_rI hp e28) ?_
                by_cases hc : v28 < 0
                · have h := mt_ip h hc
                  refine ov_t hc ?_
                  obtain ⟨S29, e29, h⟩ := mt_ob h
                  obtain ⟨o_, hp⟩ := ov_wI hp e29
                  refine ov_b o_ ?_
                  exact ov_ret hp h
                · have h := mt_in' h hc
                  refine ov_f hc ?_
                  obtain ⟨v30, e30, h⟩ := mt_ob h
                  refine ov_b (ov_rI hp e30) ?_
                  obtain ⟨v31, e31, h⟩ := mt_ob h
                  refine ov_b (ov_rI hp e31) ?_
                  by_cases hc : v31 ≤ v30
                  · have h := mt_ip h hc
                    refine ov_t hc ?_
                    obtain ⟨S32, e32, h⟩ := mt_ob h
                    obtain ⟨o_, hp⟩ := ov_wI hp e32
                    refine ov_b o_ ?_
                    exact ov_ret hp h
                  · have h := mt_in' h hc
                    refine ov_f hc ?_
                    obtain ⟨v33, e33, h⟩ := mt_ob h
                    refine ov_b (ov_rR hp e33) ?_
                    obtain ⟨v34, e34, h⟩ := mt_ob h
                    refine ov_b (ov_rI hp e34) ?_
                    obtain ⟨S35, e35, h⟩ := mt_ob h
                    obtain ⟨o_, hp⟩ := ov_sI hp e35
                    refine ov_b o_ ?_
                    obtain ⟨S36, e36, h⟩ := mt_ob h
                    obtain ⟨o_, hp⟩ := ov_wI hp e36
                    refine ov_b o_ ?_
                    exact ov_ret hp h
              · have h := mt_in' h hc
                refine ov_f hc ?_
                obtain ⟨S37, e37, h⟩ := mt_ob h
                obtain ⟨o_, hp⟩ := ov_X0_fail hp e37
                refine ov_b o_ ?_
                obtain ⟨S38, e38, h⟩ := mt_ob h
                obtain ⟨o_, hp⟩ := ov_wI hp e38
                refine ov_b o_ ?_
                exact ov_ret hp h
      · have h := mt_in' h hc
        refine ov_f hc ?_
        obtain ⟨v42, S41, e42, h⟩ := mt_ob2 h
        obtain ⟨o_, hp⟩ := ov_X7_at hp e42
        refine ov_b2 o_ ?_
        obtain ⟨v44, S43, e44, h⟩ := mt_ob2 h
        obtain ⟨o_, hp⟩ := ov_J9_min_7cf53 hp e44
        refine ov_b2 o_ ?_
        exact ih _ _ _ _ _ _ hp h
def f_X0_readNumber (x0 : Nat) (x1 : Nat) (x2 : Int32) (S : mt_S) : Option (Int32 × mt_S) :=
  if mt_isK S x0 0 = true then
   f_X0_readNumber_L5 1000 x0 x1 x2 0 0 S
  else none
theorem k_X0_readNumber {x0 : Nat} {x1 : Nat} {x2 : Int32} {S : mt_S} {r : Int32} {S' : mt_S} (h : f_X0_readNumber x0 x1 x2 S = some (r, S')) : mt_isK S x0 0 = true := by
  unfold f_X0_readNumber at h
  exact (mt_gd h).1
set_option maxHeartbeats 4000000 in
set_option maxRecDepth 100000 in
theorem m_X0_readNumber {B : mt_B}  {x0 : Nat} {x1 : Nat} {x2 : Int32} {S : mt_S} {r : Int32} {S' : mt_S} (h : f_X0_readNumber x0 x1 x2 S = some (r, S')) : mt_M B yX0_readNumber cX0_readNumber 5 (some .int) 2 [mt_rf B x0, mt_rf B x1, .int x2] S (some (.int r)) S' := by
  unfold f_X0_readNumber at h
  refine mt_M.of (by decide) (Nat.le_of_ble_eq_true rfl) (fun E hC hE => ?_)
  obtain ⟨hk0, h⟩ := mt_gd h
  refine go_iconst (v := 0) hC dX0_readNumber_0 (by decide) ?_
  refine go_istore_n hC [1, 2, 3, 0] (lv1 := [(0, mt_rf B x0), (1, mt_rf B x1), (2, .int x2), (3, .int 0)]) dX0_readNumber_1 rfl (by decide) rfl ?_
  refine go_iconst (v := 0) hC dX0_readNumber_2 (by decide) ?_
  refine go_istore hC [1, 2, 3, 4, 0] (lv1 := [(0, mt_rf B x0), (1, mt_rf B x1), (2, .int x2), (3, .int 0), (4, .int 0)]) dX0_readNumber_3 (by decide) rfl ?_
  exact m_X0_readNumber_L5 hC hE 1000 _ _ _ _ _ _ h
set_option maxHeartbeats 4000000 in
set_option maxRecDepth 100000 in
theorem ov_X0_readNumber {T : mt_S}  {x0 : Nat} {x1 : Nat} {x2 : Int32} {S : mt_S} {r : Int32} {S' : mt_S} (hp : mt_cp S T) (h : f_X0_readNumber x0 x1 x2 S = some (r, S')) : f_X0_readNumber x0 x1 x2 (mt_ov S T) = some (r, mt_ov S' T) ∧ mt_cp S' T := by
  unfold f_X0_readNumber at h ⊢
  obtain ⟨hg, h⟩ := mt_gd h
  refine ov_t (ov_K hp hg) ?_
  exact ov_X0_readNumber_L5 1000 _ _ _ _ _ _ hp h
def f_X0_putAct (x0 : Nat) (x1 : Int32) (x2 : Int32) (S : mt_S) : Option (mt_S) :=
  if mt_isK S x0 0 = true then
   Option.bind (mt_rI S x0 0 5) fun v1 =>
   if v1 < 200 then
    Option.bind (mt_rR S x0 0 0) fun v2 =>
    Option.bind (mt_rI S x0 0 5) fun v3 =>
    Option.bind (mt_sI S v2 13 v3 x1) fun S4 =>
    Option.bind (mt_rR S4 x0 0 1) fun v5 =>
    Option.bind (mt_rI S4 x0 0 5) fun v6 =>
    Option.bind (mt_sI S4 v5 13 v6 1) fun S7 =>
    Option.bind (mt_rR S7 x0 0 2) fun v8 =>
    Option.bind (mt_rI S7 x0 0 5) fun v9 =>
    Option.bind (mt_sI S7 v8 13 v9 x2) fun S10 =>
    Option.bind (mt_rR S10 x0 0 3) fun v11 =>
    Option.bind (mt_rI S10 x0 0 5) fun v12 =>
    Option.bind (mt_sI S10 v11 13 v12 0) fun S13 =>
    Option.bind (mt_rI S13 x0 0 5) fun v14 =>
    Option.bind (mt_wI S13 x0 0 8 v14) fun S15 =>
    Option.bind (mt_rI S15 x0 0 5) fun v16 =>
    Option.bind (mt_wI S15 x0 0 5 (v16 + 1)) fun S17 =>
    some S17
   else
    some S
  else none
theorem k_X0_putAct {x0 : Nat} {x1 : Int32} {x2 : Int32} {S : mt_S} {S' : mt_S} (h : f_X0_putAct x0 x1 x2 S = some S') : mt_isK S x0 0 = true := by
  unfold f_X0_putAct at h
  exact (mt_gd h).1
set_option maxHeartbeats 4000000 in
set_option maxRecDepth 100000 in
theorem m_X0_putAct {B : mt_B}  {x0 : Nat} {x1 : Int32} {x2 : Int32} {S : mt_S} {S' : mt_S} (h : f_X0_putAct x0 x1 x2 S = some S') : mt_M B yX0_putAct cX0_putAct 3 none 1 [mt_rf B x0, .int x1, .int x2] S none S' := by
  unfold f_X0_putAct at h
  refine mt_M.of (by decide) (Nat.le_of_ble_eq_true rfl) (fun E hC hE => ?_)
  obtain ⟨hk0, h⟩ := mt_gd h
  refine go_aload_n hC 0 dX0_putAct_0 rfl rfl ?_
  obtain ⟨v1, e1, h⟩ := mt_ob h
  refine go_getI hC mt_flX0_32 e1 dX0_putAct_1 ?_
  refine go_sipush (v := 200) hC dX0_putAct_4 (by decide) ?_
  refine go_icmp_lt hC (tgt := 11) dX0_putAct_7 (by decide) (fun hc => ?_) (fun hc => ?_)
  · have h := mt_ip h hc
    refine go_aload_n hC 0 dX0_putAct_11 rfl rfl ?_
    obtain ⟨v2, e2, h⟩ := mt_ob h
    refine go_getR hC mt_flX0_9 e2 dX0_putAct_12 ?_
    refine go_aload_n hC 0 dX0_putAct_15 rfl rfl ?_
    obtain ⟨v3, e3, h⟩ := mt_ob h
    refine go_getI hC mt_flX0_32 e3 dX0_putAct_16 ?_
    refine go_iload_n hC 1 dX0_putAct_19 rfl rfl ?_
    obtain ⟨S4, e4, h⟩ := mt_ob h
    refine go_iast hC e4 dX0_putAct_20 ?_
    refine go_aload_n hC 0 dX0_putAct_21 rfl rfl ?_
    obtain ⟨v5, e5, h⟩ := mt_ob h
    refine go_getR hC mt_flX0_13 e5 dX0_putAct_22 ?_
    refine go_aload_n hC 0 dX0_putAct_25 rfl rfl ?_
    obtain ⟨v6, e6, h⟩ := mt_ob h
    refine go_getI hC mt_flX0_32 e6 dX0_putAct_26 ?_
    refine go_iconst (v := 1) hC dX0_putAct_29 (by decide) ?_
    obtain ⟨S7, e7, h⟩ := mt_ob h
    refine go_iast hC e7 dX0_putAct_30 ?_
    refine go_aload_n hC 0 dX0_putAct_31 rfl rfl ?_
    obtain ⟨v8, e8, h⟩ := mt_ob h
    refine go_getR hC mt_flX0_16 e8 dX0_putAct_32 ?_
    refine go_aload_n hC 0 dX0_putAct_35 rfl rfl ?_
    obtain ⟨v9, e9, h⟩ := mt_ob h
    refine go_getI hC mt_flX0_32 e9 dX0_putAct_36 ?_
    refine go_iload_n hC 2 dX0_putAct_39 rfl rfl ?_
    obtain ⟨S10, e10, h⟩ := mt_ob h
    refine go_iast hC e10 dX0_putAct_40 ?_
    refine go_aload_n hC 0 dX0_putAct_41 rfl rfl ?_
    obtain ⟨v11, e11, h⟩ := mt_ob h
    refine go_getR hC mt_flX0_19 e11 dX0_putAct_42 ?_
    refine go_aload_n hC 0 dX0_putAct_45 rfl rfl ?_
    obtain ⟨v12, e12, h⟩ := mt_ob h
    refine go_getI hC mt_flX0_32 e12 dX0_putAct_46 ?_
    refine go_iconst (v := 0) hC dX0_putAct_49 (by decide) ?_
    obtain ⟨S13, e13, h⟩ := mt_ob h
    refine go_iast hC e13 dX0_putAct_50 ?_
    refine go_aload_n hC 0 dX0_putAct_51 rfl rfl ?_
    refine go_aload_n hC 0 dX0_putAct_52 rfl rfl ?_
    obtain ⟨v14, e14, h⟩ := mt_ob h
    refine go_getI hC mt_flX0_32 e14 dX0_putAct_53 ?_
    obtain ⟨S15, e15, h⟩ := mt_ob h
    refine go_putI hC mt_flX0_42 e15 dX0_putAct_56 ?_
    refine go_aload_n hC 0 dX0_putAct_59 rfl rfl ?_
    refine go_dup hC dX0_putAct_60 rfl ?_
    obtain ⟨v16, e16, h⟩ := mt_ob h
    refine go_getI hC mt_flX0_32 e16 dX0_putAct_61 ?_
    refine go_iconst (v := 1) hC dX0_putAct_64 (by decide) ?_
    refine go_iadd hC dX0_putAct_65 ?_
    obtain ⟨S17, e17, h⟩ := mt_ob h
    refine go_putI hC mt_flX0_32 e17 dX0_putAct_66 ?_
    exact go_vret hC (mt_rev h hE) dX0_putAct_69
  · have h := mt_in' h hc
    exact go_vret hC (mt_rev h hE) dX0_putAct_10
set_option maxHeartbeats 4000000 in
set_option maxRecDepth 100000 in
theorem ov_X0_putAct {T : mt_S}  {x0 : Nat} {x1 : Int32} {x2 : Int32} {S : mt_S} {S' : mt_S} (hp : mt_cp S T) (h : f_X0_putAct x0 x1 x2 S = some S') : f_X0_putAct x0 x1 x2 (mt_ov S T) = some (mt_ov S' T) ∧ mt_cp S' T := by
  unfold f_X0_putAct at h ⊢
  obtain ⟨hg, h⟩ := mt_gd h
  refine ov_t (ov_K hp hg) ?_
  obtain ⟨v1, e1, h⟩ := mt_ob h
  refine ov_b (ov_rI hp e1) ?_
  by_cases hc : v1 < 200
  · have h := mt_ip h hc
    refine ov_t hc ?_
    obtain ⟨v2, e2, h⟩ := mt_ob h
    refine ov_b (ov_rR hp e2) ?_
    obtain ⟨v3, e3, h⟩ := mt_ob h
    refine ov_b (ov_rI hp e3) ?_
    obtain ⟨S4, e4, h⟩ := mt_ob h
    obtain ⟨o_, hp⟩ := ov_sI hp e4
    refine ov_b o_ ?_
    obtain ⟨v5, e5, h⟩ := mt_ob h
    refine ov_b (ov_rR hp e5) ?_
    obtain ⟨v6, e6, h⟩ := mt_ob h
    refine ov_b (ov_rI hp e6) ?_
    obtain ⟨S7, e7, h⟩ := mt_ob h
    obtain ⟨o_, hp⟩ := ov_sI hp e7
    refine ov_b o_ ?_
    obtain ⟨v8, e8, h⟩ := mt_ob h
    refine ov_b (ov_rR hp e8) ?_
    obtain ⟨v9, e9, h⟩ := mt_ob h
    refine ov_b (ov_rI hp e9) ?_
    obtain ⟨S10, e10, h⟩ := mt_ob h
    obtain ⟨o_, hp⟩ := ov_sI hp e10
    refine ov_b o_ ?_
    obtain ⟨v11, e11, h⟩ := mt_ob h
    refine ov_b (ov_rR hp e11) ?_
    obtain ⟨v12, e12, h⟩ := mt_ob h
    refine ov_b (ov_rI hp e12) ?_
    obtain ⟨S13, e13, h⟩ := mt_ob h
    obtain ⟨o_, hp⟩ := ov_sI hp e13
    refine ov_b o_ ?_
    obtain ⟨v14, e14, h⟩ := mt_ob h
    refine ov_b (ov_rI hp e14) ?_
    obtain ⟨S15, e15, h⟩ := mt_ob h
    obtain ⟨o_, hp⟩ := ov_wI hp e15
    refine ov_b o_ ?_
    obtain ⟨v16, e16, h⟩ := mt_ob h
    refine ov_b (ov_rI hp e16) ?_
    obtain ⟨S17, e17, h⟩ := mt_ob h
    obtain ⟨o_, hp⟩ := ov_wI hp e17
    refine ov_b o_ ?_
    exact ov_retv hp h
  · have h := mt_in' h hc
    refine ov_f hc ?_
    exact ov_retv hp h
def f_X0_openBracket (x0 : Nat) (x1 : Int32) (S : mt_S) : Option (mt_S) :=
  if mt_isK S x0 0 = true then
   Option.bind (mt_rI S x0 0 6) fun v1 =>
   if v1 < 3 then
    Option.bind (mt_rR S x0 0 4) fun v2 =>
    Option.bind (mt_rI S x0 0 6) fun v3 =>
    Option.bind (mt_rI S x0 0 5) fun v4 =>
    Option.bind (mt_sI S v2 13 v3 v4) fun S5 =>
    Option.bind (mt_rI S5 x0 0 6) fun v6 =>
    Option.bind (mt_wI S5 x0 0 6 (v6 + 1)) fun S7 =>
    Option.bind (mt_wI S7 x0 0 7 0) fun S8 =>
    some S8
   else
    Option.bind (f_X0_fail x0 3 x1 S) fun S9 =>
    some S9
  else none
theorem k_X0_openBracket {x0 : Nat} {x1 : Int32} {S : mt_S} {S' : mt_S} (h : f_X0_openBracket x0 x1 S = some S') : mt_isK S x0 0 = true := by
  unfold f_X0_openBracket at h
  exact (mt_gd h).1
set_option maxHeartbeats 4000000 in
set_option maxRecDepth 100000 in
theorem m_X0_openBracket {B : mt_B}  {x0 : Nat} {x1 : Int32} {S : mt_S} {S' : mt_S} (h : f_X0_openBracket x0 x1 S = some S') : mt_M B yX0_openBracket cX0_openBracket 2 none 2 [mt_rf B x0, .int x1] S none S' := by
  unfold f_X0_openBracket at h
  refine mt_M.of (by decide) (Nat.le_of_ble_eq_true rfl) (fun E hC hE => ?_)
  obtain ⟨hk0, h⟩ := mt_gd h
  refine go_aload_n hC 0 dX0_openBracket_0 rfl rfl ?_
  obtain ⟨v1, e1, h⟩ := mt_ob h
  refine go_getI hC mt_flX0_35 e1 dX0_openBracket_1 ?_
  refine go_iconst (v := 3) hC dX0_openBracket_4 (by decide) ?_
  refine go_icmp_lt hC (tgt := 15) dX0_openBracket_5 (by decide) (fun hc => ?_) (fun hc => ?_)
  · have h := mt_ip h hc
    refine go_aload_n hC 0 dX0_openBracket_15 rfl rfl ?_
    obtain ⟨v2, e2, h⟩ := mt_ob h
    refine go_getR hC mt_flX0_22 e2 dX0_openBracket_16 ?_
    refine go_aload_n hC 0 dX0_openBracket_19 rfl rfl ?_
    obtain ⟨v3, e3, h⟩ := mt_ob h
    refine go_getI hC mt_flX0_35 e3 dX0_openBracket_20 ?_
    refine go_aload_n hC 0 dX0_openBracket_23 rfl rfl ?_
    obtain ⟨v4, e4, h⟩ := mt_ob h
    refine go_getI hC mt_flX0_32 e4 dX0_openBracket_24 ?_
    obtain ⟨S5, e5, h⟩ := mt_ob h
    refine go_iast hC e5 dX0_openBracket_27 ?_
    refine go_aload_n hC 0 dX0_openBracket_28 rfl rfl ?_
    refine go_dup hC dX0_openBracket_29 rfl ?_
    obtain ⟨v6, e6, h⟩ := mt_ob h
    refine go_getI hC mt_flX0_35 e6 dX0_openBracket_30 ?_
    refine go_iconst (v := 1) hC dX0_openBracket_33 (by decide) ?_
    refine go_iadd hC dX0_openBracket_34 ?_
    obtain ⟨S7, e7, h⟩ := mt_ob h
    refine go_putI hC mt_flX0_35 e7 dX0_openBracket_35 ?_
    refine go_aload_n hC 0 dX0_openBracket_38 rfl rfl ?_
    refine go_iconst (v := 0) hC dX0_openBracket_39 (by decide) ?_
    obtain ⟨S8, e8, h⟩ := mt_ob h
    refine go_putZ hC mt_flX0_38 e8 (Or.inl rfl) dX0_openBracket_40 ?_
    exact go_vret hC (mt_rev h hE) dX0_openBracket_43
  · have h := mt_in' h hc
    refine go_aload_n hC 0 dX0_openBracket_8 rfl rfl ?_
    refine go_iconst (v := 3) hC dX0_openBracket_9 (by decide) ?_
    refine go_iload_n hC 1 dX0_openBracket_10 rfl rfl ?_
    obtain ⟨S9, e9, h⟩ := mt_ob h
    refine go_callVv hC [.int 3, .int x1] [] (m_X0_fail e9) mt_cvX0_51 (k_X0_fail e9) dX0_openBracket_11 rfl rfl (by decide) (Nat.le_of_ble_eq_true rfl) ⟨Nat.le_refl _, Nat.le_refl _⟩ ?_
    exact go_vret hC (mt_rev h hE) dX0_openBracket_14
set_option maxHeartbeats 4000000 in
set_option maxRecDepth 100000 in
theorem ov_X0_openBracket {T : mt_S}  {x0 : Nat} {x1 : Int32} {S : mt_S} {S' : mt_S} (hp : mt_cp S T) (h : f_X0_openBracket x0 x1 S = some S') : f_X0_openBracket x0 x1 (mt_ov S T) = some (mt_ov S' T) ∧ mt_cp S' T := by
  unfold f_X0_openBracket at h ⊢
  obtain ⟨hg, h⟩ := mt_gd h
  refine ov_t (ov_K hp hg) ?_
  obtain ⟨v1, e1, h⟩ := mt_ob h
  refine ov_b (ov_rI hp e1) ?_
  by_cases hc : v1 < 3
  · have h := mt_ip h hc
    refine ov_t hc ?_
    obtain ⟨v2, e2, h⟩ := mt_ob h
    refine ov_b (ov_rR hp e2) ?_
    obtain ⟨v3, e3, h⟩ := mt_ob h
    refine ov_b (ov_rI hp e3) ?_
    obtain ⟨v4, e4, h⟩ := mt_ob h
    refine ov_b (ov_rI hp e4) ?_
    obtain ⟨S5, e5, h⟩ := mt_ob h
    obtain ⟨o_, hp⟩ := ov_sI hp e5
    refine ov_b o_ ?_
    obtain ⟨v6, e6, h⟩ := mt_ob h
    refine ov_b (ov_rI hp e6) ?_
    obtain ⟨S7, e7, h⟩ := mt_ob h
    obtain ⟨o_, hp⟩ := ov_wI hp e7
    refine ov_b o_ ?_
    obtain ⟨S8, e8, h⟩ := mt_ob h
    obtain ⟨o_, hp⟩ := ov_wI hp e8
    refine ov_b o_ ?_
    exact ov_retv hp h
  · have h := mt_in' h hc
    refine ov_f hc ?_
    obtain ⟨S9, e9, h⟩ := mt_ob h
    obtain ⟨o_, hp⟩ := ov_X0_fail hp e9
    refine ov_b o_ ?_
    exact ov_retv hp h
def f_X0_closeBracket (x0 : Nat) (x1 : Int32) (S : mt_S) : Option (mt_S) :=
  if mt_isK S x0 0 = true then
   Option.bind (mt_rI S x0 0 6) fun v1 =>
   if 1 ≤ v1 then
    Option.bind (mt_rI S x0 0 6) fun v2 =>
    Option.bind (mt_wI S x0 0 6 (v2 - 1)) fun S3 =>
    Option.bind (mt_rR S3 x0 0 4) fun v4 =>
    Option.bind (mt_rI S3 x0 0 6) fun v5 =>
    Option.bind (mt_aI S3 v4 13 v5) fun v6 =>
    Option.bind (mt_wI S3 x0 0 8 (-1)) fun S7 =>
    Option.bind (mt_rI S7 x0 0 5) fun v8 =>
    if v8 ≤ v6 then
     Option.bind (mt_wI S7 x0 0 7 1) fun S9 =>
     some S9
    else
     Option.bind (f_X0_putAct x0 93 v6 S7) fun S10 =>
     Option.bind (mt_wI S10 x0 0 7 1) fun S11 =>
     some S11
   else
    Option.bind (f_X0_fail x0 1 x1 S) fun S12 =>
    some S12
  else none
theorem k_X0_closeBracket {x0 : Nat} {x1 : Int32} {S : mt_S} {S' : mt_S} (h : f_X0_closeBracket x0 x1 S = some S') : mt_isK S x0 0 = true := by
  unfold f_X0_closeBracket at h
  exact (mt_gd h).1
set_option maxHeartbeats 4000000 in
set_option maxRecDepth 100000 in
theorem m_X0_closeBracket {B : mt_B}  {x0 : Nat} {x1 : Int32} {S : mt_S} {S' : mt_S} (h : f_X0_closeBracket x0 x1 S = some S') : mt_M B yX0_closeBracket cX0_closeBracket 3 none 2 [mt_rf B x0, .int x1] S none S' := by
  unfold f_X0_closeBracket at h
  refine mt_M.of (by decide) (Nat.le_of_ble_eq_true rfl) (fun E hC hE => ?_)
  obtain ⟨hk0, h⟩ := mt_gd h
  refine go_aload_n hC 0 dX0_closeBracket_0 rfl rfl ?_
  obtain ⟨v1, e1, h⟩ := mt_ob h
  refine go_getI hC mt_flX0_35 e1 dX0_closeBracket_1 ?_
  refine go_iconst (v := 1) hC dX0_closeBracket_4 (by decide) ?_
  refine go_icmp_ge hC (tgt := 15) dX0_closeBracket_5 (by decide) (fun hc => ?_) (fun hc => ?_)
  · have h := mt_ip h hc
    refine go_aload_n hC 0 dX0_closeBracket_15 rfl rfl ?_
    refine go_dup hC dX0_closeBracket_16 rfl ?_
    obtain ⟨v2, e2, h⟩ := mt_ob h
    refine go_getI hC mt_flX0_35 e2 dX0_closeBracket_17 ?_
    refine go_iconst (v := 1) hC dX0_closeBracket_20 (by decide) ?_
    refine go_isub hC dX0_closeBracket_21 ?_
    obtain ⟨S3, e3, h⟩ := mt_ob h
    refine go_putI hC mt_flX0_35 e3 dX0_closeBracket_22 ?_
    refine go_aload_n hC 0 dX0_closeBracket_25 rfl rfl ?_
    obtain ⟨v4, e4, h⟩ := mt_ob h
    refine go_getR hC mt_flX0_22 e4 dX0_closeBracket_26 ?_
    refine go_aload_n hC 0 dX0_closeBracket_29 rfl rfl ?_
    obtain ⟨v5, e5, h⟩ := mt_ob h
    refine go_getI hC mt_flX0_35 e5 dX0_closeBracket_30 ?_
    obtain ⟨v6, e6, h⟩ := mt_ob h
    refine go_iald hC e6 dX0_closeBracket_33 ?_
    refine go_istore_n hC [1, 2, 0] (lv1 := [(0, mt_rf B x0), (1, .int x1), (2, .int v6)]) dX0_closeBracket_34 rfl (by decide) rfl ?_
    refine go_aload_n hC 0 dX0_closeBracket_35 rfl rfl ?_
    refine go_iconst (v := (-1)) hC dX0_closeBracket_36 (by decide) ?_
    obtain ⟨S7, e7, h⟩ := mt_ob h
    refine go_putI hC mt_flX0_42 e7 dX0_closeBracket_37 ?_
    refine go_iload_n hC 2 dX0_closeBracket_40 rfl rfl ?_
    refine go_aload_n hC 0 dX0_closeBracket_41 rfl rfl ?_
    obtain ⟨v8, e8, h⟩ := mt_ob h
    refine go_getI hC mt_flX0_32 e8 dX0_closeBracket_42 ?_
    refine go_icmp_ge hC (tgt := 55) dX0_closeBracket_45 (by decide) (fun hc => ?_) (fun hc => ?_)
    · have h := mt_ip h hc
      refine go_aload_n hC 0 dX0_closeBracket_55 rfl rfl ?_
      refine go_iconst (v := 1) hC dX0_closeBracket_56 (by decide) ?_
      obtain ⟨S9, e9, h⟩ := mt_ob h
      refine go_putZ hC mt_flX0_38 e9 (Or.inr rfl) dX0_closeBracket_57 ?_
      exact go_vret hC (mt_rev h hE) dX0_closeBracket_60
    · have h := mt_in' h hc
      refine go_aload_n hC 0 dX0_closeBracket_48 rfl rfl ?_
      refine go_bipush (v := 93) hC dX0_closeBracket_49 (by decide) ?_
      refine go_iload_n hC 2 dX0_closeBracket_51 rfl rfl ?_
      obtain ⟨S10, e10, h⟩ := mt_ob h
      refine go_callVv hC [.int 93, .int v6] [] (m_X0_putAct e10) mt_cvX0_76 (k_X0_putAct e10) dX0_closeBracket_52 rfl rfl (by decide) (Nat.le_of_ble_eq_true rfl) ⟨Nat.le_refl _, Nat.le_refl _⟩ ?_
      refine go_aload_n hC 0 dX0_closeBracket_55 rfl rfl ?_
      refine go_iconst (v := 1) hC dX0_closeBracket_56 (by decide) ?_
      obtain ⟨S11, e11, h⟩ := mt_ob h
      refine go_putZ hC mt_flX0_38 e11 (Or.inr rfl) dX0_closeBracket_57 ?_
      exact go_vret hC (mt_rev h hE) dX0_closeBracket_60
  · have h := mt_in' h hc
    refine go_aload_n hC 0 dX0_closeBracket_8 rfl rfl ?_
    refine go_iconst (v := 1) hC dX0_closeBracket_9 (by decide) ?_
    refine go_iload_n hC 1 dX0_closeBracket_10 rfl rfl ?_
    obtain ⟨S12, e12, h⟩ := mt_ob h
    refine go_callVv hC [.int 1, .int x1] [] (m_X0_fail e12) mt_cvX0_51 (k_X0_fail e12) dX0_closeBracket_11 rfl rfl (by decide) (Nat.le_of_ble_eq_true rfl) ⟨Nat.le_refl _, Nat.le_refl _⟩ ?_
    exact go_vret hC (mt_rev h hE) dX0_closeBracket_14
set_option maxHeartbeats 4000000 in
set_option maxRecDepth 100000 in
theorem ov_X0_closeBracket {T : mt_S}  {x0 : Nat} {x1 : Int32} {S : mt_S} {S' : mt_S} (hp : mt_cp S T) (h : f_X0_closeBracket x0 x1 S = some S') : f_X0_closeBracket x0 x1 (mt_ov S T) = some (mt_ov S' T) ∧ mt_cp S' T := by
  unfold f_X0_closeBracket at h ⊢
  obtain ⟨hg, h⟩ := mt_gd h
  refine ov_t (ov_K hp hg) ?_
  obtain ⟨v1, e1, h⟩ := mt_ob h
  refine ov_b (ov_rI hp e1) ?_
  by_cases hc : 1 ≤ v1
  · have h := mt_ip h hc
    refine ov_t hc ?_
    obtain ⟨v2, e2, h⟩ := mt_ob h
    refine ov_b (ov_rI hp e2) ?_
    obtain ⟨S3, e3, h⟩ := mt_ob h
    obtain ⟨o_, hp⟩ := ov_wI hp e3
    refine ov_b o_ ?_
    obtain ⟨v4, e4, h⟩ := mt_ob h
    refine ov_b (ov_rR hp e4) ?_
    obtain ⟨v5, e5, h⟩ := mt_ob h
    refine ov_b (ov_rI hp e5) ?_
    obtain ⟨v6, e6, h⟩ := mt_ob h
    refine ov_b (ov_aI hp e6) ?_
    obtain ⟨S7, e7, h⟩ := mt_ob h
    obtain ⟨o_, hp⟩ := ov_wI hp e7
    refine ov_b o_ ?_
    obtain ⟨v8, e8, h⟩ := mt_ob h
    refine ov_b (ov_rI hp e8) ?_
    by_cases hc : v8 ≤ v6
    · have h := mt_ip h hc
      refine ov_t hc ?_
      obtain ⟨S9, e9, h⟩ := mt_ob h
      obtain ⟨o_, hp⟩ := ov_wI hp e9
      refine ov_b o_ ?_
      exact ov_retv hp h
    · have h := mt_in' h hc
      refine ov_f hc ?_
      obtain ⟨S10, e10, h⟩ := mt_ob h
      obtain ⟨o_, hp⟩ := ov_X0_putAct hp e10
      refine ov_b o_ ?_
      obtain ⟨S11, e11, h⟩ := mt_ob h
      obtain ⟨o_, hp⟩ := ov_wI hp e11
      refine ov_b o_ ?_
      exact ov_retv hp h
  · have h := mt_in' h hc
    refine ov_f hc ?_
    obtain ⟨S12, e12, h⟩ := mt_ob h
    obtain ⟨o_, hp⟩ := ov_X0_fail hp e12
    refine ov_b o_ ?_
    exact ov_retv hp h
def f_X0_readSign (x0 : Nat) (x1 : Int32) (x2 : Int32) (S : mt_S) : Option (Int32 × mt_S) :=
  if mt_isK S x0 0 = true then
   if x1 = 32 then
    some (1, S)
   else
   if x1 = 91 then
    Option.bind (f_X0_openBracket x0 x2 S) fun S1 =>
    some (1, S1)
   else
   if x1 = 93 then
    Option.bind (f_X0_closeBracket x0 x2 S) fun S2 =>
    some (1, S2)
   else
   if x1 = 104 then
    Option.bind (f_X0_putAct x0 x1 0 S) fun S3 =>
    Option.bind (mt_wI S3 x0 0 7 0) fun S4 =>
    some (1, S4)
   else
   if x1 = 108 then
    Option.bind (f_X0_putAct x0 x1 0 S) fun S5 =>
    Option.bind (mt_wI S5 x0 0 7 1) fun S6 =>
    some (1, S6)
   else
   if x1 = 114 then
    Option.bind (f_X0_putAct x0 x1 0 S) fun S7 =>
    Option.bind (mt_wI S7 x0 0 7 1) fun S8 =>
    some (1, S8)
   else
   if x1 = 117 then
    Option.bind (f_X0_putAct x0 x1 0 S) fun S9 =>
    Option.bind (mt_wI S9 x0 0 7 1) fun S10 =>
    some (1, S10)
   else
    Option.bind (f_X0_fail x0 1 x2 S) fun S11 =>
    some (1, S11)
  else none
theorem k_X0_readSign {x0 : Nat} {x1 : Int32} {x2 : Int32} {S : mt_S} {r : Int32} {S' : mt_S} (h : f_X0_readSign x0 x1 x2 S = some (r, S')) : mt_isK S x0 0 = true := by
  unfold f_X0_readSign at h
  exact (mt_gd h).1
set_option maxHeartbeats 4000000 in
set_option maxRecDepth 100000 in
theorem m_X0_readSign {B : mt_B}  {x0 : Nat} {x1 : Int32} {x2 : Int32} {S : mt_S} {r : Int32} {S' : mt_S} (h : f_X0_readSign x0 x1 x2 S = some (r, S')) : mt_M B yX0_readSign cX0_readSign 3 (some .int) 3 [mt_rf B x0, .int x1, .int x2] S (some (.int r)) S' := by
  unfold f_X0_readSign at h
  refine mt_M.of (by decide) (Nat.le_of_ble_eq_true rfl) (fun E hC hE => ?_)
  obtain ⟨hk0, h⟩ := mt_gd h
  refine go_iload_n hC 1 dX0_readSign_0 rfl rfl ?_
  by_cases hc0 : x1 = 32
  · have h := mt_ip h hc0
    refine go_look hC (off := 67) (tgt := 68) dX0_readSign_1 (by decide +kernel) (by rw [hc0]; decide +kernel) (by decide) ?_
    refine go_goto hC (tgt := 121) dX0_readSign_68 (by decide) ?_
    refine go_iconst (v := 1) hC dX0_readSign_121 (by decide) ?_
    exact go_iret hC (mt_rei h hE) dX0_readSign_122
  · have h := mt_in' h hc0
    by_cases hc1 : x1 = 91
    · have h := mt_ip h hc1
      refine go_look hC (off := 98) (tgt := 99) dX0_readSign_1 (by decide +kernel) (by rw [hc1]; decide +kernel) (by decide) ?_
      refine go_aload_n hC 0 dX0_readSign_99 rfl rfl ?_
      refine go_iload_n hC 2 dX0_readSign_100 rfl rfl ?_
      obtain ⟨S1, e1, h⟩ := mt_ob h
      refine go_callVv hC [.int x2] [] (m_X0_openBracket e1) mt_cvX0_79 (k_X0_openBracket e1) dX0_readSign_101 rfl rfl (by decide) (Nat.le_of_ble_eq_true rfl) ⟨Nat.le_refl _, Nat.le_refl _⟩ ?_
      refine go_goto hC (tgt := 121) dX0_readSign_104 (by decide) ?_
      refine go_iconst (v := 1) hC dX0_readSign_121 (by decide) ?_
      exact go_iret hC (mt_rei h hE) dX0_readSign_122
    · have h := mt_in' h hc1
      by_cases hc2 : x1 = 93
      · have h := mt_ip h hc2
        refine go_look hC (off := 106) (tgt := 107) dX0_readSign_1 (by decide +kernel) (by rw [hc2]; decide +kernel) (by decide) ?_
        refine go_aload_n hC 0 dX0_readSign_107 rfl rfl ?_
        refine go_iload_n hC 2 dX0_readSign_108 rfl rfl ?_
        obtain ⟨S2, e2, h⟩ := mt_ob h
        refine go_callVv hC [.int x2] [] (m_X0_closeBracket e2) mt_cvX0_83 (k_X0_closeBracket e2) dX0_readSign_109 rfl rfl (by decide) (Nat.le_of_ble_eq_true rfl) ⟨Nat.le_refl _, Nat.le_refl _⟩ ?_
        refine go_goto hC (tgt := 121) dX0_readSign_112 (by decide) ?_
        refine go_iconst (v := 1) hC dX0_readSign_121 (by decide) ?_
        exact go_iret hC (mt_rei h hE) dX0_readSign_122
      · have h := mt_in' h hc2
        by_cases hc3 : x1 = 104
        · have h := mt_ip h hc3
          refine go_look hC (off := 84) (tgt := 85) dX0_readSign_1 (by decide +kernel) (by rw [hc3]; decide +kernel) (by decide) ?_
          refine go_aload_n hC 0 dX0_readSign_85 rfl rfl ?_
          refine go_iload_n hC 1 dX0_readSign_86 rfl rfl ?_
          refine go_iconst (v := 0) hC dX0_readSign_87 (by decide) ?_
          obtain ⟨S3, e3, h⟩ := mt_ob h
          refine go_callVv hC [.int x1, .int 0] [] (m_X0_putAct e3) mt_cvX0_76 (k_X0_putAct e3) dX0_readSign_88 rfl rfl (by decide) (Nat.le_of_ble_eq_true rfl) ⟨Nat.le_refl _, Nat.le_refl _⟩ ?_
          refine go_aload_n hC 0 dX0_readSign_91 rfl rfl ?_
          refine go_iconst (v := 0) hC dX0_readSign_92 (by decide) ?_
          obtain ⟨S4, e4, h⟩ := mt_ob h
          refine go_putZ hC mt_flX0_38 e4 (Or.inl rfl) dX0_readSign_93 ?_
          refine go_goto hC (tgt := 121) dX0_readSign_96 (by decide) ?_
          refine go_iconst (v := 1) hC dX0_readSign_121 (by decide) ?_
          exact go_iret hC (mt_rei h hE) dX0_readSign_122
        · have h := mt_in' h hc3
          by_cases hc4 : x1 = 108
          · have h := mt_ip h hc4
            refine go_look hC (off := 70) (tgt := 71) dX0_readSign_1 (by decide +kernel) (by rw [hc4]; decide +kernel) (by decide) ?_
            refine go_aload_n hC 0 dX0_readSign_71 rfl rfl ?_
            refine go_iload_n hC 1 dX0_readSign_72 rfl rfl ?_
            refine go_iconst (v := 0) hC dX0_readSign_73 (by decide) ?_
            obtain ⟨S5, e5, h⟩ := mt_ob h
            refine go_callVv hC [.int x1, .int 0] [] (m_X0_putAct e5) mt_cvX0_76 (k_X0_putAct e5) dX0_readSign_74 rfl rfl (by decide) (Nat.le_of_ble_eq_true rfl) ⟨Nat.le_refl _, Nat.le_refl _⟩ ?_
            refine go_aload_n hC 0 dX0_readSign_77 rfl rfl ?_
            refine go_iconst (v := 1) hC dX0_readSign_78 (by decide) ?_
            obtain ⟨S6, e6, h⟩ := mt_ob h
            refine go_putZ hC mt_flX0_38 e6 (Or.inr rfl) dX0_readSign_79 ?_
            refine go_goto hC (tgt := 121) dX0_readSign_82 (by decide) ?_
            refine go_iconst (v := 1) hC dX0_readSign_121 (by decide) ?_
            exact go_iret hC (mt_rei h hE) dX0_readSign_122
          · have h := mt_in' h hc4
            by_cases hc5 : x1 = 114
            · have h := mt_ip h hc5
              refine go_look hC (off := 70) (tgt := 71) dX0_readSign_1 (by decide +kernel) (by rw [hc5]; decide +kernel) (by decide) ?_
              refine go_aload_n hC 0 dX0_readSign_71 rfl rfl ?_
              refine go_iload_n hC 1 dX0_readSign_72 rfl rfl ?_
              refine go_iconst (v := 0) hC dX0_readSign_73 (by decide) ?_
              obtain ⟨S7, e7, h⟩ := mt_ob h
              refine go_callVv hC [.int x1, .int 0] [] (m_X0_putAct e7) mt_cvX0_76 (k_X0_putAct e7) dX0_readSign_74 rfl rfl (by decide) (Nat.le_of_ble_eq_true rfl) ⟨Nat.le_refl _, Nat.le_refl _⟩ ?_
              refine go_aload_n hC 0 dX0_readSign_77 rfl rfl ?_
              refine go_iconst (v := 1) hC dX0_readSign_78 (by decide) ?_
              obtain ⟨S8, e8, h⟩ := mt_ob h
              refine go_putZ hC mt_flX0_38 e8 (Or.inr rfl) dX0_readSign_79 ?_
              refine go_goto hC (tgt := 121) dX0_readSign_82 (by decide) ?_
              refine go_iconst (v := 1) hC dX0_readSign_121 (by decide) ?_
              exact go_iret hC (mt_rei h hE) dX0_readSign_122
            · have h := mt_in' h hc5
              by_cases hc6 : x1 = 117
              · have h := mt_ip h hc6
                refine go_look hC (off := 70) (tgt := 71) dX0_readSign_1 (by decide +kernel) (by rw [hc6]; decide +kernel) (by decide) ?_
                refine go_aload_n hC 0 dX0_readSign_71 rfl rfl ?_
                refine go_iload_n hC 1 dX0_readSign_72 rfl rfl ?_
                refine go_iconst (v := 0) hC dX0_readSign_73 (by decide) ?_
                obtain ⟨S9, e9, h⟩ := mt_ob h
                refine go_callVv hC [.int x1, .int 0] [] (m_X0_putAct e9) mt_cvX0_76 (k_X0_putAct e9) dX0_readSign_74 rfl rfl (by decide) (Nat.le_of_ble_eq_true rfl) ⟨Nat.le_refl _, Nat.le_refl _⟩ ?_
                refine go_aload_n hC 0 dX0_readSign_77 rfl rfl ?_
                refine go_iconst (v := 1) hC dX0_readSign_78 (by decide) ?_
                obtain ⟨S10, e10, h⟩ := mt_ob h
                refine go_putZ hC mt_flX0_38 e10 (Or.inr rfl) dX0_readSign_79 ?_
                refine go_goto hC (tgt := 121) dX0_readSign_82 (by decide) ?_
                refine go_iconst (v := 1) hC dX0_readSign_121 (by decide) ?_
                exact go_iret hC (mt_rei h hE) dX0_readSign_122
              · have h := mt_in' h hc6
                refine go_look hC (off := 114) (tgt := 115) dX0_readSign_1 (by decide +kernel) (by show Op.lookupswitch.offset [(32, 67), (91, 98), (93, 106), (104, 84), (108, 70), (114, 70), (117, 70)] 114 _ = _; rw [lv_osw hc0 (a := 32) rfl, lv_osw hc1 (a := 91) rfl, lv_osw hc2 (a := 93) rfl, lv_osw hc3 (a := 104) rfl, lv_osw hc4 (a := 108) rfl, lv_osw hc5 (a := 114) rfl, lv_osw hc6 (a := 117) rfl]; rfl) (by decide) ?_
                refine go_aload_n hC 0 dX0_readSign_115 rfl rfl ?_
                refine go_iconst (v := 1) hC dX0_readSign_116 (by decide) ?_
                refine go_iload_n hC 2 dX0_readSign_117 rfl rfl ?_
                obtain ⟨S11, e11, h⟩ := mt_ob h
                refine go_callVv hC [.int 1, .int x2] [] (m_X0_fail e11) mt_cvX0_51 (k_X0_fail e11) dX0_readSign_118 rfl rfl (by decide) (Nat.le_of_ble_eq_true rfl) ⟨Nat.le_refl _, Nat.le_refl _⟩ ?_
                refine go_iconst (v := 1) hC dX0_readSign_121 (by decide) ?_
                exact go_iret hC (mt_rei h hE) dX0_readSign_122
set_option maxHeartbeats 4000000 in
set_option maxRecDepth 100000 in
theorem ov_X0_readSign {T : mt_S}  {x0 : Nat} {x1 : Int32} {x2 : Int32} {S : mt_S} {r : Int32} {S' : mt_S} (hp : mt_cp S T) (h : f_X0_readSign x0 x1 x2 S = some (r, S')) : f_X0_readSign x0 x1 x2 (mt_ov S T) = some (r, mt_ov S' T) ∧ mt_cp S' T := by
  unfold f_X0_readSign at h ⊢
  obtain ⟨hg, h⟩ := mt_gd h
  refine ov_t (ov_K hp hg) ?_
  by_cases hc : x1 = 32
  · have h := mt_ip h hc
    refine ov_t hc ?_
    exact ov_ret hp h
  · have h := mt_in' h hc
    refine ov_f hc ?_
    by_cases hc : x1 = 91
    · have h := mt_ip h hc
      refine ov_t hc ?_
      obtain ⟨S1, e1, h⟩ := mt_ob h
      obtain ⟨o_, hp⟩ := ov_X0_openBracket hp e1
      refine ov_b o_ ?_
      exact ov_ret hp h
    · have h := mt_in' h hc
      refine ov_f hc ?_
      by_cases hc : x1 = 93
      · have h := mt_ip h hc
        refine ov_t hc ?_
        obtain ⟨S2, e2, h⟩ := mt_ob h
        obtain ⟨o_, hp⟩ := ov_X0_closeBracket hp e2
        refine ov_b o_ ?_
        exact ov_ret hp h
      · have h := mt_in' h hc
        refine ov_f hc ?_
        by_cases hc : x1 = 104
        · have h := mt_ip h hc
          refine ov_t hc ?_
          obtain ⟨S3, e3, h⟩ := mt_ob h
          obtain ⟨o_, hp⟩ := ov_X0_putAct hp e3
          refine ov_b o_ ?_
          obtain ⟨S4, e4, h⟩ := mt_ob h
          obtain ⟨o_, hp⟩ := ov_wI hp e4
          refine ov_b o_ ?_
          exact ov_ret hp h
        · have h := mt_in' h hc
          refine ov_f hc ?_
          by_cases hc : x1 = 108
          · have h := mt_ip h hc
            refine ov_t hc ?_
            obtain ⟨S5, e5, h⟩ := mt_ob h
            obtain ⟨o_, hp⟩ := ov_X0_putAct hp e5
            refine ov_b o_ ?_
            obtain ⟨S6, e6, h⟩ := mt_ob h
            obtain ⟨o_, hp⟩ := ov_wI hp e6
            refine ov_b o_ ?_
            exact ov_ret hp h
          · have h := mt_in' h hc
            refine ov_f hc ?_
            by_cases hc : x1 = 114
            · have h := mt_ip h hc
              refine ov_t hc ?_
              obtain ⟨S7, e7, h⟩ := mt_ob h
              obtain ⟨o_, hp⟩ := ov_X0_putAct hp e7
              refine ov_b o_ ?_
              obtain ⟨S8, e8, h⟩ := mt_ob h
              obtain ⟨o_, hp⟩ := ov_wI hp e8
              refine ov_b o_ ?_
              exact ov_ret hp h
            · have h := mt_in' h hc
              refine ov_f hc ?_
              by_cases hc : x1 = 117
              · have h := mt_ip h hc
                refine ov_t hc ?_
                obtain ⟨S9, e9, h⟩ := mt_ob h
                obtain ⟨o_, hp⟩ := ov_X0_putAct hp e9
                refine ov_b o_ ?_
                obtain ⟨S10, e10, h⟩ := mt_ob h
                obtain ⟨o_, hp⟩ := ov_wI hp e10
                refine ov_b o_ ?_
                exact ov_ret hp h
              · have h := mt_in' h hc
                refine ov_f hc ?_
                obtain ⟨S11, e11, h⟩ := mt_ob h
                obtain ⟨o_, hp⟩ := ov_X0_fail hp e11
                refine ov_b o_ ?_
                exact ov_ret hp h
def f_X0_read_L56s (rc : Nat → Nat → Int32 → Int32 → Int32 → mt_S → Option (mt_S)) (x0 : Nat) (x1 : Nat) (x2 : Int32) (x3 : Int32) (x4 : Int32) (S : mt_S) : Option (mt_S) :=
  if 200 ≤ x4 then
   Option.bind (mt_rI S x0 0 9) fun v9 =>
   if v9 = 0 then
    Option.bind (mt_rI S x0 0 6) fun v10 =>
    if v10 ≤ 0 then
     some S
    else
     Option.bind (f_X0_fail x0 1 x2 S) fun S11 =>
     some S11
   else
    some S
  else
  if x2 ≤ x3 then
   Option.bind (mt_rI S x0 0 9) fun v12 =>
   if v12 = 0 then
    Option.bind (mt_rI S x0 0 6) fun v13 =>
    if v13 ≤ 0 then
     some S
    else
     Option.bind (f_X0_fail x0 1 x2 S) fun S14 =>
     some S14
   else
    some S
  else
   Option.bind (mt_rI S x0 0 9) fun v15 =>
   if v15 = 0 then
    mt_b2 (f_X7_at x1 x3 S) fun v20 S19 =>
    mt_b2 (f_X0_isDigit v20 S19) fun v22 S21 =>
    if v22 = 0 then
     mt_b2 (f_X7_at x1 x3 S21) fun v24 S23 =>
     mt_b2 (f_X0_readSign x0 v24 x3 S23) fun v26 S25 =>
     rc x0 x1 x2 (x3 + v26) (x4 + 1) S25
    else
     mt_b2 (f_X0_readNumber x0 x1 x3 S21) fun v28 S27 =>
     rc x0 x1 x2 (x3 + v28) (x4 + 1) S27
   else
    Option.bind (mt_rI S x0 0 9) fun v16 =>
    if v16 = 0 then
     Option.bind (mt_rI S x0 0 6) fun v17 =>
     if v17 ≤ 0 then
      some S
     else
      Option.bind (f_X0_fail x0 1 x2 S) fun S18 =>
      some S18
    else
     some S
def f_X0_read_L56 : Nat → Nat → Nat → Int32 → Int32 → Int32 → mt_S → Option (mt_S)
  | 0 => fun _ _ _ _ _ _ => none
  | n + 1 => f_X0_read_L56s (f_X0_read_L56 n)
set_option maxHeartbeats 4000000 in
set_option maxRecDepth 100000 in
theorem m_X0_read_L56 {B : mt_B} {E : mt_E} {S' : mt_S} (hC : mt_Cx B E cX0_read RX0 none 5 4 0 0) (hE : mt_End B E (0, 0) none S') : ∀ (n : Nat) (x0 : Nat) (x1 : Nat) (x2 : Int32) (x3 : Int32) (x4 : Int32) (S : mt_S), f_X0_read_L56 n x0 x1 x2 x3 x4 S = some S' → mt_Go B E (0, 0) S 56 [(0, mt_rf B x0), (1, mt_rf B x1), (2, .int x2), (3, .int x3), (4, .int x4)] [] := by
  intro n
  induction n with
  | zero =>
    intro x0 x1 x2 x3 x4 S h
    cases h
  | succ n ih =>
    intro x0 x1 x2 x3 x4 S h
    have h : f_X0_read_L56s (f_X0_read_L56 n) x0 x1 x2 x3 x4 S = some S' := h
    unfold f_X0_read_L56s at h
    refine go_iload hC 4 dX0_read_56 rfl ?_
    refine go_sipush (v := 200) hC dX0_read_58 (by decide) ?_
    refine go_icmp_ge hC (tgt := 115) dX0_read_61 (by decide) (fun hc => ?_) (fun hc => ?_)
    · have h := mt_ip h hc
      refine go_aload_n hC 0 dX0_read_115 rfl rfl ?_
      obtain ⟨v9, e9, h⟩ := mt_ob h
      refine go_getI hC mt_flX0_25 e9 dX0_read_116 ?_
      refine go_if_ne hC (tgt := 135) dX0_read_119 (by decide) (fun hc => ?_) (fun hc => ?_)
      · have h := mt_in' h hc
        exact go_vret hC (mt_rev h hE) dX0_read_135
      · have h := mt_ip h hc
        refine go_aload_n hC 0 dX0_read_122 rfl rfl ?_
        obtain ⟨v10, e10, h⟩ := mt_ob h
        refine go_getI hC mt_flX0_35 e10 dX0_read_123 ?_
        refine go_if_le hC (tgt := 135) dX0_read_126 (by decide) (fun hc => ?_) (fun hc => ?_)
        · have h := mt_ip h hc
          exact go_vret hC (mt_rev h hE) dX0_read_135
        · have h := mt_in' h hc
          refine go_aload_n hC 0 dX0_read_129 rfl rfl ?_
          refine go_iconst (v := 1) hC dX0_read_130 (by decide) ?_
          refine go_iload_n hC 2 dX0_read_131 rfl rfl ?_
          obtain ⟨S11, e11, h⟩ := mt_ob h
          refine go_callVv hC [.int 1, .int x2] [] (m_X0_fail e11) mt_cvX0_51 (k_X0_fail e11) dX0_read_132 rfl rfl (by decide) (Nat.le_of_ble_eq_true rfl) ⟨Nat.le_refl _, Nat.le_refl _⟩ ?_
          exact go_vret hC (mt_rev h hE) dX0_read_135
    · have h := mt_in' h hc
      refine go_iload_n hC 3 dX0_read_64 rfl rfl ?_
      refine go_iload_n hC 2 dX0_read_65 rfl rfl ?_
      refine go_icmp_ge hC (tgt := 115) dX0_read_66 (by decide) (fun hc => ?_) (fun hc => ?_)
      · have h := mt_ip h hc
        refine go_aload_n hC 0 dX0_read_115 rfl rfl ?_
        obtain ⟨v12, e12, h⟩ := mt_ob h
        refine go_getI hC mt_flX0_25 e12 dX0_read_116 ?_
        refine go_if_ne hC (tgt := 135) dX0_read_119 (by decide) (fun hc => ?_) (fun hc => ?_)
        · have h := mt_in' h hc
          exact go_vret hC (mt_rev h hE) dX0_read_135
        · have h := mt_ip h hc
          refine go_aload_n hC 0 dX0_read_122 rfl rfl ?_
          obtain ⟨v13, e13, h⟩ := mt_ob h
          refine go_getI hC mt_flX0_35 e13 dX0_read_123 ?_
          refine go_if_le hC (tgt := 135) dX0_read_126 (by decide) (fun hc => ?_) (fun hc => ?_)
          · have h := mt_ip h hc
            exact go_vret hC (mt_rev h hE) dX0_read_135
          · have h := mt_in' h hc
            refine go_aload_n hC 0 dX0_read_129 rfl rfl ?_
            refine go_iconst (v := 1) hC dX0_read_130 (by decide) ?_
            refine go_iload_n hC 2 dX0_read_131 rfl rfl ?_
            obtain ⟨S14, e14, h⟩ := mt_ob h
            refine go_callVv hC [.int 1, .int x2] [] (m_X0_fail e14) mt_cvX0_51 (k_X0_fail e14) dX0_read_132 rfl rfl (by decide) (Nat.le_of_ble_eq_true rfl) ⟨Nat.le_refl _, Nat.le_refl _⟩ ?_
            exact go_vret hC (mt_rev h hE) dX0_read_135
      · have h := mt_in' h hc
        refine go_aload_n hC 0 dX0_read_69 rfl rfl ?_
        obtain ⟨v15, e15, h⟩ := mt_ob h
        refine go_getI hC mt_flX0_25 e15 dX0_read_70 ?_
        refine go_if_ne hC (tgt := 115) dX0_read_73 (by decide) (fun hc => ?_) (fun hc => ?_)
        · have h := mt_in' h hc
          refine go_aload_n hC 0 dX0_read_115 rfl rfl ?_
          obtain ⟨v16, e16, h⟩ := mt_ob h
          refine go_getI hC mt_flX0_25 e16 dX0_read_116 ?_
          refine go_if_ne hC (tgt := 135) dX0_read_119 (by decide) (fun hc => ?_) (fun hc => ?_)
          · have h := mt_in' h hc
            exact go_vret hC (mt_rev h hE) dX0_read_135
          · have h := mt_ip h hc
            refine go_aload_n hC 0 dX0_read_122 rfl rfl ?_
            obtain ⟨v17, e17, h⟩ := mt_ob h
            refine go_getI hC mt_flX0_35 e17 dX0_read_123 ?_
            refine go_if_le hC (tgt := 135) dX0_read_126 (by decide) (fun hc => ?_) (fun hc => ?_)
            · have h := mt_ip h hc
              exact go_vret hC (mt_rev h hE) dX0_read_135
            · have h := mt_in' h hc
              refine go_aload_n hC 0 dX0_read_129 rfl rfl ?_
              refine go_iconst (v := 1) hC dX0_read_130 (by decide) ?_
              refine go_iload_n hC 2 dX0_read_131 rfl rfl ?_
              obtain ⟨S18, e18, h⟩ := mt_ob h
              refine go_callVv hC [.int 1, .int x2] [] (m_X0_fail e18) mt_cvX0_51 (k_X0_fail e18) dX0_read_132 rfl rfl (by decide) (Nat.le_of_ble_eq_true rfl) ⟨Nat.le_refl _, Nat.le_refl _⟩ ?_
              exact go_vret hC (mt_rev h hE) dX0_read_135
        · have h := mt_ip h hc
          refine go_iload_n hC 3 dX0_read_76 rfl rfl ?_
          refine go_aload_n hC 1 dX0_read_77 rfl rfl ?_
          refine go_iload_n hC 3 dX0_read_78 rfl rfl ?_
          obtain ⟨v20, S19, e20, h⟩ := mt_ob2 h
          refine go_callVi hC [.int x3] [.int x3] (m_X7_at e20) mt_cvX0_55 (k_X7_at e20) dX0_read_79 rfl rfl (by decide) (Nat.le_of_ble_eq_true rfl) ⟨Nat.le_refl _, Nat.le_refl _⟩ ?_
          obtain ⟨v22, S21, e22, h⟩ := mt_ob2 h
          refine go_callSi hC [.int v20] [.int x3] (m_X0_isDigit e22) mt_csX0_59 dX0_read_82 rfl rfl (by decide) (Nat.le_of_ble_eq_true rfl) ⟨Nat.le_refl _, Nat.le_refl _⟩ ?_
          refine go_if_eq hC (tgt := 97) dX0_read_85 (by decide) (fun hc => ?_) (fun hc => ?_)
          · have h := mt_ip h hc
            refine go_aload_n hC 0 dX0_read_97 rfl rfl ?_
            refine go_aload_n hC 1 dX0_read_98 rfl rfl ?_
            refine go_iload_n hC 3 dX0_read_99 rfl rfl ?_
            obtain ⟨v24, S23, e24, h⟩ := mt_ob2 h
            refine go_callVi hC [.int x3] [mt_rf B x0, .int x3] (m_X7_at e24) mt_cvX0_55 (k_X7_at e24) dX0_read_100 rfl rfl (by decide) (Nat.le_of_ble_eq_true rfl) ⟨Nat.le_refl _, Nat.le_refl _⟩ ?_
            refine go_iload_n hC 3 dX0_read_103 rfl rfl ?_
            obtain ⟨v26, S25, e26, h⟩ := mt_ob2 h
            refine go_callVi hC [.int v24, .int x3] [.int x3] (m_X0_readSign e26) mt_cvX0_67 (k_X0_readSign e26) dX0_read_104 rfl rfl (by decide) (Nat.le_of_ble_eq_true rfl) ⟨Nat.le_refl _, Nat.le_refl _⟩ ?_
            refine go_iadd hC dX0_read_107 ?_
            refine go_istore_n hC [1, 2, 3, 0, 4] (lv1 := [(0, mt_rf B x0), (1, mt_rf B x1), (2, .int x2), (3, .int (x3 + v26)), (4, .int x4)]) dX0_read_108 rfl (by decide) rfl ?_
            refine go_iinc hC 4 [1, 2, 3, 4, 0] (v := x4 + 1) (lv1 := [(0, mt_rf B x0), (1, mt_rf B x1), (2, .int x2), (3, .int (x3 + v26)), (4, .int (x4 + 1))]) dX0_read_109 rfl rfl (by decide) rfl ?_
            refine go_goto hC (tgt := 56) dX0_read_112 (by decide) ?_
            exact ih _ _ _ _ _ _ h
          · have h := mt_in' h hc
            refine go_aload_n hC 0 dX0_read_88 rfl rfl ?_
            refine go_aload_n hC 1 dX0_read_89 rfl rfl ?_
            refine go_iload_n hC 3 dX0_read_90 rfl rfl ?_
            obtain ⟨v28, S27, e28, h⟩ := mt_ob2 h
            refine go_callVi hC [mt_rf B x1, .int x3] [.int x3] (m_X0_readNumber e28) mt_cvX0_63 (k_X0_readNumber e28) dX0_read_91 rfl rfl (by decide) (Nat.le_of_ble_eq_true rfl) ⟨Nat.le_refl _, Nat.le_refl _⟩ ?_
            refine go_goto hC (tgt := 107) dX0_read_94 (by decide) ?_
            refine go_iadd hC dX0_read_107 ?_
            refine go_istore_n hC [1, 2, 3, 0, 4] (lv1 := [(0, mt_rf B x0), (1, mt_rf B x1), (2, .int x2), (3, .int (x3 + v28)), (4, .int x4)]) dX0_read_108 rfl (by decide) rfl ?_
            refine go_iinc hC 4 [1, 2, 3, 4, 0] (v := x4 + 1) (lv1 := [(0, mt_rf B x0), (1, mt_rf B x1), (2, .int x2), (3, .int (x3 + v28)), (4, .int (x4 + 1))]) dX0_read_109 rfl rfl (by decide) rfl ?_
            refine go_goto hC (tgt := 56) dX0_read_112 (by decide) ?_
            exact ih _ _ _ _ _ _ h
set_option maxHeartbeats 4000000 in
set_option maxRecDepth 100000 in
theorem ov_X0_read_L56 {T : mt_S} {S' : mt_S} : ∀ (n : Nat) (x0 : Nat) (x1 : Nat) (x2 : Int32) (x3 : Int32) (x4 : Int32) (S : mt_S), mt_cp S T → f_X0_read_L56 n x0 x1 x2 x3 x4 S = some S' → f_X0_read_L56 n x0 x1 x2 x3 x4 (mt_ov S T) = some (mt_ov S' T) ∧ mt_cp S' T := by
  intro n
  induction n with
  | zero =>
    intro x0 x1 x2 x3 x4 S hp h
    cases h
  | succ n ih =>
    intro x0 x1 x2 x3 x4 S hp h
    have h : f_X0_read_L56s (f_X0_read_L56 n) x0 x1 x2 x3 x4 S = some S' := h
    show f_X0_read_L56s (f_X0_read_L56 n) x0 x1 x2 x3 x4 (mt_ov S T) = some (mt_ov S' T) ∧ mt_cp S' T
    unfold f_X0_read_L56s at h ⊢
    by_cases hc : 200 ≤ x4
    · have h := mt_ip h hc
      refine ov_t hc ?_
      obtain ⟨v9, e9, h⟩ := mt_ob h
      refine ov_b (ov_rI hp e9) ?_
      by_cases hc : v9 = 0
      · have h := mt_ip h hc
        refine ov_t hc ?_
        obtain ⟨v10, e10, h⟩ := mt_ob h
        refine ov_b (ov_rI hp e10) ?_
        by_cases hc : v10 ≤ 0
        · have h := mt_ip h hc
          refine ov_t hc ?_
          exact ov_retv hp h
        · have h := mt_in' h hc
          refine ov_f hc ?_
          obtain ⟨S11, e11, h⟩ := mt_ob h
          obtain ⟨o_, hp⟩ := ov_X0_fail hp e11
          refine ov_b o_ ?_
          exact ov_retv hp h
      · have h := mt_in' h hc
        refine ov_f hc ?_
        exact ov_retv hp h
    · have h := mt_in' h hc
      refine ov_f hc ?_
      by_cases hc : x2 ≤ x3
      · have h := mt_ip h hc
        refine ov_t hc ?_
        obtain ⟨v12, e12, h⟩ := mt_ob h
        refine ov_b (ov_rI hp e12) ?_
        by_cases hc : v12 = 0
        · have h := mt_ip h hc
          refine ov_t hc ?_
          obtain ⟨v13, e13, h⟩ := mt_ob h
          refine ov_b (ov_rI hp e13) ?_
          by_cases hc : v13 ≤ 0
          · have h := mt_ip h hc
            refine ov_t hc ?_
            exact ov_retv hp h
          · have h := mt_in' h hc
            refine ov_f hc ?_
            obtain ⟨S14, e14, h⟩ := mt_ob h
            obtain ⟨o_, hp⟩ := ov_X0_fail hp e14
            refine ov_b o_ ?_
            exact ov_retv hp h
        · have h := mt_in' h hc
          refine ov_f hc ?_
          exact ov_retv hp h
      · have h := mt_in' h hc
        refine ov_f hc ?_
        obtain ⟨v15, e15, h⟩ := mt_ob h
        refine ov_b (ov_rI hp e15) ?_
        by_cases hc : v15 = 0
        · have h := mt_ip h hc
          refine ov_t hc ?_
          obtain ⟨v20, S19, e20, h⟩ := mt_ob2 h
          obtain ⟨o_, hp⟩ := ov_X7_at hp e20
          refine ov_b2 o_ ?_
          obtain ⟨v22, S21, e22, h⟩ := mt_ob2 h
          obtain ⟨o_, hp⟩ := ov_X0_isDigit hp e22
          refine ov_b2 o_ ?_
          by_cases hc : v22 = 0
          · have h := mt_ip h hc
            refine ov_t hc ?_
            obtain ⟨v24, S23, e24, h⟩ := mt_ob2 h
            obtain ⟨o_, hp⟩ := ov_X7_at hp e24
            refine ov_b2 o_ ?_
            obtain ⟨v26, S25, e26, h⟩ := mt_ob2 h
            obtain ⟨o_, hp⟩ := ov_X0_readSign hp e26
            refine ov_b2 o_ ?_
            exact ih _ _ _ _ _ _ hp h
          · have h := mt_in' h hc
            refine ov_f hc ?_
            obtain ⟨v28, S27, e28, h⟩ := mt_ob2 h
            obtain ⟨o_, hp⟩ := ov_X0_readNumber hp e28
            refine ov_b2 o_ ?_
            exact ih _ _ _ _ _ _ hp h
        · have h := mt_in' h hc
          refine ov_f hc ?_
          obtain ⟨v16, e16, h⟩ := mt_ob h
          refine ov_b (ov_rI hp e16) ?_
          by_cases hc : v16 = 0
          · have h := mt_ip h hc
            refine ov_t hc ?_
            obtain ⟨v17, e17, h⟩ := mt_ob h
            refine ov_b (ov_rI hp e17) ?_
            by_cases hc : v17 ≤ 0
            · have h := mt_ip h hc
              refine ov_t hc ?_
              exact ov_retv hp h
            · have h := mt_in' h hc
              refine ov_f hc ?_
              obtain ⟨S18, e18, h⟩ := mt_ob h
              obtain ⟨o_, hp⟩ := ov_X0_fail hp e18
              refine ov_b o_ ?_
              exact ov_retv hp h
          · have h := mt_in' h hc
            refine ov_f hc ?_
            exact ov_retv hp h
def f_X0_read (x0 : Nat) (x1 : Nat) (S : mt_S) : Option (mt_S) :=
  if mt_isK S x0 0 = true then
   Option.bind (mt_wI S x0 0 5 0) fun S1 =>
   Option.bind (mt_wI S1 x0 0 6 0) fun S2 =>
   Option.bind (mt_wI S2 x0 0 7 0) fun S3 =>
   Option.bind (mt_wI S3 x0 0 8 (-1)) fun S4 =>
   Option.bind (mt_wI S4 x0 0 9 0) fun S5 =>
   Option.bind (mt_wI S5 x0 0 10 0) fun S6 =>
   mt_b2 (f_X7_length x1 S6) fun v8 S7 =>
   if v8 ≤ 200 then
    f_X0_read_L56 1000 x0 x1 v8 0 0 S7
   else
    Option.bind (f_X0_fail x0 1 200 S7) fun S29 =>
    some S29
  else none
theorem k_X0_read {x0 : Nat} {x1 : Nat} {S : mt_S} {S' : mt_S} (h : f_X0_read x0 x1 S = some S') : mt_isK S x0 0 = true := by
  unfold f_X0_read at h
  exact (mt_gd h).1
set_option maxHeartbeats 4000000 in
set_option maxRecDepth 100000 in
theorem m_X0_read {B : mt_B}  {x0 : Nat} {x1 : Nat} {S : mt_S} {S' : mt_S} (h : f_X0_read x0 x1 S = some S') : mt_M B yX0_read cX0_read 5 none 4 [mt_rf B x0, mt_rf B x1] S none S' := by
  unfold f_X0_read at h
  refine mt_M.of (by decide) (Nat.le_of_ble_eq_true rfl) (fun E hC hE => ?_)
  obtain ⟨hk0, h⟩ := mt_gd h
  refine go_aload_n hC 0 dX0_read_0 rfl rfl ?_
  refine go_iconst (v := 0) hC dX0_read_1 (by decide) ?_
  obtain ⟨S1, e1, h⟩ := mt_ob h
  refine go_putI hC mt_flX0_32 e1 dX0_read_2 ?_
  refine go_aload_n hC 0 dX0_read_5 rfl rfl ?_
  refine go_iconst (v := 0) hC dX0_read_6 (by decide) ?_
  obtain ⟨S2, e2, h⟩ := mt_ob h
  refine go_putI hC mt_flX0_35 e2 dX0_read_7 ?_
  refine go_aload_n hC 0 dX0_read_10 rfl rfl ?_
  refine go_iconst (v := 0) hC dX0_read_11 (by decide) ?_
  obtain ⟨S3, e3, h⟩ := mt_ob h
  refine go_putZ hC mt_flX0_38 e3 (Or.inl rfl) dX0_read_12 ?_
  refine go_aload_n hC 0 dX0_read_15 rfl rfl ?_
  refine go_iconst (v := (-1)) hC dX0_read_16 (by decide) ?_
  obtain ⟨S4, e4, h⟩ := mt_ob h
  refine go_putI hC mt_flX0_42 e4 dX0_read_17 ?_
  refine go_aload_n hC 0 dX0_read_20 rfl rfl ?_
  refine go_iconst (v := 0) hC dX0_read_21 (by decide) ?_
  obtain ⟨S5, e5, h⟩ := mt_ob h
  refine go_putI hC mt_flX0_25 e5 dX0_read_22 ?_
  refine go_aload_n hC 0 dX0_read_25 rfl rfl ?_
  refine go_iconst (v := 0) hC dX0_read_26 (by decide) ?_
  obtain ⟨S6, e6, h⟩ := mt_ob h
  refine go_putI hC mt_flX0_29 e6 dX0_read_27 ?_
  refine go_aload_n hC 1 dX0_read_30 rfl rfl ?_
  obtain ⟨v8, S7, e8, h⟩ := mt_ob2 h
  refine go_callVi hC [] [] (m_X7_length e8) mt_cvX0_45 (k_X7_length e8) dX0_read_31 rfl rfl (by decide) (Nat.le_of_ble_eq_true rfl) ⟨Nat.le_refl _, Nat.le_refl _⟩ ?_
  refine go_istore_n hC [1, 2, 0] (lv1 := [(0, mt_rf B x0), (1, mt_rf B x1), (2, .int v8)]) dX0_read_34 rfl (by decide) rfl ?_
  refine go_iload_n hC 2 dX0_read_35 rfl rfl ?_
  refine go_sipush (v := 200) hC dX0_read_36 (by decide) ?_
  refine go_icmp_le hC (tgt := 51) dX0_read_39 (by decide) (fun hc => ?_) (fun hc => ?_)
  · have h := mt_ip h hc
    refine go_iconst (v := 0) hC dX0_read_51 (by decide) ?_
    refine go_istore_n hC [1, 2, 3, 0] (lv1 := [(0, mt_rf B x0), (1, mt_rf B x1), (2, .int v8), (3, .int 0)]) dX0_read_52 rfl (by decide) rfl ?_
    refine go_iconst (v := 0) hC dX0_read_53 (by decide) ?_
    refine go_istore hC [1, 2, 3, 4, 0] (lv1 := [(0, mt_rf B x0), (1, mt_rf B x1), (2, .int v8), (3, .int 0), (4, .int 0)]) dX0_read_54 (by decide) rfl ?_
    exact m_X0_read_L56 hC hE 1000 _ _ _ _ _ _ h
  · have h := mt_in' h hc
    refine go_aload_n hC 0 dX0_read_42 rfl rfl ?_
    refine go_iconst (v := 1) hC dX0_read_43 (by decide) ?_
    refine go_sipush (v := 200) hC dX0_read_44 (by decide) ?_
    obtain ⟨S29, e29, h⟩ := mt_ob h
    refine go_callVv hC [.int 1, .int 200] [] (m_X0_fail e29) mt_cvX0_51 (k_X0_fail e29) dX0_read_47 rfl rfl (by decide) (Nat.le_of_ble_eq_true rfl) ⟨Nat.le_refl _, Nat.le_refl _⟩ ?_
    exact go_vret hC (mt_rev h hE) dX0_read_50
set_option maxHeartbeats 4000000 in
set_option maxRecDepth 100000 in
theorem ov_X0_read {T : mt_S}  {x0 : Nat} {x1 : Nat} {S : mt_S} {S' : mt_S} (hp : mt_cp S T) (h : f_X0_read x0 x1 S = some S') : f_X0_read x0 x1 (mt_ov S T) = some (mt_ov S' T) ∧ mt_cp S' T := by
  unfold f_X0_read at h ⊢
  obtain ⟨hg, h⟩ := mt_gd h
  refine ov_t (ov_K hp hg) ?_
  obtain ⟨S1, e1, h⟩ := mt_ob h
  obtain ⟨o_, hp⟩ := ov_wI hp e1
  refine ov_b o_ ?_
  obtain ⟨S2, e2, h⟩ := mt_ob h
  obtain ⟨o_, hp⟩ := ov_wI hp e2
  refine ov_b o_ ?_
  obtain ⟨S3, e3, h⟩ := mt_ob h
  obtain ⟨o_, hp⟩ := ov_wI hp e3
  refine ov_b o_ ?_
  obtain ⟨S4, e4, h⟩ := mt_ob h
  obtain ⟨o_, hp⟩ := ov_wI hp e4
  refine ov_b o_ ?_
  obtain ⟨S5, e5, h⟩ := mt_ob h
  obtain ⟨o_, hp⟩ := ov_wI hp e5
  refine ov_b o_ ?_
  obtain ⟨S6, e6, h⟩ := mt_ob h
  obtain ⟨o_, hp⟩ := ov_wI hp e6
  refine ov_b o_ ?_
  obtain ⟨v8, S7, e8, h⟩ := mt_ob2 h
  obtain ⟨o_, hp⟩ := ov_X7_length hp e8
  refine ov_b2 o_ ?_
  by_cases hc : v8 ≤ 200
  · have h := mt_ip h hc
    refine ov_t hc ?_
    exact ov_X0_read_L56 1000 _ _ _ _ _ _ hp h
  · have h := mt_in' h hc
    refine ov_f hc ?_
    obtain ⟨S29, e29, h⟩ := mt_ob h
    obtain ⟨o_, hp⟩ := ov_X0_fail hp e29
    refine ov_b o_ ?_
    exact ov_retv hp h
def f_X0_afterBracket (x0 : Nat) (x1 : Int32) (S : mt_S) : Option (Int32 × mt_S) :=
  if mt_isK S x0 0 = true then
   Option.bind (mt_rR S x0 0 3) fun v1 =>
   Option.bind (mt_aI S v1 13 x1) fun v2 =>
   Option.bind (mt_sI S v1 13 x1 (v2 + 1)) fun S3 =>
   Option.bind (mt_rR S3 x0 0 3) fun v4 =>
   Option.bind (mt_aI S3 v4 13 x1) fun v5 =>
   Option.bind (mt_rR S3 x0 0 1) fun v6 =>
   Option.bind (mt_aI S3 v6 13 x1) fun v7 =>
   if v7 ≤ v5 then
    Option.bind (mt_rR S3 x0 0 3) fun v8 =>
    Option.bind (mt_sI S3 v8 13 x1 0) fun S9 =>
    some (x1 + 1, S9)
   else
    Option.bind (mt_rR S3 x0 0 2) fun v10 =>
    Option.bind (mt_aI S3 v10 13 x1) fun v11 =>
    some (v11, S3)
  else none
theorem k_X0_afterBracket {x0 : Nat} {x1 : Int32} {S : mt_S} {r : Int32} {S' : mt_S} (h : f_X0_afterBracket x0 x1 S = some (r, S')) : mt_isK S x0 0 = true := by
  unfold f_X0_afterBracket at h
  exact (mt_gd h).1
set_option maxHeartbeats 4000000 in
set_option maxRecDepth 100000 in
theorem m_X0_afterBracket {B : mt_B}  {x0 : Nat} {x1 : Int32} {S : mt_S} {r : Int32} {S' : mt_S} (h : f_X0_afterBracket x0 x1 S = some (r, S')) : mt_M B yX0_afterBracket cX0_afterBracket 2 (some .int) 1 [mt_rf B x0, .int x1] S (some (.int r)) S' := by
  unfold f_X0_afterBracket at h
  refine mt_M.of (by decide) (Nat.le_of_ble_eq_true rfl) (fun E hC hE => ?_)
  obtain ⟨hk0, h⟩ := mt_gd h
  refine go_aload_n hC 0 dX0_afterBracket_0 rfl rfl ?_
  obtain ⟨v1, e1, h⟩ := mt_ob h
  refine go_getR hC mt_flX0_19 e1 dX0_afterBracket_1 ?_
  refine go_iload_n hC 1 dX0_afterBracket_4 rfl rfl ?_
  refine go_dup2 hC dX0_afterBracket_5 rfl rfl ?_
  obtain ⟨v2, e2, h⟩ := mt_ob h
  refine go_iald hC e2 dX0_afterBracket_6 ?_
  refine go_iconst (v := 1) hC dX0_afterBracket_7 (by decide) ?_
  refine go_iadd hC dX0_afterBracket_8 ?_
  obtain ⟨S3, e3, h⟩ := mt_ob h
  refine go_iast hC e3 dX0_afterBracket_9 ?_
  refine go_aload_n hC 0 dX0_afterBracket_10 rfl rfl ?_
  obtain ⟨v4, e4, h⟩ := mt_ob h
  refine go_getR hC mt_flX0_19 e4 dX0_afterBracket_11 ?_
  refine go_iload_n hC 1 dX0_afterBracket_14 rfl rfl ?_
  obtain ⟨v5, e5, h⟩ := mt_ob h
  refine go_iald hC e5 dX0_afterBracket_15 ?_
  refine go_aload_n hC 0 dX0_afterBracket_16 rfl rfl ?_
  obtain ⟨v6, e6, h⟩ := mt_ob h
  refine go_getR hC mt_flX0_13 e6 dX0_afterBracket_17 ?_
  refine go_iload_n hC 1 dX0_afterBracket_20 rfl rfl ?_
  obtain ⟨v7, e7, h⟩ := mt_ob h
  refine go_iald hC e7 dX0_afterBracket_21 ?_
  refine go_icmp_ge hC (tgt := 32) dX0_afterBracket_22 (by decide) (fun hc => ?_) (fun hc => ?_)
  · have h := mt_ip h hc
    refine go_aload_n hC 0 dX0_afterBracket_32 rfl rfl ?_
    obtain ⟨v8, e8, h⟩ := mt_ob h
    refine go_getR hC mt_flX0_19 e8 dX0_afterBracket_33 ?_
    refine go_iload_n hC 1 dX0_afterBracket_36 rfl rfl ?_
    refine go_iconst (v := 0) hC dX0_afterBracket_37 (by decide) ?_
    obtain ⟨S9, e9, h⟩ := mt_ob h
    refine go_iast hC e9 dX0_afterBracket_38 ?_
    refine go_iload_n hC 1 dX0_afterBracket_39 rfl rfl ?_
    refine go_iconst (v := 1) hC dX0_afterBracket_40 (by decide) ?_
    refine go_iadd hC dX0_afterBracket_41 ?_
    exact go_iret hC (mt_rei h hE) dX0_afterBracket_42
  · have h := mt_in' h hc
    refine go_aload_n hC 0 dX0_afterBracket_25 rfl rfl ?_
    obtain ⟨v10, e10, h⟩ := mt_ob h
    refine go_getR hC mt_flX0_16 e10 dX0_afterBracket_26 ?_
    refine go_iload_n hC 1 dX0_afterBracket_29 rfl rfl ?_
    obtain ⟨v11, e11, h⟩ := mt_ob h
    refine go_iald hC e11 dX0_afterBracket_30 ?_
    exact go_iret hC (mt_rei h hE) dX0_afterBracket_31
set_option maxHeartbeats 4000000 in
set_option maxRecDepth 100000 in
theorem ov_X0_afterBracket {T : mt_S}  {x0 : Nat} {x1 : Int32} {S : mt_S} {r : Int32} {S' : mt_S} (hp : mt_cp S T) (h : f_X0_afterBracket x0 x1 S = some (r, S')) : f_X0_afterBracket x0 x1 (mt_ov S T) = some (r, mt_ov S' T) ∧ mt_cp S' T := by
  unfold f_X0_afterBracket at h ⊢
  obtain ⟨hg, h⟩ := mt_gd h
  refine ov_t (ov_K hp hg) ?_
  obtain ⟨v1, e1, h⟩ := mt_ob h
  refine ov_b (ov_rR hp e1) ?_
  obtain ⟨v2, e2, h⟩ := mt_ob h
  refine ov_b (ov_aI hp e2) ?_
  obtain ⟨S3, e3, h⟩ := mt_ob h
  obtain ⟨o_, hp⟩ := ov_sI hp e3
  refine ov_b o_ ?_
  obtain ⟨v4, e4, h⟩ := mt_ob h
  refine ov_b (ov_rR hp e4) ?_
  obtain ⟨v5, e5, h⟩ := mt_ob h
  refine ov_b (ov_aI hp e5) ?_
  obtain ⟨v6, e6, h⟩ := mt_ob h
  refine ov_b (ov_rR hp e6) ?_
  obtain ⟨v7, e7, h⟩ := mt_ob h
  refine ov_b (ov_aI hp e7) ?_
  by_cases hc : v7 ≤ v5
  · have h := mt_ip h hc
    refine ov_t hc ?_
    obtain ⟨v8, e8, h⟩ := mt_ob h
    refine ov_b (ov_rR hp e8) ?_
    obtain ⟨S9, e9, h⟩ := mt_ob h
    obtain ⟨o_, hp⟩ := ov_sI hp e9
    refine ov_b o_ ?_
    exact ov_ret hp h
  · have h := mt_in' h hc
    refine ov_f hc ?_
    obtain ⟨v10, e10, h⟩ := mt_ob h
    refine ov_b (ov_rR hp e10) ?_
    obtain ⟨v11, e11, h⟩ := mt_ob h
    refine ov_b (ov_aI hp e11) ?_
    exact ov_ret hp h
def f_X0_doOnce (x0 : Nat) (x1 : Int32) (S : mt_S) : Option (Int32 × mt_S) :=
  if x1 = 108 then
   mt_b2 (f_X4_stepLeft x0 S) fun v2 S1 =>
   if v2 = 0 ∨ v2 = 1 then
    some (v2, S1)
   else none
  else
  if x1 = 114 then
   mt_b2 (f_X4_stepRight x0 S) fun v5 S4 =>
   if v5 = 0 ∨ v5 = 1 then
    some (v5, S4)
   else none
  else
  if x1 = 117 then
   mt_b2 (f_X4_stepUp x0 S) fun v8 S7 =>
   if v8 = 0 ∨ v8 = 1 then
    some (v8, S7)
   else none
  else
   Option.bind (f_X4_goHome x0 S) fun S10 =>
   some (1, S10)
set_option maxHeartbeats 4000000 in
set_option maxRecDepth 100000 in
theorem m_X0_doOnce {B : mt_B}  {x0 : Nat} {x1 : Int32} {S : mt_S} {r : Int32} {S' : mt_S} (h : f_X0_doOnce x0 x1 S = some (r, S')) : mt_M B yX0_doOnce cX0_doOnce 2 (some .boolean) 4 [mt_rf B x0, .int x1] S (some (.int r)) S' := by
  unfold f_X0_doOnce at h
  refine mt_M.of (by decide) (Nat.le_of_ble_eq_true rfl) (fun E hC hE => ?_)
  refine go_iload_n hC 1 dX0_doOnce_0 rfl rfl ?_
  by_cases hc0 : x1 = 108
  · have h := mt_ip h hc0
    refine go_look hC (off := 35) (tgt := 36) dX0_doOnce_1 (by decide +kernel) (by rw [hc0]; decide +kernel) (by decide) ?_
    refine go_aload_n hC 0 dX0_doOnce_36 rfl rfl ?_
    obtain ⟨v2, S1, e2, h⟩ := mt_ob2 h
    refine go_callVi hC [] [] (m_X4_stepLeft e2) mt_cvX0_98 (k_X4_stepLeft e2) dX0_doOnce_37 rfl rfl (by decide) (Nat.le_of_ble_eq_true rfl) ⟨Nat.le_refl _, Nat.le_refl _⟩ ?_
    obtain ⟨g3, h⟩ := mt_gd h
    exact go_zret hC (mt_rei h hE) g3 dX0_doOnce_40
  · have h := mt_in' h hc0
    by_cases hc1 : x1 = 114
    · have h := mt_ip h hc1
      refine go_look hC (off := 40) (tgt := 41) dX0_doOnce_1 (by decide +kernel) (by rw [hc1]; decide +kernel) (by decide) ?_
      refine go_aload_n hC 0 dX0_doOnce_41 rfl rfl ?_
      obtain ⟨v5, S4, e5, h⟩ := mt_ob2 h
      refine go_callVi hC [] [] (m_X4_stepRight e5) mt_cvX0_104 (k_X4_stepRight e5) dX0_doOnce_42 rfl rfl (by decide) (Nat.le_of_ble_eq_true rfl) ⟨Nat.le_refl _, Nat.le_refl _⟩ ?_
      obtain ⟨g6, h⟩ := mt_gd h
      exact go_zret hC (mt_rei h hE) g6 dX0_doOnce_45
    · have h := mt_in' h hc1
      by_cases hc2 : x1 = 117
      · have h := mt_ip h hc2
        refine go_look hC (off := 45) (tgt := 46) dX0_doOnce_1 (by decide +kernel) (by rw [hc2]; decide +kernel) (by decide) ?_
        refine go_aload_n hC 0 dX0_doOnce_46 rfl rfl ?_
        obtain ⟨v8, S7, e8, h⟩ := mt_ob2 h
        refine go_callVi hC [] [] (m_X4_stepUp e8) mt_cvX0_107 (k_X4_stepUp e8) dX0_doOnce_47 rfl rfl (by decide) (Nat.le_of_ble_eq_true rfl) ⟨Nat.le_refl _, Nat.le_refl _⟩ ?_
        obtain ⟨g9, h⟩ := mt_gd h
        exact go_zret hC (mt_rei h hE) g9 dX0_doOnce_50
      · have h := mt_in' h hc2
        refine go_look hC (off := 50) (tgt := 51) dX0_doOnce_1 (by decide +kernel) (by show Op.lookupswitch.offset [(108, 35), (114, 40), (117, 45)] 50 _ = _; rw [lv_osw hc0 (a := 108) rfl, lv_osw hc1 (a := 114) rfl, lv_osw hc2 (a := 117) rfl]; rfl) (by decide) ?_
        refine go_aload_n hC 0 dX0_doOnce_51 rfl rfl ?_
        obtain ⟨S10, e10, h⟩ := mt_ob h
        refine go_callVv hC [] [] (m_X4_goHome e10) mt_cvX0_110 (k_X4_goHome e10) dX0_doOnce_52 rfl rfl (by decide) (Nat.le_of_ble_eq_true rfl) ⟨Nat.le_refl _, Nat.le_refl _⟩ ?_
        refine go_iconst (v := 1) hC dX0_doOnce_55 (by decide) ?_
        exact go_zret hC (mt_rei h hE) (Or.inr rfl) dX0_doOnce_56
set_option maxHeartbeats 4000000 in
set_option maxRecDepth 100000 in
theorem ov_X0_doOnce {T : mt_S}  {x0 : Nat} {x1 : Int32} {S : mt_S} {r : Int32} {S' : mt_S} (hp : mt_cp S T) (h : f_X0_doOnce x0 x1 S = some (r, S')) : f_X0_doOnce x0 x1 (mt_ov S T) = some (r, mt_ov S' T) ∧ mt_cp S' T := by
  unfold f_X0_doOnce at h ⊢
  by_cases hc : x1 = 108
  · have h := mt_ip h hc
    refine ov_t hc ?_
    obtain ⟨v2, S1, e2, h⟩ := mt_ob2 h
    obtain ⟨o_, hp⟩ := ov_X4_stepLeft hp e2
    refine ov_b2 o_ ?_
    obtain ⟨hg, h⟩ := mt_gd h
    refine ov_t hg ?_
    exact ov_ret hp h
  · have h := mt_in' h hc
    refine ov_f hc ?_
    by_cases hc : x1 = 114
    · have h := mt_ip h hc
      refine ov_t hc ?_
      obtain ⟨v5, S4, e5, h⟩ := mt_ob2 h
      obtain ⟨o_, hp⟩ := ov_X4_stepRight hp e5
      refine ov_b2 o_ ?_
      obtain ⟨hg, h⟩ := mt_gd h
      refine ov_t hg ?_
      exact ov_ret hp h
    · have h := mt_in' h hc
      refine ov_f hc ?_
      by_cases hc : x1 = 117
      · have h := mt_ip h hc
        refine ov_t hc ?_
        obtain ⟨v8, S7, e8, h⟩ := mt_ob2 h
        obtain ⟨o_, hp⟩ := ov_X4_stepUp hp e8
        refine ov_b2 o_ ?_
        obtain ⟨hg, h⟩ := mt_gd h
        refine ov_t hg ?_
        exact ov_ret hp h
      · have h := mt_in' h hc
        refine ov_f hc ?_
        obtain ⟨S10, e10, h⟩ := mt_ob h
        obtain ⟨o_, hp⟩ := ov_X4_goHome hp e10
        refine ov_b o_ ?_
        exact ov_ret hp h
def f_X0_doOften_L2s (rc : Nat → Int32 → Int32 → Int32 → mt_S → Option (Int32 × mt_S)) (x0 : Nat) (x1 : Int32) (x2 : Int32) (x3 : Int32) (S : mt_S) : Option (Int32 × mt_S) :=
  if x2 ≤ x3 then
   some (x3, S)
  else
   mt_b2 (f_X0_doOnce x0 x1 S) fun v2 S1 =>
   if v2 = 0 then
    some (x3, S1)
   else
    rc x0 x1 x2 (x3 + 1) S1
def f_X0_doOften_L2 : Nat → Nat → Int32 → Int32 → Int32 → mt_S → Option (Int32 × mt_S)
  | 0 => fun _ _ _ _ _ => none
  | n + 1 => f_X0_doOften_L2s (f_X0_doOften_L2 n)
set_option maxHeartbeats 4000000 in
set_option maxRecDepth 100000 in
theorem m_X0_doOften_L2 {B : mt_B} {E : mt_E} {r : Int32} {S' : mt_S} (hC : mt_Cx B E cX0_doOften RX0 (some .int) 4 5 0 0) (hE : mt_End B E (0, 0) (some (.int r)) S') : ∀ (n : Nat) (x0 : Nat) (x1 : Int32) (x2 : Int32) (x3 : Int32) (S : mt_S), f_X0_doOften_L2 n x0 x1 x2 x3 S = some (r, S') → mt_Go B E (0, 0) S 2 [(0, mt_rf B x0), (1, .int x1), (2, .int x2), (3, .int x3)] [] := by
  intro n
  induction n with
  | zero =>
    intro x0 x1 x2 x3 S h
    cases h
  | succ n ih =>
    intro x0 x1 x2 x3 S h
    have h : f_X0_doOften_L2s (f_X0_doOften_L2 n) x0 x1 x2 x3 S = some (r, S') := h
    unfold f_X0_doOften_L2s at h
    refine go_iload_n hC 3 dX0_doOften_2 rfl rfl ?_
    refine go_iload_n hC 2 dX0_doOften_3 rfl rfl ?_
    refine go_icmp_ge hC (tgt := 21) dX0_doOften_4 (by decide) (fun hc => ?_) (fun hc => ?_)
    · have h := mt_ip h hc
      refine go_iload_n hC 3 dX0_doOften_21 rfl rfl ?_
      exact go_iret hC (mt_rei h hE) dX0_doOften_22
    · have h := mt_in' h hc
      refine go_aload_n hC 0 dX0_doOften_7 rfl rfl ?_
      refine go_iload_n hC 1 dX0_doOften_8 rfl rfl ?_
      obtain ⟨v2, S1, e2, h⟩ := mt_ob2 h
      refine go_callSi hC [mt_rf B x0, .int x1] [] (m_X0_doOnce e2) mt_csX0_94 dX0_doOften_9 rfl rfl (by decide) (Nat.le_of_ble_eq_true rfl) ⟨Nat.le_refl _, Nat.le_refl _⟩ ?_
      refine go_if_eq hC (tgt := 21) dX0_doOften_12 (by decide) (fun hc => ?_) (fun hc => ?_)
      · have h := mt_ip h hc
        refine go_iload_n hC 3 dX0_doOften_21 rfl rfl ?_
        exact go_iret hC (mt_rei h hE) dX0_doOften_22
      · have h := mt_in' h hc
        refine go_iinc hC 3 [1, 2, 3, 0] (v := x3 + 1) (lv1 := [(0, mt_rf B x0), (1, .int x1), (2, .int x2), (3, .int (x3 + 1))]) dX0_doOften_15 rfl rfl (by decide) rfl ?_
        refine go_goto hC (tgt := 2) dX0_doOften_18 (by decide) ?_
        exact ih _ _ _ _ _ h
set_option maxHeartbeats 4000000 in
set_option maxRecDepth 100000 in
theorem ov_X0_doOften_L2 {T : mt_S} {r : Int32} {S' : mt_S} : ∀ (n : Nat) (x0 : Nat) (x1 : Int32) (x2 : Int32) (x3 : Int32) (S : mt_S), mt_cp S T → f_X0_doOften_L2 n x0 x1 x2 x3 S = some (r, S') → f_X0_doOften_L2 n x0 x1 x2 x3 (mt_ov S T) = some (r, mt_ov S' T) ∧ mt_cp S' T := by
  intro n
  induction n with
  | zero =>
    intro x0 x1 x2 x3 S hp h
    cases h
  | succ n ih =>
    intro x0 x1 x2 x3 S hp h
    have h : f_X0_doOften_L2s (f_X0_doOften_L2 n) x0 x1 x2 x3 S = some (r, S') := h
    show f_X0_doOften_L2s (f_X0_doOften_L2 n) x0 x1 x2 x3 (mt_ov S T) = some (r, mt_ov S' T) ∧ mt_cp S' T
    unfold f_X0_doOften_L2s at h ⊢
    by_cases hc : x2 ≤ x3
    · have h := mt_ip h hc
      refine ov_t hc ?_
      exact ov_ret hp h
    · have h := mt_in' h hc
      refine ov_f hc ?_
      obtain ⟨v2, S1, e2, h⟩ := mt_ob2 h
      obtain ⟨o_, hp⟩ := ov_X0_doOnce hp e2
      refine ov_b2 o_ ?_
      by_cases hc : v2 = 0
      · have h := mt_ip h hc
        refine ov_t hc ?_
        exact ov_ret hp h
      · have h := mt_in' h hc
        refine ov_f hc ?_
        exact ih _ _ _ _ _ hp h
def f_X0_doOften (x0 : Nat) (x1 : Int32) (x2 : Int32) (S : mt_S) : Option (Int32 × mt_S) :=
  f_X0_doOften_L2 1000 x0 x1 x2 0 S
set_option maxHeartbeats 4000000 in
set_option maxRecDepth 100000 in
theorem m_X0_doOften {B : mt_B}  {x0 : Nat} {x1 : Int32} {x2 : Int32} {S : mt_S} {r : Int32} {S' : mt_S} (h : f_X0_doOften x0 x1 x2 S = some (r, S')) : mt_M B yX0_doOften cX0_doOften 4 (some .int) 5 [mt_rf B x0, .int x1, .int x2] S (some (.int r)) S' := by
  unfold f_X0_doOften at h
  refine mt_M.of (by decide) (Nat.le_of_ble_eq_true rfl) (fun E hC hE => ?_)
  refine go_iconst (v := 0) hC dX0_doOften_0 (by decide) ?_
  refine go_istore_n hC [1, 2, 3, 0] (lv1 := [(0, mt_rf B x0), (1, .int x1), (2, .int x2), (3, .int 0)]) dX0_doOften_1 rfl (by decide) rfl ?_
  exact m_X0_doOften_L2 hC hE 1000 _ _ _ _ _ h
set_option maxHeartbeats 4000000 in
set_option maxRecDepth 100000 in
theorem ov_X0_doOften {T : mt_S}  {x0 : Nat} {x1 : Int32} {x2 : Int32} {S : mt_S} {r : Int32} {S' : mt_S} (hp : mt_cp S T) (h : f_X0_doOften x0 x1 x2 S = some (r, S')) : f_X0_doOften x0 x1 x2 (mt_ov S T) = some (r, mt_ov S' T) ∧ mt_cp S' T := by
  unfold f_X0_doOften at h ⊢
  exact ov_X0_doOften_L2 1000 _ _ _ _ _ hp h
def f_X0_run_L7s (rc : Nat → Nat → Int32 → Int32 → Int32 → mt_S → Option (Int32 × mt_S)) (x0 : Nat) (x1 : Nat) (x2 : Int32) (x3 : Int32) (x4 : Int32) (S : mt_S) : Option (Int32 × mt_S) :=
  if 1000000 ≤ x4 then
   some (x2, S)
  else
  if x3 < 0 then
   some (x2, S)
  else
   Option.bind (mt_rI S x0 0 5) fun v1 =>
   if v1 ≤ x3 then
    some (x2, S)
   else
    Option.bind (mt_rR S x0 0 0) fun v2 =>
    Option.bind (mt_aI S v2 13 x3) fun v3 =>
    if v3 = 93 then
     mt_b2 (f_X0_afterBracket x0 x3 S) fun v15 S14 =>
     rc x0 x1 x2 v15 (x4 + 1) S14
    else
     Option.bind (mt_rR S x0 0 1) fun v4 =>
     Option.bind (mt_aI S v4 13 x3) fun v5 =>
     mt_b2 (f_J9_min_7cf53 v5 (500 - x2) S) fun v7 S6 =>
     Option.bind (mt_rR S6 x0 0 0) fun v8 =>
     Option.bind (mt_aI S6 v8 13 x3) fun v9 =>
     mt_b2 (f_X0_doOften x1 v9 v7 S6) fun v11 S10 =>
     Option.bind (mt_rR S10 x0 0 1) fun v12 =>
     Option.bind (mt_aI S10 v12 13 x3) fun v13 =>
     if v13 ≤ v11 then
      rc x0 x1 (x2 + v11) (x3 + 1) (x4 + 1) S10
     else
      some (x2 + v11, S10)
def f_X0_run_L7 : Nat → Nat → Nat → Int32 → Int32 → Int32 → mt_S → Option (Int32 × mt_S)
  | 0 => fun _ _ _ _ _ _ => none
  | n + 1 => f_X0_run_L7s (f_X0_run_L7 n)
set_option maxHeartbeats 4000000 in
set_option maxRecDepth 100000 in
theorem m_X0_run_L7 {B : mt_B} {E : mt_E} {r : Int32} {S' : mt_S} (hC : mt_Cx B E cX0_run RX0 (some .int) 7 6 0 0) (hE : mt_End B E (0, 0) (some (.int r)) S') : ∀ (n : Nat) (x0 : Nat) (x1 : Nat) (x2 : Int32) (x3 : Int32) (x4 : Int32) (S : mt_S), f_X0_run_L7 n x0 x1 x2 x3 x4 S = some (r, S') → mt_Go B E (0, 0) S 7 [(0, mt_rf B x0), (1, mt_rf B x1), (2, .int x2), (3, .int x3), (4, .int x4)] [] := by
  intro n
  induction n with
  | zero =>
    intro x0 x1 x2 x3 x4 S h
    cases h
  | succ n ih =>
    intro x0 x1 x2 x3 x4 S h
    have h : f_X0_run_L7s (f_X0_run_L7 n) x0 x1 x2 x3 x4 S = some (r, S') := h
    unfold f_X0_run_L7s at h
    refine go_iload hC 4 dX0_run_7 rfl ?_
    refine go_ldc hC dX0_run_9 mt_kX0_86 ?_
    refine go_icmp_ge hC (tgt := 103) dX0_run_11 (by decide) (fun hc => ?_) (fun hc => ?_)
    · have h := mt_ip h hc
      refine go_iload_n hC 2 dX0_run_103 rfl rfl ?_
      exact go_iret hC (mt_rei h hE) dX0_run_104
    · have h := mt_in' h hc
      refine go_iload_n hC 3 dX0_run_14 rfl rfl ?_
      refine go_if_lt hC (tgt := 103) dX0_run_15 (by decide) (fun hc => ?_) (fun hc => ?_)
      · have h := mt_ip h hc
        refine go_iload_n hC 2 dX0_run_103 rfl rfl ?_
        exact go_iret hC (mt_rei h hE) dX0_run_104
      · have h := mt_in' h hc
        refine go_iload_n hC 3 dX0_run_18 rfl rfl ?_
        refine go_aload_n hC 0 dX0_run_19 rfl rfl ?_
        obtain ⟨v1, e1, h⟩ := mt_ob h
        refine go_getI hC mt_flX0_32 e1 dX0_run_20 ?_
        refine go_icmp_ge hC (tgt := 103) dX0_run_23 (by decide) (fun hc => ?_) (fun hc => ?_)
        · have h := mt_ip h hc
          refine go_iload_n hC 2 dX0_run_103 rfl rfl ?_
          exact go_iret hC (mt_rei h hE) dX0_run_104
        · have h := mt_in' h hc
          refine go_aload_n hC 0 dX0_run_26 rfl rfl ?_
          obtain ⟨v2, e2, h⟩ := mt_ob h
          refine go_getR hC mt_flX0_9 e2 dX0_run_27 ?_
          refine go_iload_n hC 3 dX0_run_30 rfl rfl ?_
          obtain ⟨v3, e3, h⟩ := mt_ob h
          refine go_iald hC e3 dX0_run_31 ?_
          refine go_bipush (v := 93) hC dX0_run_32 (by decide) ?_
          refine go_icmp_ne hC (tgt := 46) dX0_run_34 (by decide) (fun hc => ?_) (fun hc => ?_)
          · have h := mt_in' h hc
            refine go_aload_n hC 0 dX0_run_46 rfl rfl ?_
            obtain ⟨v4, e4, h⟩ := mt_ob h
            refine go_getR hC mt_flX0_13 e4 dX0_run_47 ?_
            refine go_iload_n hC 3 dX0_run_50 rfl rfl ?_
            obtain ⟨v5, e5, h⟩ := mt_ob h
            refine go_iald hC e5 dX0_run_51 ?_
            refine go_sipush (v := 500) hC dX0_run_52 (by decide) ?_
            refine go_iload_n hC 2 dX0_run_55 rfl rfl ?_
            refine go_isub hC dX0_run_56 ?_
            obtain ⟨v7, S6, e7, h⟩ := mt_ob2 h
            refine go_callSi hC [.int v5, .int (500 - x2)] [] (m_J9_min_7cf53 e7) mt_csX0_71 dX0_run_57 rfl rfl (by decide) (Nat.le_of_ble_eq_true rfl) ⟨Nat.le_refl _, Nat.le_refl _⟩ ?_
            refine go_istore hC [1, 2, 3, 4, 5, 0] (lv1 := [(0, mt_rf B x0), (1, mt_rf B x1), (2, .int x2), (3, .int x3), (4, .int x4), (5, .int v7)]) dX0_run_60 (by decide) rfl ?_
            refine go_aload_n hC 1 dX0_run_62 rfl rfl ?_
            refine go_aload_n hC 0 dX0_run_63 rfl rfl ?_
            obtain ⟨v8, e8, h⟩ := mt_ob h
            refine go_getR hC mt_flX0_9 e8 dX0_run_64 ?_
            refine go_iload_n hC 3 dX0_run_67 rfl rfl ?_
            obtain ⟨v9, e9, h⟩ := mt_ob h
            refine go_iald hC e9 dX0_run_68 ?_
            refine go_iload hC 5 dX0_run_69 rfl ?_
            obtain ⟨v11, S10, e11, h⟩ := mt_ob2 h
            refine go_callSi hC [mt_rf B x1, .int v9, .int v7] [] (m_X0_doOften e11) mt_csX0_90 dX0_run_71 rfl rfl (by decide) (Nat.le_of_ble_eq_true rfl) ⟨Nat.le_refl _, Nat.le_refl _⟩ ?_
            refine go_istore hC [1, 2, 3, 4, 5, 6, 0] (lv1 := [(0, mt_rf B x0), (1, mt_rf B x1), (2, .int x2), (3, .int x3), (4, .int x4), (5, .int v7), (6, .int v11)]) dX0_run_74 (by decide) rfl ?_
            refine go_iload_n hC 2 dX0_run_76 rfl rfl ?_
            refine go_iload hC 6 dX0_run_77 rfl ?_
            refine go_iadd hC dX0_run_79 ?_
            refine go_istore_n hC [1, 2, 0, 3, 4, 5, 6] (lv1 := [(0, mt_rf B x0), (1, mt_rf B x1), (2, .int (x2 + v11)), (3, .int x3), (4, .int x4), (5, .int v7), (6, .int v11)]) dX0_run_80 rfl (by decide) rfl ?_
            refine go_iload hC 6 dX0_run_81 rfl ?_
            refine go_aload_n hC 0 dX0_run_83 rfl rfl ?_
            obtain ⟨v12, e12, h⟩ := mt_ob h
            refine go_getR hC mt_flX0_13 e12 dX0_run_84 ?_
            refine go_iload_n hC 3 dX0_run_87 rfl rfl ?_
            obtain ⟨v13, e13, h⟩ := mt_ob h
            refine go_iald hC e13 dX0_run_88 ?_
            refine go_icmp_ge hC (tgt := 94) dX0_run_89 (by decide) (fun hc => ?_) (fun hc => ?_)
            · have h := mt_ip h hc
              refine go_iinc hC 3 [1, 2, 3, 0, 4, 5, 6] (v := x3 + 1) (lv1 := [(0, mt_rf B x0), (1, mt_rf B x1), (2, .int (x2 + v11)), (3, .int (x3 + 1)), (4, .int x4), (5, .int v7), (6, .int v11)]) dX0_run_94 rfl rfl (by decide) rfl ?_
              refine go_iinc hC 4 [1, 2, 3, 4, 0, 5, 6] (v := x4 + 1) (lv1 := [(0, mt_rf B x0), (1, mt_rf B x1), (2, .int (x2 + v11)), (3, .int (x3 + 1)), (4, .int (x4 + 1)), (5, .int v7), (6, .int v11)]) dX0_run_97 rfl rfl (by decide) rfl ?_
              refine go_goto hC (tgt := 7) dX0_run_100 (by decide) ?_
              refine go_sub [0, 1, 2, 3, 4] (lv1 := [(0, mt_rf B x0), (1, mt_rf B x1), (2, .int (x2 + v11)), (3, .int (x3 + 1)), (4, .int (x4 + 1))]) rfl ?_
              exact ih _ _ _ _ _ _ h
            · have h := mt_in' h hc
              refine go_iload_n hC 2 dX0_run_92 rfl rfl ?_
              exact go_iret hC (mt_rei h hE) dX0_run_93
          · have h := mt_ip h hc
            refine go_aload_n hC 0 dX0_run_37 rfl rfl ?_
            refine go_iload_n hC 3 dX0_run_38 rfl rfl ?_
            obtain ⟨v15, S14, e15, h⟩ := mt_ob2 h
            refine go_callVi hC [.int x3] [] (m_X0_afterBracket e15) mt_cvX0_87 (k_X0_afterBracket e15) dX0_run_39 rfl rfl (by decide) (Nat.le_of_ble_eq_true rfl) ⟨Nat.le_refl _, Nat.le_refl _⟩ ?_
            refine go_istore_n hC [1, 2, 3, 0, 4] (lv1 := [(0, mt_rf B x0), (1, mt_rf B x1), (2, .int x2), (3, .int v15), (4, .int x4)]) dX0_run_42 rfl (by decide) rfl ?_
            refine go_goto hC (tgt := 97) dX0_run_43 (by decide) ?_
            refine go_iinc hC 4 [1, 2, 3, 4, 0] (v := x4 + 1) (lv1 := [(0, mt_rf B x0), (1, mt_rf B x1), (2, .int x2), (3, .int v15), (4, .int (x4 + 1))]) dX0_run_97 rfl rfl (by decide) rfl ?_
            refine go_goto hC (tgt := 7) dX0_run_100 (by decide) ?_
            exact ih _ _ _ _ _ _ h
set_option maxHeartbeats 4000000 in
set_option maxRecDepth 100000 in
theorem ov_X0_run_L7 {T : mt_S} {r : Int32} {S' : mt_S} : ∀ (n : Nat) (x0 : Nat) (x1 : Nat) (x2 : Int32) (x3 : Int32) (x4 : Int32) (S : mt_S), mt_cp S T → f_X0_run_L7 n x0 x1 x2 x3 x4 S = some (r, S') → f_X0_run_L7 n x0 x1 x2 x3 x4 (mt_ov S T) = some (r, mt_ov S' T) ∧ mt_cp S' T := by
  intro n
  induction n with
  | zero =>
    intro x0 x1 x2 x3 x4 S hp h
    cases h
  | succ n ih =>
    intro x0 x1 x2 x3 x4 S hp h
    have h : f_X0_run_L7s (f_X0_run_L7 n) x0 x1 x2 x3 x4 S = some (r, S') := h
    show f_X0_run_L7s (f_X0_run_L7 n) x0 x1 x2 x3 x4 (mt_ov S T) = some (r, mt_ov S' T) ∧ mt_cp S' T
    unfold f_X0_run_L7s at h ⊢
    by_cases hc : 1000000 ≤ x4
    · have h := mt_ip h hc
      refine ov_t hc ?_
      exact ov_ret hp h
    · have h := mt_in' h hc
      refine ov_f hc ?_
      by_cases hc : x3 < 0
      · have h := mt_ip h hc
        refine ov_t hc ?_
        exact ov_ret hp h
      · have h := mt_in' h hc
        refine ov_f hc ?_
        obtain ⟨v1, e1, h⟩ := mt_ob h
        refine ov_b (ov_rI hp e1) ?_
        by_cases hc : v1 ≤ x3
        · have h := mt_ip h hc
          refine ov_t hc ?_
          exact ov_ret hp h
        · have h := mt_in' h hc
          refine ov_f hc ?_
          obtain ⟨v2, e2, h⟩ := mt_ob h
          refine ov_b (ov_rR hp e2) ?_
          obtain ⟨v3, e3, h⟩ := mt_ob h
          refine ov_b (ov_aI hp e3) ?_
          by_cases hc : v3 = 93
          · have h := mt_ip h hc
            refine ov_t hc ?_
            obtain ⟨v15, S14, e15, h⟩ := mt_ob2 h
            obtain ⟨o_, hp⟩ := ov_X0_afterBracket hp e15
            refine ov_b2 o_ ?_
            exact ih _ _ _ _ _ _ hp h
          · have h := mt_in' h hc
            refine ov_f hc ?_
            obtain ⟨v4, e4, h⟩ := mt_ob h
            refine ov_b (ov_rR hp e4) ?_
            obtain ⟨v5, e5, h⟩ := mt_ob h
            refine ov_b (ov_aI hp e5) ?_
            obtain ⟨v7, S6, e7, h⟩ := mt_ob2 h
            obtain ⟨o_, hp⟩ := ov_J9_min_7cf53 hp e7
            refine ov_b2 o_ ?_
            obtain ⟨v8, e8, h⟩ := mt_ob h
            refine ov_b (ov_rR hp e8) ?_
            obtain ⟨v9, e9, h⟩ := mt_ob h
            refine ov_b (ov_aI hp e9) ?_
            obtain ⟨v11, S10, e11, h⟩ := mt_ob2 h
            obtain ⟨o_, hp⟩ := ov_X0_doOften hp e11
            refine ov_b2 o_ ?_
            obtain ⟨v12, e12, h⟩ := mt_ob h
            refine ov_b (ov_rR hp e12) ?_
            obtain ⟨v13, e13, h⟩ := mt_ob h
            refine ov_b (ov_aI hp e13) ?_
            by_cases hc : v13 ≤ v11
            · have h := mt_ip h hc
              refine ov_t hc ?_
              exact ih _ _ _ _ _ _ hp h
            · have h := mt_in' h hc
              refine ov_f hc ?_
              exact ov_ret hp h
def f_X0_run (x0 : Nat) (x1 : Nat) (S : mt_S) : Option (Int32 × mt_S) :=
  if mt_isK S x0 0 = true then
   f_X0_run_L7 5000 x0 x1 0 0 0 S
  else none
theorem k_X0_run {x0 : Nat} {x1 : Nat} {S : mt_S} {r : Int32} {S' : mt_S} (h : f_X0_run x0 x1 S = some (r, S')) : mt_isK S x0 0 = true := by
  unfold f_X0_run at h
  exact (mt_gd h).1
set_option maxHeartbeats 4000000 in
set_option maxRecDepth 100000 in
theorem m_X0_run {B : mt_B}  {x0 : Nat} {x1 : Nat} {S : mt_S} {r : Int32} {S' : mt_S} (h : f_X0_run x0 x1 S = some (r, S')) : mt_M B yX0_run cX0_run 7 (some .int) 6 [mt_rf B x0, mt_rf B x1] S (some (.int r)) S' := by
  unfold f_X0_run at h
  refine mt_M.of (by decide) (Nat.le_of_ble_eq_true rfl) (fun E hC hE => ?_)
  obtain ⟨hk0, h⟩ := mt_gd h
  refine go_iconst (v := 0) hC dX0_run_0 (by decide) ?_
  refine go_istore_n hC [1, 2, 0] (lv1 := [(0, mt_rf B x0), (1, mt_rf B x1), (2, .int 0)]) dX0_run_1 rfl (by decide) rfl ?_
  refine go_iconst (v := 0) hC dX0_run_2 (by decide) ?_
  refine go_istore_n hC [1, 2, 3, 0] (lv1 := [(0, mt_rf B x0), (1, mt_rf B x1), (2, .int 0), (3, .int 0)]) dX0_run_3 rfl (by decide) rfl ?_
  refine go_iconst (v := 0) hC dX0_run_4 (by decide) ?_
  refine go_istore hC [1, 2, 3, 4, 0] (lv1 := [(0, mt_rf B x0), (1, mt_rf B x1), (2, .int 0), (3, .int 0), (4, .int 0)]) dX0_run_5 (by decide) rfl ?_
  exact m_X0_run_L7 hC hE 5000 _ _ _ _ _ _ h
set_option maxHeartbeats 4000000 in
set_option maxRecDepth 100000 in
theorem ov_X0_run {T : mt_S}  {x0 : Nat} {x1 : Nat} {S : mt_S} {r : Int32} {S' : mt_S} (hp : mt_cp S T) (h : f_X0_run x0 x1 S = some (r, S')) : f_X0_run x0 x1 (mt_ov S T) = some (r, mt_ov S' T) ∧ mt_cp S' T := by
  unfold f_X0_run at h ⊢
  obtain ⟨hg, h⟩ := mt_gd h
  refine ov_t (ov_K hp hg) ?_
  exact ov_X0_run_L7 5000 _ _ _ _ _ _ hp h
