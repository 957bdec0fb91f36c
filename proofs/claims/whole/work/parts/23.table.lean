def f_X6_putRow_L17s (rc : Nat → Int64 → Int64 → Int64 → Int32 → Int32 → mt_S → Option (mt_S)) (x0 : Nat) (x1 : Int64) (x3 : Int64) (x5 : Int64) (x7 : Int32) (x8 : Int32) (S : mt_S) : Option (mt_S) :=
  if x8 ≤ 0 then
   Option.bind (mt_rR S x0 6 0) fun v3 =>
   Option.bind (mt_sL S v3 x8 x1) fun S4 =>
   Option.bind (mt_rR S4 x0 6 1) fun v5 =>
   Option.bind (mt_sL S4 v5 x8 x3) fun S6 =>
   Option.bind (mt_rR S6 x0 6 2) fun v7 =>
   Option.bind (mt_sL S6 v7 x8 x5) fun S8 =>
   Option.bind (mt_rR S8 x0 6 3) fun v9 =>
   Option.bind (mt_sI S8 v9 13 x8 x7) fun S10 =>
   Option.bind (mt_rI S10 x0 6 5) fun v11 =>
   Option.bind (mt_wI S10 x0 6 5 (v11 + 1)) fun S12 =>
   some S12
  else
   Option.bind (mt_rR S x0 6 2) fun v13 =>
   Option.bind (mt_aL S v13 (x8 - 1)) fun v14 =>
   if x5 < v14 then
    Option.bind (mt_rR S x0 6 0) fun v15 =>
    Option.bind (mt_rR S x0 6 0) fun v16 =>
    Option.bind (mt_aL S v16 (x8 - 1)) fun v17 =>
    Option.bind (mt_sL S v15 x8 v17) fun S18 =>
    Option.bind (mt_rR S18 x0 6 1) fun v19 =>
    Option.bind (mt_rR S18 x0 6 1) fun v20 =>
    Option.bind (mt_aL S18 v20 (x8 - 1)) fun v21 =>
    Option.bind (mt_sL S18 v19 x8 v21) fun S22 =>
    Option.bind (mt_rR S22 x0 6 2) fun v23 =>
    Option.bind (mt_rR S22 x0 6 2) fun v24 =>
    Option.bind (mt_aL S22 v24 (x8 - 1)) fun v25 =>
    Option.bind (mt_sL S22 v23 x8 v25) fun S26 =>
    Option.bind (mt_rR S26 x0 6 3) fun v27 =>
    Option.bind (mt_rR S26 x0 6 3) fun v28 =>
    Option.bind (mt_aI S26 v28 13 (x8 - 1)) fun v29 =>
    Option.bind (mt_sI S26 v27 13 x8 v29) fun S30 =>
    rc x0 x1 x3 x5 x7 (x8 + (-1)) S30
   else
    Option.bind (mt_rR S x0 6 2) fun v31 =>
    Option.bind (mt_aL S v31 (x8 - 1)) fun v32 =>
    if v32 = x5 then
     Option.bind (mt_rR S x0 6 0) fun v43 =>
     Option.bind (mt_aL S v43 (x8 - 1)) fun v44 =>
     if v44 ≤ x1 then
      Option.bind (mt_rR S x0 6 0) fun v45 =>
      Option.bind (mt_sL S v45 x8 x1) fun S46 =>
      Option.bind (mt_rR S46 x0 6 1) fun v47 =>
      Option.bind (mt_sL S46 v47 x8 x3) fun S48 =>
      Option.bind (mt_rR S48 x0 6 2) fun v49 =>
      Option.bind (mt_sL S48 v49 x8 x5) fun S50 =>
      Option.bind (mt_rR S50 x0 6 3) fun v51 =>
      Option.bind (mt_sI S50 v51 13 x8 x7) fun S52 =>
      Option.bind (mt_rI S52 x0 6 5) fun v53 =>
      Option.bind (mt_wI S52 x0 6 5 (v53 + 1)) fun S54 =>
      some S54
     else
      Option.bind (mt_rR S x0 6 0) fun v55 =>
      Option.bind (mt_rR S x0 6 0) fun v56 =>
      Option.bind (mt_aL S v56 (x8 - 1)) fun v57 =>
      Option.bind (mt_sL S v55 x8 v57) fun S58 =>
      Option.bind (mt_rR S58 x0 6 1) fun v59 =>
      Option.bind (mt_rR S58 x0 6 1) fun v60 =>
      Option.bind (mt_aL S58 v60 (x8 - 1)) fun v61 =>
      Option.bind (mt_sL S58 v59 x8 v61) fun S62 =>
      Option.bind (mt_rR S62 x0 6 2) fun v63 =>
      Option.bind (mt_rR S62 x0 6 2) fun v64 =>
      Option.bind (mt_aL S62 v64 (x8 - 1)) fun v65 =>
      Option.bind (mt_sL S62 v63 x8 v65) fun S66 =>
      Option.bind (mt_rR S66 x0 6 3) fun v67 =>
      Option.bind (mt_rR S66 x0 6 3) fun v68 =>
      Option.bind (mt_aI S66 v68 13 (x8 - 1)) fun v69 =>
      Option.bind (mt_sI S66 v67 13 x8 v69) fun S70 =>
      rc x0 x1 x3 x5 x7 (x8 + (-1)) S70
    else
     Option.bind (mt_rR S x0 6 0) fun v33 =>
     Option.bind (mt_sL S v33 x8 x1) fun S34 =>
     Option.bind (mt_rR S34 x0 6 1) fun v35 =>
     Option.bind (mt_sL S34 v35 x8 x3) fun S36 =>
     Option.bind (mt_rR S36 x0 6 2) fun v37 =>
     Option.bind (mt_sL S36 v37 x8 x5) fun S38 =>
     Option.bind (mt_rR S38 x0 6 3) fun v39 =>
     Option.bind (mt_sI S38 v39 13 x8 x7) fun S40 =>
     Option.bind (mt_rI S40 x0 6 5) fun v41 =>
     Option.bind (mt_wI S40 x0 6 5 (v41 + 1)) fun S42 =>
     some S42
def f_X6_putRow_L17 : Nat → Nat → Int64 → Int64 → Int64 → Int32 → Int32 → mt_S → Option (mt_S)
  | 0 => fun _ _ _ _ _ _ _ => none
  | n + 1 => f_X6_putRow_L17s (f_X6_putRow_L17 n)
set_option maxHeartbeats 4000000 in
set_option maxRecDepth 100000 in
theorem m_X6_putRow_L17 {B : mt_B} {E : mt_E} {S' : mt_S} (hC : mt_Cx B E cX6_putRow RX6 none 9 1 0 0) (hE : mt_End B E (0, 0) none S') : ∀ (n : Nat) (x0 : Nat) (x1 : Int64) (x3 : Int64) (x5 : Int64) (x7 : Int32) (x8 : Int32) (S : mt_S), f_X6_putRow_L17 n x0 x1 x3 x5 x7 x8 S = some S' → mt_Go B E (0, 0) S 17 [(0, mt_rf B x0), (1, .long x1), (3, .long x3), (5, .long x5), (7, .int x7), (8, .int x8)] [] := by
  intro n
  induction n with
  | zero =>
    intro x0 x1 x3 x5 x7 x8 S h
    cases h
  | succ n ih =>
    intro x0 x1 x3 x5 x7 x8 S h
    have h : f_X6_putRow_L17s (f_X6_putRow_L17 n) x0 x1 x3 x5 x7 x8 S = some S' := h
    unfold f_X6_putRow_L17s at h
    refine go_iload hC 5 dX6_putRow_17 rfl ?_
    refine go_if_le hC (tgt := 136) dX6_putRow_19 (by decide) (fun hc => ?_) (fun hc => ?_)
    · have h := mt_ip h hc
      refine go_aload_n hC 0 dX6_putRow_136 rfl rfl ?_
      obtain ⟨v3, e3, h⟩ := mt_ob h
      refine go_getR hC mt_flX6_11 e3 dX6_putRow_137 ?_
      refine go_iload hC 5 dX6_putRow_140 rfl ?_
      refine go_lload_n hC 1 dX6_putRow_142 rfl rfl ?_
      obtain ⟨S4, e4, h⟩ := mt_ob h
      refine go_last hC e4 dX6_putRow_143 ?_
      refine go_aload_n hC 0 dX6_putRow_144 rfl rfl ?_
      obtain ⟨v5, e5, h⟩ := mt_ob h
      refine go_getR hC mt_flX6_15 e5 dX6_putRow_145 ?_
      refine go_iload hC 5 dX6_putRow_148 rfl ?_
      refine go_lload_n hC 2 dX6_putRow_150 rfl rfl ?_
      obtain ⟨S6, e6, h⟩ := mt_ob h
      refine go_last hC e6 dX6_putRow_151 ?_
      refine go_aload_n hC 0 dX6_putRow_152 rfl rfl ?_
      obtain ⟨v7, e7, h⟩ := mt_ob h
      refine go_getR hC mt_flX6_18 e7 dX6_putRow_153 ?_
      refine go_iload hC 5 dX6_putRow_156 rfl ?_
      refine go_lload hC 3 dX6_putRow_158 rfl ?_
      obtain ⟨S8, e8, h⟩ := mt_ob h
      refine go_last hC e8 dX6_putRow_160 ?_
      refine go_aload_n hC 0 dX6_putRow_161 rfl rfl ?_
      obtain ⟨v9, e9, h⟩ := mt_ob h
      refine go_getR hC mt_flX6_21 e9 dX6_putRow_162 ?_
      refine go_iload hC 5 dX6_putRow_165 rfl ?_
      refine go_iload hC 4 dX6_putRow_167 rfl ?_
      obtain ⟨S10, e10, h⟩ := mt_ob h
      refine go_iast hC e10 dX6_putRow_169 ?_
      refine go_aload_n hC 0 dX6_putRow_170 rfl rfl ?_
      refine go_dup hC dX6_putRow_171 rfl ?_
      obtain ⟨v11, e11, h⟩ := mt_ob h
      refine go_getI hC mt_flX6_28 e11 dX6_putRow_172 ?_
      refine go_iconst (v := 1) hC dX6_putRow_175 (by decide) ?_
      refine go_iadd hC dX6_putRow_176 ?_
      obtain ⟨S12, e12, h⟩ := mt_ob h
      refine go_putI hC mt_flX6_28 e12 dX6_putRow_177 ?_
      exact go_vret hC (mt_rev h hE) dX6_putRow_180
    · have h := mt_in' h hc
      refine go_aload_n hC 0 dX6_putRow_22 rfl rfl ?_
      obtain ⟨v13, e13, h⟩ := mt_ob h
      refine go_getR hC mt_flX6_18 e13 dX6_putRow_23 ?_
      refine go_iload hC 5 dX6_putRow_26 rfl ?_
      refine go_iconst (v := 1) hC dX6_putRow_28 (by decide) ?_
      refine go_isub hC dX6_putRow_29 ?_
      obtain ⟨v14, e14, h⟩ := mt_ob h
      refine go_lald hC e14 dX6_putRow_30 ?_
      refine go_lload hC 3 dX6_putRow_31 rfl ?_
      refine go_lcmp_gt hC (tgt := 66) dX6_putRow_33 dX6_putRow_34 (by decide) (fun hc => ?_) (fun hc => ?_)
      · have h := mt_ip h hc
        refine go_aload_n hC 0 dX6_putRow_66 rfl rfl ?_
        obtain ⟨v15, e15, h⟩ := mt_ob h
        refine go_getR hC mt_flX6_11 e15 dX6_putRow_67 ?_
        refine go_iload hC 5 dX6_putRow_70 rfl ?_
        refine go_aload_n hC 0 dX6_putRow_72 rfl rfl ?_
        obtain ⟨v16, e16, h⟩ := mt_ob h
        refine go_getR hC mt_flX6_11 e16 dX6_putRow_73 ?_
        refine go_iload hC 5 dX6_putRow_76 rfl ?_
        refine go_iconst (v := 1) hC dX6_putRow_78 (by decide) ?_
        refine go_isub hC dX6_putRow_79 ?_
        obtain ⟨v17, e17, h⟩ := mt_ob h
        refine go_lald hC e17 dX6_putRow_80 ?_
        obtain ⟨S18, e18, h⟩ := mt_ob h
        refine go_last hC e18 dX6_putRow_81 ?_
        refine go_aload_n hC 0 dX6_putRow_82 rfl rfl ?_
        obtain ⟨v19, e19, h⟩ := mt_ob h
        refine go_getR hC mt_flX6_15 e19 dX6_putRow_83 ?_
        refine go_iload hC 5 dX6_putRow_86 rfl ?_
        refine go_aload_n hC 0 dX6_putRow_88 rfl rfl ?_
        obtain ⟨v20, e20, h⟩ := mt_ob h
        refine go_getR hC mt_flX6_15 e20 dX6_putRow_89 ?_
        refine go_iload hC 5 dX6_putRow_92 rfl ?_
        refine go_iconst (v := 1) hC dX6_putRow_94 (by decide) ?_
        refine go_isub hC dX6_putRow_95 ?_
        obtain ⟨v21, e21, h⟩ := mt_ob h
        refine go_lald hC e21 dX6_putRow_96 ?_
        obtain ⟨S22, e22, h⟩ := mt_ob h
        refine go_last hC e22 dX6_putRow_97 ?_
        refine go_aload_n hC 0 dX6_putRow_98 rfl rfl ?_
        obtain ⟨v23, e23, h⟩ := mt_ob h
        refine go_getR hC mt_flX6_18 e23 dX6_putRow_99 ?_
        refine go_iload hC 5 dX6_putRow_102 rfl ?_
        refine go_aload_n hC 0 dX6_putRow_104 rfl rfl ?_
        obtain ⟨v24, e24, h⟩ := mt_ob h
        refine go_getR hC mt_flX6_18 e24 dX6_putRow_105 ?_
        refine go_iload hC 5 dX6_putRow_108 rfl ?_
        refine go_iconst (v := 1) hC dX6_putRow_110 (by decide) ?_
        refine go_isub hC dX6_putRow_111 ?_
        obtain ⟨v25, e25, h⟩ := mt_ob h
        refine go_lald hC e25 dX6_putRow_112 ?_
        obtain ⟨S26, e26, h⟩ := mt_ob h
        refine go_last hC e26 dX6_putRow_113 ?_
        refine go_aload_n hC 0 dX6_putRow_114 rfl rfl ?_
        obtain ⟨v27, e27, h⟩ := mt_ob h
        refine go_getR hC mt_flX6_21 e27 dX6_putRow_115 ?_
        refine go_iload hC 5 dX6_putRow_118 rfl ?_
        refine go_aload_n hC 0 dX6_putRow_120 rfl rfl ?_
        obtain ⟨v28, e28, h⟩ := mt_ob h
        refine go_getR hC mt_flX6_21 e28 dX6_putRow_121 ?_
        refine go_iload hC 5 dX6_putRow_124 rfl ?_
        refine go_iconst (v := 1) hC dX6_putRow_126 (by decide) ?_
        refine go_isub hC dX6_putRow_127 ?_
        obtain ⟨v29, e29, h⟩ := mt_ob h
        refine go_iald hC e29 dX6_putRow_128 ?_
        obtain ⟨S30, e30, h⟩ := mt_ob h
        refine go_iast hC e30 dX6_putRow_129 ?_
        refine go_iinc hC 5 [1, 2, 3, 4, 5, 0] (v := x8 + (-1)) (lv1 := [(0, mt_rf B x0), (1, .long x1), (3, .long x3), (5, .long x5), (7, .int x7), (8, .int (x8 + (-1)))]) dX6_putRow_130 rfl rfl (by decide) rfl ?_
        refine go_goto hC (tgt := 17) dX6_putRow_133 (by decide) ?_
        exact ih _ _ _ _ _ _ _ h
      · have h := mt_in' h hc
        refine go_aload_n hC 0 dX6_putRow_37 rfl rfl ?_
        obtain ⟨v31, e31, h⟩ := mt_ob h
        refine go_getR hC mt_flX6_18 e31 dX6_putRow_38 ?_
        refine go_iload hC 5 dX6_putRow_41 rfl ?_
        refine go_iconst (v := 1) hC dX6_putRow_43 (by decide) ?_
        refine go_isub hC dX6_putRow_44 ?_
        obtain ⟨v32, e32, h⟩ := mt_ob h
        refine go_lald hC e32 dX6_putRow_45 ?_
        refine go_lload hC 3 dX6_putRow_46 rfl ?_
        refine go_lcmp_ne hC (tgt := 136) dX6_putRow_48 dX6_putRow_49 (by decide) (fun hc => ?_) (fun hc => ?_)
        · have h := mt_in' h hc
          refine go_aload_n hC 0 dX6_putRow_136 rfl rfl ?_
          obtain ⟨v33, e33, h⟩ := mt_ob h
          refine go_getR hC mt_flX6_11 e33 dX6_putRow_137 ?_
          refine go_iload hC 5 dX6_putRow_140 rfl ?_
          refine go_lload_n hC 1 dX6_putRow_142 rfl rfl ?_
          obtain ⟨S34, e34, h⟩ := mt_ob h
          refine go_last hC e34 dX6_putRow_143 ?_
          refine go_aload_n hC 0 dX6_putRow_144 rfl rfl ?_
          obtain ⟨v35, e35, h⟩ := mt_ob h
          refine go_getR hC mt_flX6_15 e35 dX6_putRow_145 ?_
          refine go_iload hC 5 dX6_putRow_148 rfl ?_
          refine go_lload_n hC 2 dX6_putRow_150 rfl rfl ?_
          obtain ⟨S36, e36, h⟩ := mt_ob h
          refine go_last hC e36 dX6_putRow_151 ?_
          refine go_aload_n hC 0 dX6_putRow_152 rfl rfl ?_
          obtain ⟨v37, e37, h⟩ := mt_ob h
          refine go_getR hC mt_flX6_18 e37 dX6_putRow_153 ?_
          refine go_iload hC 5 dX6_putRow_156 rfl ?_
          refine go_lload hC 3 dX6_putRow_158 rfl ?_
          obtain ⟨S38, e38, h⟩ := mt_ob h
          refine go_last hC e38 dX6_putRow_160 ?_
          refine go_aload_n hC 0 dX6_putRow_161 rfl rfl ?_
          obtain ⟨v39, e39, h⟩ := mt_ob h
          refine go_getR hC mt_flX6_21 e39 dX6_putRow_162 ?_
          refine go_iload hC 5 dX6_putRow_165 rfl ?_
          refine go_iload hC 4 dX6_putRow_167 rfl ?_
          obtain ⟨S40, e40, h⟩ := mt_ob h
          refine go_iast hC e40 dX6_putRow_169 ?_
          refine go_aload_n hC 0 dX6_putRow_170 rfl rfl ?_
          refine go_dup hC dX6_putRow_171 rfl ?_
          obtain ⟨v41, e41, h⟩ := mt_ob h
          refine go_getI hC mt_flX6_28 e41 dX6_putRow_172 ?_
          refine go_iconst (v := 1) hC dX6_putRow_175 (by decide) ?_
          refine go_iadd hC dX6_putRow_176 ?_
          obtain ⟨S42, e42, h⟩ := mt_ob h
          refine go_putI hC mt_flX6_28 e42 dX6_putRow_177 ?_
          exact go_vret hC (mt_rev h hE) dX6_putRow_180
        · have h := mt_ip h hc
          refine go_aload_n hC 0 dX6_putRow_52 rfl rfl ?_
          obtain ⟨v43, e43, h⟩ := mt_ob h
          refine go_getR hC mt_flX6_11 e43 dX6_putRow_53 ?_
          refine go_iload hC 5 dX6_putRow_56 rfl ?_
          refine go_iconst (v := 1) hC dX6_putRow_58 (by decide) ?_
          refine go_isub hC dX6_putRow_59 ?_
          obtain ⟨v44, e44, h⟩ := mt_ob h
          refine go_lald hC e44 dX6_putRow_60 ?_
          refine go_lload_n hC 1 dX6_putRow_61 rfl rfl ?_
          refine go_lcmp_le hC (tgt := 136) dX6_putRow_62 dX6_putRow_63 (by decide) (fun hc => ?_) (fun hc => ?_)
          · have h := mt_ip h hc
            refine go_aload_n hC 0 dX6_putRow_136 rfl rfl ?_
            obtain ⟨v45, e45, h⟩ := mt_ob h
            refine go_getR hC mt_flX6_11 e45 dX6_putRow_137 ?_
            refine go_iload hC 5 dX6_putRow_140 rfl ?_
            refine go_lload_n hC 1 dX6_putRow_142 rfl rfl ?_
            obtain ⟨S46, e46, h⟩ := mt_ob h
            refine go_last hC e46 dX6_putRow_143 ?_
            refine go_aload_n hC 0 dX6_putRow_144 rfl rfl ?_
            obtain ⟨v47, e47, h⟩ := mt_ob h
            refine go_getR hC mt_flX6_15 e47 dX6_putRow_145 ?_
            refine go_iload hC 5 dX6_putRow_148 rfl ?_
            refine go_lload_n hC 2 dX6_putRow_150 rfl rfl ?_
            obtain ⟨S48, e48, h⟩ := mt_ob h
            refine go_last hC e48 dX6_putRow_151 ?_
            refine go_aload_n hC 0 dX6_putRow_152 rfl rfl ?_
            obtain ⟨v49, e49, h⟩ := mt_ob h
            refine go_getR hC mt_flX6_18 e49 dX6_putRow_153 ?_
            refine go_iload hC 5 dX6_putRow_156 rfl ?_
            refine go_lload hC 3 dX6_putRow_158 rfl ?_
            obtain ⟨S50, e50, h⟩ := mt_ob h
            refine go_last hC e50 dX6_putRow_160 ?_
            refine go_aload_n hC 0 dX6_putRow_161 rfl rfl ?_
            obtain ⟨v51, e51, h⟩ := mt_ob h
            refine go_getR hC mt_flX6_21 e51 dX6_putRow_162 ?_
            refine go_iload hC 5 dX6_putRow_165 rfl ?_
            refine go_iload hC 4 dX6_putRow_167 rfl ?_
            obtain ⟨S52, e52, h⟩ := mt_ob h
            refine go_iast hC e52 dX6_putRow_169 ?_
            refine go_aload_n hC 0 dX6_putRow_170 rfl rfl ?_
            refine go_dup hC dX6_putRow_171 rfl ?_
            obtain ⟨v53, e53, h⟩ := mt_ob h
            refine go_getI hC mt_flX6_28 e53 dX6_putRow_172 ?_
            refine go_iconst (v := 1) hC dX6_putRow_175 (by decide) ?_
            refine go_iadd hC dX6_putRow_176 ?_
            obtain ⟨S54, e54, h⟩ := mt_ob h
            refine go_putI hC mt_flX6_28 e54 dX6_putRow_177 ?_
            exact go_vret hC (mt_rev h hE) dX6_putRow_180
          · have h := mt_in' h hc
            refine go_aload_n hC 0 dX6_putRow_66 rfl rfl ?_
            obtain ⟨v55, e55, h⟩ := mt_ob h
            refine go_getR hC mt_flX6_11 e55 dX6_putRow_67 ?_
            refine go_iload hC 5 dX6_putRow_70 rfl ?_
            refine go_aload_n hC 0 dX6_putRow_72 rfl rfl ?_
            obtain ⟨v56, e56, h⟩ := mt_ob h
            refine go_getR hC mt_flX6_11 e56 dX6_putRow_73 ?_
            refine go_iload hC 5 dX6_putRow_76 rfl ?_
            refine go_iconst (v := 1) hC dX6_putRow_78 (by decide) ?_
            refine go_isub hC dX6_putRow_79 ?_
            obtain ⟨v57, e57, h⟩ := mt_ob h
            refine go_lald hC e57 dX6_putRow_80 ?_
            obtain ⟨S58, e58, h⟩ := mt_ob h
            refine go_last hC e58 dX6_putRow_81 ?_
            refine go_aload_n hC 0 dX6_putRow_82 rfl rfl ?_
            obtain ⟨v59, e59, h⟩ := mt_ob h
            refine go_getR hC mt_flX6_15 e59 dX6_putRow_83 ?_
            refine go_iload hC 5 dX6_putRow_86 rfl ?_
            refine go_aload_n hC 0 dX6_putRow_88 rfl rfl ?_
            obtain ⟨v60, e60, h⟩ := mt_ob h
            refine go_getR hC mt_flX6_15 e60 dX6_putRow_89 ?_
            refine go_iload hC 5 dX6_putRow_92 rfl ?_
            refine go_iconst (v := 1) hC dX6_putRow_94 (by decide) ?_
            refine go_isub hC dX6_putRow_95 ?_
            obtain ⟨v61, e61, h⟩ := mt_ob h
            refine go_lald hC e61 dX6_putRow_96 ?_
            obtain ⟨S62, e62, h⟩ := mt_ob h
            refine go_last hC e62 dX6_putRow_97 ?_
            refine go_aload_n hC 0 dX6_putRow_98 rfl rfl ?_
            obtain ⟨v63, e63, h⟩ := mt_ob h
            refine go_getR hC mt_flX6_18 e63 dX6_putRow_99 ?_
            refine go_iload hC 5 dX6_putRow_102 rfl ?_
            refine go_aload_n hC 0 dX6_putRow_104 rfl rfl ?_
            obtain ⟨v64, e64, h⟩ := mt_ob h
            refine go_getR hC mt_flX6_18 e64 dX6_putRow_105 ?_
            refine go_iload hC 5 dX6_putRow_108 rfl ?_
            refine go_iconst (v := 1) hC dX6_putRow_110 (by decide) ?_
            refine go_isub hC dX6_putRow_111 ?_
            obtain ⟨v65, e65, h⟩ := mt_ob h
            refine go_lald hC e65 dX6_putRow_112 ?_
            obtain ⟨S66, e66, h⟩ := mt_ob h
            refine go_last hC e66 dX6_putRow_113 ?_
            refine go_aload_n hC 0 dX6_putRow_114 rfl rfl ?_
            obtain ⟨v67, e67, h⟩ := mt_ob h
            refine go_getR hC mt_flX6_21 e67 dX6_putRow_115 ?_
            refine go_iload hC 5 dX6_putRow_118 rfl ?_
            refine go_aload_n hC 0 dX6_putRow_120 rfl rfl ?_
            obtain ⟨v68, e68, h⟩ := mt_ob h
            refine go_getR hC mt_flX6_21 e68 dX6_putRow_121 ?_
            refine go_iload hC 5 dX6_putRow_124 rfl ?_
            refine go_iconst (v := 1) hC dX6_putRow_126 (by decide) ?_
            refine go_isub hC dX6_putRow_127 ?_
            obtain ⟨v69, e69, h⟩ := mt_ob h
            refine go_iald hC e69 dX6_putRow_128 ?_
            obtain ⟨S70, e70, h⟩ := mt_ob h
            refine go_iast hC e70 dX6_putRow_129 ?_
            refine go_iinc hC 5 [1, 2, 3, 4, 5, 0] (v := x8 + (-1)) (lv1 := [(0, mt_rf B x0), (1, .long x1), (3, .long x3), (5, .long x5), (7, .int x7), (8, .int (x8 + (-1)))]) dX6_putRow_130 rfl rfl (by decide) rfl ?_
            refine go_goto hC (tgt := 17) dX6_putRow_133 (by decide) ?_
            exact ih _ _ _ _ _ _ _ h
set_option maxHeartbeats 4000000 in
set_option maxRecDepth 100000 in
theorem ov_X6_putRow_L17 {T : mt_S} {S' : mt_S} : ∀ (n : Nat) (x0 : Nat) (x1 : Int64) (x3 : Int64) (x5 : Int64) (x7 : Int32) (x8 : Int32) (S : mt_S), mt_cp S T → f_X6_putRow_L17 n x0 x1 x3 x5 x7 x8 S = some S' → f_X6_putRow_L17 n x0 x1 x3 x5 x7 x8 (mt_ov S T) = some (mt_ov S' T) ∧ mt_cp S' T := by
  intro n
  induction n with
  | zero =>
    intro x0 x1 x3 x5 x7 x8 S hp h
    cases h
  | succ n ih =>
    intro x0 x1 x3 x5 x7 x8 S hp h
    have h : f_X6_putRow_L17s (f_X6_putRow_L17 n) x0 x1 x3 x5 x7 x8 S = some S' := h
    show f_X6_putRow_L17s (f_X6_putRow_L17 n) x0 x1 x3 x5 x7 x8 (mt_ov S T) = some (mt_ov S' T) ∧ mt_cp S' T
    unfold f_X6_putRow_L17s at h ⊢
    by_cases hc : x8 ≤ 0
    · have h := mt_ip h hc
      refine ov_t hc ?_
      obtain ⟨v3, e3, h⟩ := mt_ob h
      refine ov_b (ov_rR hp e3) ?_
      obtain ⟨S4, e4, h⟩ := mt_ob h
      obtain ⟨o_, hp⟩ := ov_sL hp e4
      refine ov_b o_ ?_
      obtain ⟨v5, e5, h⟩ := mt_ob h
      refine ov_b (ov_rR hp e5) ?_
      obtain ⟨S6, e6, h⟩ := mt_ob h
      obtain ⟨o_, hp⟩ := ov_sL hp e6
      refine ov_b o_ ?_
      obtain ⟨v7, e7, h⟩ := mt_ob h
      refine ov_b (ov_rR hp e7) ?_
      obtain ⟨S8, e8, h⟩ := mt_ob h
      obtain ⟨o_, hp⟩ := ov_sL hp e8
      refine ov_b o_ ?_
      obtain ⟨v9, e9, h⟩ := mt_ob h
      refine ov_b (ov_rR hp e9) ?_
      obtain ⟨S10, e10, h⟩ := mt_ob h
      obtain ⟨o_, hp⟩ := ov_sI hp e10
      refine ov_b o_ ?_
      obtain ⟨v11, e11, h⟩ := mt_ob h
      refine ov_b (ov_rI hp e11) ?_
      obtain ⟨S12, e12, h⟩ := mt_ob h
      obtain ⟨o_, hp⟩ := ov_wI hp e12
      refine ov_b o_ ?_
      exact ov_retv hp h
    · have h := mt_in' h hc
      refine ov_f hc ?_
      obtain ⟨v13, e13, h⟩ := mt_ob h
      refine ov_b (ov_rR hp e13) ?_
      obtain ⟨v14, e14, h⟩ := mt_ob h
      refine ov_b (ov_aL hp e14) ?_
      by_cases hc : x5 < v14
      · have h := mt_ip h hc
        refine ov_t hc ?_
        obtain ⟨v15, e15, h⟩ := mt_ob h
        refine ov_b (ov_rR hp e15) ?_
        obtain ⟨v16, e16, h⟩ := mt_ob h
        refine ov_b (ov_rR hp e16) ?_
        obtain ⟨v17, e17, h⟩ := mt_ob h
        refine ov_b (ov_aL hp e17) ?_
        obtain ⟨S18, e18, h⟩ := mt_ob h
        obtain ⟨o_, hp⟩ := ov_sL hp e18
        refine ov_b o_ ?_
        obtain ⟨v19, e19, h⟩ := mt_ob h
        refine ov_b (ov_rR hp e19) ?_
        obtain ⟨v20, e20, h⟩ := mt_ob h
        refine ov_b (ov_rR hp e20) ?_
        obtain ⟨v21, e21, h⟩ := mt_ob h
        refine ov_b (ov_aL hp e21) ?_
        obtain ⟨S22, e22, h⟩ := mt_ob h
        obtain ⟨o_, hp⟩ := ov_sL hp e22
        refine ov_b o_ ?_
        obtain ⟨v23, e23, h⟩ := mt_ob h
        refine ov_b (ov_rR hp e23) ?_
        obtain ⟨v24, e24, h⟩ := mt_ob h
        refine ov_b (ov_rR hp e24) ?_
        obtain ⟨v25, e25, h⟩ := mt_ob h
        refine ov_b (ov_aL hp e25) ?_
        obtain ⟨S26, e26, h⟩ := mt_ob h
        obtain ⟨o_, hp⟩ := ov_sL hp e26
        refine ov_b o_ ?_
        obtain ⟨v27, e27, h⟩ := mt_ob h
        refine ov_b (ov_rR hp e27) ?_
        obtain ⟨v28, e28, h⟩ := mt_ob h
        refine ov_b (ov_rR hp e28) ?_
        obtain ⟨v29, e29, h⟩ := mt_ob h
        refine ov_b (ov_aI hp e29) ?_
        obtain ⟨S30, e30, h⟩ := mt_ob h
        obtain ⟨o_, hp⟩ := ov_sI hp e30
        refine ov_b o_ ?_
        exact ih _ _ _ _ _ _ _ hp h
      · have h := mt_in' h hc
        refine ov_f hc ?_
        obtain ⟨v31, e31, h⟩ := mt_ob h
        refine ov_b (ov_rR hp e31) ?_
        obtain ⟨v32, e32, h⟩ := mt_ob h
        refine ov_b (ov_aL hp e32) ?_
        by_cases hc : v32 = x5
        · have h := mt_ip h hc
          refine ov_t hc ?_
          obtain ⟨v43, e43, h⟩ := mt_ob h
          refine ov_b (ov_rR hp e43) ?_
          obtain ⟨v44, e44, h⟩ := mt_ob h
          refine ov_b (ov_aL hp e44) ?_
          by_cases hc : v44 ≤ x1
          · have h := mt_ip h hc
            refine ov_t hc ?_
            obtain ⟨v45, e45, h⟩ := mt_ob h
            refine ov_b (ov_rR hp e45) ?_
            obtain ⟨S46, e46, h⟩ := mt_ob h
            obtain ⟨o_, hp⟩ := ov_sL hp e46
            refine ov_b o_ ?_
            obtain ⟨v47, e47, h⟩ := mt_ob h
            refine ov_b (ov_rR hp e47) ?_
            obtain ⟨S48, e48, h⟩ := mt_ob h
            obtain ⟨o_, hp⟩ := ov_sL hp e48
            refine ov_b o_ ?_
            obtain ⟨v49, e49, h⟩ := mt_ob h
            refine ov_b (ov_rR hp e49) ?_
            obtain ⟨S50, e50, h⟩ := mt_ob h
            obtain ⟨o_, hp⟩ := ov_sL hp e50
            refine ov_b o_ ?_
            obtain ⟨v51, e51, h⟩ := mt_ob h
            refine ov_b (ov_rR hp e51) ?_
            obtain ⟨S52, e52, h⟩ := mt_ob h
            obtain ⟨o_, hp⟩ := ov_sI hp e52
            refine ov_b o_ ?_
            obtain ⟨v53, e53, h⟩ := mt_ob h
            refine ov_b (ov_rI hp e53) ?_
            obtain ⟨S54, e54, h⟩ := mt_ob h
            obtain ⟨o_, hp⟩ := ov_wI hp e54
            refine ov_b o_ ?_
            exact ov_retv hp h
          · have h := mt_in' h hc
            refine ov_f hc ?_
            obtain ⟨v55, e55, h⟩ := mt_ob h
            refine ov_b (ov_rR hp e55) ?_
            obtain ⟨v56, e56, h⟩ := mt_ob h
            refine ov_b (ov_rR hp e56) ?_
            obtain ⟨v57, e57, h⟩ := mt_ob h
            refine ov_b (ov_aL hp e57) ?_
            obtain ⟨S58, e58, h⟩ := mt_ob h
            obtain ⟨o_, hp⟩ := ov_sL hp e58
            refine ov_b o_ ?_
            obtain ⟨v59, e59, h⟩ := mt_ob h
            refine ov_b (ov_rR hp e59) ?_
            obtain ⟨v60, e60, h⟩ := mt_ob h
            refine ov_b (ov_rR hp e60) ?_
            obtain ⟨v61, e61, h⟩ := mt_ob h
            refine ov_b (ov_aL hp e61) ?_
            obtain ⟨S62, e62, h⟩ := mt_ob h
            obtain ⟨o_, hp⟩ := ov_sL hp e62
            refine ov_b o_ ?_
            obtain ⟨v63, e63, h⟩ := mt_ob h
            refine ov_b (ov_rR hp e63) ?_
            obtain ⟨v64, e64, h⟩ := mt_ob h
            refine ov_b (ov_rR hp e64) ?_
            obtain ⟨v65, e65, h⟩ := mt_ob h
            refine ov_b (ov_aL hp e65) ?_
            obtain ⟨S66, e66, h⟩ := mt_ob h
            obtain ⟨o_, hp⟩ := ov_sL hp e66
            refine ov_b o_ ?_
            obtain ⟨v67, e67, h⟩ := mt_ob h
            refine ov_b (ov_rR hp e67) ?_
            obtain ⟨v68, e68, h⟩ := mt_ob h
            refine ov_b (ov_rR hp e68) ?_
            obtain ⟨v69, e69, h⟩ := mt_ob h
            refine ov_b (ov_aI hp e69) ?_
            obtain ⟨S70, e70, h⟩ := mt_ob h
            obtain ⟨o_, hp⟩ := ov_sI hp e70
            refine ov_b o_ ?_
            exact ih _ _ _ _ _ _ _ hp h
        · have h := mt_in' h hc
          refine ov_f hc ?_
          obtain ⟨v33, e33, h⟩ := mt_ob h
          refine ov_b (ov_rR hp e33) ?_
          obtain ⟨S34, e34, h⟩ := mt_ob h
          obtain ⟨o_, hp⟩ := ov_sL hp e34
          refine ov_b o_ ?_
          obtain ⟨v35, e35, h⟩ := mt_ob h
          refine ov_b (ov_rR hp e35) ?_
          obtain ⟨S36, e36, h⟩ := mt_ob h
          obtain ⟨o_, hp⟩ := ov_sL hp e36
          refine ov_b o_ ?_
          obtain ⟨v37, e37, h⟩ := mt_ob h
          refine ov_b (ov_rR hp e37) ?_
          obtain ⟨S38, e38, h⟩ := mt_ob h
          obtain ⟨o_, hp⟩ := ov_sL hp e38
          refine ov_b o_ ?_
          obtain ⟨v39, e39, h⟩ := mt_ob h
          refine ov_b (ov_rR hp e39) ?_
          obtain ⟨S40, e40, h⟩ := mt_ob h
          obtain ⟨o_, hp⟩ := ov_sI hp e40
          refine ov_b o_ ?_
          obtain ⟨v41, e41, h⟩ := mt_ob h
          refine ov_b (ov_rI hp e41) ?_
          obtain ⟨S42, e42, h⟩ := mt_ob h
          obtain ⟨o_, hp⟩ := ov_wI hp e42
          refine ov_b o_ ?_
          exact ov_retv hp h
def f_X6_putRow (x0 : Nat) (x1 : Int64) (x3 : Int64) (x5 : Int64) (x7 : Int32) (S : mt_S) : Option (mt_S) :=
  if mt_isK S x0 6 = true then
   Option.bind (mt_rI S x0 6 5) fun v1 =>
   if v1 < 160 then
    Option.bind (mt_rI S x0 6 5) fun v2 =>
    f_X6_putRow_L17 1000 x0 x1 x3 x5 x7 v2 S
   else
    some S
  else none
theorem k_X6_putRow {x0 : Nat} {x1 : Int64} {x3 : Int64} {x5 : Int64} {x7 : Int32} {S : mt_S} {S' : mt_S} (h : f_X6_putRow x0 x1 x3 x5 x7 S = some S') : mt_isK S x0 6 = true := by
  unfold f_X6_putRow at h
  exact (mt_gd h).1
set_option maxHeartbeats 4000000 in
set_option maxRecDepth 100000 in
theorem m_X6_putRow {B : mt_B}  {x0 : Nat} {x1 : Int64} {x3 : Int64} {x5 : Int64} {x7 : Int32} {S : mt_S} {S' : mt_S} (h : f_X6_putRow x0 x1 x3 x5 x7 S = some S') : mt_M B yX6_putRow cX6_putRow 9 none 1 [mt_rf B x0, .long x1, .long x3, .long x5, .int x7] S none S' := by
  unfold f_X6_putRow at h
  refine mt_M.of (by decide) (Nat.le_of_ble_eq_true rfl) (fun E hC hE => ?_)
  obtain ⟨hk0, h⟩ := mt_gd h
  refine go_aload_n hC 0 dX6_putRow_0 rfl rfl ?_
  obtain ⟨v1, e1, h⟩ := mt_ob h
  refine go_getI hC mt_flX6_28 e1 dX6_putRow_1 ?_
  refine go_sipush (v := 160) hC dX6_putRow_4 (by decide) ?_
  refine go_icmp_lt hC (tgt := 11) dX6_putRow_7 (by decide) (fun hc => ?_) (fun hc => ?_)
  · have h := mt_ip h hc
    refine go_aload_n hC 0 dX6_putRow_11 rfl rfl ?_
    obtain ⟨v2, e2, h⟩ := mt_ob h
    refine go_getI hC mt_flX6_28 e2 dX6_putRow_12 ?_
    refine go_istore hC [1, 2, 3, 4, 5, 0] (lv1 := [(0, mt_rf B x0), (1, .long x1), (3, .long x3), (5, .long x5), (7, .int x7), (8, .int v2)]) dX6_putRow_15 (by decide) rfl ?_
    exact m_X6_putRow_L17 hC hE 1000 _ _ _ _ _ _ _ h
  · have h := mt_in' h hc
    exact go_vret hC (mt_rev h hE) dX6_putRow_10
set_option maxHeartbeats 4000000 in
set_option maxRecDepth 100000 in
theorem ov_X6_putRow {T : mt_S}  {x0 : Nat} {x1 : Int64} {x3 : Int64} {x5 : Int64} {x7 : Int32} {S : mt_S} {S' : mt_S} (hp : mt_cp S T) (h : f_X6_putRow x0 x1 x3 x5 x7 S = some S') : f_X6_putRow x0 x1 x3 x5 x7 (mt_ov S T) = some (mt_ov S' T) ∧ mt_cp S' T := by
  unfold f_X6_putRow at h ⊢
  obtain ⟨hg, h⟩ := mt_gd h
  refine ov_t (ov_K hp hg) ?_
  obtain ⟨v1, e1, h⟩ := mt_ob h
  refine ov_b (ov_rI hp e1) ?_
  by_cases hc : v1 < 160
  · have h := mt_ip h hc
    refine ov_t hc ?_
    obtain ⟨v2, e2, h⟩ := mt_ob h
    refine ov_b (ov_rI hp e2) ?_
    exact ov_X6_putRow_L17 1000 _ _ _ _ _ _ _ hp h
  · have h := mt_in' h hc
    refine ov_f hc ?_
    exact ov_retv hp h
def f_X6_putNext (x0 : Nat) (x1 : Int64) (x3 : Int64) (x5 : Int64) (x7 : Int32) (S : mt_S) : Option (mt_S) :=
  if mt_isK S x0 6 = true then
   if x3 < 1 then
    some S
   else
    if (3 * x3) = 0 then none else
    if x1 ≤ ((1000000000000 + x5) / (3 * x3)) then
     Option.bind (f_X6_putRow x0 x1 x3 (((3 * x1) * x3) - x5) x7 S) fun S1 =>
     some S1
    else
     some S
  else none
theorem k_X6_putNext {x0 : Nat} {x1 : Int64} {x3 : Int64} {x5 : Int64} {x7 : Int32} {S : mt_S} {S' : mt_S} (h : f_X6_putNext x0 x1 x3 x5 x7 S = some S') : mt_isK S x0 6 = true := by
  unfold f_X6_putNext at h
  exact (mt_gd h).1
set_option maxHeartbeats 4000000 in
set_option maxRecDepth 100000 in
theorem m_X6_putNext {B : mt_B}  {x0 : Nat} {x1 : Int64} {x3 : Int64} {x5 : Int64} {x7 : Int32} {S : mt_S} {S' : mt_S} (h : f_X6_putNext x0 x1 x3 x5 x7 S = some S') : mt_M B yX6_putNext cX6_putNext 8 none 2 [mt_rf B x0, .long x1, .long x3, .long x5, .int x7] S none S' := by
  unfold f_X6_putNext at h
  refine mt_M.of (by decide) (Nat.le_of_ble_eq_true rfl) (fun E hC hE => ?_)
  obtain ⟨hk0, h⟩ := mt_gd h
  refine go_lload_n hC 2 dX6_putNext_0 rfl rfl ?_
  refine go_lconst (v := 1) hC dX6_putNext_1 (by decide) ?_
  refine go_lcmp_lt hC (tgt := 23) dX6_putNext_2 dX6_putNext_3 (by decide) (fun hc => ?_) (fun hc => ?_)
  · have h := mt_ip h hc
    exact go_vret hC (mt_rev h hE) dX6_putNext_23
  · have h := mt_in' h hc
    refine go_lload_n hC 1 dX6_putNext_6 rfl rfl ?_
    refine go_ldc2 hC dX6_putNext_7 mt_kX6_66 ?_
    refine go_lload hC 3 dX6_putNext_10 rfl ?_
    refine go_ladd hC dX6_putNext_12 ?_
    refine go_ldc2 hC dX6_putNext_13 mt_kX6_68 ?_
    refine go_lload_n hC 2 dX6_putNext_16 rfl rfl ?_
    refine go_lmul hC dX6_putNext_17 ?_
    have g2 : ¬ (3 * x3) = 0 := fun q => by rw [if_pos q] at h; cases h
    have h := mt_in' h g2
    refine go_ldiv hC dX6_putNext_18 g2 ?_
    refine go_lcmp_le hC (tgt := 24) dX6_putNext_19 dX6_putNext_20 (by decide) (fun hc => ?_) (fun hc => ?_)
    · have h := mt_ip h hc
      refine go_aload_n hC 0 dX6_putNext_24 rfl rfl ?_
      refine go_lload_n hC 1 dX6_putNext_25 rfl rfl ?_
      refine go_lload_n hC 2 dX6_putNext_26 rfl rfl ?_
      refine go_ldc2 hC dX6_putNext_27 mt_kX6_68 ?_
      refine go_lload_n hC 1 dX6_putNext_30 rfl rfl ?_
      refine go_lmul hC dX6_putNext_31 ?_
      refine go_lload_n hC 2 dX6_putNext_32 rfl rfl ?_
      refine go_lmul hC dX6_putNext_33 ?_
      refine go_lload hC 3 dX6_putNext_34 rfl ?_
      refine go_lsub hC dX6_putNext_36 ?_
      refine go_iload hC 4 dX6_putNext_37 rfl ?_
      obtain ⟨S1, e1, h⟩ := mt_ob h
      refine go_callVv hC [.long x1, .long x3, .long (((3 * x1) * x3) - x5), .int x7] [] (m_X6_putRow e1) mt_cvX6_56 (k_X6_putRow e1) dX6_putNext_39 rfl rfl (by decide) (Nat.le_of_ble_eq_true rfl) ⟨Nat.le_refl _, Nat.le_refl _⟩ ?_
      exact go_vret hC (mt_rev h hE) dX6_putNext_42
    · have h := mt_in' h hc
      exact go_vret hC (mt_rev h hE) dX6_putNext_23
set_option maxHeartbeats 4000000 in
set_option maxRecDepth 100000 in
theorem ov_X6_putNext {T : mt_S}  {x0 : Nat} {x1 : Int64} {x3 : Int64} {x5 : Int64} {x7 : Int32} {S : mt_S} {S' : mt_S} (hp : mt_cp S T) (h : f_X6_putNext x0 x1 x3 x5 x7 S = some S') : f_X6_putNext x0 x1 x3 x5 x7 (mt_ov S T) = some (mt_ov S' T) ∧ mt_cp S' T := by
  unfold f_X6_putNext at h ⊢
  obtain ⟨hg, h⟩ := mt_gd h
  refine ov_t (ov_K hp hg) ?_
  by_cases hc : x3 < 1
  · have h := mt_ip h hc
    refine ov_t hc ?_
    exact ov_retv hp h
  · have h := mt_in' h hc
    refine ov_f hc ?_
    have hz : ¬ (3 * x3) = 0 := fun q => by rw [if_pos q] at h; cases h
    have h := mt_in' h hz
    refine ov_f hz ?_
    by_cases hc : x1 ≤ ((1000000000000 + x5) / (3 * x3))
    · have h := mt_ip h hc
      refine ov_t hc ?_
      obtain ⟨S1, e1, h⟩ := mt_ob h
      obtain ⟨o_, hp⟩ := ov_X6_putRow hp e1
      refine ov_b o_ ?_
      exact ov_retv hp h
    · have h := mt_in' h hc
      refine ov_f hc ?_
      exact ov_retv hp h
def f_X6_fillNumbers_L23s (rc : Nat → Int32 → mt_S → Option (mt_S)) (x0 : Nat) (x1 : Int32) (S : mt_S) : Option (mt_S) :=
  Option.bind (mt_rI S x0 6 5) fun v6 =>
  if v6 ≤ x1 then
   some S
  else
   Option.bind (mt_rI S x0 6 6) fun v7 =>
   if 160 ≤ v7 then
    rc x0 (x1 + 1) S
   else
    Option.bind (mt_rR S x0 6 2) fun v8 =>
    Option.bind (mt_aL S v8 x1) fun v9 =>
    Option.bind (mt_rR S x0 6 4) fun v10 =>
    Option.bind (mt_rI S x0 6 6) fun v11 =>
    Option.bind (mt_aL S v10 (v11 - 1)) fun v12 =>
    if v9 = v12 then
     rc x0 (x1 + 1) S
    else
     Option.bind (mt_rR S x0 6 4) fun v13 =>
     Option.bind (mt_rI S x0 6 6) fun v14 =>
     Option.bind (mt_rR S x0 6 2) fun v15 =>
     Option.bind (mt_aL S v15 x1) fun v16 =>
     Option.bind (mt_sL S v13 v14 v16) fun S17 =>
     Option.bind (mt_rI S17 x0 6 6) fun v18 =>
     Option.bind (mt_wI S17 x0 6 6 (v18 + 1)) fun S19 =>
     rc x0 (x1 + 1) S19
def f_X6_fillNumbers_L23 : Nat → Nat → Int32 → mt_S → Option (mt_S)
  | 0 => fun _ _ _ => none
  | n + 1 => f_X6_fillNumbers_L23s (f_X6_fillNumbers_L23 n)
set_option maxHeartbeats 4000000 in
set_option maxRecDepth 100000 in
theorem m_X6_fillNumbers_L23 {B : mt_B} {E : mt_E} {S' : mt_S} (hC : mt_Cx B E cX6_fillNumbers RX6 none 2 1 0 0) (hE : mt_End B E (0, 0) none S') : ∀ (n : Nat) (x0 : Nat) (x1 : Int32) (S : mt_S), f_X6_fillNumbers_L23 n x0 x1 S = some S' → mt_Go B E (0, 0) S 23 [(0, mt_rf B x0), (1, .int x1)] [] := by
  intro n
  induction n with
  | zero =>
    intro x0 x1 S h
    cases h
  | succ n ih =>
    intro x0 x1 S h
    have h : f_X6_fillNumbers_L23s (f_X6_fillNumbers_L23 n) x0 x1 S = some S' := h
    unfold f_X6_fillNumbers_L23s at h
    refine go_iload_n hC 1 dX6_fillNumbers_23 rfl rfl ?_
    refine go_aload_n hC 0 dX6_fillNumbers_24 rfl rfl ?_
    obtain ⟨v6, e6, h⟩ := mt_ob h
    refine go_getI hC mt_flX6_28 e6 dX6_fillNumbers_25 ?_
    refine go_icmp_ge hC (tgt := 93) dX6_fillNumbers_28 (by decide) (fun hc => ?_) (fun hc => ?_)
    · have h := mt_ip h hc
      exact go_vret hC (mt_rev h hE) dX6_fillNumbers_93
    · have h := mt_in' h hc
      refine go_aload_n hC 0 dX6_fillNumbers_31 rfl rfl ?_
      obtain ⟨v7, e7, h⟩ := mt_ob h
      refine go_getI hC mt_flX6_32 e7 dX6_fillNumbers_32 ?_
      refine go_sipush (v := 160) hC dX6_fillNumbers_35 (by decide) ?_
      refine go_icmp_ge hC (tgt := 87) dX6_fillNumbers_38 (by decide) (fun hc => ?_) (fun hc => ?_)
      · have h := mt_ip h hc
        refine go_iinc hC 1 [1, 0] (v := x1 + 1) (lv1 := [(0, mt_rf B x0), (1, .int (x1 + 1))]) dX6_fillNumbers_87 rfl rfl (by decide) rfl ?_
        refine go_goto hC (tgt := 23) dX6_fillNumbers_90 (by decide) ?_
        exact ih _ _ _ h
      · have h := mt_in' h hc
        refine go_aload_n hC 0 dX6_fillNumbers_41 rfl rfl ?_
        obtain ⟨v8, e8, h⟩ := mt_ob h
        refine go_getR hC mt_flX6_18 e8 dX6_fillNumbers_42 ?_
        refine go_iload_n hC 1 dX6_fillNumbers_45 rfl rfl ?_
        obtain ⟨v9, e9, h⟩ := mt_ob h
        refine go_lald hC e9 dX6_fillNumbers_46 ?_
        refine go_aload_n hC 0 dX6_fillNumbers_47 rfl rfl ?_
        obtain ⟨v10, e10, h⟩ := mt_ob h
        refine go_getR hC mt_flX6_25 e10 dX6_fillNumbers_48 ?_
        refine go_aload_n hC 0 dX6_fillNumbers_51 rfl rfl ?_
        obtain ⟨v11, e11, h⟩ := mt_ob h
        refine go_getI hC mt_flX6_32 e11 dX6_fillNumbers_52 ?_
        refine go_iconst (v := 1) hC dX6_fillNumbers_55 (by decide) ?_
        refine go_isub hC dX6_fillNumbers_56 ?_
        obtain ⟨v12, e12, h⟩ := mt_ob h
        refine go_lald hC e12 dX6_fillNumbers_57 ?_
        refine go_lcmp_eq hC (tgt := 87) dX6_fillNumbers_58 dX6_fillNumbers_59 (by decide) (fun hc => ?_) (fun hc => ?_)
        · have h := mt_ip h hc
          refine go_iinc hC 1 [1, 0] (v := x1 + 1) (lv1 := [(0, mt_rf B x0), (1, .int (x1 + 1))]) dX6_fillNumbers_87 rfl rfl (by decide) rfl ?_
          refine go_goto hC (tgt := 23) dX6_fillNumbers_90 (by decide) ?_
          exact ih _ _ _ h
        · have h := mt_in' h hc
          refine go_aload_n hC 0 dX6_fillNumbers_62 rfl rfl ?_
          obtain ⟨v13, e13, h⟩ := mt_ob h
          refine go_getR hC mt_flX6_25 e13 dX6_fillNumbers_63 ?_
          refine go_aload_n hC 0 dX6_fillNumbers_66 rfl rfl ?_
          obtain ⟨v14, e14, h⟩ := mt_ob h
          refine go_getI hC mt_flX6_32 e14 dX6_fillNumbers_67 ?_
          refine go_aload_n hC 0 dX6_fillNumbers_70 rfl rfl ?_
          obtain ⟨v15, e15, h⟩ := mt_ob h
          refine go_getR hC mt_flX6_18 e15 dX6_fillNumbers_71 ?_
          refine go_iload_n hC 1 dX6_fillNumbers_74 rfl rfl ?_
          obtain ⟨v16, e16, h⟩ := mt_ob h
          refine go_lald hC e16 dX6_fillNumbers_75 ?_
          obtain ⟨S17, e17, h⟩ := mt_ob h
          refine go_last hC e17 dX6_fillNumbers_76 ?_
          refine go_aload_n hC 0 dX6_fillNumbers_77 rfl rfl ?_
          refine go_dup hC dX6_fillNumbers_78 rfl ?_
          obtain ⟨v18, e18, h⟩ := mt_ob h
          refine go_getI hC mt_flX6_32 e18 dX6_fillNumbers_79 ?_
          refine go_iconst (v := 1) hC dX6_fillNumbers_82 (by decide) ?_
          refine go_iadd hC dX6_fillNumbers_83 ?_
          obtain ⟨S19, e19, h⟩ := mt_ob h
          refine go_putI hC mt_flX6_32 e19 dX6_fillNumbers_84 ?_
          refine go_iinc hC 1 [1, 0] (v := x1 + 1) (lv1 := [(0, mt_rf B x0), (1, .int (x1 + 1))]) dX6_fillNumbers_87 rfl rfl (by decide) rfl ?_
          refine go_goto hC (tgt := 23) dX6_fillNumbers_90 (by decide) ?_
          exact ih _ _ _ h
set_option maxHeartbeats 4000000 in
set_option maxRecDepth 100000 in
theorem ov_X6_fillNumbers_L23 {T : mt_S} {S' : mt_S} : ∀ (n : Nat) (x0 : Nat) (x1 : Int32) (S : mt_S), mt_cp S T → f_X6_fillNumbers_L23 n x0 x1 S = some S' → f_X6_fillNumbers_L23 n x0 x1 (mt_ov S T) = some (mt_ov S' T) ∧ mt_cp S' T := by
  intro n
  induction n with
  | zero =>
    intro x0 x1 S hp h
    cases h
  | succ n ih =>
    intro x0 x1 S hp h
    have h : f_X6_fillNumbers_L23s (f_X6_fillNumbers_L23 n) x0 x1 S = some S' := h
    show f_X6_fillNumbers_L23s (f_X6_fillNumbers_L23 n) x0 x1 (mt_ov S T) = some (mt_ov S' T) ∧ mt_cp S' T
    unfold f_X6_fillNumbers_L23s at h ⊢
    obtain ⟨v6, e6, h⟩ := mt_ob h
    refine ov_b (ov_rI hp e6) ?_
    by_cases hc : v6 ≤ x1
    · have h := mt_ip h hc
      refine ov_t hc ?_
      exact ov_retv hp h
    · have h := mt_in' h hc
      refine ov_f hc ?_
      obtain ⟨v7, e7, h⟩ := mt_ob h
      refine ov_b (ov_rI hp e7) ?_
      by_cases hc : 160 ≤ v7
      · have h := mt_ip h hc
        refine ov_t hc ?_
        exact ih _ _ _ hp h
      · have h := mt_in' h hc
        refine ov_f hc ?_
        obtain ⟨v8, e8, h⟩ := mt_ob h
        refine ov_b (ov_rR hp e8) ?_
        obtain ⟨v9, e9, h⟩ := mt_ob h
        refine ov_b (ov_aL hp e9) ?_
        obtain ⟨v10, e10, h⟩ := mt_ob h
        refine ov_b (ov_rR hp e10) ?_
        obtain ⟨v11, e11, h⟩ := mt_ob h
        refine ov_b (ov_rI hp e11) ?_
        obtain ⟨v12, e12, h⟩ := mt_ob h
        refine ov_b (ov_aL hp e12) ?_
        by_cases hc : v9 = v12
        · have h := mt_ip h hc
          refine ov_t hc ?_
          exact ih _ _ _ hp h
        · have h := mt_in' h hc
          refine ov_f hc ?_
          obtain ⟨v13, e13, h⟩ := mt_ob h
          refine ov_b (ov_rR hp e13) ?_
          obtain ⟨v14, e14, h⟩ := mt_ob h
          refine ov_b (ov_rI hp e14) ?_
          obtain ⟨v15, e15, h⟩ := mt_ob h
          refine ov_b (ov_rR hp e15) ?_
          obtain ⟨v16, e16, h⟩ := mt_ob h
          refine ov_b (ov_aL hp e16) ?_
          obtain ⟨S17, e17, h⟩ := mt_ob h
          obtain ⟨o_, hp⟩ := ov_sL hp e17
          refine ov_b o_ ?_
          obtain ⟨v18, e18, h⟩ := mt_ob h
          refine ov_b (ov_rI hp e18) ?_
          obtain ⟨S19, e19, h⟩ := mt_ob h
          obtain ⟨o_, hp⟩ := ov_wI hp e19
          refine ov_b o_ ?_
          exact ih _ _ _ hp h
def f_X6_fillNumbers (x0 : Nat) (S : mt_S) : Option (mt_S) :=
  if mt_isK S x0 6 = true then
   Option.bind (mt_rR S x0 6 4) fun v1 =>
   Option.bind (mt_sL S v1 0 1) fun S2 =>
   Option.bind (mt_rR S2 x0 6 4) fun v3 =>
   Option.bind (mt_sL S2 v3 1 2) fun S4 =>
   Option.bind (mt_wI S4 x0 6 6 2) fun S5 =>
   f_X6_fillNumbers_L23 1000 x0 0 S5
  else none
theorem k_X6_fillNumbers {x0 : Nat} {S : mt_S} {S' : mt_S} (h : f_X6_fillNumbers x0 S = some S') : mt_isK S x0 6 = true := by
  unfold f_X6_fillNumbers at h
  exact (mt_gd h).1
set_option maxHeartbeats 4000000 in
set_option maxRecDepth 100000 in
theorem m_X6_fillNumbers {B : mt_B}  {x0 : Nat} {S : mt_S} {S' : mt_S} (h : f_X6_fillNumbers x0 S = some S') : mt_M B yX6_fillNumbers cX6_fillNumbers 2 none 1 [mt_rf B x0] S none S' := by
  unfold f_X6_fillNumbers at h
  refine mt_M.of (by decide) (Nat.le_of_ble_eq_true rfl) (fun E hC hE => ?_)
  obtain ⟨hk0, h⟩ := mt_gd h
  refine go_aload_n hC 0 dX6_fillNumbers_0 rfl rfl ?_
  obtain ⟨v1, e1, h⟩ := mt_ob h
  refine go_getR hC mt_flX6_25 e1 dX6_fillNumbers_1 ?_
  refine go_iconst (v := 0) hC dX6_fillNumbers_4 (by decide) ?_
  refine go_lconst (v := 1) hC dX6_fillNumbers_5 (by decide) ?_
  obtain ⟨S2, e2, h⟩ := mt_ob h
  refine go_last hC e2 dX6_fillNumbers_6 ?_
  refine go_aload_n hC 0 dX6_fillNumbers_7 rfl rfl ?_
  obtain ⟨v3, e3, h⟩ := mt_ob h
  refine go_getR hC mt_flX6_25 e3 dX6_fillNumbers_8 ?_
  refine go_iconst (v := 1) hC dX6_fillNumbers_11 (by decide) ?_
  refine go_ldc2 hC dX6_fillNumbers_12 mt_kX6_52 ?_
  obtain ⟨S4, e4, h⟩ := mt_ob h
  refine go_last hC e4 dX6_fillNumbers_15 ?_
  refine go_aload_n hC 0 dX6_fillNumbers_16 rfl rfl ?_
  refine go_iconst (v := 2) hC dX6_fillNumbers_17 (by decide) ?_
  obtain ⟨S5, e5, h⟩ := mt_ob h
  refine go_putI hC mt_flX6_32 e5 dX6_fillNumbers_18 ?_
  refine go_iconst (v := 0) hC dX6_fillNumbers_21 (by decide) ?_
  refine go_istore_n hC [1, 0] (lv1 := [(0, mt_rf B x0), (1, .int 0)]) dX6_fillNumbers_22 rfl (by decide) rfl ?_
  exact m_X6_fillNumbers_L23 hC hE 1000 _ _ _ h
set_option maxHeartbeats 4000000 in
set_option maxRecDepth 100000 in
theorem ov_X6_fillNumbers {T : mt_S}  {x0 : Nat} {S : mt_S} {S' : mt_S} (hp : mt_cp S T) (h : f_X6_fillNumbers x0 S = some S') : f_X6_fillNumbers x0 (mt_ov S T) = some (mt_ov S' T) ∧ mt_cp S' T := by
  unfold f_X6_fillNumbers at h ⊢
  obtain ⟨hg, h⟩ := mt_gd h
  refine ov_t (ov_K hp hg) ?_
  obtain ⟨v1, e1, h⟩ := mt_ob h
  refine ov_b (ov_rR hp e1) ?_
  obtain ⟨S2, e2, h⟩ := mt_ob h
  obtain ⟨o_, hp⟩ := ov_sL hp e2
  refine ov_b o_ ?_
  obtain ⟨v3, e3, h⟩ := mt_ob h
  refine ov_b (ov_rR hp e3) ?_
  obtain ⟨S4, e4, h⟩ := mt_ob h
  obtain ⟨o_, hp⟩ := ov_sL hp e4
  refine ov_b o_ ?_
  obtain ⟨S5, e5, h⟩ := mt_ob h
  obtain ⟨o_, hp⟩ := ov_wI hp e5
  refine ov_b o_ ?_
  exact ov_X6_fillNumbers_L23 1000 _ _ _ hp h
def f_X6_fill_L22s (rc : Nat → Int32 → mt_S → Option (mt_S)) (x0 : Nat) (x1 : Int32) (S : mt_S) : Option (mt_S) :=
  Option.bind (mt_rI S x0 6 5) fun v3 =>
  if v3 ≤ x1 then
   Option.bind (f_X6_fillNumbers x0 S) fun S4 =>
   some S4
  else
  if 160 ≤ x1 then
   Option.bind (f_X6_fillNumbers x0 S) fun S5 =>
   some S5
  else
   Option.bind (mt_rR S x0 6 0) fun v6 =>
   Option.bind (mt_aL S v6 x1) fun v7 =>
   Option.bind (mt_rR S x0 6 1) fun v8 =>
   Option.bind (mt_aL S v8 x1) fun v9 =>
   Option.bind (mt_rR S x0 6 2) fun v10 =>
   Option.bind (mt_aL S v10 x1) fun v11 =>
   Option.bind (mt_rR S x0 6 3) fun v12 =>
   Option.bind (mt_aI S v12 13 x1) fun v13 =>
   Option.bind (f_X6_putNext x0 v7 v11 v9 (v13 + 1) S) fun S14 =>
   Option.bind (f_X6_putNext x0 v9 v11 v7 (v13 + 1) S14) fun S15 =>
   rc x0 (x1 + 1) S15
def f_X6_fill_L22 : Nat → Nat → Int32 → mt_S → Option (mt_S)
  | 0 => fun _ _ _ => none
  | n + 1 => f_X6_fill_L22s (f_X6_fill_L22 n)
set_option maxHeartbeats 4000000 in
set_option maxRecDepth 100000 in
theorem m_X6_fill_L22 {B : mt_B} {E : mt_E} {S' : mt_S} (hC : mt_Cx B E cX6_fill RX6 none 9 3 0 0) (hE : mt_End B E (0, 0) none S') : ∀ (n : Nat) (x0 : Nat) (x1 : Int32) (S : mt_S), f_X6_fill_L22 n x0 x1 S = some S' → mt_Go B E (0, 0) S 22 [(0, mt_rf B x0), (1, .int x1)] [] := by
  intro n
  induction n with
  | zero =>
    intro x0 x1 S h
    cases h
  | succ n ih =>
    intro x0 x1 S h
    have h : f_X6_fill_L22s (f_X6_fill_L22 n) x0 x1 S = some S' := h
    unfold f_X6_fill_L22s at h
    refine go_iload_n hC 1 dX6_fill_22 rfl rfl ?_
    refine go_aload_n hC 0 dX6_fill_23 rfl rfl ?_
    obtain ⟨v3, e3, h⟩ := mt_ob h
    refine go_getI hC mt_flX6_28 e3 dX6_fill_24 ?_
    refine go_icmp_ge hC (tgt := 98) dX6_fill_27 (by decide) (fun hc => ?_) (fun hc => ?_)
    · have h := mt_ip h hc
      refine go_aload_n hC 0 dX6_fill_98 rfl rfl ?_
      obtain ⟨S4, e4, h⟩ := mt_ob h
      refine go_callVv hC [] [] (m_X6_fillNumbers e4) mt_cvX6_63 (k_X6_fillNumbers e4) dX6_fill_99 rfl rfl (by decide) (Nat.le_of_ble_eq_true rfl) ⟨Nat.le_refl _, Nat.le_refl _⟩ ?_
      exact go_vret hC (mt_rev h hE) dX6_fill_102
    · have h := mt_in' h hc
      refine go_iload_n hC 1 dX6_fill_30 rfl rfl ?_
      refine go_sipush (v := 160) hC dX6_fill_31 (by decide) ?_
      refine go_icmp_ge hC (tgt := 98) dX6_fill_34 (by decide) (fun hc => ?_) (fun hc => ?_)
      · have h := mt_ip h hc
        refine go_aload_n hC 0 dX6_fill_98 rfl rfl ?_
        obtain ⟨S5, e5, h⟩ := mt_ob h
        refine go_callVv hC [] [] (m_X6_fillNumbers e5) mt_cvX6_63 (k_X6_fillNumbers e5) dX6_fill_99 rfl rfl (by decide) (Nat.le_of_ble_eq_true rfl) ⟨Nat.le_refl _, Nat.le_refl _⟩ ?_
        exact go_vret hC (mt_rev h hE) dX6_fill_102
      · have h := mt_in' h hc
        refine go_aload_n hC 0 dX6_fill_37 rfl rfl ?_
        obtain ⟨v6, e6, h⟩ := mt_ob h
        refine go_getR hC mt_flX6_11 e6 dX6_fill_38 ?_
        refine go_iload_n hC 1 dX6_fill_41 rfl rfl ?_
        obtain ⟨v7, e7, h⟩ := mt_ob h
        refine go_lald hC e7 dX6_fill_42 ?_
        refine go_lstore_n hC [1, 2, 0] (lv1 := [(0, mt_rf B x0), (1, .int x1), (2, .long v7)]) dX6_fill_43 rfl (by decide) rfl ?_
        refine go_aload_n hC 0 dX6_fill_44 rfl rfl ?_
        obtain ⟨v8, e8, h⟩ := mt_ob h
        refine go_getR hC mt_flX6_15 e8 dX6_fill_45 ?_
        refine go_iload_n hC 1 dX6_fill_48 rfl rfl ?_
        obtain ⟨v9, e9, h⟩ := mt_ob h
        refine go_lald hC e9 dX6_fill_49 ?_
        refine go_lstore hC [1, 2, 3, 0] (lv1 := [(0, mt_rf B x0), (1, .int x1), (2, .long v7), (4, .long v9)]) dX6_fill_50 (by decide) rfl ?_
        refine go_aload_n hC 0 dX6_fill_52 rfl rfl ?_
        obtain ⟨v10, e10, h⟩ := mt_ob h
        refine go_getR hC mt_flX6_18 e10 dX6_fill_53 ?_
        refine go_iload_n hC 1 dX6_fill_56 rfl rfl ?_
        obtain ⟨v11, e11, h⟩ := mt_ob h
        refine go_lald hC e11 dX6_fill_57 ?_
        refine go_lstore hC [1, 2, 3, 4, 0] (lv1 := [(0, mt_rf B x0), (1, .int x1), (2, .long v7), (4, .long v9), (6, .long v11)]) dX6_fill_58 (by decide) rfl ?_
        refine go_aload_n hC 0 dX6_fill_60 rfl rfl ?_
        obtain ⟨v12, e12, h⟩ := mt_ob h
        refine go_getR hC mt_flX6_21 e12 dX6_fill_61 ?_
        refine go_iload_n hC 1 dX6_fill_64 rfl rfl ?_
        obtain ⟨v13, e13, h⟩ := mt_ob h
        refine go_iald hC e13 dX6_fill_65 ?_
        refine go_iconst (v := 1) hC dX6_fill_66 (by decide) ?_
        refine go_iadd hC dX6_fill_67 ?_
        refine go_istore hC [1, 2, 3, 4, 5, 0] (lv1 := [(0, mt_rf B x0), (1, .int x1), (2, .long v7), (4, .long v9), (6, .long v11), (8, .int (v13 + 1))]) dX6_fill_68 (by decide) rfl ?_
        refine go_aload_n hC 0 dX6_fill_70 rfl rfl ?_
        refine go_lload_n hC 2 dX6_fill_71 rfl rfl ?_
        refine go_lload hC 4 dX6_fill_72 rfl ?_
        refine go_lload hC 3 dX6_fill_74 rfl ?_
        refine go_iload hC 5 dX6_fill_76 rfl ?_
        obtain ⟨S14, e14, h⟩ := mt_ob h
        refine go_callVv hC [.long v7, .long v11, .long v9, .int (v13 + 1)] [] (m_X6_putNext e14) mt_cvX6_60 (k_X6_putNext e14) dX6_fill_78 rfl rfl (by decide) (Nat.le_of_ble_eq_true rfl) ⟨Nat.le_refl _, Nat.le_refl _⟩ ?_
        refine go_aload_n hC 0 dX6_fill_81 rfl rfl ?_
        refine go_lload hC 3 dX6_fill_82 rfl ?_
        refine go_lload hC 4 dX6_fill_84 rfl ?_
        refine go_lload_n hC 2 dX6_fill_86 rfl rfl ?_
        refine go_iload hC 5 dX6_fill_87 rfl ?_
        obtain ⟨S15, e15, h⟩ := mt_ob h
        refine go_callVv hC [.long v9, .long v11, .long v7, .int (v13 + 1)] [] (m_X6_putNext e15) mt_cvX6_60 (k_X6_putNext e15) dX6_fill_89 rfl rfl (by decide) (Nat.le_of_ble_eq_true rfl) ⟨Nat.le_refl _, Nat.le_refl _⟩ ?_
        refine go_iinc hC 1 [1, 0, 2, 3, 4, 5] (v := x1 + 1) (lv1 := [(0, mt_rf B x0), (1, .int (x1 + 1)), (2, .long v7), (4, .long v9), (6, .long v11), (8, .int (v13 + 1))]) dX6_fill_92 rfl rfl (by decide) rfl ?_
        refine go_goto hC (tgt := 22) dX6_fill_95 (by decide) ?_
        refine go_sub [0, 1] (lv1 := [(0, mt_rf B x0), (1, .int (x1 + 1))]) rfl ?_
        exact ih _ _ _ h
set_option maxHeartbeats 4000000 in
set_option maxRecDepth 100000 in
theorem ov_X6_fill_L22 {T : mt_S} {S' : mt_S} : ∀ (n : Nat) (x0 : Nat) (x1 : Int32) (S : mt_S), mt_cp S T → f_X6_fill_L22 n x0 x1 S = some S' → f_X6_fill_L22 n x0 x1 (mt_ov S T) = some (mt_ov S' T) ∧ mt_cp S' T := by
  intro n
  induction n with
  | zero =>
    intro x0 x1 S hp h
    cases h
  | succ n ih =>
    intro x0 x1 S hp h
    have h : f_X6_fill_L22s (f_X6_fill_L22 n) x0 x1 S = some S' := h
    show f_X6_fill_L22s (f_X6_fill_L22 n) x0 x1 (mt_ov S T) = some (mt_ov S' T) ∧ mt_cp S' T
    unfold f_X6_fill_L22s at h ⊢
    obtain ⟨v3, e3, h⟩ := mt_ob h
    refine ov_b (ov_rI hp e3) ?_
    by_cases hc : v3 ≤ x1
    · have h := mt_ip h hc
      refine ov_t hc ?_
      obtain ⟨S4, e4, h⟩ := mt_ob h
      obtain ⟨o_, hp⟩ := ov_X6_fillNumbers hp e4
      refine ov_b o_ ?_
      exact ov_retv hp h
    · have h := mt_in' h hc
      refine ov_f hc ?_
      by_cases hc : 160 ≤ x1
      · have h := mt_ip h hc
        refine ov_t hc ?_
        obtain ⟨S5, e5, h⟩ := mt_ob h
        obtain ⟨o_, hp⟩ := ov_X6_fillNumbers hp e5
        refine ov_b o_ ?_
        exact ov_retv hp h
      · have h := mt_in' h hc
        refine ov_f hc ?_
        obtain ⟨v6, e6, h⟩ := mt_ob h
        refine ov_b (ov_rR hp e6) ?_
        obtain ⟨v7, e7, h⟩ := mt_ob h
        refine ov_b (ov_aL hp e7) ?_
        obtain ⟨v8, e8, h⟩ := mt_ob h
        refine ov_b (ov_rR hp e8) ?_
        obtain ⟨v9, e9, h⟩ := mt_ob h
        refine ov_b (ov_aL hp e9) ?_
        obtain ⟨v10, e10, h⟩ := mt_ob h
        refine ov_b (ov_rR hp e10) ?_
        obtain ⟨v11, e11, h⟩ := mt_ob h
        refine ov_b (ov_aL hp e11) ?_
        obtain ⟨v12, e12, h⟩ := mt_ob h
        refine ov_b (ov_rR hp e12) ?_
        obtain ⟨v13, e13, h⟩ := mt_ob h
        refine ov_b (ov_aI hp e13) ?_
        obtain ⟨S14, e14, h⟩ := mt_ob h
        obtain ⟨o_, hp⟩ := ov_X6_putNext hp e14
        refine ov_b o_ ?_
        obtain ⟨S15, e15, h⟩ := mt_ob h
        obtain ⟨o_, hp⟩ := ov_X6_putNext hp e15
        refine ov_b o_ ?_
        exact ih _ _ _ hp h
def f_X6_fill (x0 : Nat) (S : mt_S) : Option (mt_S) :=
  if mt_isK S x0 6 = true then
   Option.bind (mt_rI S x0 6 5) fun v1 =>
   if v1 ≤ 0 then
    Option.bind (f_X6_putRow x0 1 2 5 2 S) fun S2 =>
    f_X6_fill_L22 1000 x0 0 S2
   else
    some S
  else none
theorem k_X6_fill {x0 : Nat} {S : mt_S} {S' : mt_S} (h : f_X6_fill x0 S = some S') : mt_isK S x0 6 = true := by
  unfold f_X6_fill at h
  exact (mt_gd h).1
set_option maxHeartbeats 4000000 in
set_option maxRecDepth 100000 in
theorem m_X6_fill {B : mt_B}  {x0 : Nat} {S : mt_S} {S' : mt_S} (h : f_X6_fill x0 S = some S') : mt_M B yX6_fill cX6_fill 9 none 3 [mt_rf B x0] S none S' := by
  unfold f_X6_fill at h
  refine mt_M.of (by decide) (Nat.le_of_ble_eq_true rfl) (fun E hC hE => ?_)
  obtain ⟨hk0, h⟩ := mt_gd h
  refine go_aload_n hC 0 dX6_fill_0 rfl rfl ?_
  obtain ⟨v1, e1, h⟩ := mt_ob h
  refine go_getI hC mt_flX6_28 e1 dX6_fill_1 ?_
  refine go_if_le hC (tgt := 8) dX6_fill_4 (by decide) (fun hc => ?_) (fun hc => ?_)
  · have h := mt_ip h hc
    refine go_aload_n hC 0 dX6_fill_8 rfl rfl ?_
    refine go_lconst (v := 1) hC dX6_fill_9 (by decide) ?_
    refine go_ldc2 hC dX6_fill_10 mt_kX6_52 ?_
    refine go_ldc2 hC dX6_fill_13 mt_kX6_54 ?_
    refine go_iconst (v := 2) hC dX6_fill_16 (by decide) ?_
    obtain ⟨S2, e2, h⟩ := mt_ob h
    refine go_callVv hC [.long 1, .long 2, .long 5, .int 2] [] (m_X6_putRow e2) mt_cvX6_56 (k_X6_putRow e2) dX6_fill_17 rfl rfl (by decide) (Nat.le_of_ble_eq_true rfl) ⟨Nat.le_refl _, Nat.le_refl _⟩ ?_
    refine go_iconst (v := 0) hC dX6_fill_20 (by decide) ?_
    refine go_istore_n hC [1, 0] (lv1 := [(0, mt_rf B x0), (1, .int 0)]) dX6_fill_21 rfl (by decide) rfl ?_
    exact m_X6_fill_L22 hC hE 1000 _ _ _ h
  · have h := mt_in' h hc
    exact go_vret hC (mt_rev h hE) dX6_fill_7
set_option maxHeartbeats 4000000 in
set_option maxRecDepth 100000 in
theorem ov_X6_fill {T : mt_S}  {x0 : Nat} {S : mt_S} {S' : mt_S} (hp : mt_cp S T) (h : f_X6_fill x0 S = some S') : f_X6_fill x0 (mt_ov S T) = some (mt_ov S' T) ∧ mt_cp S' T := by
  unfold f_X6_fill at h ⊢
  obtain ⟨hg, h⟩ := mt_gd h
  refine ov_t (ov_K hp hg) ?_
  obtain ⟨v1, e1, h⟩ := mt_ob h
  refine ov_b (ov_rI hp e1) ?_
  by_cases hc : v1 ≤ 0
  · have h := mt_ip h hc
    refine ov_t hc ?_
    obtain ⟨S2, e2, h⟩ := mt_ob h
    obtain ⟨o_, hp⟩ := ov_X6_putRow hp e2
    refine ov_b o_ ?_
    exact ov_X6_fill_L22 1000 _ _ _ hp h
  · have h := mt_in' h hc
    refine ov_f hc ?_
    exact ov_retv hp h
def f_X6_countUpTo_L6s (rc : Nat → Int64 → Int32 → mt_S → Option (Int32 × mt_S)) (x0 : Nat) (x1 : Int64) (x3 : Int32) (S : mt_S) : Option (Int32 × mt_S) :=
  Option.bind (mt_rI S x0 6 6) fun v2 =>
  if v2 ≤ x3 then
   some (x3, S)
  else
   Option.bind (mt_rR S x0 6 4) fun v3 =>
   Option.bind (mt_aL S v3 x3) fun v4 =>
   if x1 < v4 then
    some (x3, S)
   else
    rc x0 x1 (x3 + 1) S
def f_X6_countUpTo_L6 : Nat → Nat → Int64 → Int32 → mt_S → Option (Int32 × mt_S)
  | 0 => fun _ _ _ _ => none
  | n + 1 => f_X6_countUpTo_L6s (f_X6_countUpTo_L6 n)
set_option maxHeartbeats 4000000 in
set_option maxRecDepth 100000 in
theorem m_X6_countUpTo_L6 {B : mt_B} {E : mt_E} {r : Int32} {S' : mt_S} (hC : mt_Cx B E cX6_countUpTo RX6 (some .int) 4 4 0 0) (hE : mt_End B E (0, 0) (some (.int r)) S') : ∀ (n : Nat) (x0 : Nat) (x1 : Int64) (x3 : Int32) (S : mt_S), f_X6_countUpTo_L6 n x0 x1 x3 S = some (r, S') → mt_Go B E (0, 0) S 6 [(0, mt_rf B x0), (1, .long x1), (3, .int x3)] [] := by
  intro n
  induction n with
  | zero =>
    intro x0 x1 x3 S h
    cases h
  | succ n ih =>
    intro x0 x1 x3 S h
    have h : f_X6_countUpTo_L6s (f_X6_countUpTo_L6 n) x0 x1 x3 S = some (r, S') := h
    unfold f_X6_countUpTo_L6s at h
    refine go_iload_n hC 2 dX6_countUpTo_6 rfl rfl ?_
    refine go_aload_n hC 0 dX6_countUpTo_7 rfl rfl ?_
    obtain ⟨v2, e2, h⟩ := mt_ob h
    refine go_getI hC mt_flX6_32 e2 dX6_countUpTo_8 ?_
    refine go_icmp_ge hC (tgt := 31) dX6_countUpTo_11 (by decide) (fun hc => ?_) (fun hc => ?_)
    · have h := mt_ip h hc
      refine go_iload_n hC 2 dX6_countUpTo_31 rfl rfl ?_
      exact go_iret hC (mt_rei h hE) dX6_countUpTo_32
    · have h := mt_in' h hc
      refine go_aload_n hC 0 dX6_countUpTo_14 rfl rfl ?_
      obtain ⟨v3, e3, h⟩ := mt_ob h
      refine go_getR hC mt_flX6_25 e3 dX6_countUpTo_15 ?_
      refine go_iload_n hC 2 dX6_countUpTo_18 rfl rfl ?_
      obtain ⟨v4, e4, h⟩ := mt_ob h
      refine go_lald hC e4 dX6_countUpTo_19 ?_
      refine go_lload_n hC 1 dX6_countUpTo_20 rfl rfl ?_
      refine go_lcmp_gt hC (tgt := 31) dX6_countUpTo_21 dX6_countUpTo_22 (by decide) (fun hc => ?_) (fun hc => ?_)
      · have h := mt_ip h hc
        refine go_iload_n hC 2 dX6_countUpTo_31 rfl rfl ?_
        exact go_iret hC (mt_rei h hE) dX6_countUpTo_32
      · have h := mt_in' h hc
        refine go_iinc hC 2 [1, 2, 0] (v := x3 + 1) (lv1 := [(0, mt_rf B x0), (1, .long x1), (3, .int (x3 + 1))]) dX6_countUpTo_25 rfl rfl (by decide) rfl ?_
        refine go_goto hC (tgt := 6) dX6_countUpTo_28 (by decide) ?_
        exact ih _ _ _ _ h
set_option maxHeartbeats 4000000 in
set_option maxRecDepth 100000 in
theorem ov_X6_countUpTo_L6 {T : mt_S} {r : Int32} {S' : mt_S} : ∀ (n : Nat) (x0 : Nat) (x1 : Int64) (x3 : Int32) (S : mt_S), mt_cp S T → f_X6_countUpTo_L6 n x0 x1 x3 S = some (r, S') → f_X6_countUpTo_L6 n x0 x1 x3 (mt_ov S T) = some (r, mt_ov S' T) ∧ mt_cp S' T := by
  intro n
  induction n with
  | zero =>
    intro x0 x1 x3 S hp h
    cases h
  | succ n ih =>
    intro x0 x1 x3 S hp h
    have h : f_X6_countUpTo_L6s (f_X6_countUpTo_L6 n) x0 x1 x3 S = some (r, S') := h
    show f_X6_countUpTo_L6s (f_X6_countUpTo_L6 n) x0 x1 x3 (mt_ov S T) = some (r, mt_ov S' T) ∧ mt_cp S' T
    unfold f_X6_countUpTo_L6s at h ⊢
    obtain ⟨v2, e2, h⟩ := mt_ob h
    refine ov_b (ov_rI hp e2) ?_
    by_cases hc : v2 ≤ x3
    · have h := mt_ip h hc
      refine ov_t hc ?_
      exact ov_ret hp h
    · have h := mt_in' h hc
      refine ov_f hc ?_
      obtain ⟨v3, e3, h⟩ := mt_ob h
      refine ov_b (ov_rR hp e3) ?_
      obtain ⟨v4, e4, h⟩ := mt_ob h
      refine ov_b (ov_aL hp e4) ?_
      by_cases hc : x1 < v4
      · have h := mt_ip h hc
        refine ov_t hc ?_
        exact ov_ret hp h
      · have h := mt_in' h hc
        refine ov_f hc ?_
        exact ih _ _ _ _ hp h
def f_X6_countUpTo (x0 : Nat) (x1 : Int64) (S : mt_S) : Option (Int32 × mt_S) :=
  if mt_isK S x0 6 = true then
   Option.bind (f_X6_fill x0 S) fun S1 =>
   f_X6_countUpTo_L6 1000 x0 x1 0 S1
  else none
theorem k_X6_countUpTo {x0 : Nat} {x1 : Int64} {S : mt_S} {r : Int32} {S' : mt_S} (h : f_X6_countUpTo x0 x1 S = some (r, S')) : mt_isK S x0 6 = true := by
  unfold f_X6_countUpTo at h
  exact (mt_gd h).1
set_option maxHeartbeats 4000000 in
set_option maxRecDepth 100000 in
theorem m_X6_countUpTo {B : mt_B}  {x0 : Nat} {x1 : Int64} {S : mt_S} {r : Int32} {S' : mt_S} (h : f_X6_countUpTo x0 x1 S = some (r, S')) : mt_M B yX6_countUpTo cX6_countUpTo 4 (some .int) 4 [mt_rf B x0, .long x1] S (some (.int r)) S' := by
  unfold f_X6_countUpTo at h
  refine mt_M.of (by decide) (Nat.le_of_ble_eq_true rfl) (fun E hC hE => ?_)
  obtain ⟨hk0, h⟩ := mt_gd h
  refine go_aload_n hC 0 dX6_countUpTo_0 rfl rfl ?_
  obtain ⟨S1, e1, h⟩ := mt_ob h
  refine go_callVv hC [] [] (m_X6_fill e1) mt_cvX6_35 (k_X6_fill e1) dX6_countUpTo_1 rfl rfl (by decide) (Nat.le_of_ble_eq_true rfl) ⟨Nat.le_refl _, Nat.le_refl _⟩ ?_
  refine go_iconst (v := 0) hC dX6_countUpTo_4 (by decide) ?_
  refine go_istore_n hC [1, 2, 0] (lv1 := [(0, mt_rf B x0), (1, .long x1), (3, .int 0)]) dX6_countUpTo_5 rfl (by decide) rfl ?_
  exact m_X6_countUpTo_L6 hC hE 1000 _ _ _ _ h
set_option maxHeartbeats 4000000 in
set_option maxRecDepth 100000 in
theorem ov_X6_countUpTo {T : mt_S}  {x0 : Nat} {x1 : Int64} {S : mt_S} {r : Int32} {S' : mt_S} (hp : mt_cp S T) (h : f_X6_countUpTo x0 x1 S = some (r, S')) : f_X6_countUpTo x0 x1 (mt_ov S T) = some (r, mt_ov S' T) ∧ mt_cp S' T := by
  unfold f_X6_countUpTo at h ⊢
  obtain ⟨hg, h⟩ := mt_gd h
  refine ov_t (ov_K hp hg) ?_
  obtain ⟨S1, e1, h⟩ := mt_ob h
  obtain ⟨o_, hp⟩ := ov_X6_fill hp e1
  refine ov_b o_ ?_
  exact ov_X6_countUpTo_L6 1000 _ _ _ _ hp h
def f_X6_numberAt (x0 : Nat) (x1 : Int32) (S : mt_S) : Option (Int64 × mt_S) :=
  if mt_isK S x0 6 = true then
   Option.bind (f_X6_fill x0 S) fun S1 =>
   if x1 < 0 then
    some ((-1), S1)
   else
    Option.bind (mt_rI S1 x0 6 6) fun v2 =>
    if v2 ≤ x1 then
     some ((-1), S1)
    else
     Option.bind (mt_rR S1 x0 6 4) fun v3 =>
     Option.bind (mt_aL S1 v3 x1) fun v4 =>
     some (v4, S1)
  else none
theorem k_X6_numberAt {x0 : Nat} {x1 : Int32} {S : mt_S} {r : Int64} {S' : mt_S} (h : f_X6_numberAt x0 x1 S = some (r, S')) : mt_isK S x0 6 = true := by
  unfold f_X6_numberAt at h
  exact (mt_gd h).1
set_option maxHeartbeats 4000000 in
set_option maxRecDepth 100000 in
theorem m_X6_numberAt {B : mt_B}  {x0 : Nat} {x1 : Int32} {S : mt_S} {r : Int64} {S' : mt_S} (h : f_X6_numberAt x0 x1 S = some (r, S')) : mt_M B yX6_numberAt cX6_numberAt 2 (some .long) 4 [mt_rf B x0, .int x1] S (some (.long r)) S' := by
  unfold f_X6_numberAt at h
  refine mt_M.of (by decide) (Nat.le_of_ble_eq_true rfl) (fun E hC hE => ?_)
  obtain ⟨hk0, h⟩ := mt_gd h
  refine go_aload_n hC 0 dX6_numberAt_0 rfl rfl ?_
  obtain ⟨S1, e1, h⟩ := mt_ob h
  refine go_callVv hC [] [] (m_X6_fill e1) mt_cvX6_35 (k_X6_fill e1) dX6_numberAt_1 rfl rfl (by decide) (Nat.le_of_ble_eq_true rfl) ⟨Nat.le_refl _, Nat.le_refl _⟩ ?_
  refine go_iload_n hC 1 dX6_numberAt_4 rfl rfl ?_
  refine go_if_lt hC (tgt := 25) dX6_numberAt_5 (by decide) (fun hc => ?_) (fun hc => ?_)
  · have h := mt_ip h hc
    refine go_ldc2 hC dX6_numberAt_25 mt_kX6_38 ?_
    exact go_lret hC (mt_rel h hE) dX6_numberAt_28
  · have h := mt_in' h hc
    refine go_iload_n hC 1 dX6_numberAt_8 rfl rfl ?_
    refine go_aload_n hC 0 dX6_numberAt_9 rfl rfl ?_
    obtain ⟨v2, e2, h⟩ := mt_ob h
    refine go_getI hC mt_flX6_32 e2 dX6_numberAt_10 ?_
    refine go_icmp_ge hC (tgt := 25) dX6_numberAt_13 (by decide) (fun hc => ?_) (fun hc => ?_)
    · have h := mt_ip h hc
      refine go_ldc2 hC dX6_numberAt_25 mt_kX6_38 ?_
      exact go_lret hC (mt_rel h hE) dX6_numberAt_28
    · have h := mt_in' h hc
      refine go_aload_n hC 0 dX6_numberAt_16 rfl rfl ?_
      obtain ⟨v3, e3, h⟩ := mt_ob h
      refine go_getR hC mt_flX6_25 e3 dX6_numberAt_17 ?_
      refine go_iload_n hC 1 dX6_numberAt_20 rfl rfl ?_
      obtain ⟨v4, e4, h⟩ := mt_ob h
      refine go_lald hC e4 dX6_numberAt_21 ?_
      refine go_goto hC (tgt := 28) dX6_numberAt_22 (by decide) ?_
      exact go_lret hC (mt_rel h hE) dX6_numberAt_28
set_option maxHeartbeats 4000000 in
set_option maxRecDepth 100000 in
theorem ov_X6_numberAt {T : mt_S}  {x0 : Nat} {x1 : Int32} {S : mt_S} {r : Int64} {S' : mt_S} (hp : mt_cp S T) (h : f_X6_numberAt x0 x1 S = some (r, S')) : f_X6_numberAt x0 x1 (mt_ov S T) = some (r, mt_ov S' T) ∧ mt_cp S' T := by
  unfold f_X6_numberAt at h ⊢
  obtain ⟨hg, h⟩ := mt_gd h
  refine ov_t (ov_K hp hg) ?_
  obtain ⟨S1, e1, h⟩ := mt_ob h
  obtain ⟨o_, hp⟩ := ov_X6_fill hp e1
  refine ov_b o_ ?_
  by_cases hc : x1 < 0
  · have h := mt_ip h hc
    refine ov_t hc ?_
    exact ov_ret hp h
  · have h := mt_in' h hc
    refine ov_f hc ?_
    obtain ⟨v2, e2, h⟩ := mt_ob h
    refine ov_b (ov_rI hp e2) ?_
    by_cases hc : v2 ≤ x1
    · have h := mt_ip h hc
      refine ov_t hc ?_
      exact ov_ret hp h
    · have h := mt_in' h hc
      refine ov_f hc ?_
      obtain ⟨v3, e3, h⟩ := mt_ob h
      refine ov_b (ov_rR hp e3) ?_
      obtain ⟨v4, e4, h⟩ := mt_ob h
      refine ov_b (ov_aL hp e4) ?_
      exact ov_ret hp h
def f_X6_rankOf (x0 : Nat) (x1 : Int64) (S : mt_S) : Option (Int32 × mt_S) :=
  if mt_isK S x0 6 = true then
   mt_b2 (f_X6_countUpTo x0 x1 S) fun v2 S1 =>
   mt_b2 (f_X6_numberAt x0 (v2 - 1) S1) fun v4 S3 =>
   if v4 = x1 then
    if (v2 - 1) < 0 then
     some ((-1), S3)
    else
     some (v2 - 1, S3)
   else
    some ((-1), S3)
  else none
theorem k_X6_rankOf {x0 : Nat} {x1 : Int64} {S : mt_S} {r : Int32} {S' : mt_S} (h : f_X6_rankOf x0 x1 S = some (r, S')) : mt_isK S x0 6 = true := by
  unfold f_X6_rankOf at h
  exact (mt_gd h).1
set_option maxHeartbeats 4000000 in
set_option maxRecDepth 100000 in
theorem m_X6_rankOf {B : mt_B}  {x0 : Nat} {x1 : Int64} {S : mt_S} {r : Int32} {S' : mt_S} (h : f_X6_rankOf x0 x1 S = some (r, S')) : mt_M B yX6_rankOf cX6_rankOf 4 (some .int) 5 [mt_rf B x0, .long x1] S (some (.int r)) S' := by
  unfold f_X6_rankOf at h
  refine mt_M.of (by decide) (Nat.le_of_ble_eq_true rfl) (fun E hC hE => ?_)
  obtain ⟨hk0, h⟩ := mt_gd h
  refine go_aload_n hC 0 dX6_rankOf_0 rfl rfl ?_
  refine go_lload_n hC 1 dX6_rankOf_1 rfl rfl ?_
  obtain ⟨v2, S1, e2, h⟩ := mt_ob2 h
  refine go_callVi hC [.long x1] [] (m_X6_countUpTo e2) mt_cvX6_40 (k_X6_countUpTo e2) dX6_rankOf_2 rfl rfl (by decide) (Nat.le_of_ble_eq_true rfl) ⟨Nat.le_refl _, Nat.le_refl _⟩ ?_
  refine go_iconst (v := 1) hC dX6_rankOf_5 (by decide) ?_
  refine go_isub hC dX6_rankOf_6 ?_
  refine go_istore_n hC [1, 2, 0] (lv1 := [(0, mt_rf B x0), (1, .long x1), (3, .int (v2 - 1))]) dX6_rankOf_7 rfl (by decide) rfl ?_
  refine go_aload_n hC 0 dX6_rankOf_8 rfl rfl ?_
  refine go_iload_n hC 2 dX6_rankOf_9 rfl rfl ?_
  obtain ⟨v4, S3, e4, h⟩ := mt_ob2 h
  refine go_callVl hC [.int (v2 - 1)] [] (m_X6_numberAt e4) mt_cvX6_44 (k_X6_numberAt e4) dX6_rankOf_10 rfl rfl (by decide) (Nat.le_of_ble_eq_true rfl) ⟨Nat.le_refl _, Nat.le_refl _⟩ ?_
  refine go_lload_n hC 1 dX6_rankOf_13 rfl rfl ?_
  refine go_lcmp_ne hC (tgt := 26) dX6_rankOf_14 dX6_rankOf_15 (by decide) (fun hc => ?_) (fun hc => ?_)
  · have h := mt_in' h hc
    refine go_iconst (v := (-1)) hC dX6_rankOf_26 (by decide) ?_
    exact go_iret hC (mt_rei h hE) dX6_rankOf_27
  · have h := mt_ip h hc
    refine go_iload_n hC 2 dX6_rankOf_18 rfl rfl ?_
    refine go_if_lt hC (tgt := 26) dX6_rankOf_19 (by decide) (fun hc => ?_) (fun hc => ?_)
    · have h := mt_ip h hc
      refine go_iconst (v := (-1)) hC dX6_rankOf_26 (by decide) ?_
      exact go_iret hC (mt_rei h hE) dX6_rankOf_27
    · have h := mt_in' h hc
      refine go_iload_n hC 2 dX6_rankOf_22 rfl rfl ?_
      refine go_goto hC (tgt := 27) dX6_rankOf_23 (by decide) ?_
      exact go_iret hC (mt_rei h hE) dX6_rankOf_27
set_option maxHeartbeats 4000000 in
set_option maxRecDepth 100000 in
theorem ov_X6_rankOf {T : mt_S}  {x0 : Nat} {x1 : Int64} {S : mt_S} {r : Int32} {S' : mt_S} (hp : mt_cp S T) (h : f_X6_rankOf x0 x1 S = some (r, S')) : f_X6_rankOf x0 x1 (mt_ov S T) = some (r, mt_ov S' T) ∧ mt_cp S' T := by
  unfold f_X6_rankOf at h ⊢
  obtain ⟨hg, h⟩ := mt_gd h
  refine ov_t (ov_K hp hg) ?_
  obtain ⟨v2, S1, e2, h⟩ := mt_ob2 h
  obtain ⟨o_, hp⟩ := ov_X6_countUpTo hp e2
  refine ov_b2 o_ ?_
  obtain ⟨v4, S3, e4, h⟩ := mt_ob2 h
  obtain ⟨o_, hp⟩ := ov_X6_numberAt hp e4
  refine ov_b2 o_ ?_
  by_cases hc : v4 = x1
  · have h := mt_ip h hc
    refine ov_t hc ?_
    by_cases hc : (v2 - 1) < 0
    · have h := mt_ip h hc
      refine ov_t hc ?_
      exact ov_ret hp h
    · have h := mt_in' h hc
      refine ov_f hc ?_
      exact ov_ret hp h
  · have h := mt_in' h hc
    refine ov_f hc ?_
    exact ov_ret hp h
def f_X6_rowOf_L6s (rc : Nat → Int64 → Int32 → mt_S → Option (Int32 × mt_S)) (x0 : Nat) (x1 : Int64) (x3 : Int32) (S : mt_S) : Option (Int32 × mt_S) :=
  Option.bind (mt_rI S x0 6 5) fun v2 =>
  if v2 ≤ x3 then
   some ((-1), S)
  else
   Option.bind (mt_rR S x0 6 2) fun v3 =>
   Option.bind (mt_aL S v3 x3) fun v4 =>
   if v4 = x1 then
    some (x3, S)
   else
    rc x0 x1 (x3 + 1) S
def f_X6_rowOf_L6 : Nat → Nat → Int64 → Int32 → mt_S → Option (Int32 × mt_S)
  | 0 => fun _ _ _ _ => none
  | n + 1 => f_X6_rowOf_L6s (f_X6_rowOf_L6 n)
set_option maxHeartbeats 4000000 in
set_option maxRecDepth 100000 in
theorem m_X6_rowOf_L6 {B : mt_B} {E : mt_E} {r : Int32} {S' : mt_S} (hC : mt_Cx B E cX6_rowOf RX6 (some .int) 4 4 0 0) (hE : mt_End B E (0, 0) (some (.int r)) S') : ∀ (n : Nat) (x0 : Nat) (x1 : Int64) (x3 : Int32) (S : mt_S), f_X6_rowOf_L6 n x0 x1 x3 S = some (r, S') → mt_Go B E (0, 0) S 6 [(0, mt_rf B x0), (1, .long x1), (3, .int x3)] [] := by
  intro n
  induction n with
  | zero =>
    intro x0 x1 x3 S h
    cases h
  | succ n ih =>
    intro x0 x1 x3 S h
    have h : f_X6_rowOf_L6s (f_X6_rowOf_L6 n) x0 x1 x3 S = some (r, S') := h
    unfold f_X6_rowOf_L6s at h
    refine go_iload_n hC 2 dX6_rowOf_6 rfl rfl ?_
    refine go_aload_n hC 0 dX6_rowOf_7 rfl rfl ?_
    obtain ⟨v2, e2, h⟩ := mt_ob h
    refine go_getI hC mt_flX6_28 e2 dX6_rowOf_8 ?_
    refine go_icmp_ge hC (tgt := 33) dX6_rowOf_11 (by decide) (fun hc => ?_) (fun hc => ?_)
    · have h := mt_ip h hc
      refine go_iconst (v := (-1)) hC dX6_rowOf_33 (by decide) ?_
      exact go_iret hC (mt_rei h hE) dX6_rowOf_34
    · have h := mt_in' h hc
      refine go_aload_n hC 0 dX6_rowOf_14 rfl rfl ?_
      obtain ⟨v3, e3, h⟩ := mt_ob h
      refine go_getR hC mt_flX6_18 e3 dX6_rowOf_15 ?_
      refine go_iload_n hC 2 dX6_rowOf_18 rfl rfl ?_
      obtain ⟨v4, e4, h⟩ := mt_ob h
      refine go_lald hC e4 dX6_rowOf_19 ?_
      refine go_lload_n hC 1 dX6_rowOf_20 rfl rfl ?_
      refine go_lcmp_ne hC (tgt := 27) dX6_rowOf_21 dX6_rowOf_22 (by decide) (fun hc => ?_) (fun hc => ?_)
      · have h := mt_in' h hc
        refine go_iinc hC 2 [1, 2, 0] (v := x3 + 1) (lv1 := [(0, mt_rf B x0), (1, .long x1), (3, .int (x3 + 1))]) dX6_rowOf_27 rfl rfl (by decide) rfl ?_
        refine go_goto hC (tgt := 6) dX6_rowOf_30 (by decide) ?_
        exact ih _ _ _ _ h
      · have h := mt_ip h hc
        refine go_iload_n hC 2 dX6_rowOf_25 rfl rfl ?_
        exact go_iret hC (mt_rei h hE) dX6_rowOf_26
set_option maxHeartbeats 4000000 in
set_option maxRecDepth 100000 in
theorem ov_X6_rowOf_L6 {T : mt_S} {r : Int32} {S' : mt_S} : ∀ (n : Nat) (x0 : Nat) (x1 : Int64) (x3 : Int32) (S : mt_S), mt_cp S T → f_X6_rowOf_L6 n x0 x1 x3 S = some (r, S') → f_X6_rowOf_L6 n x0 x1 x3 (mt_ov S T) = some (r, mt_ov S' T) ∧ mt_cp S' T := by
  intro n
  induction n with
  | zero =>
    intro x0 x1 x3 S hp h
    cases h
  | succ n ih =>
    intro x0 x1 x3 S hp h
    have h : f_X6_rowOf_L6s (f_X6_rowOf_L6 n) x0 x1 x3 S = some (r, S') := h
    show f_X6_rowOf_L6s (f_X6_rowOf_L6 n) x0 x1 x3 (mt_ov S T) = some (r, mt_ov S' T) ∧ mt_cp S' T
    unfold f_X6_rowOf_L6s at h ⊢
    obtain ⟨v2, e2, h⟩ := mt_ob h
    refine ov_b (ov_rI hp e2) ?_
    by_cases hc : v2 ≤ x3
    · have h := mt_ip h hc
      refine ov_t hc ?_
      exact ov_ret hp h
    · have h := mt_in' h hc
      refine ov_f hc ?_
      obtain ⟨v3, e3, h⟩ := mt_ob h
      refine ov_b (ov_rR hp e3) ?_
      obtain ⟨v4, e4, h⟩ := mt_ob h
      refine ov_b (ov_aL hp e4) ?_
      by_cases hc : v4 = x1
      · have h := mt_ip h hc
        refine ov_t hc ?_
        exact ov_ret hp h
      · have h := mt_in' h hc
        refine ov_f hc ?_
        exact ih _ _ _ _ hp h
def f_X6_rowOf (x0 : Nat) (x1 : Int64) (S : mt_S) : Option (Int32 × mt_S) :=
  if mt_isK S x0 6 = true then
   Option.bind (f_X6_fill x0 S) fun S1 =>
   f_X6_rowOf_L6 1000 x0 x1 0 S1
  else none
theorem k_X6_rowOf {x0 : Nat} {x1 : Int64} {S : mt_S} {r : Int32} {S' : mt_S} (h : f_X6_rowOf x0 x1 S = some (r, S')) : mt_isK S x0 6 = true := by
  unfold f_X6_rowOf at h
  exact (mt_gd h).1
set_option maxHeartbeats 4000000 in
set_option maxRecDepth 100000 in
theorem m_X6_rowOf {B : mt_B}  {x0 : Nat} {x1 : Int64} {S : mt_S} {r : Int32} {S' : mt_S} (h : f_X6_rowOf x0 x1 S = some (r, S')) : mt_M B yX6_rowOf cX6_rowOf 4 (some .int) 4 [mt_rf B x0, .long x1] S (some (.int r)) S' := by
  unfold f_X6_rowOf at h
  refine mt_M.of (by decide) (Nat.le_of_ble_eq_true rfl) (fun E hC hE => ?_)
  obtain ⟨hk0, h⟩ := mt_gd h
  refine go_aload_n hC 0 dX6_rowOf_0 rfl rfl ?_
  obtain ⟨S1, e1, h⟩ := mt_ob h
  refine go_callVv hC [] [] (m_X6_fill e1) mt_cvX6_35 (k_X6_fill e1) dX6_rowOf_1 rfl rfl (by decide) (Nat.le_of_ble_eq_true rfl) ⟨Nat.le_refl _, Nat.le_refl _⟩ ?_
  refine go_iconst (v := 0) hC dX6_rowOf_4 (by decide) ?_
  refine go_istore_n hC [1, 2, 0] (lv1 := [(0, mt_rf B x0), (1, .long x1), (3, .int 0)]) dX6_rowOf_5 rfl (by decide) rfl ?_
  exact m_X6_rowOf_L6 hC hE 1000 _ _ _ _ h
set_option maxHeartbeats 4000000 in
set_option maxRecDepth 100000 in
theorem ov_X6_rowOf {T : mt_S}  {x0 : Nat} {x1 : Int64} {S : mt_S} {r : Int32} {S' : mt_S} (hp : mt_cp S T) (h : f_X6_rowOf x0 x1 S = some (r, S')) : f_X6_rowOf x0 x1 (mt_ov S T) = some (r, mt_ov S' T) ∧ mt_cp S' T := by
  unfold f_X6_rowOf at h ⊢
  obtain ⟨hg, h⟩ := mt_gd h
  refine ov_t (ov_K hp hg) ?_
  obtain ⟨S1, e1, h⟩ := mt_ob h
  obtain ⟨o_, hp⟩ := ov_X6_fill hp e1
  refine ov_b o_ ?_
  exact ov_X6_rowOf_L6 1000 _ _ _ _ hp h
def f_X6_countGreatest_L9s (rc : Nat → Int64 → Int32 → Int32 → mt_S → Option (Int32 × mt_S)) (x0 : Nat) (x1 : Int64) (x3 : Int32) (x4 : Int32) (S : mt_S) : Option (Int32 × mt_S) :=
  Option.bind (mt_rI S x0 6 5) fun v2 =>
  if v2 ≤ x4 then
   some (x3, S)
  else
   Option.bind (mt_rR S x0 6 2) fun v3 =>
   Option.bind (mt_aL S v3 x4) fun v4 =>
   if v4 = x1 then
    rc x0 x1 (x3 + 1) (x4 + 1) S
   else
    rc x0 x1 x3 (x4 + 1) S
def f_X6_countGreatest_L9 : Nat → Nat → Int64 → Int32 → Int32 → mt_S → Option (Int32 × mt_S)
  | 0 => fun _ _ _ _ _ => none
  | n + 1 => f_X6_countGreatest_L9s (f_X6_countGreatest_L9 n)
set_option maxHeartbeats 4000000 in
set_option maxRecDepth 100000 in
theorem m_X6_countGreatest_L9 {B : mt_B} {E : mt_E} {r : Int32} {S' : mt_S} (hC : mt_Cx B E cX6_countGreatest RX6 (some .int) 5 4 0 0) (hE : mt_End B E (0, 0) (some (.int r)) S') : ∀ (n : Nat) (x0 : Nat) (x1 : Int64) (x3 : Int32) (x4 : Int32) (S : mt_S), f_X6_countGreatest_L9 n x0 x1 x3 x4 S = some (r, S') → mt_Go B E (0, 0) S 9 [(0, mt_rf B x0), (1, .long x1), (3, .int x3), (4, .int x4)] [] := by
  intro n
  induction n with
  | zero =>
    intro x0 x1 x3 x4 S h
    cases h
  | succ n ih =>
    intro x0 x1 x3 x4 S h
    have h : f_X6_countGreatest_L9s (f_X6_countGreatest_L9 n) x0 x1 x3 x4 S = some (r, S') := h
    unfold f_X6_countGreatest_L9s at h
    refine go_iload hC 3 dX6_countGreatest_9 rfl ?_
    refine go_aload_n hC 0 dX6_countGreatest_11 rfl rfl ?_
    obtain ⟨v2, e2, h⟩ := mt_ob h
    refine go_getI hC mt_flX6_28 e2 dX6_countGreatest_12 ?_
    refine go_icmp_ge hC (tgt := 39) dX6_countGreatest_15 (by decide) (fun hc => ?_) (fun hc => ?_)
    · have h := mt_ip h hc
      refine go_iload_n hC 2 dX6_countGreatest_39 rfl rfl ?_
      exact go_iret hC (mt_rei h hE) dX6_countGreatest_40
    · have h := mt_in' h hc
      refine go_aload_n hC 0 dX6_countGreatest_18 rfl rfl ?_
      obtain ⟨v3, e3, h⟩ := mt_ob h
      refine go_getR hC mt_flX6_18 e3 dX6_countGreatest_19 ?_
      refine go_iload hC 3 dX6_countGreatest_22 rfl ?_
      obtain ⟨v4, e4, h⟩ := mt_ob h
      refine go_lald hC e4 dX6_countGreatest_24 ?_
      refine go_lload_n hC 1 dX6_countGreatest_25 rfl rfl ?_
      refine go_lcmp_ne hC (tgt := 33) dX6_countGreatest_26 dX6_countGreatest_27 (by decide) (fun hc => ?_) (fun hc => ?_)
      · have h := mt_in' h hc
        refine go_iinc hC 3 [1, 2, 3, 0] (v := x4 + 1) (lv1 := [(0, mt_rf B x0), (1, .long x1), (3, .int x3), (4, .int (x4 + 1))]) dX6_countGreatest_33 rfl rfl (by decide) rfl ?_
        refine go_goto hC (tgt := 9) dX6_countGreatest_36 (by decide) ?_
        exact ih _ _ _ _ _ h
      · have h := mt_ip h hc
        refine go_iinc hC 2 [1, 2, 0, 3] (v := x3 + 1) (lv1 := [(0, mt_rf B x0), (1, .long x1), (3, .int (x3 + 1)), (4, .int x4)]) dX6_countGreatest_30 rfl rfl (by decide) rfl ?_
        refine go_iinc hC 3 [1, 2, 3, 0] (v := x4 + 1) (lv1 := [(0, mt_rf B x0), (1, .long x1), (3, .int (x3 + 1)), (4, .int (x4 + 1))]) dX6_countGreatest_33 rfl rfl (by decide) rfl ?_
        refine go_goto hC (tgt := 9) dX6_countGreatest_36 (by decide) ?_
        exact ih _ _ _ _ _ h
set_option maxHeartbeats 4000000 in
set_option maxRecDepth 100000 in
theorem ov_X6_countGreatest_L9 {T : mt_S} {r : Int32} {S' : mt_S} : ∀ (n : Nat) (x0 : Nat) (x1 : Int64) (x3 : Int32) (x4 : Int32) (S : mt_S), mt_cp S T → f_X6_countGreatest_L9 n x0 x1 x3 x4 S = some (r, S') → f_X6_countGreatest_L9 n x0 x1 x3 x4 (mt_ov S T) = some (r, mt_ov S' T) ∧ mt_cp S' T := by
  intro n
  induction n with
  | zero =>
    intro x0 x1 x3 x4 S hp h
    cases h
  | succ n ih =>
    intro x0 x1 x3 x4 S hp h
    have h : f_X6_countGreatest_L9s (f_X6_countGreatest_L9 n) x0 x1 x3 x4 S = some (r, S') := h
    show f_X6_countGreatest_L9s (f_X6_countGreatest_L9 n) x0 x1 x3 x4 (mt_ov S T) = some (r, mt_ov S' T) ∧ mt_cp S' T
    unfold f_X6_countGreatest_L9s at h ⊢
    obtain ⟨v2, e2, h⟩ := mt_ob h
    refine ov_b (ov_rI hp e2) ?_
    by_cases hc : v2 ≤ x4
    · have h := mt_ip h hc
      refine ov_t hc ?_
      exact ov_ret hp h
    · have h := mt_in' h hc
      refine ov_f hc ?_
      obtain ⟨v3, e3, h⟩ := mt_ob h
      refine ov_b (ov_rR hp e3) ?_
      obtain ⟨v4, e4, h⟩ := mt_ob h
      refine ov_b (ov_aL hp e4) ?_
      by_cases hc : v4 = x1
      · have h := mt_ip h hc
        refine ov_t hc ?_
        exact ih _ _ _ _ _ hp h
      · have h := mt_in' h hc
        refine ov_f hc ?_
        exact ih _ _ _ _ _ hp h
def f_X6_countGreatest (x0 : Nat) (x1 : Int64) (S : mt_S) : Option (Int32 × mt_S) :=
  if mt_isK S x0 6 = true then
   Option.bind (f_X6_fill x0 S) fun S1 =>
   f_X6_countGreatest_L9 1000 x0 x1 0 0 S1
  else none
theorem k_X6_countGreatest {x0 : Nat} {x1 : Int64} {S : mt_S} {r : Int32} {S' : mt_S} (h : f_X6_countGreatest x0 x1 S = some (r, S')) : mt_isK S x0 6 = true := by
  unfold f_X6_countGreatest at h
  exact (mt_gd h).1
set_option maxHeartbeats 4000000 in
set_option maxRecDepth 100000 in
theorem m_X6_countGreatest {B : mt_B}  {x0 : Nat} {x1 : Int64} {S : mt_S} {r : Int32} {S' : mt_S} (h : f_X6_countGreatest x0 x1 S = some (r, S')) : mt_M B yX6_countGreatest cX6_countGreatest 5 (some .int) 4 [mt_rf B x0, .long x1] S (some (.int r)) S' := by
  unfold f_X6_countGreatest at h
  refine mt_M.of (by decide) (Nat.le_of_ble_eq_true rfl) (fun E hC hE => ?_)
  obtain ⟨hk0, h⟩ := mt_gd h
  refine go_aload_n hC 0 dX6_countGreatest_0 rfl rfl ?_
  obtain ⟨S1, e1, h⟩ := mt_ob h
  refine go_callVv hC [] [] (m_X6_fill e1) mt_cvX6_35 (k_X6_fill e1) dX6_countGreatest_1 rfl rfl (by decide) (Nat.le_of_ble_eq_true rfl) ⟨Nat.le_refl _, Nat.le_refl _⟩ ?_
  refine go_iconst (v := 0) hC dX6_countGreatest_4 (by decide) ?_
  refine go_istore_n hC [1, 2, 0] (lv1 := [(0, mt_rf B x0), (1, .long x1), (3, .int 0)]) dX6_countGreatest_5 rfl (by decide) rfl ?_
  refine go_iconst (v := 0) hC dX6_countGreatest_6 (by decide) ?_
  refine go_istore hC [1, 2, 3, 0] (lv1 := [(0, mt_rf B x0), (1, .long x1), (3, .int 0), (4, .int 0)]) dX6_countGreatest_7 (by decide) rfl ?_
  exact m_X6_countGreatest_L9 hC hE 1000 _ _ _ _ _ h
set_option maxHeartbeats 4000000 in
set_option maxRecDepth 100000 in
theorem ov_X6_countGreatest {T : mt_S}  {x0 : Nat} {x1 : Int64} {S : mt_S} {r : Int32} {S' : mt_S} (hp : mt_cp S T) (h : f_X6_countGreatest x0 x1 S = some (r, S')) : f_X6_countGreatest x0 x1 (mt_ov S T) = some (r, mt_ov S' T) ∧ mt_cp S' T := by
  unfold f_X6_countGreatest at h ⊢
  obtain ⟨hg, h⟩ := mt_gd h
  refine ov_t (ov_K hp hg) ?_
  obtain ⟨S1, e1, h⟩ := mt_ob h
  obtain ⟨o_, hp⟩ := ov_X6_fill hp e1
  refine ov_b o_ ?_
  exact ov_X6_countGreatest_L9 1000 _ _ _ _ _ hp h
def f_X6_has (x0 : Nat) (x1 : Int32) (S : mt_S) : Option (Int32 × mt_S) :=
  if mt_isK S x0 6 = true then
   if x1 < 0 then
    some (0, S)
   else
    Option.bind (mt_rI S x0 6 5) fun v1 =>
    if v1 ≤ x1 then
     some (0, S)
    else
     some (1, S)
  else none
theorem k_X6_has {x0 : Nat} {x1 : Int32} {S : mt_S} {r : Int32} {S' : mt_S} (h : f_X6_has x0 x1 S = some (r, S')) : mt_isK S x0 6 = true := by
  unfold f_X6_has at h
  exact (mt_gd h).1
set_option maxHeartbeats 4000000 in
set_option maxRecDepth 100000 in
theorem m_X6_has {B : mt_B}  {x0 : Nat} {x1 : Int32} {S : mt_S} {r : Int32} {S' : mt_S} (h : f_X6_has x0 x1 S = some (r, S')) : mt_M B yX6_has cX6_has 2 (some .boolean) 1 [mt_rf B x0, .int x1] S (some (.int r)) S' := by
  unfold f_X6_has at h
  refine mt_M.of (by decide) (Nat.le_of_ble_eq_true rfl) (fun E hC hE => ?_)
  obtain ⟨hk0, h⟩ := mt_gd h
  refine go_iload_n hC 1 dX6_has_0 rfl rfl ?_
  refine go_if_lt hC (tgt := 16) dX6_has_1 (by decide) (fun hc => ?_) (fun hc => ?_)
  · have h := mt_ip h hc
    refine go_iconst (v := 0) hC dX6_has_16 (by decide) ?_
    exact go_zret hC (mt_rei h hE) (Or.inl rfl) dX6_has_17
  · have h := mt_in' h hc
    refine go_iload_n hC 1 dX6_has_4 rfl rfl ?_
    refine go_aload_n hC 0 dX6_has_5 rfl rfl ?_
    obtain ⟨v1, e1, h⟩ := mt_ob h
    refine go_getI hC mt_flX6_28 e1 dX6_has_6 ?_
    refine go_icmp_ge hC (tgt := 16) dX6_has_9 (by decide) (fun hc => ?_) (fun hc => ?_)
    · have h := mt_ip h hc
      refine go_iconst (v := 0) hC dX6_has_16 (by decide) ?_
      exact go_zret hC (mt_rei h hE) (Or.inl rfl) dX6_has_17
    · have h := mt_in' h hc
      refine go_iconst (v := 1) hC dX6_has_12 (by decide) ?_
      refine go_goto hC (tgt := 17) dX6_has_13 (by decide) ?_
      exact go_zret hC (mt_rei h hE) (Or.inr rfl) dX6_has_17
set_option maxHeartbeats 4000000 in
set_option maxRecDepth 100000 in
theorem ov_X6_has {T : mt_S}  {x0 : Nat} {x1 : Int32} {S : mt_S} {r : Int32} {S' : mt_S} (hp : mt_cp S T) (h : f_X6_has x0 x1 S = some (r, S')) : f_X6_has x0 x1 (mt_ov S T) = some (r, mt_ov S' T) ∧ mt_cp S' T := by
  unfold f_X6_has at h ⊢
  obtain ⟨hg, h⟩ := mt_gd h
  refine ov_t (ov_K hp hg) ?_
  by_cases hc : x1 < 0
  · have h := mt_ip h hc
    refine ov_t hc ?_
    exact ov_ret hp h
  · have h := mt_in' h hc
    refine ov_f hc ?_
    obtain ⟨v1, e1, h⟩ := mt_ob h
    refine ov_b (ov_rI hp e1) ?_
    by_cases hc : v1 ≤ x1
    · have h := mt_ip h hc
      refine ov_t hc ?_
      exact ov_ret hp h
    · have h := mt_in' h hc
      refine ov_f hc ?_
      exact ov_ret hp h
def f_X6_leastAt (x0 : Nat) (x1 : Int32) (S : mt_S) : Option (Int64 × mt_S) :=
  if mt_isK S x0 6 = true then
   mt_b2 (f_X6_has x0 x1 S) fun v2 S1 =>
   if v2 = 0 then
    some ((-1), S1)
   else
    Option.bind (mt_rR S1 x0 6 0) fun v3 =>
    Option.bind (mt_aL S1 v3 x1) fun v4 =>
    some (v4, S1)
  else none
theorem k_X6_leastAt {x0 : Nat} {x1 : Int32} {S : mt_S} {r : Int64} {S' : mt_S} (h : f_X6_leastAt x0 x1 S = some (r, S')) : mt_isK S x0 6 = true := by
  unfold f_X6_leastAt at h
  exact (mt_gd h).1
set_option maxHeartbeats 4000000 in
set_option maxRecDepth 100000 in
theorem m_X6_leastAt {B : mt_B}  {x0 : Nat} {x1 : Int32} {S : mt_S} {r : Int64} {S' : mt_S} (h : f_X6_leastAt x0 x1 S = some (r, S')) : mt_M B yX6_leastAt cX6_leastAt 2 (some .long) 2 [mt_rf B x0, .int x1] S (some (.long r)) S' := by
  unfold f_X6_leastAt at h
  refine mt_M.of (by decide) (Nat.le_of_ble_eq_true rfl) (fun E hC hE => ?_)
  obtain ⟨hk0, h⟩ := mt_gd h
  refine go_aload_n hC 0 dX6_leastAt_0 rfl rfl ?_
  refine go_iload_n hC 1 dX6_leastAt_1 rfl rfl ?_
  obtain ⟨v2, S1, e2, h⟩ := mt_ob2 h
  refine go_callVi hC [.int x1] [] (m_X6_has e2) mt_cvX6_48 (k_X6_has e2) dX6_leastAt_2 rfl rfl (by decide) (Nat.le_of_ble_eq_true rfl) ⟨Nat.le_refl _, Nat.le_refl _⟩ ?_
  refine go_if_eq hC (tgt := 17) dX6_leastAt_5 (by decide) (fun hc => ?_) (fun hc => ?_)
  · have h := mt_ip h hc
    refine go_ldc2 hC dX6_leastAt_17 mt_kX6_38 ?_
    exact go_lret hC (mt_rel h hE) dX6_leastAt_20
  · have h := mt_in' h hc
    refine go_aload_n hC 0 dX6_leastAt_8 rfl rfl ?_
    obtain ⟨v3, e3, h⟩ := mt_ob h
    refine go_getR hC mt_flX6_11 e3 dX6_leastAt_9 ?_
    refine go_iload_n hC 1 dX6_leastAt_12 rfl rfl ?_
    obtain ⟨v4, e4, h⟩ := mt_ob h
    refine go_lald hC e4 dX6_leastAt_13 ?_
    refine go_goto hC (tgt := 20) dX6_leastAt_14 (by decide) ?_
    exact go_lret hC (mt_rel h hE) dX6_leastAt_20
set_option maxHeartbeats 4000000 in
set_option maxRecDepth 100000 in
theorem ov_X6_leastAt {T : mt_S}  {x0 : Nat} {x1 : Int32} {S : mt_S} {r : Int64} {S' : mt_S} (hp : mt_cp S T) (h : f_X6_leastAt x0 x1 S = some (r, S')) : f_X6_leastAt x0 x1 (mt_ov S T) = some (r, mt_ov S' T) ∧ mt_cp S' T := by
  unfold f_X6_leastAt at h ⊢
  obtain ⟨hg, h⟩ := mt_gd h
  refine ov_t (ov_K hp hg) ?_
  obtain ⟨v2, S1, e2, h⟩ := mt_ob2 h
  obtain ⟨o_, hp⟩ := ov_X6_has hp e2
  refine ov_b2 o_ ?_
  by_cases hc : v2 = 0
  · have h := mt_ip h hc
    refine ov_t hc ?_
    exact ov_ret hp h
  · have h := mt_in' h hc
    refine ov_f hc ?_
    obtain ⟨v3, e3, h⟩ := mt_ob h
    refine ov_b (ov_rR hp e3) ?_
    obtain ⟨v4, e4, h⟩ := mt_ob h
    refine ov_b (ov_aL hp e4) ?_
    exact ov_ret hp h
def f_X6_middleAt (x0 : Nat) (x1 : Int32) (S : mt_S) : Option (Int64 × mt_S) :=
  if mt_isK S x0 6 = true then
   mt_b2 (f_X6_has x0 x1 S) fun v2 S1 =>
   if v2 = 0 then
    some ((-1), S1)
   else
    Option.bind (mt_rR S1 x0 6 1) fun v3 =>
    Option.bind (mt_aL S1 v3 x1) fun v4 =>
    some (v4, S1)
  else none
theorem k_X6_middleAt {x0 : Nat} {x1 : Int32} {S : mt_S} {r : Int64} {S' : mt_S} (h : f_X6_middleAt x0 x1 S = some (r, S')) : mt_isK S x0 6 = true := by
  unfold f_X6_middleAt at h
  exact (mt_gd h).1
set_option maxHeartbeats 4000000 in
set_option maxRecDepth 100000 in
theorem m_X6_middleAt {B : mt_B}  {x0 : Nat} {x1 : Int32} {S : mt_S} {r : Int64} {S' : mt_S} (h : f_X6_middleAt x0 x1 S = some (r, S')) : mt_M B yX6_middleAt cX6_middleAt 2 (some .long) 2 [mt_rf B x0, .int x1] S (some (.long r)) S' := by
  unfold f_X6_middleAt at h
  refine mt_M.of (by decide) (Nat.le_of_ble_eq_true rfl) (fun E hC hE => ?_)
  obtain ⟨hk0, h⟩ := mt_gd h
  refine go_aload_n hC 0 dX6_middleAt_0 rfl rfl ?_
  refine go_iload_n hC 1 dX6_middleAt_1 rfl rfl ?_
  obtain ⟨v2, S1, e2, h⟩ := mt_ob2 h
  refine go_callVi hC [.int x1] [] (m_X6_has e2) mt_cvX6_48 (k_X6_has e2) dX6_middleAt_2 rfl rfl (by decide) (Nat.le_of_ble_eq_true rfl) ⟨Nat.le_refl _, Nat.le_refl _⟩ ?_
  refine go_if_eq hC (tgt := 17) dX6_middleAt_5 (by decide) (fun hc => ?_) (fun hc => ?_)
  · have h := mt_ip h hc
    refine go_ldc2 hC dX6_middleAt_17 mt_kX6_38 ?_
    exact go_lret hC (mt_rel h hE) dX6_middleAt_20
  · have h := mt_in' h hc
    refine go_aload_n hC 0 dX6_middleAt_8 rfl rfl ?_
    obtain ⟨v3, e3, h⟩ := mt_ob h
    refine go_getR hC mt_flX6_15 e3 dX6_middleAt_9 ?_
    refine go_iload_n hC 1 dX6_middleAt_12 rfl rfl ?_
    obtain ⟨v4, e4, h⟩ := mt_ob h
    refine go_lald hC e4 dX6_middleAt_13 ?_
    refine go_goto hC (tgt := 20) dX6_middleAt_14 (by decide) ?_
    exact go_lret hC (mt_rel h hE) dX6_middleAt_20
set_option maxHeartbeats 4000000 in
set_option maxRecDepth 100000 in
theorem ov_X6_middleAt {T : mt_S}  {x0 : Nat} {x1 : Int32} {S : mt_S} {r : Int64} {S' : mt_S} (hp : mt_cp S T) (h : f_X6_middleAt x0 x1 S = some (r, S')) : f_X6_middleAt x0 x1 (mt_ov S T) = some (r, mt_ov S' T) ∧ mt_cp S' T := by
  unfold f_X6_middleAt at h ⊢
  obtain ⟨hg, h⟩ := mt_gd h
  refine ov_t (ov_K hp hg) ?_
  obtain ⟨v2, S1, e2, h⟩ := mt_ob2 h
  obtain ⟨o_, hp⟩ := ov_X6_has hp e2
  refine ov_b2 o_ ?_
  by_cases hc : v2 = 0
  · have h := mt_ip h hc
    refine ov_t hc ?_
    exact ov_ret hp h
  · have h := mt_in' h hc
    refine ov_f hc ?_
    obtain ⟨v3, e3, h⟩ := mt_ob h
    refine ov_b (ov_rR hp e3) ?_
    obtain ⟨v4, e4, h⟩ := mt_ob h
    refine ov_b (ov_aL hp e4) ?_
    exact ov_ret hp h
def f_X6_stepsDownAt (x0 : Nat) (x1 : Int32) (S : mt_S) : Option (Int32 × mt_S) :=
  if mt_isK S x0 6 = true then
   mt_b2 (f_X6_has x0 x1 S) fun v2 S1 =>
   if v2 = 0 then
    some ((-1), S1)
   else
    Option.bind (mt_rR S1 x0 6 3) fun v3 =>
    Option.bind (mt_aI S1 v3 13 x1) fun v4 =>
    some (v4, S1)
  else none
theorem k_X6_stepsDownAt {x0 : Nat} {x1 : Int32} {S : mt_S} {r : Int32} {S' : mt_S} (h : f_X6_stepsDownAt x0 x1 S = some (r, S')) : mt_isK S x0 6 = true := by
  unfold f_X6_stepsDownAt at h
  exact (mt_gd h).1
set_option maxHeartbeats 4000000 in
set_option maxRecDepth 100000 in
theorem m_X6_stepsDownAt {B : mt_B}  {x0 : Nat} {x1 : Int32} {S : mt_S} {r : Int32} {S' : mt_S} (h : f_X6_stepsDownAt x0 x1 S = some (r, S')) : mt_M B yX6_stepsDownAt cX6_stepsDownAt 2 (some .int) 2 [mt_rf B x0, .int x1] S (some (.int r)) S' := by
  unfold f_X6_stepsDownAt at h
  refine mt_M.of (by decide) (Nat.le_of_ble_eq_true rfl) (fun E hC hE => ?_)
  obtain ⟨hk0, h⟩ := mt_gd h
  refine go_aload_n hC 0 dX6_stepsDownAt_0 rfl rfl ?_
  refine go_iload_n hC 1 dX6_stepsDownAt_1 rfl rfl ?_
  obtain ⟨v2, S1, e2, h⟩ := mt_ob2 h
  refine go_callVi hC [.int x1] [] (m_X6_has e2) mt_cvX6_48 (k_X6_has e2) dX6_stepsDownAt_2 rfl rfl (by decide) (Nat.le_of_ble_eq_true rfl) ⟨Nat.le_refl _, Nat.le_refl _⟩ ?_
  refine go_if_eq hC (tgt := 17) dX6_stepsDownAt_5 (by decide) (fun hc => ?_) (fun hc => ?_)
  · have h := mt_ip h hc
    refine go_iconst (v := (-1)) hC dX6_stepsDownAt_17 (by decide) ?_
    exact go_iret hC (mt_rei h hE) dX6_stepsDownAt_18
  · have h := mt_in' h hc
    refine go_aload_n hC 0 dX6_stepsDownAt_8 rfl rfl ?_
    obtain ⟨v3, e3, h⟩ := mt_ob h
    refine go_getR hC mt_flX6_21 e3 dX6_stepsDownAt_9 ?_
    refine go_iload_n hC 1 dX6_stepsDownAt_12 rfl rfl ?_
    obtain ⟨v4, e4, h⟩ := mt_ob h
    refine go_iald hC e4 dX6_stepsDownAt_13 ?_
    refine go_goto hC (tgt := 18) dX6_stepsDownAt_14 (by decide) ?_
    exact go_iret hC (mt_rei h hE) dX6_stepsDownAt_18
set_option maxHeartbeats 4000000 in
set_option maxRecDepth 100000 in
theorem ov_X6_stepsDownAt {T : mt_S}  {x0 : Nat} {x1 : Int32} {S : mt_S} {r : Int32} {S' : mt_S} (hp : mt_cp S T) (h : f_X6_stepsDownAt x0 x1 S = some (r, S')) : f_X6_stepsDownAt x0 x1 (mt_ov S T) = some (r, mt_ov S' T) ∧ mt_cp S' T := by
  unfold f_X6_stepsDownAt at h ⊢
  obtain ⟨hg, h⟩ := mt_gd h
  refine ov_t (ov_K hp hg) ?_
  obtain ⟨v2, S1, e2, h⟩ := mt_ob2 h
  obtain ⟨o_, hp⟩ := ov_X6_has hp e2
  refine ov_b2 o_ ?_
  by_cases hc : v2 = 0
  · have h := mt_ip h hc
    refine ov_t hc ?_
    exact ov_ret hp h
  · have h := mt_in' h hc
    refine ov_f hc ?_
    obtain ⟨v3, e3, h⟩ := mt_ob h
    refine ov_b (ov_rR hp e3) ?_
    obtain ⟨v4, e4, h⟩ := mt_ob h
    refine ov_b (ov_aI hp e4) ?_
    exact ov_ret hp h
def f_X8_at (x0 : Nat) (x1 : Int32) (S : mt_S) : Option (Int32 × mt_S) :=
  if mt_isK S x0 8 = true then
   if x1 < 0 then
    some ((-1), S)
   else
    Option.bind (mt_rI S x0 8 2) fun v1 =>
    if v1 ≤ x1 then
     some ((-1), S)
    else
     Option.bind (mt_rR S x0 8 0) fun v2 =>
     Option.bind (mt_aI S v2 12 x1) fun v3 =>
     some (v3, S)
  else none
theorem k_X8_at {x0 : Nat} {x1 : Int32} {S : mt_S} {r : Int32} {S' : mt_S} (h : f_X8_at x0 x1 S = some (r, S')) : mt_isK S x0 8 = true := by
  unfold f_X8_at at h
  exact (mt_gd h).1
set_option maxHeartbeats 4000000 in
set_option maxRecDepth 100000 in
theorem m_X8_at {B : mt_B}  {x0 : Nat} {x1 : Int32} {S : mt_S} {r : Int32} {S' : mt_S} (h : f_X8_at x0 x1 S = some (r, S')) : mt_M B yX8_at cX8_at 2 (some .int) 1 [mt_rf B x0, .int x1] S (some (.int r)) S' := by
  unfold f_X8_at at h
  refine mt_M.of (by decide) (Nat.le_of_ble_eq_true rfl) (fun E hC hE => ?_)
  obtain ⟨hk0, h⟩ := mt_gd h
  refine go_iload_n hC 1 dX8_at_0 rfl rfl ?_
  refine go_if_lt hC (tgt := 21) dX8_at_1 (by decide) (fun hc => ?_) (fun hc => ?_)
  · have h := mt_ip h hc
    refine go_iconst (v := (-1)) hC dX8_at_21 (by decide) ?_
    exact go_iret hC (mt_rei h hE) dX8_at_22
  · have h := mt_in' h hc
    refine go_iload_n hC 1 dX8_at_4 rfl rfl ?_
    refine go_aload_n hC 0 dX8_at_5 rfl rfl ?_
    obtain ⟨v1, e1, h⟩ := mt_ob h
    refine go_getI hC mt_flX8_22 e1 dX8_at_6 ?_
    refine go_icmp_ge hC (tgt := 21) dX8_at_9 (by decide) (fun hc => ?_) (fun hc => ?_)
    · have h := mt_ip h hc
      refine go_iconst (v := (-1)) hC dX8_at_21 (by decide) ?_
      exact go_iret hC (mt_rei h hE) dX8_at_22
    · have h := mt_in' h hc
      refine go_aload_n hC 0 dX8_at_12 rfl rfl ?_
      obtain ⟨v2, e2, h⟩ := mt_ob h
      refine go_getR hC mt_flX8_11 e2 dX8_at_13 ?_
      refine go_iload_n hC 1 dX8_at_16 rfl rfl ?_
      obtain ⟨v3, e3, h⟩ := mt_ob h
      refine go_bald hC e3 dX8_at_17 ?_
      refine go_goto hC (tgt := 22) dX8_at_18 (by decide) ?_
      exact go_iret hC (mt_rei h hE) dX8_at_22
set_option maxHeartbeats 4000000 in
set_option maxRecDepth 100000 in
theorem ov_X8_at {T : mt_S}  {x0 : Nat} {x1 : Int32} {S : mt_S} {r : Int32} {S' : mt_S} (hp : mt_cp S T) (h : f_X8_at x0 x1 S = some (r, S')) : f_X8_at x0 x1 (mt_ov S T) = some (r, mt_ov S' T) ∧ mt_cp S' T := by
  unfold f_X8_at at h ⊢
  obtain ⟨hg, h⟩ := mt_gd h
  refine ov_t (ov_K hp hg) ?_
  by_cases hc : x1 < 0
  · have h := mt_ip h hc
    refine ov_t hc ?_
    exact ov_ret hp h
  · have h := mt_in' h hc
    refine ov_f hc ?_
    obtain ⟨v1, e1, h⟩ := mt_ob h
    refine ov_b (ov_rI hp e1) ?_
    by_cases hc : v1 ≤ x1
    · have h := mt_ip h hc
      refine ov_t hc ?_
      exact ov_ret hp h
    · have h := mt_in' h hc
      refine ov_f hc ?_
      obtain ⟨v2, e2, h⟩ := mt_ob h
      refine ov_b (ov_rR hp e2) ?_
      obtain ⟨v3, e3, h⟩ := mt_ob h
      refine ov_b (ov_aI hp e3) ?_
      exact ov_ret hp h
def f_X8_goOn_L3s (rc : Nat → Int32 → Int32 → Int32 → Int32 → mt_S → Option (Int32 × mt_S)) (x0 : Nat) (x1 : Int32) (x2 : Int32) (x3 : Int32) (x4 : Int32) (S : mt_S) : Option (Int32 × mt_S) :=
  if 22 ≤ x4 then
   some (x4, S)
  else
   Option.bind (mt_rR S x0 8 1) fun v1 =>
   mt_b2 (f_X4_sideOf v1 x2 x3 S) fun v3 S2 =>
   if v3 = x1 then
    Option.bind (mt_rR S2 x0 8 1) fun v4 =>
    mt_b2 (f_X4_stepToSide v4 x1 S2) fun v6 S5 =>
    if v6 = 0 then
     some (x4, S5)
    else
     rc x0 x1 x2 x3 (x4 + 1) S5
   else
    some (x4, S2)
def f_X8_goOn_L3 : Nat → Nat → Int32 → Int32 → Int32 → Int32 → mt_S → Option (Int32 × mt_S)
  | 0 => fun _ _ _ _ _ _ => none
  | n + 1 => f_X8_goOn_L3s (f_X8_goOn_L3 n)
set_option maxHeartbeats 4000000 in
set_option maxRecDepth 100000 in
theorem m_X8_goOn_L3 {B : mt_B} {E : mt_E} {r : Int32} {S' : mt_S} (hC : mt_Cx B E cX8_goOn RX8 (some .int) 5 5 0 0) (hE : mt_End B E (0, 0) (some (.int r)) S') : ∀ (n : Nat) (x0 : Nat) (x1 : Int32) (x2 : Int32) (x3 : Int32) (x4 : Int32) (S : mt_S), f_X8_goOn_L3 n x0 x1 x2 x3 x4 S = some (r, S') → mt_Go B E (0, 0) S 3 [(0, mt_rf B x0), (1, .int x1), (2, .int x2), (3, .int x3), (4, .int x4)] [] := by
  intro n
  induction n with
  | zero =>
    intro x0 x1 x2 x3 x4 S h
    cases h
  | succ n ih =>
    intro x0 x1 x2 x3 x4 S h
    have h : f_X8_goOn_L3s (f_X8_goOn_L3 n) x0 x1 x2 x3 x4 S = some (r, S') := h
    unfold f_X8_goOn_L3s at h
    refine go_iload hC 4 dX8_goOn_3 rfl ?_
    refine go_bipush (v := 22) hC dX8_goOn_5 (by decide) ?_
    refine go_icmp_ge hC (tgt := 40) dX8_goOn_7 (by decide) (fun hc => ?_) (fun hc => ?_)
    · have h := mt_ip h hc
      refine go_iload hC 4 dX8_goOn_40 rfl ?_
      exact go_iret hC (mt_rei h hE) dX8_goOn_42
    · have h := mt_in' h hc
      refine go_aload_n hC 0 dX8_goOn_10 rfl rfl ?_
      obtain ⟨v1, e1, h⟩ := mt_ob h
      refine go_getR hC mt_flX8_18 e1 dX8_goOn_11 ?_
      refine go_iload_n hC 2 dX8_goOn_14 rfl rfl ?_
      refine go_iload_n hC 3 dX8_goOn_15 rfl rfl ?_
      obtain ⟨v3, S2, e3, h⟩ := mt_ob2 h
      refine go_callVi hC [.int x2, .int x3] [] (m_X4_sideOf e3) mt_cvX8_33 (k_X4_sideOf e3) dX8_goOn_16 rfl rfl (by decide) (Nat.le_of_ble_eq_true rfl) ⟨Nat.le_refl _, Nat.le_refl _⟩ ?_
      refine go_iload_n hC 1 dX8_goOn_19 rfl rfl ?_
      refine go_icmp_ne hC (tgt := 40) dX8_goOn_20 (by decide) (fun hc => ?_) (fun hc => ?_)
      · have h := mt_in' h hc
        refine go_iload hC 4 dX8_goOn_40 rfl ?_
        exact go_iret hC (mt_rei h hE) dX8_goOn_42
      · have h := mt_ip h hc
        refine go_aload_n hC 0 dX8_goOn_23 rfl rfl ?_
        obtain ⟨v4, e4, h⟩ := mt_ob h
        refine go_getR hC mt_flX8_18 e4 dX8_goOn_24 ?_
        refine go_iload_n hC 1 dX8_goOn_27 rfl rfl ?_
        obtain ⟨v6, S5, e6, h⟩ := mt_ob2 h
        refine go_callVi hC [.int x1] [] (m_X4_stepToSide e6) mt_cvX8_48 (k_X4_stepToSide e6) dX8_goOn_28 rfl rfl (by decide) (Nat.le_of_ble_eq_true rfl) ⟨Nat.le_refl _, Nat.le_refl _⟩ ?_
        refine go_if_eq hC (tgt := 40) dX8_goOn_31 (by decide) (fun hc => ?_) (fun hc => ?_)
        · have h := mt_ip h hc
          refine go_iload hC 4 dX8_goOn_40 rfl ?_
          exact go_iret hC (mt_rei h hE) dX8_goOn_42
        · have h := mt_in' h hc
          refine go_iinc hC 4 [1, 2, 3, 4, 0] (v := x4 + 1) (lv1 := [(0, mt_rf B x0), (1, .int x1), (2, .int x2), (3, .int x3), (4, .int (x4 + 1))]) dX8_goOn_34 rfl rfl (by decide) rfl ?_
          refine go_goto hC (tgt := 3) dX8_goOn_37 (by decide) ?_
          exact ih _ _ _ _ _ _ h
set_option maxHeartbeats 4000000 in
set_option maxRecDepth 100000 in
theorem ov_X8_goOn_L3 {T : mt_S} {r : Int32} {S' : mt_S} : ∀ (n : Nat) (x0 : Nat) (x1 : Int32) (x2 : Int32) (x3 : Int32) (x4 : Int32) (S : mt_S), mt_cp S T → f_X8_goOn_L3 n x0 x1 x2 x3 x4 S = some (r, S') → f_X8_goOn_L3 n x0 x1 x2 x3 x4 (mt_ov S T) = some (r, mt_ov S' T) ∧ mt_cp S' T := by
  intro n
  induction n with
  | zero =>
    intro x0 x1 x2 x3 x4 S hp h
    cases h
  | succ n ih =>
    intro x0 x1 x2 x3 x4 S hp h
    have h : f_X8_goOn_L3s (f_X8_goOn_L3 n) x0 x1 x2 x3 x4 S = some (r, S') := h
    show f_X8_goOn_L3s (f_X8_goOn_L3 n) x0 x1 x2 x3 x4 (mt_ov S T) = some (r, mt_ov S' T) ∧ mt_cp S' T
    unfold f_X8_goOn_L3s at h ⊢
    by_cases hc : 22 ≤ x4
    · have h := mt_ip h hc
      refine ov_t hc ?_
      exact ov_ret hp h
    · have h := mt_in' h hc
      refine ov_f hc ?_
      obtain ⟨v1, e1, h⟩ := mt_ob h
      refine ov_b (ov_rR hp e1) ?_
      obtain ⟨v3, S2, e3, h⟩ := mt_ob2 h
      obtain ⟨o_, hp⟩ := ov_X4_sideOf hp e3
      refine ov_b2 o_ ?_
      by_cases hc : v3 = x1
      · have h := mt_ip h hc
        refine ov_t hc ?_
        obtain ⟨v4, e4, h⟩ := mt_ob h
        refine ov_b (ov_rR hp e4) ?_
        obtain ⟨v6, S5, e6, h⟩ := mt_ob2 h
        obtain ⟨o_, hp⟩ := ov_X4_stepToSide hp e6
        refine ov_b2 o_ ?_
        by_cases hc : v6 = 0
        · have h := mt_ip h hc
          refine ov_t hc ?_
          exact ov_ret hp h
        · have h := mt_in' h hc
          refine ov_f hc ?_
          exact ih _ _ _ _ _ _ hp h
      · have h := mt_in' h hc
        refine ov_f hc ?_
        exact ov_ret hp h
def f_X8_goOn (x0 : Nat) (x1 : Int32) (x2 : Int32) (x3 : Int32) (S : mt_S) : Option (Int32 × mt_S) :=
  if mt_isK S x0 8 = true then
   f_X8_goOn_L3 1000 x0 x1 x2 x3 0 S
  else none
theorem k_X8_goOn {x0 : Nat} {x1 : Int32} {x2 : Int32} {x3 : Int32} {S : mt_S} {r : Int32} {S' : mt_S} (h : f_X8_goOn x0 x1 x2 x3 S = some (r, S')) : mt_isK S x0 8 = true := by
  unfold f_X8_goOn at h
  exact (mt_gd h).1
set_option maxHeartbeats 4000000 in
set_option maxRecDepth 100000 in
theorem m_X8_goOn {B : mt_B}  {x0 : Nat} {x1 : Int32} {x2 : Int32} {x3 : Int32} {S : mt_S} {r : Int32} {S' : mt_S} (h : f_X8_goOn x0 x1 x2 x3 S = some (r, S')) : mt_M B yX8_goOn cX8_goOn 5 (some .int) 5 [mt_rf B x0, .int x1, .int x2, .int x3] S (some (.int r)) S' := by
  unfold f_X8_goOn at h
  refine mt_M.of (by decide) (Nat.le_of_ble_eq_true rfl) (fun E hC hE => ?_)
  obtain ⟨hk0, h⟩ := mt_gd h
  refine go_iconst (v := 0) hC dX8_goOn_0 (by decide) ?_
  refine go_istore hC [1, 2, 3, 4, 0] (lv1 := [(0, mt_rf B x0), (1, .int x1), (2, .int x2), (3, .int x3), (4, .int 0)]) dX8_goOn_1 (by decide) rfl ?_
  exact m_X8_goOn_L3 hC hE 1000 _ _ _ _ _ _ h
set_option maxHeartbeats 4000000 in
set_option maxRecDepth 100000 in
theorem ov_X8_goOn {T : mt_S}  {x0 : Nat} {x1 : Int32} {x2 : Int32} {x3 : Int32} {S : mt_S} {r : Int32} {S' : mt_S} (hp : mt_cp S T) (h : f_X8_goOn x0 x1 x2 x3 S = some (r, S')) : f_X8_goOn x0 x1 x2 x3 (mt_ov S T) = some (r, mt_ov S' T) ∧ mt_cp S' T := by
  unfold f_X8_goOn at h ⊢
  obtain ⟨hg, h⟩ := mt_gd h
  refine ov_t (ov_K hp hg) ?_
  exact ov_X8_goOn_L3 1000 _ _ _ _ _ _ hp h
def f_X8_put (x0 : Nat) (x1 : Int32) (S : mt_S) : Option (mt_S) :=
  if mt_isK S x0 8 = true then
   Option.bind (mt_rI S x0 8 2) fun v1 =>
   if 44 ≤ v1 then
    some S
   else
    Option.bind (mt_rR S x0 8 0) fun v2 =>
    Option.bind (mt_rI S x0 8 2) fun v3 =>
    Option.bind (mt_sI S v2 12 v3 (vp_nar .byte x1.toInt8.toInt32)) fun S4 =>
    Option.bind (mt_rI S4 x0 8 2) fun v5 =>
    Option.bind (mt_wI S4 x0 8 2 (v5 + 1)) fun S6 =>
    some S6
  else none
theorem k_X8_put {x0 : Nat} {x1 : Int32} {S : mt_S} {S' : mt_S} (h : f_X8_put x0 x1 S = some S') : mt_isK S x0 8 = true := by
  unfold f_X8_put at h
  exact (mt_gd h).1
set_option maxHeartbeats 4000000 in
set_option maxRecDepth 100000 in
theorem m_X8_put {B : mt_B}  {x0 : Nat} {x1 : Int32} {S : mt_S} {S' : mt_S} (h : f_X8_put x0 x1 S = some S') : mt_M B yX8_put cX8_put 2 none 1 [mt_rf B x0, .int x1] S none S' := by
  unfold f_X8_put at h
  refine mt_M.of (by decide) (Nat.le_of_ble_eq_true rfl) (fun E hC hE => ?_)
  obtain ⟨hk0, h⟩ := mt_gd h
  refine go_aload_n hC 0 dX8_put_0 rfl rfl ?_
  obtain ⟨v1, e1, h⟩ := mt_ob h
  refine go_getI hC mt_flX8_22 e1 dX8_put_1 ?_
  refine go_bipush (v := 44) hC dX8_put_4 (by decide) ?_
  refine go_icmp_ge hC (tgt := 30) dX8_put_6 (by decide) (fun hc => ?_) (fun hc => ?_)
  · have h := mt_ip h hc
    exact go_vret hC (mt_rev h hE) dX8_put_30
  · have h := mt_in' h hc
    refine go_aload_n hC 0 dX8_put_9 rfl rfl ?_
    obtain ⟨v2, e2, h⟩ := mt_ob h
    refine go_getR hC mt_flX8_11 e2 dX8_put_10 ?_
    refine go_aload_n hC 0 dX8_put_13 rfl rfl ?_
    obtain ⟨v3, e3, h⟩ := mt_ob h
    refine go_getI hC mt_flX8_22 e3 dX8_put_14 ?_
    refine go_iload_n hC 1 dX8_put_17 rfl rfl ?_
    refine go_i2b hC dX8_put_18 ?_
    obtain ⟨S4, e4, h⟩ := mt_ob h
    refine go_bast hC e4 dX8_put_19 ?_
    refine go_aload_n hC 0 dX8_put_20 rfl rfl ?_
    refine go_dup hC dX8_put_21 rfl ?_
    obtain ⟨v5, e5, h⟩ := mt_ob h
    refine go_getI hC mt_flX8_22 e5 dX8_put_22 ?_
    refine go_iconst (v := 1) hC dX8_put_25 (by decide) ?_
    refine go_iadd hC dX8_put_26 ?_
    obtain ⟨S6, e6, h⟩ := mt_ob h
    refine go_putI hC mt_flX8_22 e6 dX8_put_27 ?_
    exact go_vret hC (mt_rev h hE) dX8_put_30
set_option maxHeartbeats 4000000 in
set_option maxRecDepth 100000 in
theorem ov_X8_put {T : mt_S}  {x0 : Nat} {x1 : Int32} {S : mt_S} {S' : mt_S} (hp : mt_cp S T) (h : f_X8_put x0 x1 S = some S') : f_X8_put x0 x1 (mt_ov S T) = some (mt_ov S' T) ∧ mt_cp S' T := by
  unfold f_X8_put at h ⊢
  obtain ⟨hg, h⟩ := mt_gd h
  refine ov_t (ov_K hp hg) ?_
  obtain ⟨v1, e1, h⟩ := mt_ob h
  refine ov_b (ov_rI hp e1) ?_
  by_cases hc : 44 ≤ v1
  · have h := mt_ip h hc
    refine ov_t hc ?_
    exact ov_retv hp h
  · have h := mt_in' h hc
    refine ov_f hc ?_
    obtain ⟨v2, e2, h⟩ := mt_ob h
    refine ov_b (ov_rR hp e2) ?_
    obtain ⟨v3, e3, h⟩ := mt_ob h
    refine ov_b (ov_rI hp e3) ?_
    obtain ⟨S4, e4, h⟩ := mt_ob h
    obtain ⟨o_, hp⟩ := ov_sI hp e4
    refine ov_b o_ ?_
    obtain ⟨v5, e5, h⟩ := mt_ob h
    refine ov_b (ov_rI hp e5) ?_
    obtain ⟨S6, e6, h⟩ := mt_ob h
    obtain ⟨o_, hp⟩ := ov_wI hp e6
    refine ov_b o_ ?_
    exact ov_retv hp h
def f_X8_putNumber (x0 : Nat) (x1 : Int32) (S : mt_S) : Option (mt_S) :=
  if mt_isK S x0 8 = true then
   if x1 ≤ 9 then
    Option.bind (f_X8_put x0 (48 + (x1 - x1 / 10 * 10)) S) fun S1 =>
    some S1
   else
    Option.bind (f_X8_put x0 (48 + (x1 / 10)) S) fun S2 =>
    Option.bind (f_X8_put x0 (48 + (x1 - x1 / 10 * 10)) S2) fun S3 =>
    some S3
  else none
theorem k_X8_putNumber {x0 : Nat} {x1 : Int32} {S : mt_S} {S' : mt_S} (h : f_X8_putNumber x0 x1 S = some S') : mt_isK S x0 8 = true := by
  unfold f_X8_putNumber at h
  exact (mt_gd h).1
set_option maxHeartbeats 4000000 in
set_option maxRecDepth 100000 in
theorem m_X8_putNumber {B : mt_B}  {x0 : Nat} {x1 : Int32} {S : mt_S} {S' : mt_S} (h : f_X8_putNumber x0 x1 S = some S') : mt_M B yX8_putNumber cX8_putNumber 2 none 2 [mt_rf B x0, .int x1] S none S' := by
  unfold f_X8_putNumber at h
  refine mt_M.of (by decide) (Nat.le_of_ble_eq_true rfl) (fun E hC hE => ?_)
  obtain ⟨hk0, h⟩ := mt_gd h
  refine go_iload_n hC 1 dX8_putNumber_0 rfl rfl ?_
  refine go_bipush (v := 9) hC dX8_putNumber_1 (by decide) ?_
  refine go_icmp_le hC (tgt := 17) dX8_putNumber_3 (by decide) (fun hc => ?_) (fun hc => ?_)
  · have h := mt_ip h hc
    refine go_aload_n hC 0 dX8_putNumber_17 rfl rfl ?_
    refine go_bipush (v := 48) hC dX8_putNumber_18 (by decide) ?_
    refine go_iload_n hC 1 dX8_putNumber_20 rfl rfl ?_
    refine go_bipush (v := 10) hC dX8_putNumber_21 (by decide) ?_
    refine go_irem hC dX8_putNumber_23 (by decide) ?_
    refine go_iadd hC dX8_putNumber_24 ?_
    obtain ⟨S1, e1, h⟩ := mt_ob h
    refine go_callVv hC [.int (48 + (x1 - x1 / 10 * 10))] [] (m_X8_put e1) mt_cvX8_41 (k_X8_put e1) dX8_putNumber_25 rfl rfl (by decide) (Nat.le_of_ble_eq_true rfl) ⟨Nat.le_refl _, Nat.le_refl _⟩ ?_
    exact go_vret hC (mt_rev h hE) dX8_putNumber_28
  · have h := mt_in' h hc
    refine go_aload_n hC 0 dX8_putNumber_6 rfl rfl ?_
    refine go_bipush (v := 48) hC dX8_putNumber_7 (by decide) ?_
    refine go_iload_n hC 1 dX8_putNumber_9 rfl rfl ?_
    refine go_bipush (v := 10) hC dX8_putNumber_10 (by decide) ?_
    refine go_idiv hC dX8_putNumber_12 (by decide) ?_
    refine go_iadd hC dX8_putNumber_13 ?_
    obtain ⟨S2, e2, h⟩ := mt_ob h
    refine go_callVv hC [.int (48 + (x1 / 10))] [] (m_X8_put e2) mt_cvX8_41 (k_X8_put e2) dX8_putNumber_14 rfl rfl (by decide) (Nat.le_of_ble_eq_true rfl) ⟨Nat.le_refl _, Nat.le_refl _⟩ ?_
    refine go_aload_n hC 0 dX8_putNumber_17 rfl rfl ?_
    refine go_bipush (v := 48) hC dX8_putNumber_18 (by decide) ?_
    refine go_iload_n hC 1 dX8_putNumber_20 rfl rfl ?_
    refine go_bipush (v := 10) hC dX8_putNumber_21 (by decide) ?_
    refine go_irem hC dX8_putNumber_23 (by decide) ?_
    refine go_iadd hC dX8_putNumber_24 ?_
    obtain ⟨S3, e3, h⟩ := mt_ob h
    refine go_callVv hC [.int (48 + (x1 - x1 / 10 * 10))] [] (m_X8_put e3) mt_cvX8_41 (k_X8_put e3) dX8_putNumber_25 rfl rfl (by decide) (Nat.le_of_ble_eq_true rfl) ⟨Nat.le_refl _, Nat.le_refl _⟩ ?_
    exact go_vret hC (mt_rev h hE) dX8_putNumber_28
set_option maxHeartbeats 4000000 in
set_option maxRecDepth 100000 in
theorem ov_X8_putNumber {T : mt_S}  {x0 : Nat} {x1 : Int32} {S : mt_S} {S' : mt_S} (hp : mt_cp S T) (h : f_X8_putNumber x0 x1 S = some S') : f_X8_putNumber x0 x1 (mt_ov S T) = some (mt_ov S' T) ∧ mt_cp S' T := by
  unfold f_X8_putNumber at h ⊢
  obtain ⟨hg, h⟩ := mt_gd h
  refine ov_t (ov_K hp hg) ?_
  by_cases hc : x1 ≤ 9
  · have h := mt_ip h hc
    refine ov_t hc ?_
    obtain ⟨S1, e1, h⟩ := mt_ob h
    obtain ⟨o_, hp⟩ := ov_X8_put hp e1
    refine ov_b o_ ?_
    exact ov_retv hp h
  · have h := mt_in' h hc
    refine ov_f hc ?_
    obtain ⟨S2, e2, h⟩ := mt_ob h
    obtain ⟨o_, hp⟩ := ov_X8_put hp e2
    refine ov_b o_ ?_
    obtain ⟨S3, e3, h⟩ := mt_ob h
    obtain ⟨o_, hp⟩ := ov_X8_put hp e3
    refine ov_b o_ ?_
    exact ov_retv hp h
def f_X8_tell_L14s (rc : Nat → Int32 → Int32 → Int32 → mt_S → Option (Int32 × mt_S)) (x0 : Nat) (x1 : Int32) (x2 : Int32) (x3 : Int32) (S : mt_S) : Option (Int32 × mt_S) :=
  if 22 ≤ x3 then
   Option.bind (mt_rI S x0 8 2) fun v4 =>
   some (v4, S)
  else
   Option.bind (mt_rR S x0 8 1) fun v5 =>
   mt_b2 (f_X4_isAt v5 x1 x2 S) fun v7 S6 =>
   if v7 = 0 then
    Option.bind (mt_rR S6 x0 8 1) fun v9 =>
    mt_b2 (f_X4_sideOf v9 x1 x2 S6) fun v11 S10 =>
    mt_b2 (f_X8_goOn x0 v11 x1 x2 S10) fun v13 S12 =>
    if 0 ≤ v11 then
     Option.bind (f_X8_put x0 114 S12) fun S14 =>
     if v13 ≤ 1 then
      rc x0 x1 x2 (x3 + 1) S14
     else
      Option.bind (f_X8_putNumber x0 v13 S14) fun S15 =>
      rc x0 x1 x2 (x3 + 1) S15
    else
     Option.bind (f_X8_put x0 108 S12) fun S16 =>
     if v13 ≤ 1 then
      rc x0 x1 x2 (x3 + 1) S16
     else
      Option.bind (f_X8_putNumber x0 v13 S16) fun S17 =>
      rc x0 x1 x2 (x3 + 1) S17
   else
    Option.bind (mt_rI S6 x0 8 2) fun v8 =>
    some (v8, S6)
def f_X8_tell_L14 : Nat → Nat → Int32 → Int32 → Int32 → mt_S → Option (Int32 × mt_S)
  | 0 => fun _ _ _ _ _ => none
  | n + 1 => f_X8_tell_L14s (f_X8_tell_L14 n)
set_option maxHeartbeats 4000000 in
set_option maxRecDepth 100000 in
theorem m_X8_tell_L14 {B : mt_B} {E : mt_E} {r : Int32} {S' : mt_S} (hC : mt_Cx B E cX8_tell RX8 (some .int) 6 6 0 0) (hE : mt_End B E (0, 0) (some (.int r)) S') : ∀ (n : Nat) (x0 : Nat) (x1 : Int32) (x2 : Int32) (x3 : Int32) (S : mt_S), f_X8_tell_L14 n x0 x1 x2 x3 S = some (r, S') → mt_Go B E (0, 0) S 14 [(0, mt_rf B x0), (1, .int x1), (2, .int x2), (3, .int x3)] [] := by
  intro n
  induction n with
  | zero =>
    intro x0 x1 x2 x3 S h
    cases h
  | succ n ih =>
    intro x0 x1 x2 x3 S h
    have h : f_X8_tell_L14s (f_X8_tell_L14 n) x0 x1 x2 x3 S = some (r, S') := h
    unfold f_X8_tell_L14s at h
    refine go_iload_n hC 3 dX8_tell_14 rfl rfl ?_
    refine go_bipush (v := 22) hC dX8_tell_15 (by decide) ?_
    refine go_icmp_ge hC (tgt := 87) dX8_tell_17 (by decide) (fun hc => ?_) (fun hc => ?_)
    · have h := mt_ip h hc
      refine go_aload_n hC 0 dX8_tell_87 rfl rfl ?_
      obtain ⟨v4, e4, h⟩ := mt_ob h
      refine go_getI hC mt_flX8_22 e4 dX8_tell_88 ?_
      exact go_iret hC (mt_rei h hE) dX8_tell_91
    · have h := mt_in' h hc
      refine go_aload_n hC 0 dX8_tell_20 rfl rfl ?_
      obtain ⟨v5, e5, h⟩ := mt_ob h
      refine go_getR hC mt_flX8_18 e5 dX8_tell_21 ?_
      refine go_iload_n hC 1 dX8_tell_24 rfl rfl ?_
      refine go_iload_n hC 2 dX8_tell_25 rfl rfl ?_
      obtain ⟨v7, S6, e7, h⟩ := mt_ob2 h
      refine go_callVi hC [.int x1, .int x2] [] (m_X4_isAt e7) mt_cvX8_29 (k_X4_isAt e7) dX8_tell_26 rfl rfl (by decide) (Nat.le_of_ble_eq_true rfl) ⟨Nat.le_refl _, Nat.le_refl _⟩ ?_
      refine go_if_ne hC (tgt := 87) dX8_tell_29 (by decide) (fun hc => ?_) (fun hc => ?_)
      · have h := mt_in' h hc
        refine go_aload_n hC 0 dX8_tell_87 rfl rfl ?_
        obtain ⟨v8, e8, h⟩ := mt_ob h
        refine go_getI hC mt_flX8_22 e8 dX8_tell_88 ?_
        exact go_iret hC (mt_rei h hE) dX8_tell_91
      · have h := mt_ip h hc
        refine go_aload_n hC 0 dX8_tell_32 rfl rfl ?_
        obtain ⟨v9, e9, h⟩ := mt_ob h
        refine go_getR hC mt_flX8_18 e9 dX8_tell_33 ?_
        refine go_iload_n hC 1 dX8_tell_36 rfl rfl ?_
        refine go_iload_n hC 2 dX8_tell_37 rfl rfl ?_
        obtain ⟨v11, S10, e11, h⟩ := mt_ob2 h
        refine go_callVi hC [.int x1, .int x2] [] (m_X4_sideOf e11) mt_cvX8_33 (k_X4_sideOf e11) dX8_tell_38 rfl rfl (by decide) (Nat.le_of_ble_eq_true rfl) ⟨Nat.le_refl _, Nat.le_refl _⟩ ?_
        refine go_istore hC [1, 2, 3, 4, 0] (lv1 := [(0, mt_rf B x0), (1, .int x1), (2, .int x2), (3, .int x3), (4, .int v11)]) dX8_tell_41 (by decide) rfl ?_
        refine go_aload_n hC 0 dX8_tell_43 rfl rfl ?_
        refine go_iload hC 4 dX8_tell_44 rfl ?_
        refine go_iload_n hC 1 dX8_tell_46 rfl rfl ?_
        refine go_iload_n hC 2 dX8_tell_47 rfl rfl ?_
        obtain ⟨v13, S12, e13, h⟩ := mt_ob2 h
        refine go_callVi hC [.int v11, .int x1, .int x2] [] (m_X8_goOn e13) mt_cvX8_37 (k_X8_goOn e13) dX8_tell_48 rfl rfl (by decide) (Nat.le_of_ble_eq_true rfl) ⟨Nat.le_refl _, Nat.le_refl _⟩ ?_
        refine go_istore hC [1, 2, 3, 4, 5, 0] (lv1 := [(0, mt_rf B x0), (1, .int x1), (2, .int x2), (3, .int x3), (4, .int v11), (5, .int v13)]) dX8_tell_51 (by decide) rfl ?_
        refine go_aload_n hC 0 dX8_tell_53 rfl rfl ?_
        refine go_iload hC 4 dX8_tell_54 rfl ?_
        refine go_if_ge hC (tgt := 64) dX8_tell_56 (by decide) (fun hc => ?_) (fun hc => ?_)
        · have h := mt_ip h hc
          refine go_bipush (v := 114) hC dX8_tell_64 (by decide) ?_
          obtain ⟨S14, e14, h⟩ := mt_ob h
          refine go_callVv hC [.int 114] [] (m_X8_put e14) mt_cvX8_41 (k_X8_put e14) dX8_tell_66 rfl rfl (by decide) (Nat.le_of_ble_eq_true rfl) ⟨Nat.le_refl _, Nat.le_refl _⟩ ?_
          refine go_iload hC 5 dX8_tell_69 rfl ?_
          refine go_iconst (v := 1) hC dX8_tell_71 (by decide) ?_
          refine go_icmp_le hC (tgt := 81) dX8_tell_72 (by decide) (fun hc => ?_) (fun hc => ?_)
          · have h := mt_ip h hc
            refine go_iinc hC 3 [1, 2, 3, 0, 4, 5] (v := x3 + 1) (lv1 := [(0, mt_rf B x0), (1, .int x1), (2, .int x2), (3, .int (x3 + 1)), (4, .int v11), (5, .int v13)]) dX8_tell_81 rfl rfl (by decide) rfl ?_
            refine go_goto hC (tgt := 14) dX8_tell_84 (by decide) ?_
            refine go_sub [0, 1, 2, 3] (lv1 := [(0, mt_rf B x0), (1, .int x1), (2, .int x2), (3, .int (x3 + 1))]) rfl ?_
            exact ih _ _ _ _ _ h
          · have h := mt_in' h hc
            refine go_aload_n hC 0 dX8_tell_75 rfl rfl ?_
            refine go_iload hC 5 dX8_tell_76 rfl ?_
            obtain ⟨S15, e15, h⟩ := mt_ob h
            refine go_callVv hC [.int v13] [] (m_X8_putNumber e15) mt_cvX8_45 (k_X8_putNumber e15) dX8_tell_78 rfl rfl (by decide) (Nat.le_of_ble_eq_true rfl) ⟨Nat.le_refl _, Nat.le_refl _⟩ ?_
            refine go_iinc hC 3 [1, 2, 3, 0, 4, 5] (v := x3 + 1) (lv1 := [(0, mt_rf B x0), (1, .int x1), (2, .int x2), (3, .int (x3 + 1)), (4, .int v11), (5, .int v13)]) dX8_tell_81 rfl rfl (by decide) rfl ?_
            refine go_goto hC (tgt := 14) dX8_tell_84 (by decide) ?_
            refine go_sub [0, 1, 2, 3] (lv1 := [(0, mt_rf B x0), (1, .int x1), (2, .int x2), (3, .int (x3 + 1))]) rfl ?_
            exact ih _ _ _ _ _ h
        · have h := mt_in' h hc
          refine go_bipush (v := 108) hC dX8_tell_59 (by decide) ?_
          refine go_goto hC (tgt := 66) dX8_tell_61 (by decide) ?_
          obtain ⟨S16, e16, h⟩ := mt_ob h
          refine go_callVv hC [.int 108] [] (m_X8_put e16) mt_cvX8_41 (k_X8_put e16) dX8_tell_66 rfl rfl (by decide) (Nat.le_of_ble_eq_true rfl) ⟨Nat.le_refl _, Nat.le_refl _⟩ ?_
          refine go_iload hC 5 dX8_tell_69 rfl ?_
          refine go_iconst (v := 1) hC dX8_tell_71 (by decide) ?_
          refine go_icmp_le hC (tgt := 81) dX8_tell_72 (by decide) (fun hc => ?_) (fun hc => ?_)
          · have h := mt_ip h hc
            refine go_iinc hC 3 [1, 2, 3, 0, 4, 5] (v := x3 + 1) (lv1 := [(0, mt_rf B x0), (1, .int x1), (2, .int x2), (3, .int (x3 + 1)), (4, .int v11), (5, .int v13)]) dX8_tell_81 rfl rfl (by decide) rfl ?_
            refine go_goto hC (tgt := 14) dX8_tell_84 (by decide) ?_
            refine go_sub [0, 1, 2, 3] (lv1 := [(0, mt_rf B x0), (1, .int x1), (2, .int x2), (3, .int (x3 + 1))]) rfl ?_
            exact ih _ _ _ _ _ h
          · have h := mt_in' h hc
            refine go_aload_n hC 0 dX8_tell_75 rfl rfl ?_
            refine go_iload hC 5 dX8_tell_76 rfl ?_
            obtain ⟨S17, e17, h⟩ := mt_ob h
            refine go_callVv hC [.int v13] [] (m_X8_putNumber e17) mt_cvX8_45 (k_X8_putNumber e17) dX8_tell_78 rfl rfl (by decide) (Nat.le_of_ble_eq_true rfl) ⟨Nat.le_refl _, Nat.le_refl _⟩ ?_
            refine go_iinc hC 3 [1, 2, 3, 0, 4, 5] (v := x3 + 1) (lv1 := [(0, mt_rf B x0), (1, .int x1), (2, .int x2), (3, .int (x3 + 1)), (4, .int v11), (5, .int v13)]) dX8_tell_81 rfl rfl (by decide) rfl ?_
            refine go_goto hC (tgt := 14) dX8_tell_84 (by decide) ?_
            refine go_sub [0, 1, 2, 3] (lv1 := [(0, mt_rf B x0), (1, .int x1), (2, .int x2), (3, .int (x3 + 1))]) rfl ?_
            exact ih _ _ _ _ _ h
set_option maxHeartbeats 4000000 in
set_option maxRecDepth 100000 in
theorem ov_X8_tell_L14 {T : mt_S} {r : Int32} {S' : mt_S} : ∀ (n : Nat) (x0 : Nat) (x1 : Int32) (x2 : Int32) (x3 : Int32) (S : mt_S), mt_cp S T → f_X8_tell_L14 n x0 x1 x2 x3 S = some (r, S') → f_X8_tell_L14 n x0 x1 x2 x3 (mt_ov S T) = some (r, mt_ov S' T) ∧ mt_cp S' T := by
  intro n
  induction n with
  | zero =>
    intro x0 x1 x2 x3 S hp h
    cases h
  | succ n ih =>
    intro x0 x1 x2 x3 S hp h
    have h : f_X8_tell_L14s (f_X8_tell_L14 n) x0 x1 x2 x3 S = some (r, S') := h
    show f_X8_tell_L14s (f_X8_tell_L14 n) x0 x1 x2 x3 (mt_ov S T) = some (r, mt_ov S' T) ∧ mt_cp S' T
    unfold f_X8_tell_L14s at h ⊢
    by_cases hc : 22 ≤ x3
    · have h := mt_ip h hc
      refine ov_t hc ?_
      obtain ⟨v4, e4, h⟩ := mt_ob h
      refine ov_b (ov_rI hp e4) ?_
      exact ov_ret hp h
    · have h := mt_in' h hc
      refine ov_f hc ?_
      obtain ⟨v5, e5, h⟩ := mt_ob h
      refine ov_b (ov_rR hp e5) ?_
      obtain ⟨v7, S6, e7, h⟩ := mt_ob2 h
      obtain ⟨o_, hp⟩ := ov_X4_isAt hp e7
      refine ov_b2 o_ ?_
      by_cases hc : v7 = 0
      · have h := mt_ip h hc
        refine ov_t hc ?_
        obtain ⟨v9, e9, h⟩ := mt_ob h
        refine ov_b (ov_rR hp e9) ?_
        obtain ⟨v11, S10, e11, h⟩ := mt_ob2 h
        obtain ⟨o_, hp⟩ := ov_X4_sideOf hp e11
        refine ov_b2 o_ ?_
        obtain ⟨v13, S12, e13, h⟩ := mt_ob2 h
        obtain ⟨o_, hp⟩ := ov_X8_goOn hp e13
        refine ov_b2 o_ ?_
        by_cases hc : 0 ≤ v11
        · have h := mt_ip h hc
          refine ov_t hc ?_
          obtain ⟨S14, e14, h⟩ := mt_ob h
          obtain ⟨o_, hp⟩ := ov_X8_put hp e14
          refine ov_b o_ ?_
          by_cases hc : v13 ≤ 1
          · have h := mt_ip h hc
            refine ov_t hc ?_
            exact ih _ _ _ _ _ hp h
          · have h := mt_in' h hc
            refine ov_f hc ?_
            obtain ⟨S15, e15, h⟩ := mt_ob h
            obtain ⟨o_, hp⟩ := ov_X8_putNumber hp e15
            refine ov_b o_ ?_
            exact ih _ _ _ _ _ hp h
        · have h := mt_in' h hc
          refine ov_f hc ?_
          obtain ⟨S16, e16, h⟩ := mt_ob h
          obtain ⟨o_, hp⟩ := ov_X8_put hp e16
          refine ov_b o_ ?_
          by_cases hc : v13 ≤ 1
          · have h := mt_ip h hc
            refine ov_t hc ?_
            exact ih _ _ _ _ _ hp h
          · have h := mt_in' h hc
            refine ov_f hc ?_
            obtain ⟨S17, e17, h⟩ := mt_ob h
            obtain ⟨o_, hp⟩ := ov_X8_putNumber hp e17
            refine ov_b o_ ?_
            exact ih _ _ _ _ _ hp h
      · have h := mt_in' h hc
        refine ov_f hc ?_
        obtain ⟨v8, e8, h⟩ := mt_ob h
        refine ov_b (ov_rI hp e8) ?_
        exact ov_ret hp h
def f_X8_tell (x0 : Nat) (x1 : Int32) (x2 : Int32) (S : mt_S) : Option (Int32 × mt_S) :=
  if mt_isK S x0 8 = true then
   Option.bind (mt_wI S x0 8 2 0) fun S1 =>
   Option.bind (mt_rR S1 x0 8 1) fun v2 =>
   Option.bind (f_X4_goHome v2 S1) fun S3 =>
   f_X8_tell_L14 1000 x0 x1 x2 0 S3
  else none
theorem k_X8_tell {x0 : Nat} {x1 : Int32} {x2 : Int32} {S : mt_S} {r : Int32} {S' : mt_S} (h : f_X8_tell x0 x1 x2 S = some (r, S')) : mt_isK S x0 8 = true := by
  unfold f_X8_tell at h
  exact (mt_gd h).1
set_option maxHeartbeats 4000000 in
set_option maxRecDepth 100000 in
theorem m_X8_tell {B : mt_B}  {x0 : Nat} {x1 : Int32} {x2 : Int32} {S : mt_S} {r : Int32} {S' : mt_S} (h : f_X8_tell x0 x1 x2 S = some (r, S')) : mt_M B yX8_tell cX8_tell 6 (some .int) 6 [mt_rf B x0, .int x1, .int x2] S (some (.int r)) S' := by
  unfold f_X8_tell at h
  refine mt_M.of (by decide) (Nat.le_of_ble_eq_true rfl) (fun E hC hE => ?_)
  obtain ⟨hk0, h⟩ := mt_gd h
  refine go_aload_n hC 0 dX8_tell_0 rfl rfl ?_
  refine go_iconst (v := 0) hC dX8_tell_1 (by decide) ?_
  obtain ⟨S1, e1, h⟩ := mt_ob h
  refine go_putI hC mt_flX8_22 e1 dX8_tell_2 ?_
  refine go_aload_n hC 0 dX8_tell_5 rfl rfl ?_
  obtain ⟨v2, e2, h⟩ := mt_ob h
  refine go_getR hC mt_flX8_18 e2 dX8_tell_6 ?_
  obtain ⟨S3, e3, h⟩ := mt_ob h
  refine go_callVv hC [] [] (m_X4_goHome e3) mt_cvX8_26 (k_X4_goHome e3) dX8_tell_9 rfl rfl (by decide) (Nat.le_of_ble_eq_true rfl) ⟨Nat.le_refl _, Nat.le_refl _⟩ ?_
  refine go_iconst (v := 0) hC dX8_tell_12 (by decide) ?_
  refine go_istore_n hC [1, 2, 3, 0] (lv1 := [(0, mt_rf B x0), (1, .int x1), (2, .int x2), (3, .int 0)]) dX8_tell_13 rfl (by decide) rfl ?_
  exact m_X8_tell_L14 hC hE 1000 _ _ _ _ _ h
set_option maxHeartbeats 4000000 in
set_option maxRecDepth 100000 in
theorem ov_X8_tell {T : mt_S}  {x0 : Nat} {x1 : Int32} {x2 : Int32} {S : mt_S} {r : Int32} {S' : mt_S} (hp : mt_cp S T) (h : f_X8_tell x0 x1 x2 S = some (r, S')) : f_X8_tell x0 x1 x2 (mt_ov S T) = some (r, mt_ov S' T) ∧ mt_cp S' T := by
  unfold f_X8_tell at h ⊢
  obtain ⟨hg, h⟩ := mt_gd h
  refine ov_t (ov_K hp hg) ?_
  obtain ⟨S1, e1, h⟩ := mt_ob h
  obtain ⟨o_, hp⟩ := ov_wI hp e1
  refine ov_b o_ ?_
  obtain ⟨v2, e2, h⟩ := mt_ob h
  refine ov_b (ov_rR hp e2) ?_
  obtain ⟨S3, e3, h⟩ := mt_ob h
  obtain ⟨o_, hp⟩ := ov_X4_goHome hp e3
  refine ov_b o_ ?_
  exact ov_X8_tell_L14 1000 _ _ _ _ _ hp h
