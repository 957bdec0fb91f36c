/-! the law: one turn -/
/-- the script's cell reads v at i -/
def mt_sr (B : mt_B) (E : mt_E) (bs : Nat) (i v : Int32) : Prop := match E with
  | (_, _, _, s, _, _, _, _, _, _, _) => ∃ (L : Nat) (xs : Nat → Int32), va_X bs L xs s s.heap ∧ bs < s.heap.size ∧ ¬ B.2.2.2 ≤ bs ∧ vp_in i L ∧ xs i.toNatClampNeg = v
def mt_sn (B : mt_B) (E : mt_E) (bs : Nat) (n : Int32) : Prop := match E with
  | (_, _, _, s, _, _, _, _, _, _, _) => ∃ (L : Nat) (xs : Nat → Int32), va_X bs L xs s s.heap ∧ bs < s.heap.size ∧ ¬ B.2.2.2 ≤ bs ∧ Int32.ofNat L = n
section mtLaw
variable {B : mt_B} {E : mt_E} {cs : Nat × Nat} {S : mt_S} {pc : Nat} {lv : List (Nat × Value)} {st : List Value} {cc : ByteArray} {own : String} {ret : Option FieldType} {nL d mc ms : Nat}
theorem go_sld (hC : mt_Cx B E cc own ret nL d mc ms) {bs : Nat} {i v : Int32} (hs : mt_sr B E bs i v) (hd : decode cc pc = .ok (.iaload, 1)) (kk : mt_Go B E cs S (pc + 1) lv (.int v :: st)) : mt_Go B E cs S pc lv (.int i :: .ref bs :: st) := by
  obtain ⟨l, D, cA, b⟩ := B
  obtain ⟨p, e, R, s, m, args, below, meth, c0, Q, nL'⟩ := E
  obtain ⟨hx, hb, hml, rfl, hown, hts, hK, hbs, hr, hlk, hrf, hrl, hrc, hrs⟩ := hC
  obtain ⟨L, xs, h1, h2, h3, h4, rfl⟩ := hs
  intro H locs ls hP hS hl
  exact va_sld hx hb h1 h2 h3 hS h4 hd (kk H locs ls hP hS hl)
theorem go_slen (hC : mt_Cx B E cc own ret nL d mc ms) {bs : Nat} {n : Int32} (hs : mt_sn B E bs n) (hd : decode cc pc = .ok (.arraylength, 1)) (kk : mt_Go B E cs S (pc + 1) lv (.int n :: st)) : mt_Go B E cs S pc lv (.ref bs :: st) := by
  obtain ⟨l, D, cA, b⟩ := B
  obtain ⟨p, e, R, s, m, args, below, meth, c0, Q, nL'⟩ := E
  obtain ⟨hx, hb, hml, rfl, hown, hts, hK, hbs, hr, hlk, hrf, hrl, hrc, hrs⟩ := hC
  obtain ⟨L, xs, h1, h2, h3, rfl⟩ := hs
  intro H locs ls hP hS hl
  exact va_slen hx hb h1 h2 h3 hS hd (kk H locs ls hP hS hl)
end mtLaw
def h_triple (x0 : Nat) (x1 : Int32) (ko : Nat) (S : mt_S) : Option (Int32 × mt_S) := match f_X10_triple x0 x1 S with
  | some (r, S1) => Option.bind (mt_sL S1 ko 0 r) fun S2 => some (0, S2)
  | none => Option.bind (x_X10_triple x0 x1 S) fun S1 => some (1, S1)
theorem m_h_triple {B : mt_B} (hl : B.1.stackTraces = false) {x0 ko : Nat} {x1 : Int32} {S S' : mt_S} {r : Int32} (h : h_triple x0 x1 ko S = some (r, S')) : mt_MH B yL_triple cL_triple 4 [(0, 8, 11, 13)] 7 [mt_rf B x0, .int x1, mt_rf B ko] S r S' := by
  unfold h_triple at h
  cases hf : f_X10_triple x0 x1 S with
  | some y =>
    obtain ⟨r1, S1⟩ := y
    rw [hf] at h
    obtain ⟨S2, e2, h⟩ := mt_ob h
    cases h
    exact mh_triple hl hf e2
  | none =>
    rw [hf] at h
    obtain ⟨S1, e1, h⟩ := mt_ob h
    cases h
    exact mhx_triple hl e1
def h_matrix (x0 : Nat) (x1 : Int32) (x2 : Int32) (ko : Nat) (S : mt_S) : Option (Int32 × mt_S) := match f_X10_matrix x0 x1 x2 S with
  | some (r, S1) => Option.bind (mt_sL S1 ko 0 r) fun S2 => some (0, S2)
  | none => Option.bind (x_X10_matrix x0 x1 x2 S) fun S1 => some (1, S1)
theorem m_h_matrix {B : mt_B} (hl : B.1.stackTraces = false) {x0 ko : Nat} {x1 : Int32} {x2 : Int32} {S S' : mt_S} {r : Int32} (h : h_matrix x0 x1 x2 ko S = some (r, S')) : mt_MH B yL_matrix cL_matrix 5 [(0, 9, 12, 13)] 7 [mt_rf B x0, .int x1, .int x2, mt_rf B ko] S r S' := by
  unfold h_matrix at h
  cases hf : f_X10_matrix x0 x1 x2 S with
  | some y =>
    obtain ⟨r1, S1⟩ := y
    rw [hf] at h
    obtain ⟨S2, e2, h⟩ := mt_ob h
    cases h
    exact mh_matrix hl hf e2
  | none =>
    rw [hf] at h
    obtain ⟨S1, e1, h⟩ := mt_ob h
    cases h
    exact mhx_matrix hl e1
def h_form (x0 : Nat) (x1 : Int32) (ko : Nat) (S : mt_S) : Option (Int32 × mt_S) := match f_X10_form x0 x1 S with
  | some (r, S1) => Option.bind (mt_sL S1 ko 0 r) fun S2 => some (0, S2)
  | none => Option.bind (x_X10_form x0 x1 S) fun S1 => some (1, S1)
theorem m_h_form {B : mt_B} (hl : B.1.stackTraces = false) {x0 ko : Nat} {x1 : Int32} {S S' : mt_S} {r : Int32} (h : h_form x0 x1 ko S = some (r, S')) : mt_MH B yL_form cL_form 4 [(0, 8, 11, 13)] 7 [mt_rf B x0, .int x1, mt_rf B ko] S r S' := by
  unfold h_form at h
  cases hf : f_X10_form x0 x1 S with
  | some y =>
    obtain ⟨r1, S1⟩ := y
    rw [hf] at h
    obtain ⟨S2, e2, h⟩ := mt_ob h
    cases h
    exact mh_form hl hf e2
  | none =>
    rw [hf] at h
    obtain ⟨S1, e1, h⟩ := mt_ob h
    cases h
    exact mhx_form hl e1
theorem mt_som {S S' : mt_S} (h : some S = some S') : S = S' := Option.some.inj h
def l_0 (w1 : Int32) (w2 : Int32) (w3 : Int32) (w4 : Int32) (w5 : Int32) (S : mt_S) : Option mt_S :=
  mt_b2 (f_X10_feed 0 w1 w2 w3 w4 w5 S) fun v2 S1 =>
  mt_b2 (f_X11_feed 96 w1 w2 w3 w4 w5 S1) fun v4 S3 =>
  if v2 = v4 then
   some S3
  else
   none
set_option maxHeartbeats 4000000 in
set_option maxRecDepth 100000 in
theorem ml_0 {B : mt_B} {E : mt_E} {cs : Nat × Nat} {mc ms bs : Nat} {x4 w0 w1 w2 w3 w4 w5 : Int32} {S S' : mt_S} (hC : mt_Cx B E cL_law RL (some .boolean) 8 1300 mc ms) (hT : mt_th B E) (hlt : B.1.stackTraces = false) (hcs : cs.1 + 1 ≤ mc ∧ cs.2 + 6 ≤ ms) (s1 : mt_sr B E bs (x4 + 1) w1) (s2 : mt_sr B E bs (x4 + 2) w2) (s3 : mt_sr B E bs (x4 + 3) w3) (s4 : mt_sr B E bs (x4 + 4) w4) (s5 : mt_sr B E bs (x4 + 5) w5) (h : l_0 w1 w2 w3 w4 w5 S = some S') (kk : ∀ S1, S1 = S' → mt_Go B E (cs.1 + 1, cs.2 + 6) S1 1290 [(0, .ref bs), (1, mt_rf B 0), (2, mt_rf B 96), (3, mt_rf B 108), (4, .int x4)] []) : mt_Go B E cs S 192 [(0, .ref bs), (1, mt_rf B 0), (2, mt_rf B 96), (3, mt_rf B 108), (4, .int x4)] [] := by
  have hcs1 := hcs.1
  have hcs2 := hcs.2
  unfold l_0 at h
  refine go_aload_n hC 1 dL_law_192 rfl rfl ?_
  refine go_aload_n hC 0 dL_law_193 rfl rfl ?_
  refine go_iload hC 4 dL_law_194 rfl ?_
  refine go_iconst (v := 1) hC dL_law_196 (by decide) ?_
  refine go_iadd hC dL_law_197 ?_
  refine go_sld hC s1 dL_law_198 ?_
  refine go_aload_n hC 0 dL_law_199 rfl rfl ?_
  refine go_iload hC 4 dL_law_200 rfl ?_
  refine go_iconst (v := 2) hC dL_law_202 (by decide) ?_
  refine go_iadd hC dL_law_203 ?_
  refine go_sld hC s2 dL_law_204 ?_
  refine go_aload_n hC 0 dL_law_205 rfl rfl ?_
  refine go_iload hC 4 dL_law_206 rfl ?_
  refine go_iconst (v := 3) hC dL_law_208 (by decide) ?_
  refine go_iadd hC dL_law_209 ?_
  refine go_sld hC s3 dL_law_210 ?_
  refine go_aload_n hC 0 dL_law_211 rfl rfl ?_
  refine go_iload hC 4 dL_law_212 rfl ?_
  refine go_iconst (v := 4) hC dL_law_214 (by decide) ?_
  refine go_iadd hC dL_law_215 ?_
  refine go_sld hC s4 dL_law_216 ?_
  refine go_aload_n hC 0 dL_law_217 rfl rfl ?_
  refine go_iload hC 4 dL_law_218 rfl ?_
  refine go_iconst (v := 5) hC dL_law_220 (by decide) ?_
  refine go_iadd hC dL_law_221 ?_
  refine go_sld hC s5 dL_law_222 ?_
  obtain ⟨v2, S1, e2, h⟩ := mt_ob2 h
  refine go_callVi hC [.int w1, .int w2, .int w3, .int w4, .int w5] [] (m_X10_feed e2) mt_cvL_26 (k_X10_feed e2) dL_law_223 rfl rfl (by decide) (Nat.le_of_ble_eq_true rfl) ⟨by omega, by omega⟩ ?_
  refine go_aload_n hC 2 dL_law_226 rfl rfl ?_
  refine go_aload_n hC 0 dL_law_227 rfl rfl ?_
  refine go_iload hC 4 dL_law_228 rfl ?_
  refine go_iconst (v := 1) hC dL_law_230 (by decide) ?_
  refine go_iadd hC dL_law_231 ?_
  refine go_sld hC s1 dL_law_232 ?_
  refine go_aload_n hC 0 dL_law_233 rfl rfl ?_
  refine go_iload hC 4 dL_law_234 rfl ?_
  refine go_iconst (v := 2) hC dL_law_236 (by decide) ?_
  refine go_iadd hC dL_law_237 ?_
  refine go_sld hC s2 dL_law_238 ?_
  refine go_aload_n hC 0 dL_law_239 rfl rfl ?_
  refine go_iload hC 4 dL_law_240 rfl ?_
  refine go_iconst (v := 3) hC dL_law_242 (by decide) ?_
  refine go_iadd hC dL_law_243 ?_
  refine go_sld hC s3 dL_law_244 ?_
  refine go_aload_n hC 0 dL_law_245 rfl rfl ?_
  refine go_iload hC 4 dL_law_246 rfl ?_
  refine go_iconst (v := 4) hC dL_law_248 (by decide) ?_
  refine go_iadd hC dL_law_249 ?_
  refine go_sld hC s4 dL_law_250 ?_
  refine go_aload_n hC 0 dL_law_251 rfl rfl ?_
  refine go_iload hC 4 dL_law_252 rfl ?_
  refine go_iconst (v := 5) hC dL_law_254 (by decide) ?_
  refine go_iadd hC dL_law_255 ?_
  refine go_sld hC s5 dL_law_256 ?_
  obtain ⟨v4, S3, e4, h⟩ := mt_ob2 h
  refine go_callVi hC [.int w1, .int w2, .int w3, .int w4, .int w5] [.int v2] (m_X11_feed e4) mt_cvL_30 (k_X11_feed e4) dL_law_257 rfl rfl (by decide) (Nat.le_of_ble_eq_true rfl) ⟨by omega, by omega⟩ ?_
  refine go_icmp_eq hC (tgt := 1290) dL_law_260 (by decide) (fun hc => ?_) (fun hc => ?_)
  · have h := mt_ip h hc
    refine go_widen (c1 := (cs.1 + 1, cs.2 + 6)) (Nat.le_succ _) (Nat.le_add_right _ _) (go_sub [0, 1, 2, 3, 4] (lv1 := [(0, .ref bs), (1, mt_rf B 0), (2, mt_rf B 96), (3, mt_rf B 108), (4, .int x4)]) rfl ?_)
    exact kk _ (mt_som h)
  · have h := mt_in' h hc
    refine go_iconst (v := 0) hC dL_law_263 (by decide) ?_
    cases h
def l_1 (w1 : Int32) (S : mt_S) : Option mt_S :=
  mt_b2 (f_X10_end 0 w1 S) fun v2 S1 =>
  mt_b2 (f_X11_end 96 w1 S1) fun v4 S3 =>
  if v2 = v4 then
   some S3
  else
   none
set_option maxHeartbeats 4000000 in
set_option maxRecDepth 100000 in
theorem ml_1 {B : mt_B} {E : mt_E} {cs : Nat × Nat} {mc ms bs : Nat} {x4 w0 w1 w2 w3 w4 w5 : Int32} {S S' : mt_S} (hC : mt_Cx B E cL_law RL (some .boolean) 8 1300 mc ms) (hT : mt_th B E) (hlt : B.1.stackTraces = false) (hcs : cs.1 + 1 ≤ mc ∧ cs.2 + 6 ≤ ms) (s1 : mt_sr B E bs (x4 + 1) w1) (s2 : mt_sr B E bs (x4 + 2) w2) (s3 : mt_sr B E bs (x4 + 3) w3) (s4 : mt_sr B E bs (x4 + 4) w4) (s5 : mt_sr B E bs (x4 + 5) w5) (h : l_1 w1 S = some S') (kk : ∀ S1, S1 = S' → mt_Go B E (cs.1 + 1, cs.2 + 6) S1 1290 [(0, .ref bs), (1, mt_rf B 0), (2, mt_rf B 96), (3, mt_rf B 108), (4, .int x4)] []) : mt_Go B E cs S 265 [(0, .ref bs), (1, mt_rf B 0), (2, mt_rf B 96), (3, mt_rf B 108), (4, .int x4)] [] := by
  have hcs1 := hcs.1
  have hcs2 := hcs.2
  unfold l_1 at h
  refine go_aload_n hC 1 dL_law_265 rfl rfl ?_
  refine go_aload_n hC 0 dL_law_266 rfl rfl ?_
  refine go_iload hC 4 dL_law_267 rfl ?_
  refine go_iconst (v := 1) hC dL_law_269 (by decide) ?_
  refine go_iadd hC dL_law_270 ?_
  refine go_sld hC s1 dL_law_271 ?_
  obtain ⟨v2, S1, e2, h⟩ := mt_ob2 h
  refine go_callVi hC [.int w1] [] (m_X10_end e2) mt_cvL_31 (k_X10_end e2) dL_law_272 rfl rfl (by decide) (Nat.le_of_ble_eq_true rfl) ⟨by omega, by omega⟩ ?_
  refine go_aload_n hC 2 dL_law_275 rfl rfl ?_
  refine go_aload_n hC 0 dL_law_276 rfl rfl ?_
  refine go_iload hC 4 dL_law_277 rfl ?_
  refine go_iconst (v := 1) hC dL_law_279 (by decide) ?_
  refine go_iadd hC dL_law_280 ?_
  refine go_sld hC s1 dL_law_281 ?_
  obtain ⟨v4, S3, e4, h⟩ := mt_ob2 h
  refine go_callVi hC [.int w1] [.int v2] (m_X11_end e4) mt_cvL_35 (k_X11_end e4) dL_law_282 rfl rfl (by decide) (Nat.le_of_ble_eq_true rfl) ⟨by omega, by omega⟩ ?_
  refine go_icmp_eq hC (tgt := 1290) dL_law_285 (by decide) (fun hc => ?_) (fun hc => ?_)
  · have h := mt_ip h hc
    refine go_widen (c1 := (cs.1 + 1, cs.2 + 6)) (Nat.le_succ _) (Nat.le_add_right _ _) (go_sub [0, 1, 2, 3, 4] (lv1 := [(0, .ref bs), (1, mt_rf B 0), (2, mt_rf B 96), (3, mt_rf B 108), (4, .int x4)]) rfl ?_)
    exact kk _ (mt_som h)
  · have h := mt_in' h hc
    refine go_iconst (v := 0) hC dL_law_288 (by decide) ?_
    cases h
def l_2 (S : mt_S) : Option mt_S :=
  mt_b2 (f_X10_path 0 S) fun v2 S1 =>
  mt_b2 (f_X11_path 96 S1) fun v4 S3 =>
  if v2 = v4 then
   some S3
  else
   none
set_option maxHeartbeats 4000000 in
set_option maxRecDepth 100000 in
theorem ml_2 {B : mt_B} {E : mt_E} {cs : Nat × Nat} {mc ms bs : Nat} {x4 w0 w1 w2 w3 w4 w5 : Int32} {S S' : mt_S} (hC : mt_Cx B E cL_law RL (some .boolean) 8 1300 mc ms) (hT : mt_th B E) (hlt : B.1.stackTraces = false) (hcs : cs.1 + 1 ≤ mc ∧ cs.2 + 6 ≤ ms) (s1 : mt_sr B E bs (x4 + 1) w1) (s2 : mt_sr B E bs (x4 + 2) w2) (s3 : mt_sr B E bs (x4 + 3) w3) (s4 : mt_sr B E bs (x4 + 4) w4) (s5 : mt_sr B E bs (x4 + 5) w5) (h : l_2  S = some S') (kk : ∀ S1, S1 = S' → mt_Go B E (cs.1 + 1, cs.2 + 6) S1 1290 [(0, .ref bs), (1, mt_rf B 0), (2, mt_rf B 96), (3, mt_rf B 108), (4, .int x4)] []) : mt_Go B E cs S 290 [(0, .ref bs), (1, mt_rf B 0), (2, mt_rf B 96), (3, mt_rf B 108), (4, .int x4)] [] := by
  have hcs1 := hcs.1
  have hcs2 := hcs.2
  unfold l_2 at h
  refine go_aload_n hC 1 dL_law_290 rfl rfl ?_
  obtain ⟨v2, S1, e2, h⟩ := mt_ob2 h
  refine go_callVi hC [] [] (m_X10_path e2) mt_cvL_36 (k_X10_path e2) dL_law_291 rfl rfl (by decide) (Nat.le_of_ble_eq_true rfl) ⟨by omega, by omega⟩ ?_
  refine go_aload_n hC 2 dL_law_294 rfl rfl ?_
  obtain ⟨v4, S3, e4, h⟩ := mt_ob2 h
  refine go_callVi hC [] [.int v2] (m_X11_path e4) mt_cvL_40 (k_X11_path e4) dL_law_295 rfl rfl (by decide) (Nat.le_of_ble_eq_true rfl) ⟨by omega, by omega⟩ ?_
  refine go_icmp_eq hC (tgt := 1290) dL_law_298 (by decide) (fun hc => ?_) (fun hc => ?_)
  · have h := mt_ip h hc
    refine go_widen (c1 := (cs.1 + 1, cs.2 + 6)) (Nat.le_succ _) (Nat.le_add_right _ _) (go_sub [0, 1, 2, 3, 4] (lv1 := [(0, .ref bs), (1, mt_rf B 0), (2, mt_rf B 96), (3, mt_rf B 108), (4, .int x4)]) rfl ?_)
    exact kk _ (mt_som h)
  · have h := mt_in' h hc
    refine go_iconst (v := 0) hC dL_law_301 (by decide) ?_
    cases h
def l_3 (S : mt_S) : Option mt_S :=
  mt_b2 (f_X10_fault 0 S) fun v2 S1 =>
  mt_b2 (f_X11_fault 96 S1) fun v4 S3 =>
  if v2 = v4 then
   some S3
  else
   none
set_option maxHeartbeats 4000000 in
set_option maxRecDepth 100000 in
theorem ml_3 {B : mt_B} {E : mt_E} {cs : Nat × Nat} {mc ms bs : Nat} {x4 w0 w1 w2 w3 w4 w5 : Int32} {S S' : mt_S} (hC : mt_Cx B E cL_law RL (some .boolean) 8 1300 mc ms) (hT : mt_th B E) (hlt : B.1.stackTraces = false) (hcs : cs.1 + 1 ≤ mc ∧ cs.2 + 6 ≤ ms) (s1 : mt_sr B E bs (x4 + 1) w1) (s2 : mt_sr B E bs (x4 + 2) w2) (s3 : mt_sr B E bs (x4 + 3) w3) (s4 : mt_sr B E bs (x4 + 4) w4) (s5 : mt_sr B E bs (x4 + 5) w5) (h : l_3  S = some S') (kk : ∀ S1, S1 = S' → mt_Go B E (cs.1 + 1, cs.2 + 6) S1 1290 [(0, .ref bs), (1, mt_rf B 0), (2, mt_rf B 96), (3, mt_rf B 108), (4, .int x4)] []) : mt_Go B E cs S 303 [(0, .ref bs), (1, mt_rf B 0), (2, mt_rf B 96), (3, mt_rf B 108), (4, .int x4)] [] := by
  have hcs1 := hcs.1
  have hcs2 := hcs.2
  unfold l_3 at h
  refine go_aload_n hC 1 dL_law_303 rfl rfl ?_
  obtain ⟨v2, S1, e2, h⟩ := mt_ob2 h
  refine go_callVi hC [] [] (m_X10_fault e2) mt_cvL_41 (k_X10_fault e2) dL_law_304 rfl rfl (by decide) (Nat.le_of_ble_eq_true rfl) ⟨by omega, by omega⟩ ?_
  refine go_aload_n hC 2 dL_law_307 rfl rfl ?_
  obtain ⟨v4, S3, e4, h⟩ := mt_ob2 h
  refine go_callVi hC [] [.int v2] (m_X11_fault e4) mt_cvL_44 (k_X11_fault e4) dL_law_308 rfl rfl (by decide) (Nat.le_of_ble_eq_true rfl) ⟨by omega, by omega⟩ ?_
  refine go_icmp_eq hC (tgt := 1290) dL_law_311 (by decide) (fun hc => ?_) (fun hc => ?_)
  · have h := mt_ip h hc
    refine go_widen (c1 := (cs.1 + 1, cs.2 + 6)) (Nat.le_succ _) (Nat.le_add_right _ _) (go_sub [0, 1, 2, 3, 4] (lv1 := [(0, .ref bs), (1, mt_rf B 0), (2, mt_rf B 96), (3, mt_rf B 108), (4, .int x4)]) rfl ?_)
    exact kk _ (mt_som h)
  · have h := mt_in' h hc
    refine go_iconst (v := 0) hC dL_law_314 (by decide) ?_
    cases h
def l_4 (w1 : Int32) (S : mt_S) : Option mt_S :=
  mt_b2 (f_X10_now 0 w1 S) fun v2 S1 =>
  mt_b2 (f_X11_now 96 w1 S1) fun v4 S3 =>
  if v2 = v4 then
   some S3
  else
   none
set_option maxHeartbeats 4000000 in
set_option maxRecDepth 100000 in
theorem ml_4 {B : mt_B} {E : mt_E} {cs : Nat × Nat} {mc ms bs : Nat} {x4 w0 w1 w2 w3 w4 w5 : Int32} {S S' : mt_S} (hC : mt_Cx B E cL_law RL (some .boolean) 8 1300 mc ms) (hT : mt_th B E) (hlt : B.1.stackTraces = false) (hcs : cs.1 + 1 ≤ mc ∧ cs.2 + 6 ≤ ms) (s1 : mt_sr B E bs (x4 + 1) w1) (s2 : mt_sr B E bs (x4 + 2) w2) (s3 : mt_sr B E bs (x4 + 3) w3) (s4 : mt_sr B E bs (x4 + 4) w4) (s5 : mt_sr B E bs (x4 + 5) w5) (h : l_4 w1 S = some S') (kk : ∀ S1, S1 = S' → mt_Go B E (cs.1 + 1, cs.2 + 6) S1 1290 [(0, .ref bs), (1, mt_rf B 0), (2, mt_rf B 96), (3, mt_rf B 108), (4, .int x4)] []) : mt_Go B E cs S 316 [(0, .ref bs), (1, mt_rf B 0), (2, mt_rf B 96), (3, mt_rf B 108), (4, .int x4)] [] := by
  have hcs1 := hcs.1
  have hcs2 := hcs.2
  unfold l_4 at h
  refine go_aload_n hC 1 dL_law_316 rfl rfl ?_
  refine go_aload_n hC 0 dL_law_317 rfl rfl ?_
  refine go_iload hC 4 dL_law_318 rfl ?_
  refine go_iconst (v := 1) hC dL_law_320 (by decide) ?_
  refine go_iadd hC dL_law_321 ?_
  refine go_sld hC s1 dL_law_322 ?_
  obtain ⟨v2, S1, e2, h⟩ := mt_ob2 h
  refine go_callVi hC [.int w1] [] (m_X10_now e2) mt_cvL_45 (k_X10_now e2) dL_law_323 rfl rfl (by decide) (Nat.le_of_ble_eq_true rfl) ⟨by omega, by omega⟩ ?_
  refine go_aload_n hC 2 dL_law_326 rfl rfl ?_
  refine go_aload_n hC 0 dL_law_327 rfl rfl ?_
  refine go_iload hC 4 dL_law_328 rfl ?_
  refine go_iconst (v := 1) hC dL_law_330 (by decide) ?_
  refine go_iadd hC dL_law_331 ?_
  refine go_sld hC s1 dL_law_332 ?_
  obtain ⟨v4, S3, e4, h⟩ := mt_ob2 h
  refine go_callVi hC [.int w1] [.int v2] (m_X11_now e4) mt_cvL_49 (k_X11_now e4) dL_law_333 rfl rfl (by decide) (Nat.le_of_ble_eq_true rfl) ⟨by omega, by omega⟩ ?_
  refine go_icmp_eq hC (tgt := 1290) dL_law_336 (by decide) (fun hc => ?_) (fun hc => ?_)
  · have h := mt_ip h hc
    refine go_widen (c1 := (cs.1 + 1, cs.2 + 6)) (Nat.le_succ _) (Nat.le_add_right _ _) (go_sub [0, 1, 2, 3, 4] (lv1 := [(0, .ref bs), (1, mt_rf B 0), (2, mt_rf B 96), (3, mt_rf B 108), (4, .int x4)]) rfl ?_)
    exact kk _ (mt_som h)
  · have h := mt_in' h hc
    refine go_iconst (v := 0) hC dL_law_339 (by decide) ?_
    cases h
def l_5 (S : mt_S) : Option mt_S :=
  mt_b2 (f_X10_left 0 S) fun v2 S1 =>
  mt_b2 (f_X11_left 96 S1) fun v4 S3 =>
  if v2 = v4 then
   some S3
  else
   none
set_option maxHeartbeats 4000000 in
set_option maxRecDepth 100000 in
theorem ml_5 {B : mt_B} {E : mt_E} {cs : Nat × Nat} {mc ms bs : Nat} {x4 w0 w1 w2 w3 w4 w5 : Int32} {S S' : mt_S} (hC : mt_Cx B E cL_law RL (some .boolean) 8 1300 mc ms) (hT : mt_th B E) (hlt : B.1.stackTraces = false) (hcs : cs.1 + 1 ≤ mc ∧ cs.2 + 6 ≤ ms) (s1 : mt_sr B E bs (x4 + 1) w1) (s2 : mt_sr B E bs (x4 + 2) w2) (s3 : mt_sr B E bs (x4 + 3) w3) (s4 : mt_sr B E bs (x4 + 4) w4) (s5 : mt_sr B E bs (x4 + 5) w5) (h : l_5  S = some S') (kk : ∀ S1, S1 = S' → mt_Go B E (cs.1 + 1, cs.2 + 6) S1 1290 [(0, .ref bs), (1, mt_rf B 0), (2, mt_rf B 96), (3, mt_rf B 108), (4, .int x4)] []) : mt_Go B E cs S 341 [(0, .ref bs), (1, mt_rf B 0), (2, mt_rf B 96), (3, mt_rf B 108), (4, .int x4)] [] := by
  have hcs1 := hcs.1
  have hcs2 := hcs.2
  unfold l_5 at h
  refine go_aload_n hC 1 dL_law_341 rfl rfl ?_
  obtain ⟨v2, S1, e2, h⟩ := mt_ob2 h
  refine go_callVi hC [] [] (m_X10_left e2) mt_cvL_50 (k_X10_left e2) dL_law_342 rfl rfl (by decide) (Nat.le_of_ble_eq_true rfl) ⟨by omega, by omega⟩ ?_
  refine go_aload_n hC 2 dL_law_345 rfl rfl ?_
  obtain ⟨v4, S3, e4, h⟩ := mt_ob2 h
  refine go_callVi hC [] [.int v2] (m_X11_left e4) mt_cvL_53 (k_X11_left e4) dL_law_346 rfl rfl (by decide) (Nat.le_of_ble_eq_true rfl) ⟨by omega, by omega⟩ ?_
  refine go_icmp_eq hC (tgt := 1290) dL_law_349 (by decide) (fun hc => ?_) (fun hc => ?_)
  · have h := mt_ip h hc
    refine go_widen (c1 := (cs.1 + 1, cs.2 + 6)) (Nat.le_succ _) (Nat.le_add_right _ _) (go_sub [0, 1, 2, 3, 4] (lv1 := [(0, .ref bs), (1, mt_rf B 0), (2, mt_rf B 96), (3, mt_rf B 108), (4, .int x4)]) rfl ?_)
    exact kk _ (mt_som h)
  · have h := mt_in' h hc
    refine go_iconst (v := 0) hC dL_law_352 (by decide) ?_
    cases h
def l_6 (S : mt_S) : Option mt_S :=
  mt_b2 (f_X10_right 0 S) fun v2 S1 =>
  mt_b2 (f_X11_right 96 S1) fun v4 S3 =>
  if v2 = v4 then
   some S3
  else
   none
set_option maxHeartbeats 4000000 in
set_option maxRecDepth 100000 in
theorem ml_6 {B : mt_B} {E : mt_E} {cs : Nat × Nat} {mc ms bs : Nat} {x4 w0 w1 w2 w3 w4 w5 : Int32} {S S' : mt_S} (hC : mt_Cx B E cL_law RL (some .boolean) 8 1300 mc ms) (hT : mt_th B E) (hlt : B.1.stackTraces = false) (hcs : cs.1 + 1 ≤ mc ∧ cs.2 + 6 ≤ ms) (s1 : mt_sr B E bs (x4 + 1) w1) (s2 : mt_sr B E bs (x4 + 2) w2) (s3 : mt_sr B E bs (x4 + 3) w3) (s4 : mt_sr B E bs (x4 + 4) w4) (s5 : mt_sr B E bs (x4 + 5) w5) (h : l_6  S = some S') (kk : ∀ S1, S1 = S' → mt_Go B E (cs.1 + 1, cs.2 + 6) S1 1290 [(0, .ref bs), (1, mt_rf B 0), (2, mt_rf B 96), (3, mt_rf B 108), (4, .int x4)] []) : mt_Go B E cs S 354 [(0, .ref bs), (1, mt_rf B 0), (2, mt_rf B 96), (3, mt_rf B 108), (4, .int x4)] [] := by
  have hcs1 := hcs.1
  have hcs2 := hcs.2
  unfold l_6 at h
  refine go_aload_n hC 1 dL_law_354 rfl rfl ?_
  obtain ⟨v2, S1, e2, h⟩ := mt_ob2 h
  refine go_callVi hC [] [] (m_X10_right e2) mt_cvL_54 (k_X10_right e2) dL_law_355 rfl rfl (by decide) (Nat.le_of_ble_eq_true rfl) ⟨by omega, by omega⟩ ?_
  refine go_aload_n hC 2 dL_law_358 rfl rfl ?_
  obtain ⟨v4, S3, e4, h⟩ := mt_ob2 h
  refine go_callVi hC [] [.int v2] (m_X11_right e4) mt_cvL_57 (k_X11_right e4) dL_law_359 rfl rfl (by decide) (Nat.le_of_ble_eq_true rfl) ⟨by omega, by omega⟩ ?_
  refine go_icmp_eq hC (tgt := 1290) dL_law_362 (by decide) (fun hc => ?_) (fun hc => ?_)
  · have h := mt_ip h hc
    refine go_widen (c1 := (cs.1 + 1, cs.2 + 6)) (Nat.le_succ _) (Nat.le_add_right _ _) (go_sub [0, 1, 2, 3, 4] (lv1 := [(0, .ref bs), (1, mt_rf B 0), (2, mt_rf B 96), (3, mt_rf B 108), (4, .int x4)]) rfl ?_)
    exact kk _ (mt_som h)
  · have h := mt_in' h hc
    refine go_iconst (v := 0) hC dL_law_365 (by decide) ?_
    cases h
def l_7 (S : mt_S) : Option mt_S :=
  mt_b2 (f_X10_up 0 S) fun v2 S1 =>
  mt_b2 (f_X11_up 96 S1) fun v4 S3 =>
  if v2 = v4 then
   some S3
  else
   none
set_option maxHeartbeats 4000000 in
set_option maxRecDepth 100000 in
theorem ml_7 {B : mt_B} {E : mt_E} {cs : Nat × Nat} {mc ms bs : Nat} {x4 w0 w1 w2 w3 w4 w5 : Int32} {S S' : mt_S} (hC : mt_Cx B E cL_law RL (some .boolean) 8 1300 mc ms) (hT : mt_th B E) (hlt : B.1.stackTraces = false) (hcs : cs.1 + 1 ≤ mc ∧ cs.2 + 6 ≤ ms) (s1 : mt_sr B E bs (x4 + 1) w1) (s2 : mt_sr B E bs (x4 + 2) w2) (s3 : mt_sr B E bs (x4 + 3) w3) (s4 : mt_sr B E bs (x4 + 4) w4) (s5 : mt_sr B E bs (x4 + 5) w5) (h : l_7  S = some S') (kk : ∀ S1, S1 = S' → mt_Go B E (cs.1 + 1, cs.2 + 6) S1 1290 [(0, .ref bs), (1, mt_rf B 0), (2, mt_rf B 96), (3, mt_rf B 108), (4, .int x4)] []) : mt_Go B E cs S 367 [(0, .ref bs), (1, mt_rf B 0), (2, mt_rf B 96), (3, mt_rf B 108), (4, .int x4)] [] := by
  have hcs1 := hcs.1
  have hcs2 := hcs.2
  unfold l_7 at h
  refine go_aload_n hC 1 dL_law_367 rfl rfl ?_
  obtain ⟨v2, S1, e2, h⟩ := mt_ob2 h
  refine go_callVi hC [] [] (m_X10_up e2) mt_cvL_58 (k_X10_up e2) dL_law_368 rfl rfl (by decide) (Nat.le_of_ble_eq_true rfl) ⟨by omega, by omega⟩ ?_
  refine go_aload_n hC 2 dL_law_371 rfl rfl ?_
  obtain ⟨v4, S3, e4, h⟩ := mt_ob2 h
  refine go_callVi hC [] [.int v2] (m_X11_up e4) mt_cvL_61 (k_X11_up e4) dL_law_372 rfl rfl (by decide) (Nat.le_of_ble_eq_true rfl) ⟨by omega, by omega⟩ ?_
  refine go_icmp_eq hC (tgt := 1290) dL_law_375 (by decide) (fun hc => ?_) (fun hc => ?_)
  · have h := mt_ip h hc
    refine go_widen (c1 := (cs.1 + 1, cs.2 + 6)) (Nat.le_succ _) (Nat.le_add_right _ _) (go_sub [0, 1, 2, 3, 4] (lv1 := [(0, .ref bs), (1, mt_rf B 0), (2, mt_rf B 96), (3, mt_rf B 108), (4, .int x4)]) rfl ?_)
    exact kk _ (mt_som h)
  · have h := mt_in' h hc
    refine go_iconst (v := 0) hC dL_law_378 (by decide) ?_
    cases h
def l_8 (w1 : Int32) (w2 : Int32) (S : mt_S) : Option mt_S :=
  mt_b2 (f_X10_go 0 w1 w2 S) fun v2 S1 =>
  mt_b2 (f_X11_go 96 w1 w2 S1) fun v4 S3 =>
  if v2 = v4 then
   some S3
  else
   none
set_option maxHeartbeats 4000000 in
set_option maxRecDepth 100000 in
theorem ml_8 {B : mt_B} {E : mt_E} {cs : Nat × Nat} {mc ms bs : Nat} {x4 w0 w1 w2 w3 w4 w5 : Int32} {S S' : mt_S} (hC : mt_Cx B E cL_law RL (some .boolean) 8 1300 mc ms) (hT : mt_th B E) (hlt : B.1.stackTraces = false) (hcs : cs.1 + 1 ≤ mc ∧ cs.2 + 6 ≤ ms) (s1 : mt_sr B E bs (x4 + 1) w1) (s2 : mt_sr B E bs (x4 + 2) w2) (s3 : mt_sr B E bs (x4 + 3) w3) (s4 : mt_sr B E bs (x4 + 4) w4) (s5 : mt_sr B E bs (x4 + 5) w5) (h : l_8 w1 w2 S = some S') (kk : ∀ S1, S1 = S' → mt_Go B E (cs.1 + 1, cs.2 + 6) S1 1290 [(0, .ref bs), (1, mt_rf B 0), (2, mt_rf B 96), (3, mt_rf B 108), (4, .int x4)] []) : mt_Go B E cs S 380 [(0, .ref bs), (1, mt_rf B 0), (2, mt_rf B 96), (3, mt_rf B 108), (4, .int x4)] [] := by
  have hcs1 := hcs.1
  have hcs2 := hcs.2
  unfold l_8 at h
  refine go_aload_n hC 1 dL_law_380 rfl rfl ?_
  refine go_aload_n hC 0 dL_law_381 rfl rfl ?_
  refine go_iload hC 4 dL_law_382 rfl ?_
  refine go_iconst (v := 1) hC dL_law_384 (by decide) ?_
  refine go_iadd hC dL_law_385 ?_
  refine go_sld hC s1 dL_law_386 ?_
  refine go_aload_n hC 0 dL_law_387 rfl rfl ?_
  refine go_iload hC 4 dL_law_388 rfl ?_
  refine go_iconst (v := 2) hC dL_law_390 (by decide) ?_
  refine go_iadd hC dL_law_391 ?_
  refine go_sld hC s2 dL_law_392 ?_
  obtain ⟨v2, S1, e2, h⟩ := mt_ob2 h
  refine go_callVi hC [.int w1, .int w2] [] (m_X10_go e2) mt_cvL_62 (k_X10_go e2) dL_law_393 rfl rfl (by decide) (Nat.le_of_ble_eq_true rfl) ⟨by omega, by omega⟩ ?_
  refine go_aload_n hC 2 dL_law_396 rfl rfl ?_
  refine go_aload_n hC 0 dL_law_397 rfl rfl ?_
  refine go_iload hC 4 dL_law_398 rfl ?_
  refine go_iconst (v := 1) hC dL_law_400 (by decide) ?_
  refine go_iadd hC dL_law_401 ?_
  refine go_sld hC s1 dL_law_402 ?_
  refine go_aload_n hC 0 dL_law_403 rfl rfl ?_
  refine go_iload hC 4 dL_law_404 rfl ?_
  refine go_iconst (v := 2) hC dL_law_406 (by decide) ?_
  refine go_iadd hC dL_law_407 ?_
  refine go_sld hC s2 dL_law_408 ?_
  obtain ⟨v4, S3, e4, h⟩ := mt_ob2 h
  refine go_callVi hC [.int w1, .int w2] [.int v2] (m_X11_go e4) mt_cvL_66 (k_X11_go e4) dL_law_409 rfl rfl (by decide) (Nat.le_of_ble_eq_true rfl) ⟨by omega, by omega⟩ ?_
  refine go_icmp_eq hC (tgt := 1290) dL_law_412 (by decide) (fun hc => ?_) (fun hc => ?_)
  · have h := mt_ip h hc
    refine go_widen (c1 := (cs.1 + 1, cs.2 + 6)) (Nat.le_succ _) (Nat.le_add_right _ _) (go_sub [0, 1, 2, 3, 4] (lv1 := [(0, .ref bs), (1, mt_rf B 0), (2, mt_rf B 96), (3, mt_rf B 108), (4, .int x4)]) rfl ?_)
    exact kk _ (mt_som h)
  · have h := mt_in' h hc
    refine go_iconst (v := 0) hC dL_law_415 (by decide) ?_
    cases h
def l_9 (w1 : Int32) (S : mt_S) : Option mt_S :=
  mt_b2 (h_triple 0 w1 108 S) fun v2 S1 =>
  mt_b2 (f_X11_triple 96 w1 S1) fun v4 S3 =>
  mt_b2 (f_X11_thrown 96 S3) fun v6 S5 =>
  if v6 = v2 then
   if v2 = 0 then
    Option.bind (mt_aL S5 108 0) fun v7 =>
    if v7 = v4 then
     some S5
    else
     none
   else
    some S5
  else
   none
set_option maxHeartbeats 4000000 in
set_option maxRecDepth 100000 in
theorem ml_9 {B : mt_B} {E : mt_E} {cs : Nat × Nat} {mc ms bs : Nat} {x4 w0 w1 w2 w3 w4 w5 : Int32} {S S' : mt_S} (hC : mt_Cx B E cL_law RL (some .boolean) 8 1300 mc ms) (hT : mt_th B E) (hlt : B.1.stackTraces = false) (hcs : cs.1 + 1 ≤ mc ∧ cs.2 + 6 ≤ ms) (s1 : mt_sr B E bs (x4 + 1) w1) (s2 : mt_sr B E bs (x4 + 2) w2) (s3 : mt_sr B E bs (x4 + 3) w3) (s4 : mt_sr B E bs (x4 + 4) w4) (s5 : mt_sr B E bs (x4 + 5) w5) (h : l_9 w1 S = some S') (kk : ∀ S1, S1 = S' → mt_Go B E (cs.1 + 1, cs.2 + 6) S1 1290 [(0, .ref bs), (1, mt_rf B 0), (2, mt_rf B 96), (3, mt_rf B 108), (4, .int x4)] []) : mt_Go B E cs S 417 [(0, .ref bs), (1, mt_rf B 0), (2, mt_rf B 96), (3, mt_rf B 108), (4, .int x4)] [] := by
  have hcs1 := hcs.1
  have hcs2 := hcs.2
  unfold l_9 at h
  refine go_aload_n hC 1 dL_law_417 rfl rfl ?_
  refine go_aload_n hC 0 dL_law_418 rfl rfl ?_
  refine go_iload hC 4 dL_law_419 rfl ?_
  refine go_iconst (v := 1) hC dL_law_421 (by decide) ?_
  refine go_iadd hC dL_law_422 ?_
  refine go_sld hC s1 dL_law_423 ?_
  refine go_aload_n hC 3 dL_law_424 rfl rfl ?_
  obtain ⟨v2, S1, e2, h⟩ := mt_ob2 h
  refine go_callH hC hT [mt_rf B 0, .int w1, mt_rf B 108] [] (cs1 := (cs.1 + 1, cs.2 + 6)) (m_h_triple hlt e2) mt_ch_triple dL_law_425 rfl rfl (by decide) (Nat.le_of_ble_eq_true rfl) rfl hcs ?_
  refine go_istore hC [1, 2, 3, 4, 5, 0] (lv1 := [(0, .ref bs), (1, mt_rf B 0), (2, mt_rf B 96), (3, mt_rf B 108), (4, .int x4), (5, .int v2)]) dL_law_428 (by decide) rfl ?_
  refine go_aload_n hC 2 dL_law_430 rfl rfl ?_
  refine go_aload_n hC 0 dL_law_431 rfl rfl ?_
  refine go_iload hC 4 dL_law_432 rfl ?_
  refine go_iconst (v := 1) hC dL_law_434 (by decide) ?_
  refine go_iadd hC dL_law_435 ?_
  refine go_sld hC s1 dL_law_436 ?_
  obtain ⟨v4, S3, e4, h⟩ := mt_ob2 h
  refine go_callVl hC [.int w1] [] (m_X11_triple e4) mt_cvL_72 (k_X11_triple e4) dL_law_437 rfl rfl (by decide) (Nat.le_of_ble_eq_true rfl) ⟨by omega, by omega⟩ ?_
  refine go_lstore hC [1, 2, 3, 4, 5, 6, 0] (lv1 := [(0, .ref bs), (1, mt_rf B 0), (2, mt_rf B 96), (3, mt_rf B 108), (4, .int x4), (5, .int v2), (6, .long v4)]) dL_law_440 (by decide) rfl ?_
  refine go_aload_n hC 2 dL_law_442 rfl rfl ?_
  obtain ⟨v6, S5, e6, h⟩ := mt_ob2 h
  refine go_callVi hC [] [] (m_X11_thrown e6) mt_cvL_73 (k_X11_thrown e6) dL_law_443 rfl rfl (by decide) (Nat.le_of_ble_eq_true rfl) ⟨by omega, by omega⟩ ?_
  refine go_iload hC 5 dL_law_446 rfl ?_
  refine go_icmp_eq hC (tgt := 453) dL_law_448 (by decide) (fun hc => ?_) (fun hc => ?_)
  · have h := mt_ip h hc
    refine go_iload hC 5 dL_law_453 rfl ?_
    refine go_if_ne hC (tgt := 469) dL_law_455 (by decide) (fun hc => ?_) (fun hc => ?_)
    · have h := mt_in' h hc
      refine go_goto hC (tgt := 1290) dL_law_469 (by decide) ?_
      refine go_sub [0, 1, 2, 3, 4] (lv1 := [(0, .ref bs), (1, mt_rf B 0), (2, mt_rf B 96), (3, mt_rf B 108), (4, .int x4)]) rfl ?_
      exact kk _ (mt_som h)
    · have h := mt_ip h hc
      refine go_aload_n hC 3 dL_law_458 rfl rfl ?_
      refine go_iconst (v := 0) hC dL_law_459 (by decide) ?_
      obtain ⟨v7, e7, h⟩ := mt_ob h
      refine go_lald hC e7 dL_law_460 ?_
      refine go_lload hC 6 dL_law_461 rfl ?_
      refine go_lcmp_eq hC (tgt := 469) dL_law_463 dL_law_464 (by decide) (fun hc => ?_) (fun hc => ?_)
      · have h := mt_ip h hc
        refine go_goto hC (tgt := 1290) dL_law_469 (by decide) ?_
        refine go_sub [0, 1, 2, 3, 4] (lv1 := [(0, .ref bs), (1, mt_rf B 0), (2, mt_rf B 96), (3, mt_rf B 108), (4, .int x4)]) rfl ?_
        exact kk _ (mt_som h)
      · have h := mt_in' h hc
        refine go_iconst (v := 0) hC dL_law_467 (by decide) ?_
        cases h
  · have h := mt_in' h hc
    refine go_iconst (v := 0) hC dL_law_451 (by decide) ?_
    cases h
def l_10 (w1 : Int32) (S : mt_S) : Option mt_S :=
  mt_b2 (f_X10_letter 0 w1 S) fun v2 S1 =>
  mt_b2 (f_X11_letter 96 w1 S1) fun v4 S3 =>
  if v2 = v4 then
   some S3
  else
   none
set_option maxHeartbeats 4000000 in
set_option maxRecDepth 100000 in
theorem ml_10 {B : mt_B} {E : mt_E} {cs : Nat × Nat} {mc ms bs : Nat} {x4 w0 w1 w2 w3 w4 w5 : Int32} {S S' : mt_S} (hC : mt_Cx B E cL_law RL (some .boolean) 8 1300 mc ms) (hT : mt_th B E) (hlt : B.1.stackTraces = false) (hcs : cs.1 + 1 ≤ mc ∧ cs.2 + 6 ≤ ms) (s1 : mt_sr B E bs (x4 + 1) w1) (s2 : mt_sr B E bs (x4 + 2) w2) (s3 : mt_sr B E bs (x4 + 3) w3) (s4 : mt_sr B E bs (x4 + 4) w4) (s5 : mt_sr B E bs (x4 + 5) w5) (h : l_10 w1 S = some S') (kk : ∀ S1, S1 = S' → mt_Go B E (cs.1 + 1, cs.2 + 6) S1 1290 [(0, .ref bs), (1, mt_rf B 0), (2, mt_rf B 96), (3, mt_rf B 108), (4, .int x4)] []) : mt_Go B E cs S 472 [(0, .ref bs), (1, mt_rf B 0), (2, mt_rf B 96), (3, mt_rf B 108), (4, .int x4)] [] := by
  have hcs1 := hcs.1
  have hcs2 := hcs.2
  unfold l_10 at h
  refine go_aload_n hC 1 dL_law_472 rfl rfl ?_
  refine go_aload_n hC 0 dL_law_473 rfl rfl ?_
  refine go_iload hC 4 dL_law_474 rfl ?_
  refine go_iconst (v := 1) hC dL_law_476 (by decide) ?_
  refine go_iadd hC dL_law_477 ?_
  refine go_sld hC s1 dL_law_478 ?_
  obtain ⟨v2, S1, e2, h⟩ := mt_ob2 h
  refine go_callVi hC [.int w1] [] (m_X10_letter e2) mt_cvL_76 (k_X10_letter e2) dL_law_479 rfl rfl (by decide) (Nat.le_of_ble_eq_true rfl) ⟨by omega, by omega⟩ ?_
  refine go_aload_n hC 2 dL_law_482 rfl rfl ?_
  refine go_aload_n hC 0 dL_law_483 rfl rfl ?_
  refine go_iload hC 4 dL_law_484 rfl ?_
  refine go_iconst (v := 1) hC dL_law_486 (by decide) ?_
  refine go_iadd hC dL_law_487 ?_
  refine go_sld hC s1 dL_law_488 ?_
  obtain ⟨v4, S3, e4, h⟩ := mt_ob2 h
  refine go_callVi hC [.int w1] [.int v2] (m_X11_letter e4) mt_cvL_79 (k_X11_letter e4) dL_law_489 rfl rfl (by decide) (Nat.le_of_ble_eq_true rfl) ⟨by omega, by omega⟩ ?_
  refine go_icmp_eq hC (tgt := 1290) dL_law_492 (by decide) (fun hc => ?_) (fun hc => ?_)
  · have h := mt_ip h hc
    refine go_widen (c1 := (cs.1 + 1, cs.2 + 6)) (Nat.le_succ _) (Nat.le_add_right _ _) (go_sub [0, 1, 2, 3, 4] (lv1 := [(0, .ref bs), (1, mt_rf B 0), (2, mt_rf B 96), (3, mt_rf B 108), (4, .int x4)]) rfl ?_)
    exact kk _ (mt_som h)
  · have h := mt_in' h hc
    refine go_iconst (v := 0) hC dL_law_495 (by decide) ?_
    cases h
def l_11 (S : mt_S) : Option mt_S :=
  mt_b2 (f_X10_cut 0 S) fun v2 S1 =>
  mt_b2 (f_X11_cut 96 S1) fun v4 S3 =>
  if v2 = v4 then
   some S3
  else
   none
set_option maxHeartbeats 4000000 in
set_option maxRecDepth 100000 in
theorem ml_11 {B : mt_B} {E : mt_E} {cs : Nat × Nat} {mc ms bs : Nat} {x4 w0 w1 w2 w3 w4 w5 : Int32} {S S' : mt_S} (hC : mt_Cx B E cL_law RL (some .boolean) 8 1300 mc ms) (hT : mt_th B E) (hlt : B.1.stackTraces = false) (hcs : cs.1 + 1 ≤ mc ∧ cs.2 + 6 ≤ ms) (s1 : mt_sr B E bs (x4 + 1) w1) (s2 : mt_sr B E bs (x4 + 2) w2) (s3 : mt_sr B E bs (x4 + 3) w3) (s4 : mt_sr B E bs (x4 + 4) w4) (s5 : mt_sr B E bs (x4 + 5) w5) (h : l_11  S = some S') (kk : ∀ S1, S1 = S' → mt_Go B E (cs.1 + 1, cs.2 + 6) S1 1290 [(0, .ref bs), (1, mt_rf B 0), (2, mt_rf B 96), (3, mt_rf B 108), (4, .int x4)] []) : mt_Go B E cs S 497 [(0, .ref bs), (1, mt_rf B 0), (2, mt_rf B 96), (3, mt_rf B 108), (4, .int x4)] [] := by
  have hcs1 := hcs.1
  have hcs2 := hcs.2
  unfold l_11 at h
  refine go_aload_n hC 1 dL_law_497 rfl rfl ?_
  obtain ⟨v2, S1, e2, h⟩ := mt_ob2 h
  refine go_callVi hC [] [] (m_X10_cut e2) mt_cvL_80 (k_X10_cut e2) dL_law_498 rfl rfl (by decide) (Nat.le_of_ble_eq_true rfl) ⟨by omega, by omega⟩ ?_
  refine go_aload_n hC 2 dL_law_501 rfl rfl ?_
  obtain ⟨v4, S3, e4, h⟩ := mt_ob2 h
  refine go_callVi hC [] [.int v2] (m_X11_cut e4) mt_cvL_83 (k_X11_cut e4) dL_law_502 rfl rfl (by decide) (Nat.le_of_ble_eq_true rfl) ⟨by omega, by omega⟩ ?_
  refine go_icmp_eq hC (tgt := 1290) dL_law_505 (by decide) (fun hc => ?_) (fun hc => ?_)
  · have h := mt_ip h hc
    refine go_widen (c1 := (cs.1 + 1, cs.2 + 6)) (Nat.le_succ _) (Nat.le_add_right _ _) (go_sub [0, 1, 2, 3, 4] (lv1 := [(0, .ref bs), (1, mt_rf B 0), (2, mt_rf B 96), (3, mt_rf B 108), (4, .int x4)]) rfl ?_)
    exact kk _ (mt_som h)
  · have h := mt_in' h hc
    refine go_iconst (v := 0) hC dL_law_508 (by decide) ?_
    cases h
def l_12 (w1 : Int32) (w2 : Int32) (S : mt_S) : Option mt_S :=
  mt_b2 (h_matrix 0 w1 w2 108 S) fun v2 S1 =>
  mt_b2 (f_X11_matrix 96 w1 w2 S1) fun v4 S3 =>
  mt_b2 (f_X11_thrown 96 S3) fun v6 S5 =>
  if v6 = v2 then
   if v2 = 0 then
    Option.bind (mt_aL S5 108 0) fun v7 =>
    if v7 = v4 then
     some S5
    else
     none
   else
    some S5
  else
   none
set_option maxHeartbeats 4000000 in
set_option maxRecDepth 100000 in
theorem ml_12 {B : mt_B} {E : mt_E} {cs : Nat × Nat} {mc ms bs : Nat} {x4 w0 w1 w2 w3 w4 w5 : Int32} {S S' : mt_S} (hC : mt_Cx B E cL_law RL (some .boolean) 8 1300 mc ms) (hT : mt_th B E) (hlt : B.1.stackTraces = false) (hcs : cs.1 + 1 ≤ mc ∧ cs.2 + 6 ≤ ms) (s1 : mt_sr B E bs (x4 + 1) w1) (s2 : mt_sr B E bs (x4 + 2) w2) (s3 : mt_sr B E bs (x4 + 3) w3) (s4 : mt_sr B E bs (x4 + 4) w4) (s5 : mt_sr B E bs (x4 + 5) w5) (h : l_12 w1 w2 S = some S') (kk : ∀ S1, S1 = S' → mt_Go B E (cs.1 + 1, cs.2 + 6) S1 1290 [(0, .ref bs), (1, mt_rf B 0), (2, mt_rf B 96), (3, mt_rf B 108), (4, .int x4)] []) : mt_Go B E cs S 510 [(0, .ref bs), (1, mt_rf B 0), (2, mt_rf B 96), (3, mt_rf B 108), (4, .int x4)] [] := by
  have hcs1 := hcs.1
  have hcs2 := hcs.2
  unfold l_12 at h
  refine go_aload_n hC 1 dL_law_510 rfl rfl ?_
  refine go_aload_n hC 0 dL_law_511 rfl rfl ?_
  refine go_iload hC 4 dL_law_512 rfl ?_
  refine go_iconst (v := 1) hC dL_law_514 (by decide) ?_
  refine go_iadd hC dL_law_515 ?_
  refine go_sld hC s1 dL_law_516 ?_
  refine go_aload_n hC 0 dL_law_517 rfl rfl ?_
  refine go_iload hC 4 dL_law_518 rfl ?_
  refine go_iconst (v := 2) hC dL_law_520 (by decide) ?_
  refine go_iadd hC dL_law_521 ?_
  refine go_sld hC s2 dL_law_522 ?_
  refine go_aload_n hC 3 dL_law_523 rfl rfl ?_
  obtain ⟨v2, S1, e2, h⟩ := mt_ob2 h
  refine go_callH hC hT [mt_rf B 0, .int w1, .int w2, mt_rf B 108] [] (cs1 := (cs.1 + 1, cs.2 + 6)) (m_h_matrix hlt e2) mt_ch_matrix dL_law_524 rfl rfl (by decide) (Nat.le_of_ble_eq_true rfl) rfl hcs ?_
  refine go_istore hC [1, 2, 3, 4, 5, 0] (lv1 := [(0, .ref bs), (1, mt_rf B 0), (2, mt_rf B 96), (3, mt_rf B 108), (4, .int x4), (5, .int v2)]) dL_law_527 (by decide) rfl ?_
  refine go_aload_n hC 2 dL_law_529 rfl rfl ?_
  refine go_aload_n hC 0 dL_law_530 rfl rfl ?_
  refine go_iload hC 4 dL_law_531 rfl ?_
  refine go_iconst (v := 1) hC dL_law_533 (by decide) ?_
  refine go_iadd hC dL_law_534 ?_
  refine go_sld hC s1 dL_law_535 ?_
  refine go_aload_n hC 0 dL_law_536 rfl rfl ?_
  refine go_iload hC 4 dL_law_537 rfl ?_
  refine go_iconst (v := 2) hC dL_law_539 (by decide) ?_
  refine go_iadd hC dL_law_540 ?_
  refine go_sld hC s2 dL_law_541 ?_
  obtain ⟨v4, S3, e4, h⟩ := mt_ob2 h
  refine go_callVl hC [.int w1, .int w2] [] (m_X11_matrix e4) mt_cvL_87 (k_X11_matrix e4) dL_law_542 rfl rfl (by decide) (Nat.le_of_ble_eq_true rfl) ⟨by omega, by omega⟩ ?_
  refine go_lstore hC [1, 2, 3, 4, 5, 6, 0] (lv1 := [(0, .ref bs), (1, mt_rf B 0), (2, mt_rf B 96), (3, mt_rf B 108), (4, .int x4), (5, .int v2), (6, .long v4)]) dL_law_545 (by decide) rfl ?_
  refine go_aload_n hC 2 dL_law_547 rfl rfl ?_
  obtain ⟨v6, S5, e6, h⟩ := mt_ob2 h
  refine go_callVi hC [] [] (m_X11_thrown e6) mt_cvL_73 (k_X11_thrown e6) dL_law_548 rfl rfl (by decide) (Nat.le_of_ble_eq_true rfl) ⟨by omega, by omega⟩ ?_
  refine go_iload hC 5 dL_law_551 rfl ?_
  refine go_icmp_eq hC (tgt := 558) dL_law_553 (by decide) (fun hc => ?_) (fun hc => ?_)
  · have h := mt_ip h hc
    refine go_iload hC 5 dL_law_558 rfl ?_
    refine go_if_ne hC (tgt := 574) dL_law_560 (by decide) (fun hc => ?_) (fun hc => ?_)
    · have h := mt_in' h hc
      refine go_goto hC (tgt := 1290) dL_law_574 (by decide) ?_
      refine go_sub [0, 1, 2, 3, 4] (lv1 := [(0, .ref bs), (1, mt_rf B 0), (2, mt_rf B 96), (3, mt_rf B 108), (4, .int x4)]) rfl ?_
      exact kk _ (mt_som h)
    · have h := mt_ip h hc
      refine go_aload_n hC 3 dL_law_563 rfl rfl ?_
      refine go_iconst (v := 0) hC dL_law_564 (by decide) ?_
      obtain ⟨v7, e7, h⟩ := mt_ob h
      refine go_lald hC e7 dL_law_565 ?_
      refine go_lload hC 6 dL_law_566 rfl ?_
      refine go_lcmp_eq hC (tgt := 574) dL_law_568 dL_law_569 (by decide) (fun hc => ?_) (fun hc => ?_)
      · have h := mt_ip h hc
        refine go_goto hC (tgt := 1290) dL_law_574 (by decide) ?_
        refine go_sub [0, 1, 2, 3, 4] (lv1 := [(0, .ref bs), (1, mt_rf B 0), (2, mt_rf B 96), (3, mt_rf B 108), (4, .int x4)]) rfl ?_
        exact kk _ (mt_som h)
      · have h := mt_in' h hc
        refine go_iconst (v := 0) hC dL_law_572 (by decide) ?_
        cases h
  · have h := mt_in' h hc
    refine go_iconst (v := 0) hC dL_law_556 (by decide) ?_
    cases h
def l_13 (w1 : Int32) (S : mt_S) : Option mt_S :=
  mt_b2 (h_form 0 w1 108 S) fun v2 S1 =>
  mt_b2 (f_X11_form 96 w1 S1) fun v4 S3 =>
  mt_b2 (f_X11_thrown 96 S3) fun v6 S5 =>
  if v6 = v2 then
   if v2 = 0 then
    Option.bind (mt_aL S5 108 0) fun v7 =>
    if v7 = v4 then
     some S5
    else
     none
   else
    some S5
  else
   none
set_option maxHeartbeats 4000000 in
set_option maxRecDepth 100000 in
theorem ml_13 {B : mt_B} {E : mt_E} {cs : Nat × Nat} {mc ms bs : Nat} {x4 w0 w1 w2 w3 w4 w5 : Int32} {S S' : mt_S} (hC : mt_Cx B E cL_law RL (some .boolean) 8 1300 mc ms) (hT : mt_th B E) (hlt : B.1.stackTraces = false) (hcs : cs.1 + 1 ≤ mc ∧ cs.2 + 6 ≤ ms) (s1 : mt_sr B E bs (x4 + 1) w1) (s2 : mt_sr B E bs (x4 + 2) w2) (s3 : mt_sr B E bs (x4 + 3) w3) (s4 : mt_sr B E bs (x4 + 4) w4) (s5 : mt_sr B E bs (x4 + 5) w5) (h : l_13 w1 S = some S') (kk : ∀ S1, S1 = S' → mt_Go B E (cs.1 + 1, cs.2 + 6) S1 1290 [(0, .ref bs), (1, mt_rf B 0), (2, mt_rf B 96), (3, mt_rf B 108), (4, .int x4)] []) : mt_Go B E cs S 577 [(0, .ref bs), (1, mt_rf B 0), (2, mt_rf B 96), (3, mt_rf B 108), (4, .int x4)] [] := by
  have hcs1 := hcs.1
  have hcs2 := hcs.2
  unfold l_13 at h
  refine go_aload_n hC 1 dL_law_577 rfl rfl ?_
  refine go_aload_n hC 0 dL_law_578 rfl rfl ?_
  refine go_iload hC 4 dL_law_579 rfl ?_
  refine go_iconst (v := 1) hC dL_law_581 (by decide) ?_
  refine go_iadd hC dL_law_582 ?_
  refine go_sld hC s1 dL_law_583 ?_
  refine go_aload_n hC 3 dL_law_584 rfl rfl ?_
  obtain ⟨v2, S1, e2, h⟩ := mt_ob2 h
  refine go_callH hC hT [mt_rf B 0, .int w1, mt_rf B 108] [] (cs1 := (cs.1 + 1, cs.2 + 6)) (m_h_form hlt e2) mt_ch_form dL_law_585 rfl rfl (by decide) (Nat.le_of_ble_eq_true rfl) rfl hcs ?_
  refine go_istore hC [1, 2, 3, 4, 5, 0] (lv1 := [(0, .ref bs), (1, mt_rf B 0), (2, mt_rf B 96), (3, mt_rf B 108), (4, .int x4), (5, .int v2)]) dL_law_588 (by decide) rfl ?_
  refine go_aload_n hC 2 dL_law_590 rfl rfl ?_
  refine go_aload_n hC 0 dL_law_591 rfl rfl ?_
  refine go_iload hC 4 dL_law_592 rfl ?_
  refine go_iconst (v := 1) hC dL_law_594 (by decide) ?_
  refine go_iadd hC dL_law_595 ?_
  refine go_sld hC s1 dL_law_596 ?_
  obtain ⟨v4, S3, e4, h⟩ := mt_ob2 h
  refine go_callVl hC [.int w1] [] (m_X11_form e4) mt_cvL_90 (k_X11_form e4) dL_law_597 rfl rfl (by decide) (Nat.le_of_ble_eq_true rfl) ⟨by omega, by omega⟩ ?_
  refine go_lstore hC [1, 2, 3, 4, 5, 6, 0] (lv1 := [(0, .ref bs), (1, mt_rf B 0), (2, mt_rf B 96), (3, mt_rf B 108), (4, .int x4), (5, .int v2), (6, .long v4)]) dL_law_600 (by decide) rfl ?_
  refine go_aload_n hC 2 dL_law_602 rfl rfl ?_
  obtain ⟨v6, S5, e6, h⟩ := mt_ob2 h
  refine go_callVi hC [] [] (m_X11_thrown e6) mt_cvL_73 (k_X11_thrown e6) dL_law_603 rfl rfl (by decide) (Nat.le_of_ble_eq_true rfl) ⟨by omega, by omega⟩ ?_
  refine go_iload hC 5 dL_law_606 rfl ?_
  refine go_icmp_eq hC (tgt := 613) dL_law_608 (by decide) (fun hc => ?_) (fun hc => ?_)
  · have h := mt_ip h hc
    refine go_iload hC 5 dL_law_613 rfl ?_
    refine go_if_ne hC (tgt := 629) dL_law_615 (by decide) (fun hc => ?_) (fun hc => ?_)
    · have h := mt_in' h hc
      refine go_goto hC (tgt := 1290) dL_law_629 (by decide) ?_
      refine go_sub [0, 1, 2, 3, 4] (lv1 := [(0, .ref bs), (1, mt_rf B 0), (2, mt_rf B 96), (3, mt_rf B 108), (4, .int x4)]) rfl ?_
      exact kk _ (mt_som h)
    · have h := mt_ip h hc
      refine go_aload_n hC 3 dL_law_618 rfl rfl ?_
      refine go_iconst (v := 0) hC dL_law_619 (by decide) ?_
      obtain ⟨v7, e7, h⟩ := mt_ob h
      refine go_lald hC e7 dL_law_620 ?_
      refine go_lload hC 6 dL_law_621 rfl ?_
      refine go_lcmp_eq hC (tgt := 629) dL_law_623 dL_law_624 (by decide) (fun hc => ?_) (fun hc => ?_)
      · have h := mt_ip h hc
        refine go_goto hC (tgt := 1290) dL_law_629 (by decide) ?_
        refine go_sub [0, 1, 2, 3, 4] (lv1 := [(0, .ref bs), (1, mt_rf B 0), (2, mt_rf B 96), (3, mt_rf B 108), (4, .int x4)]) rfl ?_
        exact kk _ (mt_som h)
      · have h := mt_in' h hc
        refine go_iconst (v := 0) hC dL_law_627 (by decide) ?_
        cases h
  · have h := mt_in' h hc
    refine go_iconst (v := 0) hC dL_law_611 (by decide) ?_
    cases h
def l_14 (w1 : Int32) (w2 : Int32) (S : mt_S) : Option mt_S :=
  mt_b2 (f_X10_value 0 w1 w2 S) fun v2 S1 =>
  mt_b2 (f_X11_value 96 w1 w2 S1) fun v4 S3 =>
  if v2 = v4 then
   some S3
  else
   none
set_option maxHeartbeats 4000000 in
set_option maxRecDepth 100000 in
theorem ml_14 {B : mt_B} {E : mt_E} {cs : Nat × Nat} {mc ms bs : Nat} {x4 w0 w1 w2 w3 w4 w5 : Int32} {S S' : mt_S} (hC : mt_Cx B E cL_law RL (some .boolean) 8 1300 mc ms) (hT : mt_th B E) (hlt : B.1.stackTraces = false) (hcs : cs.1 + 1 ≤ mc ∧ cs.2 + 6 ≤ ms) (s1 : mt_sr B E bs (x4 + 1) w1) (s2 : mt_sr B E bs (x4 + 2) w2) (s3 : mt_sr B E bs (x4 + 3) w3) (s4 : mt_sr B E bs (x4 + 4) w4) (s5 : mt_sr B E bs (x4 + 5) w5) (h : l_14 w1 w2 S = some S') (kk : ∀ S1, S1 = S' → mt_Go B E (cs.1 + 1, cs.2 + 6) S1 1290 [(0, .ref bs), (1, mt_rf B 0), (2, mt_rf B 96), (3, mt_rf B 108), (4, .int x4)] []) : mt_Go B E cs S 632 [(0, .ref bs), (1, mt_rf B 0), (2, mt_rf B 96), (3, mt_rf B 108), (4, .int x4)] [] := by
  have hcs1 := hcs.1
  have hcs2 := hcs.2
  unfold l_14 at h
  refine go_aload_n hC 1 dL_law_632 rfl rfl ?_
  refine go_aload_n hC 0 dL_law_633 rfl rfl ?_
  refine go_iload hC 4 dL_law_634 rfl ?_
  refine go_iconst (v := 1) hC dL_law_636 (by decide) ?_
  refine go_iadd hC dL_law_637 ?_
  refine go_sld hC s1 dL_law_638 ?_
  refine go_aload_n hC 0 dL_law_639 rfl rfl ?_
  refine go_iload hC 4 dL_law_640 rfl ?_
  refine go_iconst (v := 2) hC dL_law_642 (by decide) ?_
  refine go_iadd hC dL_law_643 ?_
  refine go_sld hC s2 dL_law_644 ?_
  obtain ⟨v2, S1, e2, h⟩ := mt_ob2 h
  refine go_callVl hC [.int w1, .int w2] [] (m_X10_value e2) mt_cvL_91 (k_X10_value e2) dL_law_645 rfl rfl (by decide) (Nat.le_of_ble_eq_true rfl) ⟨by omega, by omega⟩ ?_
  refine go_aload_n hC 2 dL_law_648 rfl rfl ?_
  refine go_aload_n hC 0 dL_law_649 rfl rfl ?_
  refine go_iload hC 4 dL_law_650 rfl ?_
  refine go_iconst (v := 1) hC dL_law_652 (by decide) ?_
  refine go_iadd hC dL_law_653 ?_
  refine go_sld hC s1 dL_law_654 ?_
  refine go_aload_n hC 0 dL_law_655 rfl rfl ?_
  refine go_iload hC 4 dL_law_656 rfl ?_
  refine go_iconst (v := 2) hC dL_law_658 (by decide) ?_
  refine go_iadd hC dL_law_659 ?_
  refine go_sld hC s2 dL_law_660 ?_
  obtain ⟨v4, S3, e4, h⟩ := mt_ob2 h
  refine go_callVl hC [.int w1, .int w2] [.long v2] (m_X11_value e4) mt_cvL_94 (k_X11_value e4) dL_law_661 rfl rfl (by decide) (Nat.le_of_ble_eq_true rfl) ⟨by omega, by omega⟩ ?_
  refine go_lcmp_eq hC (tgt := 1290) dL_law_664 dL_law_665 (by decide) (fun hc => ?_) (fun hc => ?_)
  · have h := mt_ip h hc
    refine go_widen (c1 := (cs.1 + 1, cs.2 + 6)) (Nat.le_succ _) (Nat.le_add_right _ _) (go_sub [0, 1, 2, 3, 4] (lv1 := [(0, .ref bs), (1, mt_rf B 0), (2, mt_rf B 96), (3, mt_rf B 108), (4, .int x4)]) rfl ?_)
    exact kk _ (mt_som h)
  · have h := mt_in' h hc
    refine go_iconst (v := 0) hC dL_law_668 (by decide) ?_
    cases h
def l_15 (S : mt_S) : Option mt_S :=
  mt_b2 (f_X10_round 0 S) fun v2 S1 =>
  mt_b2 (f_X11_round 96 S1) fun v4 S3 =>
  if v2 = v4 then
   some S3
  else
   none
set_option maxHeartbeats 4000000 in
set_option maxRecDepth 100000 in
theorem ml_15 {B : mt_B} {E : mt_E} {cs : Nat × Nat} {mc ms bs : Nat} {x4 w0 w1 w2 w3 w4 w5 : Int32} {S S' : mt_S} (hC : mt_Cx B E cL_law RL (some .boolean) 8 1300 mc ms) (hT : mt_th B E) (hlt : B.1.stackTraces = false) (hcs : cs.1 + 1 ≤ mc ∧ cs.2 + 6 ≤ ms) (s1 : mt_sr B E bs (x4 + 1) w1) (s2 : mt_sr B E bs (x4 + 2) w2) (s3 : mt_sr B E bs (x4 + 3) w3) (s4 : mt_sr B E bs (x4 + 4) w4) (s5 : mt_sr B E bs (x4 + 5) w5) (h : l_15  S = some S') (kk : ∀ S1, S1 = S' → mt_Go B E (cs.1 + 1, cs.2 + 6) S1 1290 [(0, .ref bs), (1, mt_rf B 0), (2, mt_rf B 96), (3, mt_rf B 108), (4, .int x4)] []) : mt_Go B E cs S 670 [(0, .ref bs), (1, mt_rf B 0), (2, mt_rf B 96), (3, mt_rf B 108), (4, .int x4)] [] := by
  have hcs1 := hcs.1
  have hcs2 := hcs.2
  unfold l_15 at h
  refine go_aload_n hC 1 dL_law_670 rfl rfl ?_
  obtain ⟨v2, S1, e2, h⟩ := mt_ob2 h
  refine go_callVi hC [] [] (m_X10_round e2) mt_cvL_95 (k_X10_round e2) dL_law_671 rfl rfl (by decide) (Nat.le_of_ble_eq_true rfl) ⟨by omega, by omega⟩ ?_
  refine go_aload_n hC 2 dL_law_674 rfl rfl ?_
  obtain ⟨v4, S3, e4, h⟩ := mt_ob2 h
  refine go_callVi hC [] [.int v2] (m_X11_round e4) mt_cvL_98 (k_X11_round e4) dL_law_675 rfl rfl (by decide) (Nat.le_of_ble_eq_true rfl) ⟨by omega, by omega⟩ ?_
  refine go_icmp_eq hC (tgt := 1290) dL_law_678 (by decide) (fun hc => ?_) (fun hc => ?_)
  · have h := mt_ip h hc
    refine go_widen (c1 := (cs.1 + 1, cs.2 + 6)) (Nat.le_succ _) (Nat.le_add_right _ _) (go_sub [0, 1, 2, 3, 4] (lv1 := [(0, .ref bs), (1, mt_rf B 0), (2, mt_rf B 96), (3, mt_rf B 108), (4, .int x4)]) rfl ?_)
    exact kk _ (mt_som h)
  · have h := mt_in' h hc
    refine go_iconst (v := 0) hC dL_law_681 (by decide) ?_
    cases h
def l_16 (S : mt_S) : Option mt_S :=
  mt_b2 (f_X10_least 0 S) fun v2 S1 =>
  mt_b2 (f_X11_least 96 S1) fun v4 S3 =>
  if v2 = v4 then
   some S3
  else
   none
set_option maxHeartbeats 4000000 in
set_option maxRecDepth 100000 in
theorem ml_16 {B : mt_B} {E : mt_E} {cs : Nat × Nat} {mc ms bs : Nat} {x4 w0 w1 w2 w3 w4 w5 : Int32} {S S' : mt_S} (hC : mt_Cx B E cL_law RL (some .boolean) 8 1300 mc ms) (hT : mt_th B E) (hlt : B.1.stackTraces = false) (hcs : cs.1 + 1 ≤ mc ∧ cs.2 + 6 ≤ ms) (s1 : mt_sr B E bs (x4 + 1) w1) (s2 : mt_sr B E bs (x4 + 2) w2) (s3 : mt_sr B E bs (x4 + 3) w3) (s4 : mt_sr B E bs (x4 + 4) w4) (s5 : mt_sr B E bs (x4 + 5) w5) (h : l_16  S = some S') (kk : ∀ S1, S1 = S' → mt_Go B E (cs.1 + 1, cs.2 + 6) S1 1290 [(0, .ref bs), (1, mt_rf B 0), (2, mt_rf B 96), (3, mt_rf B 108), (4, .int x4)] []) : mt_Go B E cs S 683 [(0, .ref bs), (1, mt_rf B 0), (2, mt_rf B 96), (3, mt_rf B 108), (4, .int x4)] [] := by
  have hcs1 := hcs.1
  have hcs2 := hcs.2
  unfold l_16 at h
  refine go_aload_n hC 1 dL_law_683 rfl rfl ?_
  obtain ⟨v2, S1, e2, h⟩ := mt_ob2 h
  refine go_callVl hC [] [] (m_X10_least e2) mt_cvL_99 (k_X10_least e2) dL_law_684 rfl rfl (by decide) (Nat.le_of_ble_eq_true rfl) ⟨by omega, by omega⟩ ?_
  refine go_aload_n hC 2 dL_law_687 rfl rfl ?_
  obtain ⟨v4, S3, e4, h⟩ := mt_ob2 h
  refine go_callVl hC [] [.long v2] (m_X11_least e4) mt_cvL_103 (k_X11_least e4) dL_law_688 rfl rfl (by decide) (Nat.le_of_ble_eq_true rfl) ⟨by omega, by omega⟩ ?_
  refine go_lcmp_eq hC (tgt := 1290) dL_law_691 dL_law_692 (by decide) (fun hc => ?_) (fun hc => ?_)
  · have h := mt_ip h hc
    refine go_widen (c1 := (cs.1 + 1, cs.2 + 6)) (Nat.le_succ _) (Nat.le_add_right _ _) (go_sub [0, 1, 2, 3, 4] (lv1 := [(0, .ref bs), (1, mt_rf B 0), (2, mt_rf B 96), (3, mt_rf B 108), (4, .int x4)]) rfl ?_)
    exact kk _ (mt_som h)
  · have h := mt_in' h hc
    refine go_iconst (v := 0) hC dL_law_695 (by decide) ?_
    cases h
def l_17 (w1 : Int32) (w2 : Int32) (S : mt_S) : Option mt_S :=
  mt_b2 (f_X10_upTo 0 ((w1.toInt64 <<< ((32 : Int32).toInt64 &&& 63)) ||| (w2.toInt64 &&& 4294967295)) S) fun v2 S1 =>
  mt_b2 (f_X11_upTo 96 ((w1.toInt64 <<< ((32 : Int32).toInt64 &&& 63)) ||| (w2.toInt64 &&& 4294967295)) S1) fun v4 S3 =>
  if v2 = v4 then
   some S3
  else
   none
set_option maxHeartbeats 4000000 in
set_option maxRecDepth 100000 in
theorem ml_17 {B : mt_B} {E : mt_E} {cs : Nat × Nat} {mc ms bs : Nat} {x4 w0 w1 w2 w3 w4 w5 : Int32} {S S' : mt_S} (hC : mt_Cx B E cL_law RL (some .boolean) 8 1300 mc ms) (hT : mt_th B E) (hlt : B.1.stackTraces = false) (hcs : cs.1 + 1 ≤ mc ∧ cs.2 + 6 ≤ ms) (s1 : mt_sr B E bs (x4 + 1) w1) (s2 : mt_sr B E bs (x4 + 2) w2) (s3 : mt_sr B E bs (x4 + 3) w3) (s4 : mt_sr B E bs (x4 + 4) w4) (s5 : mt_sr B E bs (x4 + 5) w5) (h : l_17 w1 w2 S = some S') (kk : ∀ S1, S1 = S' → mt_Go B E (cs.1 + 1, cs.2 + 6) S1 1290 [(0, .ref bs), (1, mt_rf B 0), (2, mt_rf B 96), (3, mt_rf B 108), (4, .int x4)] []) : mt_Go B E cs S 697 [(0, .ref bs), (1, mt_rf B 0), (2, mt_rf B 96), (3, mt_rf B 108), (4, .int x4)] [] := by
  have hcs1 := hcs.1
  have hcs2 := hcs.2
  unfold l_17 at h
  refine go_aload_n hC 1 dL_law_697 rfl rfl ?_
  refine go_aload_n hC 0 dL_law_698 rfl rfl ?_
  refine go_iload hC 4 dL_law_699 rfl ?_
  refine go_iconst (v := 1) hC dL_law_701 (by decide) ?_
  refine go_iadd hC dL_law_702 ?_
  refine go_sld hC s1 dL_law_703 ?_
  refine go_i2l hC dL_law_704 ?_
  refine go_bipush (v := 32) hC dL_law_705 (by decide) ?_
  refine go_lshl hC dL_law_707 ?_
  refine go_aload_n hC 0 dL_law_708 rfl rfl ?_
  refine go_iload hC 4 dL_law_709 rfl ?_
  refine go_iconst (v := 2) hC dL_law_711 (by decide) ?_
  refine go_iadd hC dL_law_712 ?_
  refine go_sld hC s2 dL_law_713 ?_
  refine go_i2l hC dL_law_714 ?_
  refine go_ldc2 hC dL_law_715 mt_kL_104 ?_
  refine go_land hC dL_law_718 ?_
  refine go_lor hC dL_law_719 ?_
  obtain ⟨v2, S1, e2, h⟩ := mt_ob2 h
  refine go_callVi hC [.long ((w1.toInt64 <<< ((32 : Int32).toInt64 &&& 63)) ||| (w2.toInt64 &&& 4294967295))] [] (m_X10_upTo e2) mt_cvL_106 (k_X10_upTo e2) dL_law_720 rfl rfl (by decide) (Nat.le_of_ble_eq_true rfl) ⟨by omega, by omega⟩ ?_
  refine go_aload_n hC 2 dL_law_723 rfl rfl ?_
  refine go_aload_n hC 0 dL_law_724 rfl rfl ?_
  refine go_iload hC 4 dL_law_725 rfl ?_
  refine go_iconst (v := 1) hC dL_law_727 (by decide) ?_
  refine go_iadd hC dL_law_728 ?_
  refine go_sld hC s1 dL_law_729 ?_
  refine go_i2l hC dL_law_730 ?_
  refine go_bipush (v := 32) hC dL_law_731 (by decide) ?_
  refine go_lshl hC dL_law_733 ?_
  refine go_aload_n hC 0 dL_law_734 rfl rfl ?_
  refine go_iload hC 4 dL_law_735 rfl ?_
  refine go_iconst (v := 2) hC dL_law_737 (by decide) ?_
  refine go_iadd hC dL_law_738 ?_
  refine go_sld hC s2 dL_law_739 ?_
  refine go_i2l hC dL_law_740 ?_
  refine go_ldc2 hC dL_law_741 mt_kL_104 ?_
  refine go_land hC dL_law_744 ?_
  refine go_lor hC dL_law_745 ?_
  obtain ⟨v4, S3, e4, h⟩ := mt_ob2 h
  refine go_callVi hC [.long ((w1.toInt64 <<< ((32 : Int32).toInt64 &&& 63)) ||| (w2.toInt64 &&& 4294967295))] [.int v2] (m_X11_upTo e4) mt_cvL_110 (k_X11_upTo e4) dL_law_746 rfl rfl (by decide) (Nat.le_of_ble_eq_true rfl) ⟨by omega, by omega⟩ ?_
  refine go_icmp_eq hC (tgt := 1290) dL_law_749 (by decide) (fun hc => ?_) (fun hc => ?_)
  · have h := mt_ip h hc
    refine go_widen (c1 := (cs.1 + 1, cs.2 + 6)) (Nat.le_succ _) (Nat.le_add_right _ _) (go_sub [0, 1, 2, 3, 4] (lv1 := [(0, .ref bs), (1, mt_rf B 0), (2, mt_rf B 96), (3, mt_rf B 108), (4, .int x4)]) rfl ?_)
    exact kk _ (mt_som h)
  · have h := mt_in' h hc
    refine go_iconst (v := 0) hC dL_law_752 (by decide) ?_
    cases h
def l_18 (w1 : Int32) (S : mt_S) : Option mt_S :=
  mt_b2 (f_X10_markov 0 w1 S) fun v2 S1 =>
  mt_b2 (f_X11_markov 96 w1 S1) fun v4 S3 =>
  if v2 = v4 then
   some S3
  else
   none
set_option maxHeartbeats 4000000 in
set_option maxRecDepth 100000 in
theorem ml_18 {B : mt_B} {E : mt_E} {cs : Nat × Nat} {mc ms bs : Nat} {x4 w0 w1 w2 w3 w4 w5 : Int32} {S S' : mt_S} (hC : mt_Cx B E cL_law RL (some .boolean) 8 1300 mc ms) (hT : mt_th B E) (hlt : B.1.stackTraces = false) (hcs : cs.1 + 1 ≤ mc ∧ cs.2 + 6 ≤ ms) (s1 : mt_sr B E bs (x4 + 1) w1) (s2 : mt_sr B E bs (x4 + 2) w2) (s3 : mt_sr B E bs (x4 + 3) w3) (s4 : mt_sr B E bs (x4 + 4) w4) (s5 : mt_sr B E bs (x4 + 5) w5) (h : l_18 w1 S = some S') (kk : ∀ S1, S1 = S' → mt_Go B E (cs.1 + 1, cs.2 + 6) S1 1290 [(0, .ref bs), (1, mt_rf B 0), (2, mt_rf B 96), (3, mt_rf B 108), (4, .int x4)] []) : mt_Go B E cs S 754 [(0, .ref bs), (1, mt_rf B 0), (2, mt_rf B 96), (3, mt_rf B 108), (4, .int x4)] [] := by
  have hcs1 := hcs.1
  have hcs2 := hcs.2
  unfold l_18 at h
  refine go_aload_n hC 1 dL_law_754 rfl rfl ?_
  refine go_aload_n hC 0 dL_law_755 rfl rfl ?_
  refine go_iload hC 4 dL_law_756 rfl ?_
  refine go_iconst (v := 1) hC dL_law_758 (by decide) ?_
  refine go_iadd hC dL_law_759 ?_
  refine go_sld hC s1 dL_law_760 ?_
  obtain ⟨v2, S1, e2, h⟩ := mt_ob2 h
  refine go_callVl hC [.int w1] [] (m_X10_markov e2) mt_cvL_111 (k_X10_markov e2) dL_law_761 rfl rfl (by decide) (Nat.le_of_ble_eq_true rfl) ⟨by omega, by omega⟩ ?_
  refine go_aload_n hC 2 dL_law_764 rfl rfl ?_
  refine go_aload_n hC 0 dL_law_765 rfl rfl ?_
  refine go_iload hC 4 dL_law_766 rfl ?_
  refine go_iconst (v := 1) hC dL_law_768 (by decide) ?_
  refine go_iadd hC dL_law_769 ?_
  refine go_sld hC s1 dL_law_770 ?_
  obtain ⟨v4, S3, e4, h⟩ := mt_ob2 h
  refine go_callVl hC [.int w1] [.long v2] (m_X11_markov e4) mt_cvL_114 (k_X11_markov e4) dL_law_771 rfl rfl (by decide) (Nat.le_of_ble_eq_true rfl) ⟨by omega, by omega⟩ ?_
  refine go_lcmp_eq hC (tgt := 1290) dL_law_774 dL_law_775 (by decide) (fun hc => ?_) (fun hc => ?_)
  · have h := mt_ip h hc
    refine go_widen (c1 := (cs.1 + 1, cs.2 + 6)) (Nat.le_succ _) (Nat.le_add_right _ _) (go_sub [0, 1, 2, 3, 4] (lv1 := [(0, .ref bs), (1, mt_rf B 0), (2, mt_rf B 96), (3, mt_rf B 108), (4, .int x4)]) rfl ?_)
    exact kk _ (mt_som h)
  · have h := mt_in' h hc
    refine go_iconst (v := 0) hC dL_law_778 (by decide) ?_
    cases h
def l_19 (w1 : Int32) (w2 : Int32) (S : mt_S) : Option mt_S :=
  mt_b2 (f_X10_rank 0 ((w1.toInt64 <<< ((32 : Int32).toInt64 &&& 63)) ||| (w2.toInt64 &&& 4294967295)) S) fun v2 S1 =>
  mt_b2 (f_X11_rank 96 ((w1.toInt64 <<< ((32 : Int32).toInt64 &&& 63)) ||| (w2.toInt64 &&& 4294967295)) S1) fun v4 S3 =>
  if v2 = v4 then
   some S3
  else
   none
set_option maxHeartbeats 4000000 in
set_option maxRecDepth 100000 in
theorem ml_19 {B : mt_B} {E : mt_E} {cs : Nat × Nat} {mc ms bs : Nat} {x4 w0 w1 w2 w3 w4 w5 : Int32} {S S' : mt_S} (hC : mt_Cx B E cL_law RL (some .boolean) 8 1300 mc ms) (hT : mt_th B E) (hlt : B.1.stackTraces = false) (hcs : cs.1 + 1 ≤ mc ∧ cs.2 + 6 ≤ ms) (s1 : mt_sr B E bs (x4 + 1) w1) (s2 : mt_sr B E bs (x4 + 2) w2) (s3 : mt_sr B E bs (x4 + 3) w3) (s4 : mt_sr B E bs (x4 + 4) w4) (s5 : mt_sr B E bs (x4 + 5) w5) (h : l_19 w1 w2 S = some S') (kk : ∀ S1, S1 = S' → mt_Go B E (cs.1 + 1, cs.2 + 6) S1 1290 [(0, .ref bs), (1, mt_rf B 0), (2, mt_rf B 96), (3, mt_rf B 108), (4, .int x4)] []) : mt_Go B E cs S 780 [(0, .ref bs), (1, mt_rf B 0), (2, mt_rf B 96), (3, mt_rf B 108), (4, .int x4)] [] := by
  have hcs1 := hcs.1
  have hcs2 := hcs.2
  unfold l_19 at h
  refine go_aload_n hC 1 dL_law_780 rfl rfl ?_
  refine go_aload_n hC 0 dL_law_781 rfl rfl ?_
  refine go_iload hC 4 dL_law_782 rfl ?_
  refine go_iconst (v := 1) hC dL_law_784 (by decide) ?_
  refine go_iadd hC dL_law_785 ?_
  refine go_sld hC s1 dL_law_786 ?_
  refine go_i2l hC dL_law_787 ?_
  refine go_bipush (v := 32) hC dL_law_788 (by decide) ?_
  refine go_lshl hC dL_law_790 ?_
  refine go_aload_n hC 0 dL_law_791 rfl rfl ?_
  refine go_iload hC 4 dL_law_792 rfl ?_
  refine go_iconst (v := 2) hC dL_law_794 (by decide) ?_
  refine go_iadd hC dL_law_795 ?_
  refine go_sld hC s2 dL_law_796 ?_
  refine go_i2l hC dL_law_797 ?_
  refine go_ldc2 hC dL_law_798 mt_kL_104 ?_
  refine go_land hC dL_law_801 ?_
  refine go_lor hC dL_law_802 ?_
  obtain ⟨v2, S1, e2, h⟩ := mt_ob2 h
  refine go_callVi hC [.long ((w1.toInt64 <<< ((32 : Int32).toInt64 &&& 63)) ||| (w2.toInt64 &&& 4294967295))] [] (m_X10_rank e2) mt_cvL_115 (k_X10_rank e2) dL_law_803 rfl rfl (by decide) (Nat.le_of_ble_eq_true rfl) ⟨by omega, by omega⟩ ?_
  refine go_aload_n hC 2 dL_law_806 rfl rfl ?_
  refine go_aload_n hC 0 dL_law_807 rfl rfl ?_
  refine go_iload hC 4 dL_law_808 rfl ?_
  refine go_iconst (v := 1) hC dL_law_810 (by decide) ?_
  refine go_iadd hC dL_law_811 ?_
  refine go_sld hC s1 dL_law_812 ?_
  refine go_i2l hC dL_law_813 ?_
  refine go_bipush (v := 32) hC dL_law_814 (by decide) ?_
  refine go_lshl hC dL_law_816 ?_
  refine go_aload_n hC 0 dL_law_817 rfl rfl ?_
  refine go_iload hC 4 dL_law_818 rfl ?_
  refine go_iconst (v := 2) hC dL_law_820 (by decide) ?_
  refine go_iadd hC dL_law_821 ?_
  refine go_sld hC s2 dL_law_822 ?_
  refine go_i2l hC dL_law_823 ?_
  refine go_ldc2 hC dL_law_824 mt_kL_104 ?_
  refine go_land hC dL_law_827 ?_
  refine go_lor hC dL_law_828 ?_
  obtain ⟨v4, S3, e4, h⟩ := mt_ob2 h
  refine go_callVi hC [.long ((w1.toInt64 <<< ((32 : Int32).toInt64 &&& 63)) ||| (w2.toInt64 &&& 4294967295))] [.int v2] (m_X11_rank e4) mt_cvL_118 (k_X11_rank e4) dL_law_829 rfl rfl (by decide) (Nat.le_of_ble_eq_true rfl) ⟨by omega, by omega⟩ ?_
  refine go_icmp_eq hC (tgt := 1290) dL_law_832 (by decide) (fun hc => ?_) (fun hc => ?_)
  · have h := mt_ip h hc
    refine go_widen (c1 := (cs.1 + 1, cs.2 + 6)) (Nat.le_succ _) (Nat.le_add_right _ _) (go_sub [0, 1, 2, 3, 4] (lv1 := [(0, .ref bs), (1, mt_rf B 0), (2, mt_rf B 96), (3, mt_rf B 108), (4, .int x4)]) rfl ?_)
    exact kk _ (mt_som h)
  · have h := mt_in' h hc
    refine go_iconst (v := 0) hC dL_law_835 (by decide) ?_
    cases h
def l_20 (w1 : Int32) (w2 : Int32) (S : mt_S) : Option mt_S :=
  mt_b2 (f_X10_triples 0 ((w1.toInt64 <<< ((32 : Int32).toInt64 &&& 63)) ||| (w2.toInt64 &&& 4294967295)) S) fun v2 S1 =>
  mt_b2 (f_X11_triples 96 ((w1.toInt64 <<< ((32 : Int32).toInt64 &&& 63)) ||| (w2.toInt64 &&& 4294967295)) S1) fun v4 S3 =>
  if v2 = v4 then
   some S3
  else
   none
set_option maxHeartbeats 4000000 in
set_option maxRecDepth 100000 in
theorem ml_20 {B : mt_B} {E : mt_E} {cs : Nat × Nat} {mc ms bs : Nat} {x4 w0 w1 w2 w3 w4 w5 : Int32} {S S' : mt_S} (hC : mt_Cx B E cL_law RL (some .boolean) 8 1300 mc ms) (hT : mt_th B E) (hlt : B.1.stackTraces = false) (hcs : cs.1 + 1 ≤ mc ∧ cs.2 + 6 ≤ ms) (s1 : mt_sr B E bs (x4 + 1) w1) (s2 : mt_sr B E bs (x4 + 2) w2) (s3 : mt_sr B E bs (x4 + 3) w3) (s4 : mt_sr B E bs (x4 + 4) w4) (s5 : mt_sr B E bs (x4 + 5) w5) (h : l_20 w1 w2 S = some S') (kk : ∀ S1, S1 = S' → mt_Go B E (cs.1 + 1, cs.2 + 6) S1 1290 [(0, .ref bs), (1, mt_rf B 0), (2, mt_rf B 96), (3, mt_rf B 108), (4, .int x4)] []) : mt_Go B E cs S 837 [(0, .ref bs), (1, mt_rf B 0), (2, mt_rf B 96), (3, mt_rf B 108), (4, .int x4)] [] := by
  have hcs1 := hcs.1
  have hcs2 := hcs.2
  unfold l_20 at h
  refine go_aload_n hC 1 dL_law_837 rfl rfl ?_
  refine go_aload_n hC 0 dL_law_838 rfl rfl ?_
  refine go_iload hC 4 dL_law_839 rfl ?_
  refine go_iconst (v := 1) hC dL_law_841 (by decide) ?_
  refine go_iadd hC dL_law_842 ?_
  refine go_sld hC s1 dL_law_843 ?_
  refine go_i2l hC dL_law_844 ?_
  refine go_bipush (v := 32) hC dL_law_845 (by decide) ?_
  refine go_lshl hC dL_law_847 ?_
  refine go_aload_n hC 0 dL_law_848 rfl rfl ?_
  refine go_iload hC 4 dL_law_849 rfl ?_
  refine go_iconst (v := 2) hC dL_law_851 (by decide) ?_
  refine go_iadd hC dL_law_852 ?_
  refine go_sld hC s2 dL_law_853 ?_
  refine go_i2l hC dL_law_854 ?_
  refine go_ldc2 hC dL_law_855 mt_kL_104 ?_
  refine go_land hC dL_law_858 ?_
  refine go_lor hC dL_law_859 ?_
  obtain ⟨v2, S1, e2, h⟩ := mt_ob2 h
  refine go_callVi hC [.long ((w1.toInt64 <<< ((32 : Int32).toInt64 &&& 63)) ||| (w2.toInt64 &&& 4294967295))] [] (m_X10_triples e2) mt_cvL_119 (k_X10_triples e2) dL_law_860 rfl rfl (by decide) (Nat.le_of_ble_eq_true rfl) ⟨by omega, by omega⟩ ?_
  refine go_aload_n hC 2 dL_law_863 rfl rfl ?_
  refine go_aload_n hC 0 dL_law_864 rfl rfl ?_
  refine go_iload hC 4 dL_law_865 rfl ?_
  refine go_iconst (v := 1) hC dL_law_867 (by decide) ?_
  refine go_iadd hC dL_law_868 ?_
  refine go_sld hC s1 dL_law_869 ?_
  refine go_i2l hC dL_law_870 ?_
  refine go_bipush (v := 32) hC dL_law_871 (by decide) ?_
  refine go_lshl hC dL_law_873 ?_
  refine go_aload_n hC 0 dL_law_874 rfl rfl ?_
  refine go_iload hC 4 dL_law_875 rfl ?_
  refine go_iconst (v := 2) hC dL_law_877 (by decide) ?_
  refine go_iadd hC dL_law_878 ?_
  refine go_sld hC s2 dL_law_879 ?_
  refine go_i2l hC dL_law_880 ?_
  refine go_ldc2 hC dL_law_881 mt_kL_104 ?_
  refine go_land hC dL_law_884 ?_
  refine go_lor hC dL_law_885 ?_
  obtain ⟨v4, S3, e4, h⟩ := mt_ob2 h
  refine go_callVi hC [.long ((w1.toInt64 <<< ((32 : Int32).toInt64 &&& 63)) ||| (w2.toInt64 &&& 4294967295))] [.int v2] (m_X11_triples e4) mt_cvL_122 (k_X11_triples e4) dL_law_886 rfl rfl (by decide) (Nat.le_of_ble_eq_true rfl) ⟨by omega, by omega⟩ ?_
  refine go_icmp_eq hC (tgt := 1290) dL_law_889 (by decide) (fun hc => ?_) (fun hc => ?_)
  · have h := mt_ip h hc
    refine go_widen (c1 := (cs.1 + 1, cs.2 + 6)) (Nat.le_succ _) (Nat.le_add_right _ _) (go_sub [0, 1, 2, 3, 4] (lv1 := [(0, .ref bs), (1, mt_rf B 0), (2, mt_rf B 96), (3, mt_rf B 108), (4, .int x4)]) rfl ?_)
    exact kk _ (mt_som h)
  · have h := mt_in' h hc
    refine go_iconst (v := 0) hC dL_law_892 (by decide) ?_
    cases h
def l_21 (w1 : Int32) (w2 : Int32) (w3 : Int32) (S : mt_S) : Option mt_S :=
  mt_b2 (f_X10_with 0 ((w1.toInt64 <<< ((32 : Int32).toInt64 &&& 63)) ||| (w2.toInt64 &&& 4294967295)) w3 S) fun v2 S1 =>
  mt_b2 (f_X11_with 96 ((w1.toInt64 <<< ((32 : Int32).toInt64 &&& 63)) ||| (w2.toInt64 &&& 4294967295)) w3 S1) fun v4 S3 =>
  if v2 = v4 then
   some S3
  else
   none
set_option maxHeartbeats 4000000 in
set_option maxRecDepth 100000 in
theorem ml_21 {B : mt_B} {E : mt_E} {cs : Nat × Nat} {mc ms bs : Nat} {x4 w0 w1 w2 w3 w4 w5 : Int32} {S S' : mt_S} (hC : mt_Cx B E cL_law RL (some .boolean) 8 1300 mc ms) (hT : mt_th B E) (hlt : B.1.stackTraces = false) (hcs : cs.1 + 1 ≤ mc ∧ cs.2 + 6 ≤ ms) (s1 : mt_sr B E bs (x4 + 1) w1) (s2 : mt_sr B E bs (x4 + 2) w2) (s3 : mt_sr B E bs (x4 + 3) w3) (s4 : mt_sr B E bs (x4 + 4) w4) (s5 : mt_sr B E bs (x4 + 5) w5) (h : l_21 w1 w2 w3 S = some S') (kk : ∀ S1, S1 = S' → mt_Go B E (cs.1 + 1, cs.2 + 6) S1 1290 [(0, .ref bs), (1, mt_rf B 0), (2, mt_rf B 96), (3, mt_rf B 108), (4, .int x4)] []) : mt_Go B E cs S 894 [(0, .ref bs), (1, mt_rf B 0), (2, mt_rf B 96), (3, mt_rf B 108), (4, .int x4)] [] := by
  have hcs1 := hcs.1
  have hcs2 := hcs.2
  unfold l_21 at h
  refine go_aload_n hC 1 dL_law_894 rfl rfl ?_
  refine go_aload_n hC 0 dL_law_895 rfl rfl ?_
  refine go_iload hC 4 dL_law_896 rfl ?_
  refine go_iconst (v := 1) hC dL_law_898 (by decide) ?_
  refine go_iadd hC dL_law_899 ?_
  refine go_sld hC s1 dL_law_900 ?_
  refine go_i2l hC dL_law_901 ?_
  refine go_bipush (v := 32) hC dL_law_902 (by decide) ?_
  refine go_lshl hC dL_law_904 ?_
  refine go_aload_n hC 0 dL_law_905 rfl rfl ?_
  refine go_iload hC 4 dL_law_906 rfl ?_
  refine go_iconst (v := 2) hC dL_law_908 (by decide) ?_
  refine go_iadd hC dL_law_909 ?_
  refine go_sld hC s2 dL_law_910 ?_
  refine go_i2l hC dL_law_911 ?_
  refine go_ldc2 hC dL_law_912 mt_kL_104 ?_
  refine go_land hC dL_law_915 ?_
  refine go_lor hC dL_law_916 ?_
  refine go_aload_n hC 0 dL_law_917 rfl rfl ?_
  refine go_iload hC 4 dL_law_918 rfl ?_
  refine go_iconst (v := 3) hC dL_law_920 (by decide) ?_
  refine go_iadd hC dL_law_921 ?_
  refine go_sld hC s3 dL_law_922 ?_
  obtain ⟨v2, S1, e2, h⟩ := mt_ob2 h
  refine go_callVl hC [.long ((w1.toInt64 <<< ((32 : Int32).toInt64 &&& 63)) ||| (w2.toInt64 &&& 4294967295)), .int w3] [] (m_X10_with e2) mt_cvL_123 (k_X10_with e2) dL_law_923 rfl rfl (by decide) (Nat.le_of_ble_eq_true rfl) ⟨by omega, by omega⟩ ?_
  refine go_aload_n hC 2 dL_law_926 rfl rfl ?_
  refine go_aload_n hC 0 dL_law_927 rfl rfl ?_
  refine go_iload hC 4 dL_law_928 rfl ?_
  refine go_iconst (v := 1) hC dL_law_930 (by decide) ?_
  refine go_iadd hC dL_law_931 ?_
  refine go_sld hC s1 dL_law_932 ?_
  refine go_i2l hC dL_law_933 ?_
  refine go_bipush (v := 32) hC dL_law_934 (by decide) ?_
  refine go_lshl hC dL_law_936 ?_
  refine go_aload_n hC 0 dL_law_937 rfl rfl ?_
  refine go_iload hC 4 dL_law_938 rfl ?_
  refine go_iconst (v := 2) hC dL_law_940 (by decide) ?_
  refine go_iadd hC dL_law_941 ?_
  refine go_sld hC s2 dL_law_942 ?_
  refine go_i2l hC dL_law_943 ?_
  refine go_ldc2 hC dL_law_944 mt_kL_104 ?_
  refine go_land hC dL_law_947 ?_
  refine go_lor hC dL_law_948 ?_
  refine go_aload_n hC 0 dL_law_949 rfl rfl ?_
  refine go_iload hC 4 dL_law_950 rfl ?_
  refine go_iconst (v := 3) hC dL_law_952 (by decide) ?_
  refine go_iadd hC dL_law_953 ?_
  refine go_sld hC s3 dL_law_954 ?_
  obtain ⟨v4, S3, e4, h⟩ := mt_ob2 h
  refine go_callVl hC [.long ((w1.toInt64 <<< ((32 : Int32).toInt64 &&& 63)) ||| (w2.toInt64 &&& 4294967295)), .int w3] [.long v2] (m_X11_with e4) mt_cvL_127 (k_X11_with e4) dL_law_955 rfl rfl (by decide) (Nat.le_of_ble_eq_true rfl) ⟨by omega, by omega⟩ ?_
  refine go_lcmp_eq hC (tgt := 1290) dL_law_958 dL_law_959 (by decide) (fun hc => ?_) (fun hc => ?_)
  · have h := mt_ip h hc
    refine go_widen (c1 := (cs.1 + 1, cs.2 + 6)) (Nat.le_succ _) (Nat.le_add_right _ _) (go_sub [0, 1, 2, 3, 4] (lv1 := [(0, .ref bs), (1, mt_rf B 0), (2, mt_rf B 96), (3, mt_rf B 108), (4, .int x4)]) rfl ?_)
    exact kk _ (mt_som h)
  · have h := mt_in' h hc
    refine go_iconst (v := 0) hC dL_law_962 (by decide) ?_
    cases h
def l_22 (S : mt_S) : Option mt_S :=
  mt_b2 (f_X10_spread 0 S) fun v2 S1 =>
  mt_b2 (f_X11_spread 96 S1) fun v4 S3 =>
  if v2 = v4 then
   some S3
  else
   none
set_option maxHeartbeats 4000000 in
set_option maxRecDepth 100000 in
theorem ml_22 {B : mt_B} {E : mt_E} {cs : Nat × Nat} {mc ms bs : Nat} {x4 w0 w1 w2 w3 w4 w5 : Int32} {S S' : mt_S} (hC : mt_Cx B E cL_law RL (some .boolean) 8 1300 mc ms) (hT : mt_th B E) (hlt : B.1.stackTraces = false) (hcs : cs.1 + 1 ≤ mc ∧ cs.2 + 6 ≤ ms) (s1 : mt_sr B E bs (x4 + 1) w1) (s2 : mt_sr B E bs (x4 + 2) w2) (s3 : mt_sr B E bs (x4 + 3) w3) (s4 : mt_sr B E bs (x4 + 4) w4) (s5 : mt_sr B E bs (x4 + 5) w5) (h : l_22  S = some S') (kk : ∀ S1, S1 = S' → mt_Go B E (cs.1 + 1, cs.2 + 6) S1 1290 [(0, .ref bs), (1, mt_rf B 0), (2, mt_rf B 96), (3, mt_rf B 108), (4, .int x4)] []) : mt_Go B E cs S 964 [(0, .ref bs), (1, mt_rf B 0), (2, mt_rf B 96), (3, mt_rf B 108), (4, .int x4)] [] := by
  have hcs1 := hcs.1
  have hcs2 := hcs.2
  unfold l_22 at h
  refine go_aload_n hC 1 dL_law_964 rfl rfl ?_
  obtain ⟨v2, S1, e2, h⟩ := mt_ob2 h
  refine go_callVi hC [] [] (m_X10_spread e2) mt_cvL_128 (k_X10_spread e2) dL_law_965 rfl rfl (by decide) (Nat.le_of_ble_eq_true rfl) ⟨by omega, by omega⟩ ?_
  refine go_aload_n hC 2 dL_law_968 rfl rfl ?_
  obtain ⟨v4, S3, e4, h⟩ := mt_ob2 h
  refine go_callVi hC [] [.int v2] (m_X11_spread e4) mt_cvL_131 (k_X11_spread e4) dL_law_969 rfl rfl (by decide) (Nat.le_of_ble_eq_true rfl) ⟨by omega, by omega⟩ ?_
  refine go_icmp_eq hC (tgt := 1290) dL_law_972 (by decide) (fun hc => ?_) (fun hc => ?_)
  · have h := mt_ip h hc
    refine go_widen (c1 := (cs.1 + 1, cs.2 + 6)) (Nat.le_succ _) (Nat.le_add_right _ _) (go_sub [0, 1, 2, 3, 4] (lv1 := [(0, .ref bs), (1, mt_rf B 0), (2, mt_rf B 96), (3, mt_rf B 108), (4, .int x4)]) rfl ?_)
    exact kk _ (mt_som h)
  · have h := mt_in' h hc
    refine go_iconst (v := 0) hC dL_law_975 (by decide) ?_
    cases h
def l_23 (S : mt_S) : Option mt_S :=
  mt_b2 (f_X10_mark 0 S) fun v2 S1 =>
  mt_b2 (f_X11_mark 96 S1) fun v4 S3 =>
  if v2 = v4 then
   some S3
  else
   none
set_option maxHeartbeats 4000000 in
set_option maxRecDepth 100000 in
theorem ml_23 {B : mt_B} {E : mt_E} {cs : Nat × Nat} {mc ms bs : Nat} {x4 w0 w1 w2 w3 w4 w5 : Int32} {S S' : mt_S} (hC : mt_Cx B E cL_law RL (some .boolean) 8 1300 mc ms) (hT : mt_th B E) (hlt : B.1.stackTraces = false) (hcs : cs.1 + 1 ≤ mc ∧ cs.2 + 6 ≤ ms) (s1 : mt_sr B E bs (x4 + 1) w1) (s2 : mt_sr B E bs (x4 + 2) w2) (s3 : mt_sr B E bs (x4 + 3) w3) (s4 : mt_sr B E bs (x4 + 4) w4) (s5 : mt_sr B E bs (x4 + 5) w5) (h : l_23  S = some S') (kk : ∀ S1, S1 = S' → mt_Go B E (cs.1 + 1, cs.2 + 6) S1 1290 [(0, .ref bs), (1, mt_rf B 0), (2, mt_rf B 96), (3, mt_rf B 108), (4, .int x4)] []) : mt_Go B E cs S 977 [(0, .ref bs), (1, mt_rf B 0), (2, mt_rf B 96), (3, mt_rf B 108), (4, .int x4)] [] := by
  have hcs1 := hcs.1
  have hcs2 := hcs.2
  unfold l_23 at h
  refine go_aload_n hC 1 dL_law_977 rfl rfl ?_
  obtain ⟨v2, S1, e2, h⟩ := mt_ob2 h
  refine go_callVi hC [] [] (m_X10_mark e2) mt_cvL_132 (k_X10_mark e2) dL_law_978 rfl rfl (by decide) (Nat.le_of_ble_eq_true rfl) ⟨by omega, by omega⟩ ?_
  refine go_aload_n hC 2 dL_law_981 rfl rfl ?_
  obtain ⟨v4, S3, e4, h⟩ := mt_ob2 h
  refine go_callVi hC [] [.int v2] (m_X11_mark e4) mt_cvL_135 (k_X11_mark e4) dL_law_982 rfl rfl (by decide) (Nat.le_of_ble_eq_true rfl) ⟨by omega, by omega⟩ ?_
  refine go_icmp_eq hC (tgt := 1290) dL_law_985 (by decide) (fun hc => ?_) (fun hc => ?_)
  · have h := mt_ip h hc
    refine go_widen (c1 := (cs.1 + 1, cs.2 + 6)) (Nat.le_succ _) (Nat.le_add_right _ _) (go_sub [0, 1, 2, 3, 4] (lv1 := [(0, .ref bs), (1, mt_rf B 0), (2, mt_rf B 96), (3, mt_rf B 108), (4, .int x4)]) rfl ?_)
    exact kk _ (mt_som h)
  · have h := mt_in' h hc
    refine go_iconst (v := 0) hC dL_law_988 (by decide) ?_
    cases h
def l_24 (S : mt_S) : Option mt_S :=
  mt_b2 (f_X10_unmark 0 S) fun v2 S1 =>
  mt_b2 (f_X11_unmark 96 S1) fun v4 S3 =>
  if v2 = v4 then
   some S3
  else
   none
set_option maxHeartbeats 4000000 in
set_option maxRecDepth 100000 in
theorem ml_24 {B : mt_B} {E : mt_E} {cs : Nat × Nat} {mc ms bs : Nat} {x4 w0 w1 w2 w3 w4 w5 : Int32} {S S' : mt_S} (hC : mt_Cx B E cL_law RL (some .boolean) 8 1300 mc ms) (hT : mt_th B E) (hlt : B.1.stackTraces = false) (hcs : cs.1 + 1 ≤ mc ∧ cs.2 + 6 ≤ ms) (s1 : mt_sr B E bs (x4 + 1) w1) (s2 : mt_sr B E bs (x4 + 2) w2) (s3 : mt_sr B E bs (x4 + 3) w3) (s4 : mt_sr B E bs (x4 + 4) w4) (s5 : mt_sr B E bs (x4 + 5) w5) (h : l_24  S = some S') (kk : ∀ S1, S1 = S' → mt_Go B E (cs.1 + 1, cs.2 + 6) S1 1290 [(0, .ref bs), (1, mt_rf B 0), (2, mt_rf B 96), (3, mt_rf B 108), (4, .int x4)] []) : mt_Go B E cs S 990 [(0, .ref bs), (1, mt_rf B 0), (2, mt_rf B 96), (3, mt_rf B 108), (4, .int x4)] [] := by
  have hcs1 := hcs.1
  have hcs2 := hcs.2
  unfold l_24 at h
  refine go_aload_n hC 1 dL_law_990 rfl rfl ?_
  obtain ⟨v2, S1, e2, h⟩ := mt_ob2 h
  refine go_callVi hC [] [] (m_X10_unmark e2) mt_cvL_136 (k_X10_unmark e2) dL_law_991 rfl rfl (by decide) (Nat.le_of_ble_eq_true rfl) ⟨by omega, by omega⟩ ?_
  refine go_aload_n hC 2 dL_law_994 rfl rfl ?_
  obtain ⟨v4, S3, e4, h⟩ := mt_ob2 h
  refine go_callVi hC [] [.int v2] (m_X11_unmark e4) mt_cvL_139 (k_X11_unmark e4) dL_law_995 rfl rfl (by decide) (Nat.le_of_ble_eq_true rfl) ⟨by omega, by omega⟩ ?_
  refine go_icmp_eq hC (tgt := 1290) dL_law_998 (by decide) (fun hc => ?_) (fun hc => ?_)
  · have h := mt_ip h hc
    refine go_widen (c1 := (cs.1 + 1, cs.2 + 6)) (Nat.le_succ _) (Nat.le_add_right _ _) (go_sub [0, 1, 2, 3, 4] (lv1 := [(0, .ref bs), (1, mt_rf B 0), (2, mt_rf B 96), (3, mt_rf B 108), (4, .int x4)]) rfl ?_)
    exact kk _ (mt_som h)
  · have h := mt_in' h hc
    refine go_iconst (v := 0) hC dL_law_1001 (by decide) ?_
    cases h
def l_25 (w1 : Int32) (w2 : Int32) (S : mt_S) : Option mt_S :=
  mt_b2 (f_X10_marked 0 w1 w2 S) fun v2 S1 =>
  mt_b2 (f_X11_marked 96 w1 w2 S1) fun v4 S3 =>
  if v2 = v4 then
   some S3
  else
   none
set_option maxHeartbeats 4000000 in
set_option maxRecDepth 100000 in
theorem ml_25 {B : mt_B} {E : mt_E} {cs : Nat × Nat} {mc ms bs : Nat} {x4 w0 w1 w2 w3 w4 w5 : Int32} {S S' : mt_S} (hC : mt_Cx B E cL_law RL (some .boolean) 8 1300 mc ms) (hT : mt_th B E) (hlt : B.1.stackTraces = false) (hcs : cs.1 + 1 ≤ mc ∧ cs.2 + 6 ≤ ms) (s1 : mt_sr B E bs (x4 + 1) w1) (s2 : mt_sr B E bs (x4 + 2) w2) (s3 : mt_sr B E bs (x4 + 3) w3) (s4 : mt_sr B E bs (x4 + 4) w4) (s5 : mt_sr B E bs (x4 + 5) w5) (h : l_25 w1 w2 S = some S') (kk : ∀ S1, S1 = S' → mt_Go B E (cs.1 + 1, cs.2 + 6) S1 1290 [(0, .ref bs), (1, mt_rf B 0), (2, mt_rf B 96), (3, mt_rf B 108), (4, .int x4)] []) : mt_Go B E cs S 1003 [(0, .ref bs), (1, mt_rf B 0), (2, mt_rf B 96), (3, mt_rf B 108), (4, .int x4)] [] := by
  have hcs1 := hcs.1
  have hcs2 := hcs.2
  unfold l_25 at h
  refine go_aload_n hC 1 dL_law_1003 rfl rfl ?_
  refine go_aload_n hC 0 dL_law_1004 rfl rfl ?_
  refine go_iload hC 4 dL_law_1005 rfl ?_
  refine go_iconst (v := 1) hC dL_law_1007 (by decide) ?_
  refine go_iadd hC dL_law_1008 ?_
  refine go_sld hC s1 dL_law_1009 ?_
  refine go_aload_n hC 0 dL_law_1010 rfl rfl ?_
  refine go_iload hC 4 dL_law_1011 rfl ?_
  refine go_iconst (v := 2) hC dL_law_1013 (by decide) ?_
  refine go_iadd hC dL_law_1014 ?_
  refine go_sld hC s2 dL_law_1015 ?_
  obtain ⟨v2, S1, e2, h⟩ := mt_ob2 h
  refine go_callVl hC [.int w1, .int w2] [] (m_X10_marked e2) mt_cvL_140 (k_X10_marked e2) dL_law_1016 rfl rfl (by decide) (Nat.le_of_ble_eq_true rfl) ⟨by omega, by omega⟩ ?_
  refine go_aload_n hC 2 dL_law_1019 rfl rfl ?_
  refine go_aload_n hC 0 dL_law_1020 rfl rfl ?_
  refine go_iload hC 4 dL_law_1021 rfl ?_
  refine go_iconst (v := 1) hC dL_law_1023 (by decide) ?_
  refine go_iadd hC dL_law_1024 ?_
  refine go_sld hC s1 dL_law_1025 ?_
  refine go_aload_n hC 0 dL_law_1026 rfl rfl ?_
  refine go_iload hC 4 dL_law_1027 rfl ?_
  refine go_iconst (v := 2) hC dL_law_1029 (by decide) ?_
  refine go_iadd hC dL_law_1030 ?_
  refine go_sld hC s2 dL_law_1031 ?_
  obtain ⟨v4, S3, e4, h⟩ := mt_ob2 h
  refine go_callVl hC [.int w1, .int w2] [.long v2] (m_X11_marked e4) mt_cvL_143 (k_X11_marked e4) dL_law_1032 rfl rfl (by decide) (Nat.le_of_ble_eq_true rfl) ⟨by omega, by omega⟩ ?_
  refine go_lcmp_eq hC (tgt := 1290) dL_law_1035 dL_law_1036 (by decide) (fun hc => ?_) (fun hc => ?_)
  · have h := mt_ip h hc
    refine go_widen (c1 := (cs.1 + 1, cs.2 + 6)) (Nat.le_succ _) (Nat.le_add_right _ _) (go_sub [0, 1, 2, 3, 4] (lv1 := [(0, .ref bs), (1, mt_rf B 0), (2, mt_rf B 96), (3, mt_rf B 108), (4, .int x4)]) rfl ?_)
    exact kk _ (mt_som h)
  · have h := mt_in' h hc
    refine go_iconst (v := 0) hC dL_law_1039 (by decide) ?_
    cases h
def l_26 (w1 : Int32) (w2 : Int32) (w3 : Int32) (S : mt_S) : Option mt_S :=
  if w3 = 0 then
   mt_b2 (f_X10_near 0 ((w1.toInt64 <<< ((32 : Int32).toInt64 &&& 63)) ||| (w2.toInt64 &&& 4294967295)) 0 S) fun v2 S1 =>
   if w3 = 0 then
    mt_b2 (f_X11_near 96 ((w1.toInt64 <<< ((32 : Int32).toInt64 &&& 63)) ||| (w2.toInt64 &&& 4294967295)) 0 S1) fun v4 S3 =>
    if v2 = v4 then
     some S3
    else
     none
   else
    mt_b2 (f_X11_near 96 ((w1.toInt64 <<< ((32 : Int32).toInt64 &&& 63)) ||| (w2.toInt64 &&& 4294967295)) 1 S1) fun v6 S5 =>
    if v2 = v6 then
     some S5
    else
     none
  else
   mt_b2 (f_X10_near 0 ((w1.toInt64 <<< ((32 : Int32).toInt64 &&& 63)) ||| (w2.toInt64 &&& 4294967295)) 1 S) fun v8 S7 =>
   if w3 = 0 then
    mt_b2 (f_X11_near 96 ((w1.toInt64 <<< ((32 : Int32).toInt64 &&& 63)) ||| (w2.toInt64 &&& 4294967295)) 0 S7) fun v10 S9 =>
    if v8 = v10 then
     some S9
    else
     none
   else
    mt_b2 (f_X11_near 96 ((w1.toInt64 <<< ((32 : Int32).toInt64 &&& 63)) ||| (w2.toInt64 &&& 4294967295)) 1 S7) fun v12 S11 =>
    if v8 = v12 then
     some S11
    else
     none
set_option maxHeartbeats 4000000 in
set_option maxRecDepth 100000 in
theorem ml_26 {B : mt_B} {E : mt_E} {cs : Nat × Nat} {mc ms bs : Nat} {x4 w0 w1 w2 w3 w4 w5 : Int32} {S S' : mt_S} (hC : mt_Cx B E cL_law RL (some .boolean) 8 1300 mc ms) (hT : mt_th B E) (hlt : B.1.stackTraces = false) (hcs : cs.1 + 1 ≤ mc ∧ cs.2 + 6 ≤ ms) (s1 : mt_sr B E bs (x4 + 1) w1) (s2 : mt_sr B E bs (x4 + 2) w2) (s3 : mt_sr B E bs (x4 + 3) w3) (s4 : mt_sr B E bs (x4 + 4) w4) (s5 : mt_sr B E bs (x4 + 5) w5) (h : l_26 w1 w2 w3 S = some S') (kk : ∀ S1, S1 = S' → mt_Go B E (cs.1 + 1, cs.2 + 6) S1 1290 [(0, .ref bs), (1, mt_rf B 0), (2, mt_rf B 96), (3, mt_rf B 108), (4, .int x4)] []) : mt_Go B E cs S 1041 [(0, .ref bs), (1, mt_rf B 0), (2, mt_rf B 96), (3, mt_rf B 108), (4, .int x4)] [] := by
  have hcs1 := hcs.1
  have hcs2 := hcs.2
  unfold l_26 at h
  refine go_aload_n hC 1 dL_law_1041 rfl rfl ?_
  refine go_aload_n hC 0 dL_law_1042 rfl rfl ?_
  refine go_iload hC 4 dL_law_1043 rfl ?_
  refine go_iconst (v := 1) hC dL_law_1045 (by decide) ?_
  refine go_iadd hC dL_law_1046 ?_
  refine go_sld hC s1 dL_law_1047 ?_
  refine go_i2l hC dL_law_1048 ?_
  refine go_bipush (v := 32) hC dL_law_1049 (by decide) ?_
  refine go_lshl hC dL_law_1051 ?_
  refine go_aload_n hC 0 dL_law_1052 rfl rfl ?_
  refine go_iload hC 4 dL_law_1053 rfl ?_
  refine go_iconst (v := 2) hC dL_law_1055 (by decide) ?_
  refine go_iadd hC dL_law_1056 ?_
  refine go_sld hC s2 dL_law_1057 ?_
  refine go_i2l hC dL_law_1058 ?_
  refine go_ldc2 hC dL_law_1059 mt_kL_104 ?_
  refine go_land hC dL_law_1062 ?_
  refine go_lor hC dL_law_1063 ?_
  refine go_aload_n hC 0 dL_law_1064 rfl rfl ?_
  refine go_iload hC 4 dL_law_1065 rfl ?_
  refine go_iconst (v := 3) hC dL_law_1067 (by decide) ?_
  refine go_iadd hC dL_law_1068 ?_
  refine go_sld hC s3 dL_law_1069 ?_
  refine go_if_eq hC (tgt := 1077) dL_law_1070 (by decide) (fun hc => ?_) (fun hc => ?_)
  · have h := mt_ip h hc
    refine go_iconst (v := 0) hC dL_law_1077 (by decide) ?_
    obtain ⟨v2, S1, e2, h⟩ := mt_ob2 h
    refine go_callVl hC [.long ((w1.toInt64 <<< ((32 : Int32).toInt64 &&& 63)) ||| (w2.toInt64 &&& 4294967295)), .int 0] [] (m_X10_near e2) mt_cvL_144 (k_X10_near e2) dL_law_1078 rfl rfl (by decide) (Nat.le_of_ble_eq_true rfl) ⟨by omega, by omega⟩ ?_
    refine go_aload_n hC 2 dL_law_1081 rfl rfl ?_
    refine go_aload_n hC 0 dL_law_1082 rfl rfl ?_
    refine go_iload hC 4 dL_law_1083 rfl ?_
    refine go_iconst (v := 1) hC dL_law_1085 (by decide) ?_
    refine go_iadd hC dL_law_1086 ?_
    refine go_sld hC s1 dL_law_1087 ?_
    refine go_i2l hC dL_law_1088 ?_
    refine go_bipush (v := 32) hC dL_law_1089 (by decide) ?_
    refine go_lshl hC dL_law_1091 ?_
    refine go_aload_n hC 0 dL_law_1092 rfl rfl ?_
    refine go_iload hC 4 dL_law_1093 rfl ?_
    refine go_iconst (v := 2) hC dL_law_1095 (by decide) ?_
    refine go_iadd hC dL_law_1096 ?_
    refine go_sld hC s2 dL_law_1097 ?_
    refine go_i2l hC dL_law_1098 ?_
    refine go_ldc2 hC dL_law_1099 mt_kL_104 ?_
    refine go_land hC dL_law_1102 ?_
    refine go_lor hC dL_law_1103 ?_
    refine go_aload_n hC 0 dL_law_1104 rfl rfl ?_
    refine go_iload hC 4 dL_law_1105 rfl ?_
    refine go_iconst (v := 3) hC dL_law_1107 (by decide) ?_
    refine go_iadd hC dL_law_1108 ?_
    refine go_sld hC s3 dL_law_1109 ?_
    refine go_if_eq hC (tgt := 1117) dL_law_1110 (by decide) (fun hc => ?_) (fun hc => ?_)
    · have h := mt_ip h hc
      refine go_iconst (v := 0) hC dL_law_1117 (by decide) ?_
      obtain ⟨v4, S3, e4, h⟩ := mt_ob2 h
      refine go_callVl hC [.long ((w1.toInt64 <<< ((32 : Int32).toInt64 &&& 63)) ||| (w2.toInt64 &&& 4294967295)), .int 0] [.long v2] (m_X11_near e4) mt_cvL_148 (k_X11_near e4) dL_law_1118 rfl rfl (by decide) (Nat.le_of_ble_eq_true rfl) ⟨by omega, by omega⟩ ?_
      refine go_lcmp_eq hC (tgt := 1290) dL_law_1121 dL_law_1122 (by decide) (fun hc => ?_) (fun hc => ?_)
      · have h := mt_ip h hc
        refine go_widen (c1 := (cs.1 + 1, cs.2 + 6)) (Nat.le_succ _) (Nat.le_add_right _ _) (go_sub [0, 1, 2, 3, 4] (lv1 := [(0, .ref bs), (1, mt_rf B 0), (2, mt_rf B 96), (3, mt_rf B 108), (4, .int x4)]) rfl ?_)
        exact kk _ (mt_som h)
      · have h := mt_in' h hc
        refine go_iconst (v := 0) hC dL_law_1125 (by decide) ?_
        cases h
    · have h := mt_in' h hc
      refine go_iconst (v := 1) hC dL_law_1113 (by decide) ?_
      refine go_goto hC (tgt := 1118) dL_law_1114 (by decide) ?_
      obtain ⟨v6, S5, e6, h⟩ := mt_ob2 h
      refine go_callVl hC [.long ((w1.toInt64 <<< ((32 : Int32).toInt64 &&& 63)) ||| (w2.toInt64 &&& 4294967295)), .int 1] [.long v2] (m_X11_near e6) mt_cvL_148 (k_X11_near e6) dL_law_1118 rfl rfl (by decide) (Nat.le_of_ble_eq_true rfl) ⟨by omega, by omega⟩ ?_
      refine go_lcmp_eq hC (tgt := 1290) dL_law_1121 dL_law_1122 (by decide) (fun hc => ?_) (fun hc => ?_)
      · have h := mt_ip h hc
        refine go_widen (c1 := (cs.1 + 1, cs.2 + 6)) (Nat.le_succ _) (Nat.le_add_right _ _) (go_sub [0, 1, 2, 3, 4] (lv1 := [(0, .ref bs), (1, mt_rf B 0), (2, mt_rf B 96), (3, mt_rf B 108), (4, .int x4)]) rfl ?_)
        exact kk _ (mt_som h)
      · have h := mt_in' h hc
        refine go_iconst (v := 0) hC dL_law_1125 (by decide) ?_
        cases h
  · have h := mt_in' h hc
    refine go_iconst (v := 1) hC dL_law_1073 (by decide) ?_
    refine go_goto hC (tgt := 1078) dL_law_1074 (by decide) ?_
    obtain ⟨v8, S7, e8, h⟩ := mt_ob2 h
    refine go_callVl hC [.long ((w1.toInt64 <<< ((32 : Int32).toInt64 &&& 63)) ||| (w2.toInt64 &&& 4294967295)), .int 1] [] (m_X10_near e8) mt_cvL_144 (k_X10_near e8) dL_law_1078 rfl rfl (by decide) (Nat.le_of_ble_eq_true rfl) ⟨by omega, by omega⟩ ?_
    refine go_aload_n hC 2 dL_law_1081 rfl rfl ?_
    refine go_aload_n hC 0 dL_law_1082 rfl rfl ?_
    refine go_iload hC 4 dL_law_1083 rfl ?_
    refine go_iconst (v := 1) hC dL_law_1085 (by decide) ?_
    refine go_iadd hC dL_law_1086 ?_
    refine go_sld hC s1 dL_law_1087 ?_
    refine go_i2l hC dL_law_1088 ?_
    refine go_bipush (v := 32) hC dL_law_1089 (by decide) ?_
    refine go_lshl hC dL_law_1091 ?_
    refine go_aload_n hC 0 dL_law_1092 rfl rfl ?_
    refine go_iload hC 4 dL_law_1093 rfl ?_
    refine go_iconst (v := 2) hC dL_law_1095 (by decide) ?_
    refine go_iadd hC dL_law_1096 ?_
    refine go_sld hC s2 dL_law_1097 ?_
    refine go_i2l hC dL_law_1098 ?_
    refine go_ldc2 hC dL_law_1099 mt_kL_104 ?_
    refine go_land hC dL_law_1102 ?_
    refine go_lor hC dL_law_1103 ?_
    refine go_aload_n hC 0 dL_law_1104 rfl rfl ?_
    refine go_iload hC 4 dL_law_1105 rfl ?_
    refine go_iconst (v := 3) hC dL_law_1107 (by decide) ?_
    refine go_iadd hC dL_law_1108 ?_
    refine go_sld hC s3 dL_law_1109 ?_
    refine go_if_eq hC (tgt := 1117) dL_law_1110 (by decide) (fun hc => ?_) (fun hc => ?_)
    · have h := mt_ip h hc
      refine go_iconst (v := 0) hC dL_law_1117 (by decide) ?_
      obtain ⟨v10, S9, e10, h⟩ := mt_ob2 h
      refine go_callVl hC [.long ((w1.toInt64 <<< ((32 : Int32).toInt64 &&& 63)) ||| (w2.toInt64 &&& 4294967295)), .int 0] [.long v8] (m_X11_near e10) mt_cvL_148 (k_X11_near e10) dL_law_1118 rfl rfl (by decide) (Nat.le_of_ble_eq_true rfl) ⟨by omega, by omega⟩ ?_
      refine go_lcmp_eq hC (tgt := 1290) dL_law_1121 dL_law_1122 (by decide) (fun hc => ?_) (fun hc => ?_)
      · have h := mt_ip h hc
        refine go_widen (c1 := (cs.1 + 1, cs.2 + 6)) (Nat.le_succ _) (Nat.le_add_right _ _) (go_sub [0, 1, 2, 3, 4] (lv1 := [(0, .ref bs), (1, mt_rf B 0), (2, mt_rf B 96), (3, mt_rf B 108), (4, .int x4)]) rfl ?_)
        exact kk _ (mt_som h)
      · have h := mt_in' h hc
        refine go_iconst (v := 0) hC dL_law_1125 (by decide) ?_
        cases h
    · have h := mt_in' h hc
      refine go_iconst (v := 1) hC dL_law_1113 (by decide) ?_
      refine go_goto hC (tgt := 1118) dL_law_1114 (by decide) ?_
      obtain ⟨v12, S11, e12, h⟩ := mt_ob2 h
      refine go_callVl hC [.long ((w1.toInt64 <<< ((32 : Int32).toInt64 &&& 63)) ||| (w2.toInt64 &&& 4294967295)), .int 1] [.long v8] (m_X11_near e12) mt_cvL_148 (k_X11_near e12) dL_law_1118 rfl rfl (by decide) (Nat.le_of_ble_eq_true rfl) ⟨by omega, by omega⟩ ?_
      refine go_lcmp_eq hC (tgt := 1290) dL_law_1121 dL_law_1122 (by decide) (fun hc => ?_) (fun hc => ?_)
      · have h := mt_ip h hc
        refine go_widen (c1 := (cs.1 + 1, cs.2 + 6)) (Nat.le_succ _) (Nat.le_add_right _ _) (go_sub [0, 1, 2, 3, 4] (lv1 := [(0, .ref bs), (1, mt_rf B 0), (2, mt_rf B 96), (3, mt_rf B 108), (4, .int x4)]) rfl ?_)
        exact kk _ (mt_som h)
      · have h := mt_in' h hc
        refine go_iconst (v := 0) hC dL_law_1125 (by decide) ?_
        cases h
def l_27 (w1 : Int32) (S : mt_S) : Option mt_S :=
  mt_b2 (f_X10_jump 0 w1 S) fun v2 S1 =>
  mt_b2 (f_X11_jump 96 w1 S1) fun v4 S3 =>
  if v2 = v4 then
   some S3
  else
   none
set_option maxHeartbeats 4000000 in
set_option maxRecDepth 100000 in
theorem ml_27 {B : mt_B} {E : mt_E} {cs : Nat × Nat} {mc ms bs : Nat} {x4 w0 w1 w2 w3 w4 w5 : Int32} {S S' : mt_S} (hC : mt_Cx B E cL_law RL (some .boolean) 8 1300 mc ms) (hT : mt_th B E) (hlt : B.1.stackTraces = false) (hcs : cs.1 + 1 ≤ mc ∧ cs.2 + 6 ≤ ms) (s1 : mt_sr B E bs (x4 + 1) w1) (s2 : mt_sr B E bs (x4 + 2) w2) (s3 : mt_sr B E bs (x4 + 3) w3) (s4 : mt_sr B E bs (x4 + 4) w4) (s5 : mt_sr B E bs (x4 + 5) w5) (h : l_27 w1 S = some S') (kk : ∀ S1, S1 = S' → mt_Go B E (cs.1 + 1, cs.2 + 6) S1 1290 [(0, .ref bs), (1, mt_rf B 0), (2, mt_rf B 96), (3, mt_rf B 108), (4, .int x4)] []) : mt_Go B E cs S 1127 [(0, .ref bs), (1, mt_rf B 0), (2, mt_rf B 96), (3, mt_rf B 108), (4, .int x4)] [] := by
  have hcs1 := hcs.1
  have hcs2 := hcs.2
  unfold l_27 at h
  refine go_aload_n hC 1 dL_law_1127 rfl rfl ?_
  refine go_aload_n hC 0 dL_law_1128 rfl rfl ?_
  refine go_iload hC 4 dL_law_1129 rfl ?_
  refine go_iconst (v := 1) hC dL_law_1131 (by decide) ?_
  refine go_iadd hC dL_law_1132 ?_
  refine go_sld hC s1 dL_law_1133 ?_
  obtain ⟨v2, S1, e2, h⟩ := mt_ob2 h
  refine go_callVi hC [.int w1] [] (m_X10_jump e2) mt_cvL_149 (k_X10_jump e2) dL_law_1134 rfl rfl (by decide) (Nat.le_of_ble_eq_true rfl) ⟨by omega, by omega⟩ ?_
  refine go_aload_n hC 2 dL_law_1137 rfl rfl ?_
  refine go_aload_n hC 0 dL_law_1138 rfl rfl ?_
  refine go_iload hC 4 dL_law_1139 rfl ?_
  refine go_iconst (v := 1) hC dL_law_1141 (by decide) ?_
  refine go_iadd hC dL_law_1142 ?_
  refine go_sld hC s1 dL_law_1143 ?_
  obtain ⟨v4, S3, e4, h⟩ := mt_ob2 h
  refine go_callVi hC [.int w1] [.int v2] (m_X11_jump e4) mt_cvL_152 (k_X11_jump e4) dL_law_1144 rfl rfl (by decide) (Nat.le_of_ble_eq_true rfl) ⟨by omega, by omega⟩ ?_
  refine go_icmp_eq hC (tgt := 1290) dL_law_1147 (by decide) (fun hc => ?_) (fun hc => ?_)
  · have h := mt_ip h hc
    refine go_widen (c1 := (cs.1 + 1, cs.2 + 6)) (Nat.le_succ _) (Nat.le_add_right _ _) (go_sub [0, 1, 2, 3, 4] (lv1 := [(0, .ref bs), (1, mt_rf B 0), (2, mt_rf B 96), (3, mt_rf B 108), (4, .int x4)]) rfl ?_)
    exact kk _ (mt_som h)
  · have h := mt_in' h hc
    refine go_iconst (v := 0) hC dL_law_1150 (by decide) ?_
    cases h
def l_28 (S : mt_S) : Option mt_S :=
  mt_b2 (f_X10_told 0 S) fun v2 S1 =>
  mt_b2 (f_X11_told 96 S1) fun v4 S3 =>
  if v2 = v4 then
   some S3
  else
   none
set_option maxHeartbeats 4000000 in
set_option maxRecDepth 100000 in
theorem ml_28 {B : mt_B} {E : mt_E} {cs : Nat × Nat} {mc ms bs : Nat} {x4 w0 w1 w2 w3 w4 w5 : Int32} {S S' : mt_S} (hC : mt_Cx B E cL_law RL (some .boolean) 8 1300 mc ms) (hT : mt_th B E) (hlt : B.1.stackTraces = false) (hcs : cs.1 + 1 ≤ mc ∧ cs.2 + 6 ≤ ms) (s1 : mt_sr B E bs (x4 + 1) w1) (s2 : mt_sr B E bs (x4 + 2) w2) (s3 : mt_sr B E bs (x4 + 3) w3) (s4 : mt_sr B E bs (x4 + 4) w4) (s5 : mt_sr B E bs (x4 + 5) w5) (h : l_28  S = some S') (kk : ∀ S1, S1 = S' → mt_Go B E (cs.1 + 1, cs.2 + 6) S1 1290 [(0, .ref bs), (1, mt_rf B 0), (2, mt_rf B 96), (3, mt_rf B 108), (4, .int x4)] []) : mt_Go B E cs S 1152 [(0, .ref bs), (1, mt_rf B 0), (2, mt_rf B 96), (3, mt_rf B 108), (4, .int x4)] [] := by
  have hcs1 := hcs.1
  have hcs2 := hcs.2
  unfold l_28 at h
  refine go_aload_n hC 1 dL_law_1152 rfl rfl ?_
  obtain ⟨v2, S1, e2, h⟩ := mt_ob2 h
  refine go_callVi hC [] [] (m_X10_told e2) mt_cvL_153 (k_X10_told e2) dL_law_1153 rfl rfl (by decide) (Nat.le_of_ble_eq_true rfl) ⟨by omega, by omega⟩ ?_
  refine go_aload_n hC 2 dL_law_1156 rfl rfl ?_
  obtain ⟨v4, S3, e4, h⟩ := mt_ob2 h
  refine go_callVi hC [] [.int v2] (m_X11_told e4) mt_cvL_156 (k_X11_told e4) dL_law_1157 rfl rfl (by decide) (Nat.le_of_ble_eq_true rfl) ⟨by omega, by omega⟩ ?_
  refine go_icmp_eq hC (tgt := 1290) dL_law_1160 (by decide) (fun hc => ?_) (fun hc => ?_)
  · have h := mt_ip h hc
    refine go_widen (c1 := (cs.1 + 1, cs.2 + 6)) (Nat.le_succ _) (Nat.le_add_right _ _) (go_sub [0, 1, 2, 3, 4] (lv1 := [(0, .ref bs), (1, mt_rf B 0), (2, mt_rf B 96), (3, mt_rf B 108), (4, .int x4)]) rfl ?_)
    exact kk _ (mt_som h)
  · have h := mt_in' h hc
    refine go_iconst (v := 0) hC dL_law_1163 (by decide) ?_
    cases h
def l_29 (w1 : Int32) (S : mt_S) : Option mt_S :=
  mt_b2 (f_X10_byteAt 0 w1 S) fun v2 S1 =>
  mt_b2 (f_X11_byteAt 96 w1 S1) fun v4 S3 =>
  if v2 = v4 then
   some S3
  else
   none
set_option maxHeartbeats 4000000 in
set_option maxRecDepth 100000 in
theorem ml_29 {B : mt_B} {E : mt_E} {cs : Nat × Nat} {mc ms bs : Nat} {x4 w0 w1 w2 w3 w4 w5 : Int32} {S S' : mt_S} (hC : mt_Cx B E cL_law RL (some .boolean) 8 1300 mc ms) (hT : mt_th B E) (hlt : B.1.stackTraces = false) (hcs : cs.1 + 1 ≤ mc ∧ cs.2 + 6 ≤ ms) (s1 : mt_sr B E bs (x4 + 1) w1) (s2 : mt_sr B E bs (x4 + 2) w2) (s3 : mt_sr B E bs (x4 + 3) w3) (s4 : mt_sr B E bs (x4 + 4) w4) (s5 : mt_sr B E bs (x4 + 5) w5) (h : l_29 w1 S = some S') (kk : ∀ S1, S1 = S' → mt_Go B E (cs.1 + 1, cs.2 + 6) S1 1290 [(0, .ref bs), (1, mt_rf B 0), (2, mt_rf B 96), (3, mt_rf B 108), (4, .int x4)] []) : mt_Go B E cs S 1165 [(0, .ref bs), (1, mt_rf B 0), (2, mt_rf B 96), (3, mt_rf B 108), (4, .int x4)] [] := by
  have hcs1 := hcs.1
  have hcs2 := hcs.2
  unfold l_29 at h
  refine go_aload_n hC 1 dL_law_1165 rfl rfl ?_
  refine go_aload_n hC 0 dL_law_1166 rfl rfl ?_
  refine go_iload hC 4 dL_law_1167 rfl ?_
  refine go_iconst (v := 1) hC dL_law_1169 (by decide) ?_
  refine go_iadd hC dL_law_1170 ?_
  refine go_sld hC s1 dL_law_1171 ?_
  obtain ⟨v2, S1, e2, h⟩ := mt_ob2 h
  refine go_callVi hC [.int w1] [] (m_X10_byteAt e2) mt_cvL_157 (k_X10_byteAt e2) dL_law_1172 rfl rfl (by decide) (Nat.le_of_ble_eq_true rfl) ⟨by omega, by omega⟩ ?_
  refine go_aload_n hC 2 dL_law_1175 rfl rfl ?_
  refine go_aload_n hC 0 dL_law_1176 rfl rfl ?_
  refine go_iload hC 4 dL_law_1177 rfl ?_
  refine go_iconst (v := 1) hC dL_law_1179 (by decide) ?_
  refine go_iadd hC dL_law_1180 ?_
  refine go_sld hC s1 dL_law_1181 ?_
  obtain ⟨v4, S3, e4, h⟩ := mt_ob2 h
  refine go_callVi hC [.int w1] [.int v2] (m_X11_byteAt e4) mt_cvL_160 (k_X11_byteAt e4) dL_law_1182 rfl rfl (by decide) (Nat.le_of_ble_eq_true rfl) ⟨by omega, by omega⟩ ?_
  refine go_icmp_eq hC (tgt := 1290) dL_law_1185 (by decide) (fun hc => ?_) (fun hc => ?_)
  · have h := mt_ip h hc
    refine go_widen (c1 := (cs.1 + 1, cs.2 + 6)) (Nat.le_succ _) (Nat.le_add_right _ _) (go_sub [0, 1, 2, 3, 4] (lv1 := [(0, .ref bs), (1, mt_rf B 0), (2, mt_rf B 96), (3, mt_rf B 108), (4, .int x4)]) rfl ?_)
    exact kk _ (mt_som h)
  · have h := mt_in' h hc
    refine go_iconst (v := 0) hC dL_law_1188 (by decide) ?_
    cases h
def l_30 (w1 : Int32) (w2 : Int32) (S : mt_S) : Option mt_S :=
  mt_b2 (f_X10_drawn 0 w1 w2 S) fun v2 S1 =>
  mt_b2 (f_X11_drawn 96 w1 w2 S1) fun v4 S3 =>
  if v2 = v4 then
   some S3
  else
   none
set_option maxHeartbeats 4000000 in
set_option maxRecDepth 100000 in
theorem ml_30 {B : mt_B} {E : mt_E} {cs : Nat × Nat} {mc ms bs : Nat} {x4 w0 w1 w2 w3 w4 w5 : Int32} {S S' : mt_S} (hC : mt_Cx B E cL_law RL (some .boolean) 8 1300 mc ms) (hT : mt_th B E) (hlt : B.1.stackTraces = false) (hcs : cs.1 + 1 ≤ mc ∧ cs.2 + 6 ≤ ms) (s1 : mt_sr B E bs (x4 + 1) w1) (s2 : mt_sr B E bs (x4 + 2) w2) (s3 : mt_sr B E bs (x4 + 3) w3) (s4 : mt_sr B E bs (x4 + 4) w4) (s5 : mt_sr B E bs (x4 + 5) w5) (h : l_30 w1 w2 S = some S') (kk : ∀ S1, S1 = S' → mt_Go B E (cs.1 + 1, cs.2 + 6) S1 1290 [(0, .ref bs), (1, mt_rf B 0), (2, mt_rf B 96), (3, mt_rf B 108), (4, .int x4)] []) : mt_Go B E cs S 1190 [(0, .ref bs), (1, mt_rf B 0), (2, mt_rf B 96), (3, mt_rf B 108), (4, .int x4)] [] := by
  have hcs1 := hcs.1
  have hcs2 := hcs.2
  unfold l_30 at h
  refine go_aload_n hC 1 dL_law_1190 rfl rfl ?_
  refine go_aload_n hC 0 dL_law_1191 rfl rfl ?_
  refine go_iload hC 4 dL_law_1192 rfl ?_
  refine go_iconst (v := 1) hC dL_law_1194 (by decide) ?_
  refine go_iadd hC dL_law_1195 ?_
  refine go_sld hC s1 dL_law_1196 ?_
  refine go_aload_n hC 0 dL_law_1197 rfl rfl ?_
  refine go_iload hC 4 dL_law_1198 rfl ?_
  refine go_iconst (v := 2) hC dL_law_1200 (by decide) ?_
  refine go_iadd hC dL_law_1201 ?_
  refine go_sld hC s2 dL_law_1202 ?_
  obtain ⟨v2, S1, e2, h⟩ := mt_ob2 h
  refine go_callVi hC [.int w1, .int w2] [] (m_X10_drawn e2) mt_cvL_161 (k_X10_drawn e2) dL_law_1203 rfl rfl (by decide) (Nat.le_of_ble_eq_true rfl) ⟨by omega, by omega⟩ ?_
  refine go_aload_n hC 2 dL_law_1206 rfl rfl ?_
  refine go_aload_n hC 0 dL_law_1207 rfl rfl ?_
  refine go_iload hC 4 dL_law_1208 rfl ?_
  refine go_iconst (v := 1) hC dL_law_1210 (by decide) ?_
  refine go_iadd hC dL_law_1211 ?_
  refine go_sld hC s1 dL_law_1212 ?_
  refine go_aload_n hC 0 dL_law_1213 rfl rfl ?_
  refine go_iload hC 4 dL_law_1214 rfl ?_
  refine go_iconst (v := 2) hC dL_law_1216 (by decide) ?_
  refine go_iadd hC dL_law_1217 ?_
  refine go_sld hC s2 dL_law_1218 ?_
  obtain ⟨v4, S3, e4, h⟩ := mt_ob2 h
  refine go_callVi hC [.int w1, .int w2] [.int v2] (m_X11_drawn e4) mt_cvL_164 (k_X11_drawn e4) dL_law_1219 rfl rfl (by decide) (Nat.le_of_ble_eq_true rfl) ⟨by omega, by omega⟩ ?_
  refine go_icmp_eq hC (tgt := 1290) dL_law_1222 (by decide) (fun hc => ?_) (fun hc => ?_)
  · have h := mt_ip h hc
    refine go_widen (c1 := (cs.1 + 1, cs.2 + 6)) (Nat.le_succ _) (Nat.le_add_right _ _) (go_sub [0, 1, 2, 3, 4] (lv1 := [(0, .ref bs), (1, mt_rf B 0), (2, mt_rf B 96), (3, mt_rf B 108), (4, .int x4)]) rfl ?_)
    exact kk _ (mt_som h)
  · have h := mt_in' h hc
    refine go_iconst (v := 0) hC dL_law_1225 (by decide) ?_
    cases h
def l_31 (S : mt_S) : Option mt_S :=
  mt_b2 (f_X10_undo 0 S) fun v2 S1 =>
  mt_b2 (f_X11_undo 96 S1) fun v4 S3 =>
  if v2 = v4 then
   some S3
  else
   none
set_option maxHeartbeats 4000000 in
set_option maxRecDepth 100000 in
theorem ml_31 {B : mt_B} {E : mt_E} {cs : Nat × Nat} {mc ms bs : Nat} {x4 w0 w1 w2 w3 w4 w5 : Int32} {S S' : mt_S} (hC : mt_Cx B E cL_law RL (some .boolean) 8 1300 mc ms) (hT : mt_th B E) (hlt : B.1.stackTraces = false) (hcs : cs.1 + 1 ≤ mc ∧ cs.2 + 6 ≤ ms) (s1 : mt_sr B E bs (x4 + 1) w1) (s2 : mt_sr B E bs (x4 + 2) w2) (s3 : mt_sr B E bs (x4 + 3) w3) (s4 : mt_sr B E bs (x4 + 4) w4) (s5 : mt_sr B E bs (x4 + 5) w5) (h : l_31  S = some S') (kk : ∀ S1, S1 = S' → mt_Go B E (cs.1 + 1, cs.2 + 6) S1 1290 [(0, .ref bs), (1, mt_rf B 0), (2, mt_rf B 96), (3, mt_rf B 108), (4, .int x4)] []) : mt_Go B E cs S 1227 [(0, .ref bs), (1, mt_rf B 0), (2, mt_rf B 96), (3, mt_rf B 108), (4, .int x4)] [] := by
  have hcs1 := hcs.1
  have hcs2 := hcs.2
  unfold l_31 at h
  refine go_aload_n hC 1 dL_law_1227 rfl rfl ?_
  obtain ⟨v2, S1, e2, h⟩ := mt_ob2 h
  refine go_callVi hC [] [] (m_X10_undo e2) mt_cvL_165 (k_X10_undo e2) dL_law_1228 rfl rfl (by decide) (Nat.le_of_ble_eq_true rfl) ⟨by omega, by omega⟩ ?_
  refine go_aload_n hC 2 dL_law_1231 rfl rfl ?_
  obtain ⟨v4, S3, e4, h⟩ := mt_ob2 h
  refine go_callVi hC [] [.int v2] (m_X11_undo e4) mt_cvL_168 (k_X11_undo e4) dL_law_1232 rfl rfl (by decide) (Nat.le_of_ble_eq_true rfl) ⟨by omega, by omega⟩ ?_
  refine go_icmp_eq hC (tgt := 1290) dL_law_1235 (by decide) (fun hc => ?_) (fun hc => ?_)
  · have h := mt_ip h hc
    refine go_widen (c1 := (cs.1 + 1, cs.2 + 6)) (Nat.le_succ _) (Nat.le_add_right _ _) (go_sub [0, 1, 2, 3, 4] (lv1 := [(0, .ref bs), (1, mt_rf B 0), (2, mt_rf B 96), (3, mt_rf B 108), (4, .int x4)]) rfl ?_)
    exact kk _ (mt_som h)
  · have h := mt_in' h hc
    refine go_iconst (v := 0) hC dL_law_1238 (by decide) ?_
    cases h
def l_32 (w1 : Int32) (S : mt_S) : Option mt_S :=
  mt_b2 (f_X10_image 0 w1 S) fun v2 S1 =>
  mt_b2 (f_X11_image 96 w1 S1) fun v4 S3 =>
  if v2 = v4 then
   some S3
  else
   none
set_option maxHeartbeats 4000000 in
set_option maxRecDepth 100000 in
theorem ml_32 {B : mt_B} {E : mt_E} {cs : Nat × Nat} {mc ms bs : Nat} {x4 w0 w1 w2 w3 w4 w5 : Int32} {S S' : mt_S} (hC : mt_Cx B E cL_law RL (some .boolean) 8 1300 mc ms) (hT : mt_th B E) (hlt : B.1.stackTraces = false) (hcs : cs.1 + 1 ≤ mc ∧ cs.2 + 6 ≤ ms) (s1 : mt_sr B E bs (x4 + 1) w1) (s2 : mt_sr B E bs (x4 + 2) w2) (s3 : mt_sr B E bs (x4 + 3) w3) (s4 : mt_sr B E bs (x4 + 4) w4) (s5 : mt_sr B E bs (x4 + 5) w5) (h : l_32 w1 S = some S') (kk : ∀ S1, S1 = S' → mt_Go B E (cs.1 + 1, cs.2 + 6) S1 1290 [(0, .ref bs), (1, mt_rf B 0), (2, mt_rf B 96), (3, mt_rf B 108), (4, .int x4)] []) : mt_Go B E cs S 1240 [(0, .ref bs), (1, mt_rf B 0), (2, mt_rf B 96), (3, mt_rf B 108), (4, .int x4)] [] := by
  have hcs1 := hcs.1
  have hcs2 := hcs.2
  unfold l_32 at h
  refine go_aload_n hC 1 dL_law_1240 rfl rfl ?_
  refine go_aload_n hC 0 dL_law_1241 rfl rfl ?_
  refine go_iload hC 4 dL_law_1242 rfl ?_
  refine go_iconst (v := 1) hC dL_law_1244 (by decide) ?_
  refine go_iadd hC dL_law_1245 ?_
  refine go_sld hC s1 dL_law_1246 ?_
  obtain ⟨v2, S1, e2, h⟩ := mt_ob2 h
  refine go_callVi hC [.int w1] [] (m_X10_image e2) mt_cvL_169 (k_X10_image e2) dL_law_1247 rfl rfl (by decide) (Nat.le_of_ble_eq_true rfl) ⟨by omega, by omega⟩ ?_
  refine go_aload_n hC 2 dL_law_1250 rfl rfl ?_
  refine go_aload_n hC 0 dL_law_1251 rfl rfl ?_
  refine go_iload hC 4 dL_law_1252 rfl ?_
  refine go_iconst (v := 1) hC dL_law_1254 (by decide) ?_
  refine go_iadd hC dL_law_1255 ?_
  refine go_sld hC s1 dL_law_1256 ?_
  obtain ⟨v4, S3, e4, h⟩ := mt_ob2 h
  refine go_callVi hC [.int w1] [.int v2] (m_X11_image e4) mt_cvL_172 (k_X11_image e4) dL_law_1257 rfl rfl (by decide) (Nat.le_of_ble_eq_true rfl) ⟨by omega, by omega⟩ ?_
  refine go_icmp_eq hC (tgt := 1290) dL_law_1260 (by decide) (fun hc => ?_) (fun hc => ?_)
  · have h := mt_ip h hc
    refine go_widen (c1 := (cs.1 + 1, cs.2 + 6)) (Nat.le_succ _) (Nat.le_add_right _ _) (go_sub [0, 1, 2, 3, 4] (lv1 := [(0, .ref bs), (1, mt_rf B 0), (2, mt_rf B 96), (3, mt_rf B 108), (4, .int x4)]) rfl ?_)
    exact kk _ (mt_som h)
  · have h := mt_in' h hc
    refine go_iconst (v := 0) hC dL_law_1263 (by decide) ?_
    cases h
def l_33 (w1 : Int32) (S : mt_S) : Option mt_S :=
  mt_b2 (f_X10_restore 0 w1 S) fun v2 S1 =>
  mt_b2 (f_X11_restore 96 w1 S1) fun v4 S3 =>
  if v2 = v4 then
   some S3
  else
   none
set_option maxHeartbeats 4000000 in
set_option maxRecDepth 100000 in
theorem ml_33 {B : mt_B} {E : mt_E} {cs : Nat × Nat} {mc ms bs : Nat} {x4 w0 w1 w2 w3 w4 w5 : Int32} {S S' : mt_S} (hC : mt_Cx B E cL_law RL (some .boolean) 8 1300 mc ms) (hT : mt_th B E) (hlt : B.1.stackTraces = false) (hcs : cs.1 + 1 ≤ mc ∧ cs.2 + 6 ≤ ms) (s1 : mt_sr B E bs (x4 + 1) w1) (s2 : mt_sr B E bs (x4 + 2) w2) (s3 : mt_sr B E bs (x4 + 3) w3) (s4 : mt_sr B E bs (x4 + 4) w4) (s5 : mt_sr B E bs (x4 + 5) w5) (h : l_33 w1 S = some S') (kk : ∀ S1, S1 = S' → mt_Go B E (cs.1 + 1, cs.2 + 6) S1 1290 [(0, .ref bs), (1, mt_rf B 0), (2, mt_rf B 96), (3, mt_rf B 108), (4, .int x4)] []) : mt_Go B E cs S 1265 [(0, .ref bs), (1, mt_rf B 0), (2, mt_rf B 96), (3, mt_rf B 108), (4, .int x4)] [] := by
  have hcs1 := hcs.1
  have hcs2 := hcs.2
  unfold l_33 at h
  refine go_aload_n hC 1 dL_law_1265 rfl rfl ?_
  refine go_aload_n hC 0 dL_law_1266 rfl rfl ?_
  refine go_iload hC 4 dL_law_1267 rfl ?_
  refine go_iconst (v := 1) hC dL_law_1269 (by decide) ?_
  refine go_iadd hC dL_law_1270 ?_
  refine go_sld hC s1 dL_law_1271 ?_
  obtain ⟨v2, S1, e2, h⟩ := mt_ob2 h
  refine go_callVi hC [.int w1] [] (m_X10_restore e2) mt_cvL_173 (k_X10_restore e2) dL_law_1272 rfl rfl (by decide) (Nat.le_of_ble_eq_true rfl) ⟨by omega, by omega⟩ ?_
  refine go_aload_n hC 2 dL_law_1275 rfl rfl ?_
  refine go_aload_n hC 0 dL_law_1276 rfl rfl ?_
  refine go_iload hC 4 dL_law_1277 rfl ?_
  refine go_iconst (v := 1) hC dL_law_1279 (by decide) ?_
  refine go_iadd hC dL_law_1280 ?_
  refine go_sld hC s1 dL_law_1281 ?_
  obtain ⟨v4, S3, e4, h⟩ := mt_ob2 h
  refine go_callVi hC [.int w1] [.int v2] (m_X11_restore e4) mt_cvL_176 (k_X11_restore e4) dL_law_1282 rfl rfl (by decide) (Nat.le_of_ble_eq_true rfl) ⟨by omega, by omega⟩ ?_
  refine go_icmp_eq hC (tgt := 1290) dL_law_1285 (by decide) (fun hc => ?_) (fun hc => ?_)
  · have h := mt_ip h hc
    refine go_widen (c1 := (cs.1 + 1, cs.2 + 6)) (Nat.le_succ _) (Nat.le_add_right _ _) (go_sub [0, 1, 2, 3, 4] (lv1 := [(0, .ref bs), (1, mt_rf B 0), (2, mt_rf B 96), (3, mt_rf B 108), (4, .int x4)]) rfl ?_)
    exact kk _ (mt_som h)
  · have h := mt_in' h hc
    refine go_iconst (v := 0) hC dL_law_1288 (by decide) ?_
    cases h
/-- one turn: k is the first int, masked -/
def l_turn (k w1 w2 w3 w4 w5 : Int32) (S : mt_S) : Option mt_S :=
  if k = 0 then l_0 w1 w2 w3 w4 w5 S else
  if k = 1 then l_1 w1 S else
  if k = 2 then l_2  S else
  if k = 3 then l_3  S else
  if k = 4 then l_4 w1 S else
  if k = 5 then l_5  S else
  if k = 6 then l_6  S else
  if k = 7 then l_7  S else
  if k = 8 then l_8 w1 w2 S else
  if k = 9 then l_9 w1 S else
  if k = 10 then l_10 w1 S else
  if k = 11 then l_11  S else
  if k = 12 then l_12 w1 w2 S else
  if k = 13 then l_13 w1 S else
  if k = 14 then l_14 w1 w2 S else
  if k = 15 then l_15  S else
  if k = 16 then l_16  S else
  if k = 17 then l_17 w1 w2 S else
  if k = 18 then l_18 w1 S else
  if k = 19 then l_19 w1 w2 S else
  if k = 20 then l_20 w1 w2 S else
  if k = 21 then l_21 w1 w2 w3 S else
  if k = 22 then l_22  S else
  if k = 23 then l_23  S else
  if k = 24 then l_24  S else
  if k = 25 then l_25 w1 w2 S else
  if k = 26 then l_26 w1 w2 w3 S else
  if k = 27 then l_27 w1 S else
  if k = 28 then l_28  S else
  if k = 29 then l_29 w1 S else
  if k = 30 then l_30 w1 w2 S else
  if k = 31 then l_31  S else
  if k = 32 then l_32 w1 S else
  if k = 33 then l_33 w1 S else
  some S
set_option maxHeartbeats 4000000 in
set_option maxRecDepth 100000 in
theorem ml_turn {B : mt_B} {E : mt_E} {cs : Nat × Nat} {mc ms bs : Nat} {x4 w0 w1 w2 w3 w4 w5 : Int32} {S S' : mt_S} (hC : mt_Cx B E cL_law RL (some .boolean) 8 1300 mc ms) (hT : mt_th B E) (hlt : B.1.stackTraces = false) (hcs : cs.1 + 1 ≤ mc ∧ cs.2 + 6 ≤ ms) (s1 : mt_sr B E bs (x4 + 1) w1) (s2 : mt_sr B E bs (x4 + 2) w2) (s3 : mt_sr B E bs (x4 + 3) w3) (s4 : mt_sr B E bs (x4 + 4) w4) (s5 : mt_sr B E bs (x4 + 5) w5) (s0 : mt_sr B E bs x4 w0) (h : l_turn (w0 &&& 63) w1 w2 w3 w4 w5 S = some S') (kk : ∀ S1, S1 = S' → mt_Go B E (cs.1 + 1, cs.2 + 6) S1 1290 [(0, .ref bs), (1, mt_rf B 0), (2, mt_rf B 96), (3, mt_rf B 108), (4, .int x4)] []) : mt_Go B E cs S 33 [(0, .ref bs), (1, mt_rf B 0), (2, mt_rf B 96), (3, mt_rf B 108), (4, .int x4)] [] := by
  unfold l_turn at h
  refine go_aload_n hC 0 dL_law_33 rfl rfl ?_
  refine go_iload hC 4 dL_law_34 rfl ?_
  refine go_sld hC s0 dL_law_36 ?_
  refine go_bipush (v := 63) hC dL_law_37 (by decide) ?_
  refine go_iand hC dL_law_39 ?_
  by_cases hc0 : w0 &&& 63 = 0
  · have h := mt_ip h hc0
    refine go_tabIn hC (v := 0) (off := 152) (tgt := 192) dL_law_40 hc0 (by decide) (by decide) (by decide +kernel) (by decide) ?_
    exact ml_0 (w0 := w0) hC hT hlt hcs s1 s2 s3 s4 s5 h kk
  have h := mt_in' h hc0
  by_cases hc1 : w0 &&& 63 = 1
  · have h := mt_ip h hc1
    refine go_tabIn hC (v := 1) (off := 225) (tgt := 265) dL_law_40 hc1 (by decide) (by decide) (by decide +kernel) (by decide) ?_
    exact ml_1 (w0 := w0) hC hT hlt hcs s1 s2 s3 s4 s5 h kk
  have h := mt_in' h hc1
  by_cases hc2 : w0 &&& 63 = 2
  · have h := mt_ip h hc2
    refine go_tabIn hC (v := 2) (off := 250) (tgt := 290) dL_law_40 hc2 (by decide) (by decide) (by decide +kernel) (by decide) ?_
    exact ml_2 (w0 := w0) hC hT hlt hcs s1 s2 s3 s4 s5 h kk
  have h := mt_in' h hc2
  by_cases hc3 : w0 &&& 63 = 3
  · have h := mt_ip h hc3
    refine go_tabIn hC (v := 3) (off := 263) (tgt := 303) dL_law_40 hc3 (by decide) (by decide) (by decide +kernel) (by decide) ?_
    exact ml_3 (w0 := w0) hC hT hlt hcs s1 s2 s3 s4 s5 h kk
  have h := mt_in' h hc3
  by_cases hc4 : w0 &&& 63 = 4
  · have h := mt_ip h hc4
    refine go_tabIn hC (v := 4) (off := 276) (tgt := 316) dL_law_40 hc4 (by decide) (by decide) (by decide +kernel) (by decide) ?_
    exact ml_4 (w0 := w0) hC hT hlt hcs s1 s2 s3 s4 s5 h kk
  have h := mt_in' h hc4
  by_cases hc5 : w0 &&& 63 = 5
  · have h := mt_ip h hc5
    refine go_tabIn hC (v := 5) (off := 301) (tgt := 341) dL_law_40 hc5 (by decide) (by decide) (by decide +kernel) (by decide) ?_
    exact ml_5 (w0 := w0) hC hT hlt hcs s1 s2 s3 s4 s5 h kk
  have h := mt_in' h hc5
  by_cases hc6 : w0 &&& 63 = 6
  · have h := mt_ip h hc6
    refine go_tabIn hC (v := 6) (off := 314) (tgt := 354) dL_law_40 hc6 (by decide) (by decide) (by decide +kernel) (by decide) ?_
    exact ml_6 (w0 := w0) hC hT hlt hcs s1 s2 s3 s4 s5 h kk
  have h := mt_in' h hc6
  by_cases hc7 : w0 &&& 63 = 7
  · have h := mt_ip h hc7
    refine go_tabIn hC (v := 7) (off := 327) (tgt := 367) dL_law_40 hc7 (by decide) (by decide) (by decide +kernel) (by decide) ?_
    exact ml_7 (w0 := w0) hC hT hlt hcs s1 s2 s3 s4 s5 h kk
  have h := mt_in' h hc7
  by_cases hc8 : w0 &&& 63 = 8
  · have h := mt_ip h hc8
    refine go_tabIn hC (v := 8) (off := 340) (tgt := 380) dL_law_40 hc8 (by decide) (by decide) (by decide +kernel) (by decide) ?_
    exact ml_8 (w0 := w0) hC hT hlt hcs s1 s2 s3 s4 s5 h kk
  have h := mt_in' h hc8
  by_cases hc9 : w0 &&& 63 = 9
  · have h := mt_ip h hc9
    refine go_tabIn hC (v := 9) (off := 377) (tgt := 417) dL_law_40 hc9 (by decide) (by decide) (by decide +kernel) (by decide) ?_
    exact ml_9 (w0 := w0) hC hT hlt hcs s1 s2 s3 s4 s5 h kk
  have h := mt_in' h hc9
  by_cases hc10 : w0 &&& 63 = 10
  · have h := mt_ip h hc10
    refine go_tabIn hC (v := 10) (off := 432) (tgt := 472) dL_law_40 hc10 (by decide) (by decide) (by decide +kernel) (by decide) ?_
    exact ml_10 (w0 := w0) hC hT hlt hcs s1 s2 s3 s4 s5 h kk
  have h := mt_in' h hc10
  by_cases hc11 : w0 &&& 63 = 11
  · have h := mt_ip h hc11
    refine go_tabIn hC (v := 11) (off := 457) (tgt := 497) dL_law_40 hc11 (by decide) (by decide) (by decide +kernel) (by decide) ?_
    exact ml_11 (w0 := w0) hC hT hlt hcs s1 s2 s3 s4 s5 h kk
  have h := mt_in' h hc11
  by_cases hc12 : w0 &&& 63 = 12
  · have h := mt_ip h hc12
    refine go_tabIn hC (v := 12) (off := 470) (tgt := 510) dL_law_40 hc12 (by decide) (by decide) (by decide +kernel) (by decide) ?_
    exact ml_12 (w0 := w0) hC hT hlt hcs s1 s2 s3 s4 s5 h kk
  have h := mt_in' h hc12
  by_cases hc13 : w0 &&& 63 = 13
  · have h := mt_ip h hc13
    refine go_tabIn hC (v := 13) (off := 537) (tgt := 577) dL_law_40 hc13 (by decide) (by decide) (by decide +kernel) (by decide) ?_
    exact ml_13 (w0 := w0) hC hT hlt hcs s1 s2 s3 s4 s5 h kk
  have h := mt_in' h hc13
  by_cases hc14 : w0 &&& 63 = 14
  · have h := mt_ip h hc14
    refine go_tabIn hC (v := 14) (off := 592) (tgt := 632) dL_law_40 hc14 (by decide) (by decide) (by decide +kernel) (by decide) ?_
    exact ml_14 (w0 := w0) hC hT hlt hcs s1 s2 s3 s4 s5 h kk
  have h := mt_in' h hc14
  by_cases hc15 : w0 &&& 63 = 15
  · have h := mt_ip h hc15
    refine go_tabIn hC (v := 15) (off := 630) (tgt := 670) dL_law_40 hc15 (by decide) (by decide) (by decide +kernel) (by decide) ?_
    exact ml_15 (w0 := w0) hC hT hlt hcs s1 s2 s3 s4 s5 h kk
  have h := mt_in' h hc15
  by_cases hc16 : w0 &&& 63 = 16
  · have h := mt_ip h hc16
    refine go_tabIn hC (v := 16) (off := 643) (tgt := 683) dL_law_40 hc16 (by decide) (by decide) (by decide +kernel) (by decide) ?_
    exact ml_16 (w0 := w0) hC hT hlt hcs s1 s2 s3 s4 s5 h kk
  have h := mt_in' h hc16
  by_cases hc17 : w0 &&& 63 = 17
  · have h := mt_ip h hc17
    refine go_tabIn hC (v := 17) (off := 657) (tgt := 697) dL_law_40 hc17 (by decide) (by decide) (by decide +kernel) (by decide) ?_
    exact ml_17 (w0 := w0) hC hT hlt hcs s1 s2 s3 s4 s5 h kk
  have h := mt_in' h hc17
  by_cases hc18 : w0 &&& 63 = 18
  · have h := mt_ip h hc18
    refine go_tabIn hC (v := 18) (off := 714) (tgt := 754) dL_law_40 hc18 (by decide) (by decide) (by decide +kernel) (by decide) ?_
    exact ml_18 (w0 := w0) hC hT hlt hcs s1 s2 s3 s4 s5 h kk
  have h := mt_in' h hc18
  by_cases hc19 : w0 &&& 63 = 19
  · have h := mt_ip h hc19
    refine go_tabIn hC (v := 19) (off := 740) (tgt := 780) dL_law_40 hc19 (by decide) (by decide) (by decide +kernel) (by decide) ?_
    exact ml_19 (w0 := w0) hC hT hlt hcs s1 s2 s3 s4 s5 h kk
  have h := mt_in' h hc19
  by_cases hc20 : w0 &&& 63 = 20
  · have h := mt_ip h hc20
    refine go_tabIn hC (v := 20) (off := 797) (tgt := 837) dL_law_40 hc20 (by decide) (by decide) (by decide +kernel) (by decide) ?_
    exact ml_20 (w0 := w0) hC hT hlt hcs s1 s2 s3 s4 s5 h kk
  have h := mt_in' h hc20
  by_cases hc21 : w0 &&& 63 = 21
  · have h := mt_ip h hc21
    refine go_tabIn hC (v := 21) (off := 854) (tgt := 894) dL_law_40 hc21 (by decide) (by decide) (by decide +kernel) (by decide) ?_
    exact ml_21 (w0 := w0) hC hT hlt hcs s1 s2 s3 s4 s5 h kk
  have h := mt_in' h hc21
  by_cases hc22 : w0 &&& 63 = 22
  · have h := mt_ip h hc22
    refine go_tabIn hC (v := 22) (off := 924) (tgt := 964) dL_law_40 hc22 (by decide) (by decide) (by decide +kernel) (by decide) ?_
    exact ml_22 (w0 := w0) hC hT hlt hcs s1 s2 s3 s4 s5 h kk
  have h := mt_in' h hc22
  by_cases hc23 : w0 &&& 63 = 23
  · have h := mt_ip h hc23
    refine go_tabIn hC (v := 23) (off := 937) (tgt := 977) dL_law_40 hc23 (by decide) (by decide) (by decide +kernel) (by decide) ?_
    exact ml_23 (w0 := w0) hC hT hlt hcs s1 s2 s3 s4 s5 h kk
  have h := mt_in' h hc23
  by_cases hc24 : w0 &&& 63 = 24
  · have h := mt_ip h hc24
    refine go_tabIn hC (v := 24) (off := 950) (tgt := 990) dL_law_40 hc24 (by decide) (by decide) (by decide +kernel) (by decide) ?_
    exact ml_24 (w0 := w0) hC hT hlt hcs s1 s2 s3 s4 s5 h kk
  have h := mt_in' h hc24
  by_cases hc25 : w0 &&& 63 = 25
  · have h := mt_ip h hc25
    refine go_tabIn hC (v := 25) (off := 963) (tgt := 1003) dL_law_40 hc25 (by decide) (by decide) (by decide +kernel) (by decide) ?_
    exact ml_25 (w0 := w0) hC hT hlt hcs s1 s2 s3 s4 s5 h kk
  have h := mt_in' h hc25
  by_cases hc26 : w0 &&& 63 = 26
  · have h := mt_ip h hc26
    refine go_tabIn hC (v := 26) (off := 1001) (tgt := 1041) dL_law_40 hc26 (by decide) (by decide) (by decide +kernel) (by decide) ?_
    exact ml_26 (w0 := w0) hC hT hlt hcs s1 s2 s3 s4 s5 h kk
  have h := mt_in' h hc26
  by_cases hc27 : w0 &&& 63 = 27
  · have h := mt_ip h hc27
    refine go_tabIn hC (v := 27) (off := 1087) (tgt := 1127) dL_law_40 hc27 (by decide) (by decide) (by decide +kernel) (by decide) ?_
    exact ml_27 (w0 := w0) hC hT hlt hcs s1 s2 s3 s4 s5 h kk
  have h := mt_in' h hc27
  by_cases hc28 : w0 &&& 63 = 28
  · have h := mt_ip h hc28
    refine go_tabIn hC (v := 28) (off := 1112) (tgt := 1152) dL_law_40 hc28 (by decide) (by decide) (by decide +kernel) (by decide) ?_
    exact ml_28 (w0 := w0) hC hT hlt hcs s1 s2 s3 s4 s5 h kk
  have h := mt_in' h hc28
  by_cases hc29 : w0 &&& 63 = 29
  · have h := mt_ip h hc29
    refine go_tabIn hC (v := 29) (off := 1125) (tgt := 1165) dL_law_40 hc29 (by decide) (by decide) (by decide +kernel) (by decide) ?_
    exact ml_29 (w0 := w0) hC hT hlt hcs s1 s2 s3 s4 s5 h kk
  have h := mt_in' h hc29
  by_cases hc30 : w0 &&& 63 = 30
  · have h := mt_ip h hc30
    refine go_tabIn hC (v := 30) (off := 1150) (tgt := 1190) dL_law_40 hc30 (by decide) (by decide) (by decide +kernel) (by decide) ?_
    exact ml_30 (w0 := w0) hC hT hlt hcs s1 s2 s3 s4 s5 h kk
  have h := mt_in' h hc30
  by_cases hc31 : w0 &&& 63 = 31
  · have h := mt_ip h hc31
    refine go_tabIn hC (v := 31) (off := 1187) (tgt := 1227) dL_law_40 hc31 (by decide) (by decide) (by decide +kernel) (by decide) ?_
    exact ml_31 (w0 := w0) hC hT hlt hcs s1 s2 s3 s4 s5 h kk
  have h := mt_in' h hc31
  by_cases hc32 : w0 &&& 63 = 32
  · have h := mt_ip h hc32
    refine go_tabIn hC (v := 32) (off := 1200) (tgt := 1240) dL_law_40 hc32 (by decide) (by decide) (by decide +kernel) (by decide) ?_
    exact ml_32 (w0 := w0) hC hT hlt hcs s1 s2 s3 s4 s5 h kk
  have h := mt_in' h hc32
  by_cases hc33 : w0 &&& 63 = 33
  · have h := mt_ip h hc33
    refine go_tabIn hC (v := 33) (off := 1225) (tgt := 1265) dL_law_40 hc33 (by decide) (by decide) (by decide +kernel) (by decide) ?_
    exact ml_33 (w0 := w0) hC hT hlt hcs s1 s2 s3 s4 s5 h kk
  have h := mt_in' h hc33
  have t0 := lv_neT hc0 (a := 0) rfl
  have t1 := lv_neT hc1 (a := 1) rfl
  have t2 := lv_neT hc2 (a := 2) rfl
  have t3 := lv_neT hc3 (a := 3) rfl
  have t4 := lv_neT hc4 (a := 4) rfl
  have t5 := lv_neT hc5 (a := 5) rfl
  have t6 := lv_neT hc6 (a := 6) rfl
  have t7 := lv_neT hc7 (a := 7) rfl
  have t8 := lv_neT hc8 (a := 8) rfl
  have t9 := lv_neT hc9 (a := 9) rfl
  have t10 := lv_neT hc10 (a := 10) rfl
  have t11 := lv_neT hc11 (a := 11) rfl
  have t12 := lv_neT hc12 (a := 12) rfl
  have t13 := lv_neT hc13 (a := 13) rfl
  have t14 := lv_neT hc14 (a := 14) rfl
  have t15 := lv_neT hc15 (a := 15) rfl
  have t16 := lv_neT hc16 (a := 16) rfl
  have t17 := lv_neT hc17 (a := 17) rfl
  have t18 := lv_neT hc18 (a := 18) rfl
  have t19 := lv_neT hc19 (a := 19) rfl
  have t20 := lv_neT hc20 (a := 20) rfl
  have t21 := lv_neT hc21 (a := 21) rfl
  have t22 := lv_neT hc22 (a := 22) rfl
  have t23 := lv_neT hc23 (a := 23) rfl
  have t24 := lv_neT hc24 (a := 24) rfl
  have t25 := lv_neT hc25 (a := 25) rfl
  have t26 := lv_neT hc26 (a := 26) rfl
  have t27 := lv_neT hc27 (a := 27) rfl
  have t28 := lv_neT hc28 (a := 28) rfl
  have t29 := lv_neT hc29 (a := 29) rfl
  have t30 := lv_neT hc30 (a := 30) rfl
  have t31 := lv_neT hc31 (a := 31) rfl
  have t32 := lv_neT hc32 (a := 32) rfl
  have t33 := lv_neT hc33 (a := 33) rfl
  refine go_tabOut hC (tgt := 1290) dL_law_40 (by omega) (by decide) ?_
  refine go_widen (c1 := (cs.1 + 1, cs.2 + 6)) (Nat.le_succ _) (Nat.le_add_right _ _) ?_
  exact kk _ (mt_som h)
