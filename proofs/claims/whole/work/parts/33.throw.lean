/-! what throws -/
def mt_NS : String := "java/util/NoSuchElementException"
abbrev mt_xw : List Cond := vx_at0 RX10 191 mt_NS ["java/lang/RuntimeException", "java/lang/Exception"]
def mt_N4 : List Cond := [.castable mt_NS mt_NS, .declares ⟨"java/lang/RuntimeException", "<init>", "()V"⟩, .declares ⟨"java/lang/Exception", "<init>", "()V"⟩, .declares ⟨"java/lang/Throwable", "<init>", "()V"⟩]
theorem mt_N4_ok : ∀ w ∈ mt_xw.filter (fun w => !goodWord w), w ∈ mt_N4 := by decide +kernel
theorem mt_at_good : ∀ w ∈ mt_xw.filter goodWord, w ∈ mt_tb := mt_mems (by decide +kernel) (by decide +kernel)
theorem mt_at_ot : ∀ w ∈ Cond.classLink RX10 189 mt_NS :: Cond.initialized mt_NS :: mt_xw, vx_ot w = true := by decide +kernel
theorem mt_ns10 : Cond.classLink RX10 189 mt_NS ∈ mt_tb := mt_mem (i := 928) (by decide +kernel) rfl
theorem mt_nsL : Cond.classLink RL 13 mt_NS ∈ mt_tb := mt_mem (i := 923) (by decide +kernel) rfl
theorem mt_nsi : Cond.initialized mt_NS ∈ mt_tb := mt_mem (i := 81) (by decide +kernel) rfl
def mt_N (U : State) : Prop := va_Nw (.castable mt_NS mt_NS) U ∧ va_Nw (.declares ⟨"java/lang/RuntimeException", "<init>", "()V"⟩) U ∧ va_Nw (.declares ⟨"java/lang/Exception", "<init>", "()V"⟩) U ∧ va_Nw (.declares ⟨"java/lang/Throwable", "<init>", "()V"⟩) U
theorem mt_N.warm {s U : State} (hW : s.WarmedH U.vm) (h : mt_N s) : mt_N U := ⟨va_Nw.warmC hW h.1, va_Nw.warmD hW h.2.1, va_Nw.warmD hW h.2.2.1, va_Nw.warmD hW h.2.2.2⟩
theorem mt_N.same {s U : State} (hv : s.vm = U.vm) (h : mt_N s) : mt_N U := ⟨va_Nw.same rfl hv h.1, va_Nw.same rfl hv h.2.1, va_Nw.same rfl hv h.2.2.1, va_Nw.same rfl hv h.2.2.2⟩
theorem mt_N.use {s : State} {args : Array Value} (h : mt_N s) : ∀ w ∈ mt_N4, w.before args s = true := by
  intro w hw
  simp only [mt_N4, List.mem_cons, List.not_mem_nil, or_false] at hw
  rcases hw with rfl | rfl | rfl | rfl
  · exact va_Nw.use rfl h.1
  · exact va_Nw.use rfl h.2.1
  · exact va_Nw.use rfl h.2.2.1
  · exact va_Nw.use rfl h.2.2.2
def mt_Z (b : Nat) (U : State) (H : Heap) : Prop := vx_Zq Bundle.tN "UNASSIGNED_STACK" Bundle.steD (fun q => b ≤ q) U H ∧ vx_Zq Bundle.tN "SUPPRESSED_SENTINEL" Bundle.listD (fun q => b ≤ q) U H
theorem mt_Z.moved {b : Nat} {u U : State} {H : Heap} (hvm : u.vm.Alike U.vm) (h : mt_Z b u H) : mt_Z b U H := ⟨vx_Zq.moved hvm h.1, vx_Zq.moved hvm h.2⟩
theorem mt_Z.kept {b : Nat} {U : State} {H H1 : Heap} (h : mt_Z b U H) (hq : ∀ a : Nat, a < H.size → ¬ b ≤ a → H1[a]? = H[a]?) : mt_Z b U H1 := ⟨vx_Zq.kept h.1 hq, vx_Zq.kept h.2 hq⟩
def mt_BdT (B : mt_B) (S : mt_S) (U : State) : Prop := mt_Bd B S U ∧ mt_N U ∧ mt_Z B.2.2.2 U U.heap
def mt_th (B : mt_B) (E : mt_E) : Prop := match E with
  | (_, _, _, s, _, _, _, _, _, _, _) => B.1.stackTraces = false ∧ mt_N s ∧ mt_Z B.2.2.2 s s.heap
def mt_XC (B : mt_B) (S : mt_S) : String → State → State → Prop := fun E st t => match B with
  | (_, D, cA, b) => E = mt_NS ∧ va_P D vwCl (mt_W cA b S) t.heap ∧ va_F (fun q => b ≤ q) st t
def mt_QF : Array Value → State → Outcome → State → Prop := fun _ _ _ _ => False
def mt_EndT (B : mt_B) (E : mt_E) (S : mt_S) : Prop := match E with
  | (_, _, _, s, _, args, below, _, _, Q, _) => Q = vx_MQ below mt_QF (mt_XC B S) args s 1 6 (fun q => B.2.2.2 ≤ q)
def mt_nt (E : mt_E) : Prop := match E with
  | (_, _, _, _, _, _, _, _, c, _, _) => ∀ x ∈ c.exceptionTable.toList, False
def mt_tab (E : mt_E) (hh : List (Nat × Nat × Nat × Nat)) : Prop := match E with
  | (_, _, _, _, _, _, _, _, c, _, _) => c.exceptionTable.toList = tableOf hh
/-- a contract: from the heap S it throws, and leaves S' -/
def mt_MT (B : mt_B) (y : MethodName) (cc : ByteArray) (nL : Nat) (ret : Option FieldType) (d : Nat) (vs : List Value) (S S' : mt_S) : Prop :=
  vx_Met B.1 y (.code y cc nL ret :: mt_tb) (mt_R d 1 6) (va_Pc vs (mt_BdT B S)) mt_QF (mt_XC B S') 1 6 (fun q => B.2.2.2 ≤ q)
theorem mt_BdT_blind {B : mt_B} {vs : List Value} {S : mt_S} : FrameBlind (va_Pc vs (mt_BdT B S)) := by
  obtain ⟨l, D, cA, b⟩ := B
  intro a U g mk q
  obtain ⟨q0, ⟨q1, qP, qK⟩, qn, qz⟩ := q
  exact ⟨q0, ⟨q1, qP, va_K.moved (u := U) (U := U.calling g mk a) (Vm.Alike.refl U.vm) qK⟩, mt_N.same rfl qn, mt_Z.moved (u := U) (U := U.calling g mk a) (Vm.Alike.refl U.vm) qz⟩
theorem mt_MT.of {B : mt_B} {y : MethodName} {cc : ByteArray} {nL : Nat} {ret : Option FieldType} {d : Nat} {vs : List Value} {S S' : mt_S} (hl : B.1.stackTraces = false) (hy : plainName y.cls = true) (hlen : (lg_sl vs).length ≤ nL)
    (body : ∀ E : mt_E, mt_Cx B E cc y.cls ret nL d 1 6 → mt_th B E → mt_nt E → mt_EndT B E S' → mt_Go B E (0, 0) S 0 (lv_args 0 vs) []) : mt_MT B y cc nL ret d vs S S' := by
  obtain ⟨l, D, cA, b⟩ := B
  refine vx_ofW (cc := cc) (maxL := nL) (ret := ret) hy rfl ?_
  intro p e s m args below meth c s₁ Bd hml hnt hv
  obtain ⟨rfl, ⟨hb1, hP, hK⟩, hn, hz⟩ := hv
  have hts := atoms_spec (ws := .code y cc nL ret :: mt_tb) Bd.pre
  have hown : s.vm.findClass y.cls = some m.cls := findClass_of_methodNamed Bd.named
  rw [lg_entry_eq]
  exact body (p, e, mt_R d 1 6, s, m, vs.toArray, below, meth, c, _, nL) ⟨Bd.exec, Bd.bytes, hml, rfl, hown, fun w hw => hts w (List.mem_cons_of_mem _ hw), hK, hb1, Bd.returns, Bd.notSynchronized, Nat.le_refl _, Nat.le_refl _, Nat.le_refl _, Nat.le_refl _⟩ ⟨hl, hn, hz⟩ hnt rfl s.heap [] _ hP va_S.rf (lv_entry vs hlen)
section mtTh
variable {B : mt_B} {E : mt_E} {cs : Nat × Nat} {S : mt_S} {pc : Nat} {lv : List (Nat × Value)} {st : List Value} {cc : ByteArray} {own : String} {ret : Option FieldType} {nL d mc ms : Nat}
set_option maxHeartbeats 4000000 in
theorem go_throw (hC : mt_Cx B E cc RX10 ret nL d 1 6) (hT : mt_th B E) (hN : mt_nt E) (hE : mt_EndT B E S) (hdd : 6 ≤ d) (d0 : decode cc pc = .ok (.new 189, 3)) (d3 : decode cc (pc + 3) = .ok (.dup, 1)) (d4 : decode cc (pc + 4) = .ok (.invokespecial 191, 3)) (d7 : decode cc (pc + 7) = .ok (.athrow, 1)) : mt_Go B E (0, 0) S pc lv [] := by
  obtain ⟨l, D, cA, b⟩ := B
  obtain ⟨p, e, R, s, m, args, below, meth, c0, Q, nL'⟩ := E
  obtain ⟨hx, hb, hml, rfl, hown, hts, hK, hbs, hr, hlk, hrf, hrl, hrc, hrs⟩ := hC
  obtain ⟨hl0, hn, hz⟩ := hT
  intro H locs ls hP hS hl
  obtain rfl : Q = _ := hE
  refine vx_throw0 (own := RX10) (cls := mt_NS) (names := ["java/lang/RuntimeException", "java/lang/Exception"]) (ik := 189) (ic := 191) (A := fun q => b ≤ q) hx hb hl0 hown (by decide +kernel) (by decide +kernel) (hts _ mt_ns10) (hts _ mt_nsi) (vx_hat (fun w h => hts w (mt_at_good w h)) mt_N4_ok hn.use) mt_at_ot hz.1 hz.2 hS (by rw [hml]; exact hl.1) d0 d3 d4 d7 (fun x h => (hN x h).elim) (by show 2 + 3 < R.frames; omega) (by show 0 + (13 * (2 + 1) + 42) ≤ R.locals; omega) (by show 0 + 1 ≤ R.cells; omega) (by show 0 + 6 ≤ R.slots; omega) hlk (fun t ha h1 h2 => ⟨rfl, hP.kept fun k x hx => h2 x.1 (hP k x hx).lt, Nat.le_trans hS.1 h1, fun q h3 h4 => (h2 q (Nat.lt_of_lt_of_le h3 hS.1)).trans (hS.2.1 q h3 h4)⟩) hS.2.2 (Nat.le_refl _) (Nat.le_refl _)
set_option maxHeartbeats 4000000 in
/-- a call that throws, caught by the first row of the table -/
theorem go_callT (hC : mt_Cx B E cc own ret nL d mc ms) (hTh : mt_th B E) {y : MethodName} {bytes : ByteArray} {maxL n ci k idx d' a1 a2 a3 a4 : Nat} {ret' : Option FieldType} (hTb : mt_tab E [(a1, a2, a3, a4)]) (As rest : List Value) {S1 : mt_S} {cs1 : Nat × Nat} (hM : mt_MT B y bytes maxL ret' d' (mt_rf B k :: As) S S1) (hq : mt_CV own idx y bytes maxL ret' n ci) (hk : mt_isK S k ci = true) (hcl : Cond.classLink own a4 mt_NS ∈ mt_tb) (h4 : a4 ≠ 0) (hcv : a1 ≤ pc ∧ pc < a2) (hd : decode cc pc = .ok (.invokevirtual idx, 3)) (hst : st = As.reverse ++ mt_rf B k :: rest) (hn : As.length = n) (hdd : d' + 1 ≤ d) (hw : (rest.map fun v => v.category).sum ≤ 8) (hcs : cs1 = (cs.1 + 1, cs.2 + 6)) (hrm : cs.1 + 1 ≤ mc ∧ cs.2 + 6 ≤ ms) (kk : ∀ q : Nat, mt_Go B E cs1 S1 a3 lv [.ref q]) : mt_Go B E cs S pc lv st := by
  subst hst
  subst hcs
  obtain ⟨l, D, cA, b⟩ := B
  obtain ⟨p, e, R, s, m, args, below, meth, c0, Q, nL'⟩ := E
  obtain ⟨hx, hb, hml, rfl, hown, hts, hK, hbs, hr, hlk, hrf, hrl, hrc, hrs⟩ := hC
  obtain ⟨h1, h2, h3, h4', q, h5, h6⟩ := hq
  obtain ⟨hl0, hnn, hz⟩ := hTh
  intro H locs ls hP hS hl
  have hcw : CallW R s args own y.cls idx y bytes maxL ret' (.code y bytes maxL ret' :: mt_tb) (mt_R d' 1 6) 1 6 n := ⟨mt_callB hts h1 hdd hrf hrl, hts _ h2, hts _ h3⟩
  have hrec := va_recv hK hP h5 (mt_at hk (mt_cell_o hk h4'))
  rw [h6] at hrec
  have hrun := vx_runV (p := p) (e := e) (below := below) (meth := meth) (locs := locs) (cells := cs.1) (slots := cs.2) (g := F0 m pc ls (As.reverse ++ mt_rf (l, D, cA, b) k :: rest)) (As := As) (rest := rest) (C := y.cls) (b := b + k) (H := H) ⟨hx, hb, hml, hown, hts⟩ hM hcw ⟨mt_BdT_blind, hrec, fun U hU hW => ⟨rfl, ⟨by rw [hU]; exact Nat.le_trans hbs hS.1, by rw [hU]; exact hP, va_K.moved hW.alike hK⟩, mt_N.warm hW hnn, by rw [hU]; exact mt_Z.moved hW.alike (hz.kept hS.2.1)⟩⟩ rfl hn hl.1 rfl (lv_room hw) hd ⟨by omega, by omega⟩
  intro T hT X
  rcases hrun T hT X with ⟨v, st₀, t, T', L, h0, X', hL, e1, e2, hF, st⟩ | ⟨q9, st₀, t, T', L, E9, ce, h0, X', hL, e1, e2, ⟨rfl, hP1, hF⟩, hce, hcv9, hcl9, st⟩
  · exact hF.elim
  · obtain ⟨k1, k2, k3⟩ := vx_keep (A0 := fun q => b ≤ q) (A1 := fun q => b ≤ q) (H0 := s.heap) h0 e1 hS (fun q _ h => h) (fun q h => h) hL hF
    have hW := vx_catch (p := p) (l := l) (e := e) (R := R) (below := below) (meth := meth) (locs := locs ++ L) (cells := cs.1 + 1) (slots := cs.2 + 6) (Q := Q) (H := T'.heap) (pc := pc) (ls := ls) (rest := rest) (q := q9) (ce := ce) hown [] ⟨a1, a2, a3, a4⟩ [] hTb (fun z h => by cases h) (by simp [covers, hcv.1, hcv.2]) h4 (hts _ hcl) (va_Nw.use rfl hnn.1) (by rw [e1]; exact hce) hcv9 hcl9 (kk q9 T'.heap (locs ++ L) ls (by rw [e1]; exact hP1) k3 hl)
    obtain ⟨t2, b1, b2⟩ := hW T' rfl X'
    exact ⟨t2, st.trans b1, b2⟩
/-- a contract of a helper with a table -/
def mt_MH (B : mt_B) (y : MethodName) (cc : ByteArray) (nL : Nat) (hh : List (Nat × Nat × Nat × Nat)) (d : Nat) (vs : List Value) (S : mt_S) (r : Int32) (S' : mt_S) : Prop :=
  Met B.1 y (.codeWith y cc nL (some .int) hh :: mt_tb) (mt_R d 1 6) (va_Pc vs (mt_BdT B S)) (mt_Q B (some (.int r)) S') 1 6 (fun q => B.2.2.2 ≤ q)
theorem mt_MH.of {y : MethodName} {hh : List (Nat × Nat × Nat × Nat)} {vs : List Value} {r : Int32} {S' : mt_S} (hl : B.1.stackTraces = false) (hy : plainName y.cls = true) (hlen : (lg_sl vs).length ≤ nL)
    (body : ∀ E : mt_E, mt_Cx B E cc y.cls (some .int) nL d 1 6 → mt_th B E → mt_tab E hh → mt_End B E (1, 6) (some (.int r)) S' → mt_Go B E (0, 0) S 0 (lv_args 0 vs) []) : mt_MH B y cc nL hh d vs S r S' := by
  obtain ⟨l, D, cA, b⟩ := B
  refine va_MetW (cc := cc) (maxL := nL) (ret := some .int) (hh := hh) hy rfl ?_
  intro p e s m args below meth c s₁ Bd hml hv
  obtain ⟨rfl, ⟨hb1, hP, hK⟩, hn, hz⟩ := hv
  have hts := atoms_spec (ws := .codeWith y cc nL (some .int) hh :: mt_tb) Bd.pre
  have hown : s.vm.findClass y.cls = some m.cls := findClass_of_methodNamed Bd.named
  rw [lg_entry_eq]
  exact body (p, e, mt_R d 1 6, s, m, vs.toArray, below, meth, c, _, nL) ⟨Bd.exec, Bd.bytes, hml, rfl, hown, fun w hw => hts w (List.mem_cons_of_mem _ hw), hK, hb1, Bd.returns, Bd.notSynchronized, Nat.le_refl _, Nat.le_refl _, Nat.le_refl _, Nat.le_refl _⟩ ⟨hl, hn, hz⟩ (vx_table (x := y) Bd (hts _ List.mem_cons_self)) rfl s.heap [] _ hP va_S.rf (lv_entry vs hlen)
theorem go_widen {c1 : Nat × Nat} (h1 : cs.1 ≤ c1.1) (h2 : cs.2 ≤ c1.2) (k : mt_Go B E c1 S pc lv st) : mt_Go B E cs S pc lv st := by
  obtain ⟨l, D, cA, b⟩ := B
  obtain ⟨p, e, R, s, m, args, below, meth, c0, Q, nL'⟩ := E
  intro H locs ls hP hS hl
  exact W.widen h1 h2 (k H locs ls hP hS hl)
/-- a call of such a helper -/
def mt_CH (own : String) (idx : Nat) (y : MethodName) (bytes : ByteArray) (maxL : Nat) (hh : List (Nat × Nat × Nat × Nat)) (n : Nat) : Prop := Cond.methodLink own idx y ∈ mt_tb ∧ Cond.codeWith y bytes maxL (some .int) hh ∈ mt_tb ∧ Cond.initialized y.cls ∈ mt_tb ∧ Cond.static y ∈ mt_tb ∧ maxL ≤ 45 ∧ y.cls ≠ "java/lang/invoke/MethodHandle" ∧ y.cls ≠ "java/lang/invoke/VarHandle" ∧ (parseMethodDescriptor y.desc).map (fun d => d.parameters.length) = some n
set_option maxHeartbeats 4000000 in
theorem go_callH (hC : mt_Cx B E cc own ret nL d mc ms) (hTh : mt_th B E) {y : MethodName} {bytes : ByteArray} {maxL n idx d' : Nat} {hh : List (Nat × Nat × Nat × Nat)} (As rest : List Value) {r : Int32} {S1 : mt_S} {cs1 : Nat × Nat} (hM : mt_MH B y bytes maxL hh d' As S r S1) (hq : mt_CH own idx y bytes maxL hh n) (hd : decode cc pc = .ok (.invokestatic idx, 3)) (hst : st = As.reverse ++ rest) (hn : As.length = n) (hdd : d' + 1 ≤ d) (hw : (rest.map fun v => v.category).sum ≤ 8) (hcs : cs1 = (cs.1 + 1, cs.2 + 6)) (hrm : cs.1 + 1 ≤ mc ∧ cs.2 + 6 ≤ ms) (kk : mt_Go B E cs1 S1 (pc + 3) lv (.int r :: rest)) : mt_Go B E cs S pc lv st := by
  subst hst
  subst hcs
  obtain ⟨l, D, cA, b⟩ := B
  obtain ⟨p, e, R, s, m, args, below, meth, c0, Q, nL'⟩ := E
  obtain ⟨hx, hb, hml, rfl, hown, hts, hK, hbs, hr, hlk, hrf, hrl, hrc, hrs⟩ := hC
  obtain ⟨h1, h2, h3, h4, h5, h6, h7, h8⟩ := hq
  obtain ⟨hl0, hnn, hz⟩ := hTh
  intro H locs ls hP hS hl
  have hcw : vx_CSW R s args own idx y bytes maxL (some .int) hh (.codeWith y bytes maxL (some .int) hh :: mt_tb) (mt_R d' 1 6) 1 6 n := by
    refine ⟨⟨rfl, rfl, by show d' + 1 ≤ R.frames; omega, by show 8 + (maxL + 11) + 64 * d' ≤ R.locals; omega, pay_in hts (mt_goodIn h2), List.mem_cons_self⟩, hts _ h2, hts _ h3, ⟨h6, h7⟩, fun sig h => ?_, hts _ h1, hts _ h4⟩
    rw [h] at h8
    exact (Option.some.inj h8).symm
  refine mt_after (mc1 := 1) (ms1 := 6) (rv := some (.int r)) (vx_runSW (As := As) (rest := rest) ⟨hx, hb, hml, hown, hts⟩ hM hcw ⟨mt_BdT_blind, fun U hU hW => ⟨rfl, ⟨by rw [hU]; exact Nat.le_trans hbs hS.1, by rw [hU]; exact hP, va_K.moved hW.alike hK⟩, mt_N.warm hW hnn, by rw [hU]; exact mt_Z.moved hW.alike (hz.kept hS.2.1)⟩⟩ rfl hn hl.1 rfl (lv_room hw) hd ⟨by omega, by omega⟩) hS (fun H1 locs1 hP1 hS1 => ?_)
  exact kk H1 locs1 ls hP1 hS1 hl
end mtTh
theorem mt_ret {B : mt_B} {E : mt_E} {S S' : mt_S} (h : some S = some S') (hE : mt_EndT B E S') : mt_EndT B E S := by cases h; exact hE
def x_X10_triple (x0 : Nat) (x1 : Int32) (S : mt_S) : Option mt_S :=
  if mt_isK S x0 10 = true then
   Option.bind (mt_rR S x0 10 2) fun v1 =>
   mt_b2 (f_X5_place v1 S) fun v3 S2 =>
   if x1 = 0 then
    mt_b2 (f_X4_lowP v3 S2) fun v5 S4 =>
    mt_b2 (f_X4_lowQ v3 S4) fun v7 S6 =>
    mt_b2 (f_X10_numberOf x0 v5 v7 S6) fun v9 S8 =>
    none
   else
   if x1 = 1 then
    mt_b2 (f_X4_highP v3 S2) fun v11 S10 =>
    mt_b2 (f_X4_highQ v3 S10) fun v13 S12 =>
    mt_b2 (f_X10_numberOf x0 v11 v13 S12) fun v15 S14 =>
    none
   else
   if x1 = 2 then
    mt_b2 (f_X10_numberHere x0 S2) fun v17 S16 =>
    none
   else
    some S2
  else none
theorem kx_X10_triple {x0 : Nat} {x1 : Int32} {S S' : mt_S} (h : x_X10_triple x0 x1 S = some S') : mt_isK S x0 10 = true := by
  unfold x_X10_triple at h
  exact (mt_gd h).1
set_option maxHeartbeats 4000000 in
set_option maxRecDepth 100000 in
theorem mx_X10_triple {B : mt_B} (hl : B.1.stackTraces = false) {x0 : Nat} {x1 : Int32} {S S' : mt_S} (h : x_X10_triple x0 x1 S = some S') : mt_MT B yX10_triple cX10_triple 3 (some .long) 6 [mt_rf B x0, .int x1] S S' := by
  unfold x_X10_triple at h
  refine mt_MT.of hl (by decide) (Nat.le_of_ble_eq_true rfl) (fun E hC hT hN hE => ?_)
  obtain ⟨hk0, h⟩ := mt_gd h
  refine go_aload_n hC 0 dX10_triple_0 rfl rfl ?_
  obtain ⟨v1, e1, h⟩ := mt_ob h
  refine go_getR hC mt_flX10_26 e1 dX10_triple_1 ?_
  obtain ⟨v3, S2, e3, h⟩ := mt_ob2 h
  refine go_callVr hC [] [] (m_X5_place e3) mt_cvX10_103 (k_X5_place e3) dX10_triple_4 rfl rfl (by decide) (Nat.le_of_ble_eq_true rfl) (by decide) ?_
  refine go_astore_n hC [1, 2, 0] (lv1 := [(0, mt_rf B x0), (1, .int x1), (2, mt_rf B v3)]) dX10_triple_7 rfl (by decide) rfl ?_
  refine go_iload_n hC 1 dX10_triple_8 rfl rfl ?_
  by_cases hc0 : x1 = 0
  · have h := mt_ip h hc0
    refine go_tabIn hC (v := 0) (off := 27) (tgt := 36) dX10_triple_9 hc0 (by decide) (by decide) (by decide +kernel) (by decide) ?_
    refine go_aload_n hC 0 dX10_triple_36 rfl rfl ?_
    refine go_aload_n hC 2 dX10_triple_37 rfl rfl ?_
    obtain ⟨v5, S4, e5, h⟩ := mt_ob2 h
    refine go_callVi hC [] [mt_rf B x0] (m_X4_lowP e5) mt_cvX10_122 (k_X4_lowP e5) dX10_triple_38 rfl rfl (by decide) (Nat.le_of_ble_eq_true rfl) (by decide) ?_
    refine go_aload_n hC 2 dX10_triple_41 rfl rfl ?_
    obtain ⟨v7, S6, e7, h⟩ := mt_ob2 h
    refine go_callVi hC [] [.int v5, mt_rf B x0] (m_X4_lowQ e7) mt_cvX10_125 (k_X4_lowQ e7) dX10_triple_42 rfl rfl (by decide) (Nat.le_of_ble_eq_true rfl) (by decide) ?_
    obtain ⟨v9, S8, e9, h⟩ := mt_ob2 h
    refine go_callVl hC [.int v5, .int v7] [] (m_X10_numberOf e9) mt_cvX10_181 (k_X10_numberOf e9) dX10_triple_45 rfl rfl (by decide) (Nat.le_of_ble_eq_true rfl) (by decide) ?_
    cases h
  · have h := mt_in' h hc0
    by_cases hc1 : x1 = 1
    · have h := mt_ip h hc1
      refine go_tabIn hC (v := 1) (off := 40) (tgt := 49) dX10_triple_9 hc1 (by decide) (by decide) (by decide +kernel) (by decide) ?_
      refine go_aload_n hC 0 dX10_triple_49 rfl rfl ?_
      refine go_aload_n hC 2 dX10_triple_50 rfl rfl ?_
      obtain ⟨v11, S10, e11, h⟩ := mt_ob2 h
      refine go_callVi hC [] [mt_rf B x0] (m_X4_highP e11) mt_cvX10_128 (k_X4_highP e11) dX10_triple_51 rfl rfl (by decide) (Nat.le_of_ble_eq_true rfl) (by decide) ?_
      refine go_aload_n hC 2 dX10_triple_54 rfl rfl ?_
      obtain ⟨v13, S12, e13, h⟩ := mt_ob2 h
      refine go_callVi hC [] [.int v11, mt_rf B x0] (m_X4_highQ e13) mt_cvX10_131 (k_X4_highQ e13) dX10_triple_55 rfl rfl (by decide) (Nat.le_of_ble_eq_true rfl) (by decide) ?_
      obtain ⟨v15, S14, e15, h⟩ := mt_ob2 h
      refine go_callVl hC [.int v11, .int v13] [] (m_X10_numberOf e15) mt_cvX10_181 (k_X10_numberOf e15) dX10_triple_58 rfl rfl (by decide) (Nat.le_of_ble_eq_true rfl) (by decide) ?_
      cases h
    · have h := mt_in' h hc1
      by_cases hc2 : x1 = 2
      · have h := mt_ip h hc2
        refine go_tabIn hC (v := 2) (off := 53) (tgt := 62) dX10_triple_9 hc2 (by decide) (by decide) (by decide +kernel) (by decide) ?_
        refine go_aload_n hC 0 dX10_triple_62 rfl rfl ?_
        obtain ⟨v17, S16, e17, h⟩ := mt_ob2 h
        refine go_callVl hC [] [] (m_X10_numberHere e17) mt_cvX10_185 (k_X10_numberHere e17) dX10_triple_63 rfl rfl (by decide) (Nat.le_of_ble_eq_true rfl) (by decide) ?_
        cases h
      · have h := mt_in' h hc2
        have t0 := lv_neT hc0 (a := 0) rfl
        have t1 := lv_neT hc1 (a := 1) rfl
        have t2 := lv_neT hc2 (a := 2) rfl
        refine go_tabOut hC (tgt := 67) dX10_triple_9 (by omega) (by decide) ?_
        exact go_throw hC hT hN (mt_ret h hE) (by decide) dX10_triple_67 dX10_triple_70 dX10_triple_71 dX10_triple_74
set_option maxHeartbeats 4000000 in
set_option maxRecDepth 100000 in
theorem ovx_X10_triple {T : mt_S} {x0 : Nat} {x1 : Int32} {S S' : mt_S} (hp : mt_cp S T) (h : x_X10_triple x0 x1 S = some S') : x_X10_triple x0 x1 (mt_ov S T) = some (mt_ov S' T) ∧ mt_cp S' T := by
  unfold x_X10_triple at h ⊢
  obtain ⟨hg, h⟩ := mt_gd h
  refine ov_t (ov_K hp hg) ?_
  obtain ⟨v1, e1, h⟩ := mt_ob h
  refine ov_b (ov_rR hp e1) ?_
  obtain ⟨v3, S2, e3, h⟩ := mt_ob2 h
  obtain ⟨o_, hp⟩ := ov_X5_place hp e3
  refine ov_b2 o_ ?_
  by_cases hc : x1 = 0
  · have h := mt_ip h hc
    refine ov_t hc ?_
    obtain ⟨v5, S4, e5, h⟩ := mt_ob2 h
    obtain ⟨o_, hp⟩ := ov_X4_lowP hp e5
    refine ov_b2 o_ ?_
    obtain ⟨v7, S6, e7, h⟩ := mt_ob2 h
    obtain ⟨o_, hp⟩ := ov_X4_lowQ hp e7
    refine ov_b2 o_ ?_
    obtain ⟨v9, S8, e9, h⟩ := mt_ob2 h
    obtain ⟨o_, hp⟩ := ov_X10_numberOf hp e9
    refine ov_b2 o_ ?_
    cases h
  · have h := mt_in' h hc
    refine ov_f hc ?_
    by_cases hc : x1 = 1
    · have h := mt_ip h hc
      refine ov_t hc ?_
      obtain ⟨v11, S10, e11, h⟩ := mt_ob2 h
      obtain ⟨o_, hp⟩ := ov_X4_highP hp e11
      refine ov_b2 o_ ?_
      obtain ⟨v13, S12, e13, h⟩ := mt_ob2 h
      obtain ⟨o_, hp⟩ := ov_X4_highQ hp e13
      refine ov_b2 o_ ?_
      obtain ⟨v15, S14, e15, h⟩ := mt_ob2 h
      obtain ⟨o_, hp⟩ := ov_X10_numberOf hp e15
      refine ov_b2 o_ ?_
      cases h
    · have h := mt_in' h hc
      refine ov_f hc ?_
      by_cases hc : x1 = 2
      · have h := mt_ip h hc
        refine ov_t hc ?_
        obtain ⟨v17, S16, e17, h⟩ := mt_ob2 h
        obtain ⟨o_, hp⟩ := ov_X10_numberHere hp e17
        refine ov_b2 o_ ?_
        cases h
      · have h := mt_in' h hc
        refine ov_f hc ?_
        exact ov_retv hp h
def x_X10_matrix (x0 : Nat) (x1 : Int32) (x2 : Int32) (S : mt_S) : Option mt_S :=
  if mt_isK S x0 10 = true then
   if x1 < 0 then
    some S
   else
   if 1 < x1 then
    some S
   else
   if x2 < 0 then
    some S
   else
   if x2 ≤ 1 then
    Option.bind (mt_rR S x0 10 7) fun v1 =>
    Option.bind (mt_rR S x0 10 2) fun v2 =>
    mt_b2 (f_X5_place v2 S) fun v4 S3 =>
    mt_b2 (f_X4_p v4 S3) fun v6 S5 =>
    Option.bind (mt_rR S5 x0 10 2) fun v7 =>
    mt_b2 (f_X5_place v7 S5) fun v9 S8 =>
    mt_b2 (f_X4_q v9 S8) fun v11 S10 =>
    Option.bind (f_X9_setTo v1 v6 v11 S10) fun S12 =>
    Option.bind (mt_rR S12 x0 10 7) fun v13 =>
    mt_b2 (f_X9_entry v13 x1 x2 S12) fun v15 S14 =>
    none
   else
    some S
  else none
theorem kx_X10_matrix {x0 : Nat} {x1 : Int32} {x2 : Int32} {S S' : mt_S} (h : x_X10_matrix x0 x1 x2 S = some S') : mt_isK S x0 10 = true := by
  unfold x_X10_matrix at h
  exact (mt_gd h).1
set_option maxHeartbeats 4000000 in
set_option maxRecDepth 100000 in
theorem mx_X10_matrix {B : mt_B} (hl : B.1.stackTraces = false) {x0 : Nat} {x1 : Int32} {x2 : Int32} {S S' : mt_S} (h : x_X10_matrix x0 x1 x2 S = some S') : mt_MT B yX10_matrix cX10_matrix 3 (some .long) 6 [mt_rf B x0, .int x1, .int x2] S S' := by
  unfold x_X10_matrix at h
  refine mt_MT.of hl (by decide) (Nat.le_of_ble_eq_true rfl) (fun E hC hT hN hE => ?_)
  obtain ⟨hk0, h⟩ := mt_gd h
  refine go_iload_n hC 1 dX10_matrix_0 rfl rfl ?_
  refine go_if_lt hC (tgt := 18) dX10_matrix_1 (by decide) (fun hc => ?_) (fun hc => ?_)
  · have h := mt_ip h hc
    exact go_throw hC hT hN (mt_ret h hE) (by decide) dX10_matrix_18 dX10_matrix_21 dX10_matrix_22 dX10_matrix_25
  · have h := mt_in' h hc
    refine go_iload_n hC 1 dX10_matrix_4 rfl rfl ?_
    refine go_iconst (v := 1) hC dX10_matrix_5 (by decide) ?_
    refine go_icmp_gt hC (tgt := 18) dX10_matrix_6 (by decide) (fun hc => ?_) (fun hc => ?_)
    · have h := mt_ip h hc
      exact go_throw hC hT hN (mt_ret h hE) (by decide) dX10_matrix_18 dX10_matrix_21 dX10_matrix_22 dX10_matrix_25
    · have h := mt_in' h hc
      refine go_iload_n hC 2 dX10_matrix_9 rfl rfl ?_
      refine go_if_lt hC (tgt := 18) dX10_matrix_10 (by decide) (fun hc => ?_) (fun hc => ?_)
      · have h := mt_ip h hc
        exact go_throw hC hT hN (mt_ret h hE) (by decide) dX10_matrix_18 dX10_matrix_21 dX10_matrix_22 dX10_matrix_25
      · have h := mt_in' h hc
        refine go_iload_n hC 2 dX10_matrix_13 rfl rfl ?_
        refine go_iconst (v := 1) hC dX10_matrix_14 (by decide) ?_
        refine go_icmp_le hC (tgt := 26) dX10_matrix_15 (by decide) (fun hc => ?_) (fun hc => ?_)
        · have h := mt_ip h hc
          refine go_aload_n hC 0 dX10_matrix_26 rfl rfl ?_
          obtain ⟨v1, e1, h⟩ := mt_ob h
          refine go_getR hC mt_flX10_55 e1 dX10_matrix_27 ?_
          refine go_aload_n hC 0 dX10_matrix_30 rfl rfl ?_
          obtain ⟨v2, e2, h⟩ := mt_ob h
          refine go_getR hC mt_flX10_26 e2 dX10_matrix_31 ?_
          obtain ⟨v4, S3, e4, h⟩ := mt_ob2 h
          refine go_callVr hC [] [mt_rf B v1] (m_X5_place e4) mt_cvX10_103 (k_X5_place e4) dX10_matrix_34 rfl rfl (by decide) (Nat.le_of_ble_eq_true rfl) (by decide) ?_
          obtain ⟨v6, S5, e6, h⟩ := mt_ob2 h
          refine go_callVi hC [] [mt_rf B v1] (m_X4_p e6) mt_cvX10_114 (k_X4_p e6) dX10_matrix_37 rfl rfl (by decide) (Nat.le_of_ble_eq_true rfl) (by decide) ?_
          refine go_aload_n hC 0 dX10_matrix_40 rfl rfl ?_
          obtain ⟨v7, e7, h⟩ := mt_ob h
          refine go_getR hC mt_flX10_26 e7 dX10_matrix_41 ?_
          obtain ⟨v9, S8, e9, h⟩ := mt_ob2 h
          refine go_callVr hC [] [.int v6, mt_rf B v1] (m_X5_place e9) mt_cvX10_103 (k_X5_place e9) dX10_matrix_44 rfl rfl (by decide) (Nat.le_of_ble_eq_true rfl) (by decide) ?_
          obtain ⟨v11, S10, e11, h⟩ := mt_ob2 h
          refine go_callVi hC [] [.int v6, mt_rf B v1] (m_X4_q e11) mt_cvX10_119 (k_X4_q e11) dX10_matrix_47 rfl rfl (by decide) (Nat.le_of_ble_eq_true rfl) (by decide) ?_
          obtain ⟨S12, e12, h⟩ := mt_ob h
          refine go_callVv hC [.int v6, .int v11] [] (m_X9_setTo e12) mt_cvX10_196 (k_X9_setTo e12) dX10_matrix_50 rfl rfl (by decide) (Nat.le_of_ble_eq_true rfl) (by decide) ?_
          refine go_aload_n hC 0 dX10_matrix_53 rfl rfl ?_
          obtain ⟨v13, e13, h⟩ := mt_ob h
          refine go_getR hC mt_flX10_55 e13 dX10_matrix_54 ?_
          refine go_iload_n hC 1 dX10_matrix_57 rfl rfl ?_
          refine go_iload_n hC 2 dX10_matrix_58 rfl rfl ?_
          obtain ⟨v15, S14, e15, h⟩ := mt_ob2 h
          refine go_callVl hC [.int x1, .int x2] [] (m_X9_entry e15) mt_cvX10_199 (k_X9_entry e15) dX10_matrix_59 rfl rfl (by decide) (Nat.le_of_ble_eq_true rfl) (by decide) ?_
          cases h
        · have h := mt_in' h hc
          exact go_throw hC hT hN (mt_ret h hE) (by decide) dX10_matrix_18 dX10_matrix_21 dX10_matrix_22 dX10_matrix_25
set_option maxHeartbeats 4000000 in
set_option maxRecDepth 100000 in
theorem ovx_X10_matrix {T : mt_S} {x0 : Nat} {x1 : Int32} {x2 : Int32} {S S' : mt_S} (hp : mt_cp S T) (h : x_X10_matrix x0 x1 x2 S = some S') : x_X10_matrix x0 x1 x2 (mt_ov S T) = some (mt_ov S' T) ∧ mt_cp S' T := by
  unfold x_X10_matrix at h ⊢
  obtain ⟨hg, h⟩ := mt_gd h
  refine ov_t (ov_K hp hg) ?_
  by_cases hc : x1 < 0
  · have h := mt_ip h hc
    refine ov_t hc ?_
    exact ov_retv hp h
  · have h := mt_in' h hc
    refine ov_f hc ?_
    by_cases hc : 1 < x1
    · have h := mt_ip h hc
      refine ov_t hc ?_
      exact ov_retv hp h
    · have h := mt_in' h hc
      refine ov_f hc ?_
      by_cases hc : x2 < 0
      · have h := mt_ip h hc
        refine ov_t hc ?_
        exact ov_retv hp h
      · have h := mt_in' h hc
        refine ov_f hc ?_
        by_cases hc : x2 ≤ 1
        · have h := mt_ip h hc
          refine ov_t hc ?_
          obtain ⟨v1, e1, h⟩ := mt_ob h
          refine ov_b (ov_rR hp e1) ?_
          obtain ⟨v2, e2, h⟩ := mt_ob h
          refine ov_b (ov_rR hp e2) ?_
          obtain ⟨v4, S3, e4, h⟩ := mt_ob2 h
          obtain ⟨o_, hp⟩ := ov_X5_place hp e4
          refine ov_b2 o_ ?_
          obtain ⟨v6, S5, e6, h⟩ := mt_ob2 h
          obtain ⟨o_, hp⟩ := ov_X4_p hp e6
          refine ov_b2 o_ ?_
          obtain ⟨v7, e7, h⟩ := mt_ob h
          refine ov_b (ov_rR hp e7) ?_
          obtain ⟨v9, S8, e9, h⟩ := mt_ob2 h
          obtain ⟨o_, hp⟩ := ov_X5_place hp e9
          refine ov_b2 o_ ?_
          obtain ⟨v11, S10, e11, h⟩ := mt_ob2 h
          obtain ⟨o_, hp⟩ := ov_X4_q hp e11
          refine ov_b2 o_ ?_
          obtain ⟨S12, e12, h⟩ := mt_ob h
          obtain ⟨o_, hp⟩ := ov_X9_setTo hp e12
          refine ov_b o_ ?_
          obtain ⟨v13, e13, h⟩ := mt_ob h
          refine ov_b (ov_rR hp e13) ?_
          obtain ⟨v15, S14, e15, h⟩ := mt_ob2 h
          obtain ⟨o_, hp⟩ := ov_X9_entry hp e15
          refine ov_b2 o_ ?_
          cases h
        · have h := mt_in' h hc
          refine ov_f hc ?_
          exact ov_retv hp h
def x_X10_form (x0 : Nat) (x1 : Int32) (S : mt_S) : Option mt_S :=
  if mt_isK S x0 10 = true then
   if x1 < 0 then
    some S
   else
   if 2 < x1 then
    some S
   else
    mt_b2 (f_X10_setForm x0 S) fun v2 S1 =>
    if v2 = 0 then
     some S1
    else
     Option.bind (mt_rR S1 x0 10 8) fun v3 =>
     mt_b2 (f_X1_coefficient v3 x1 S1) fun v5 S4 =>
     none
  else none
theorem kx_X10_form {x0 : Nat} {x1 : Int32} {S S' : mt_S} (h : x_X10_form x0 x1 S = some S') : mt_isK S x0 10 = true := by
  unfold x_X10_form at h
  exact (mt_gd h).1
set_option maxHeartbeats 4000000 in
set_option maxRecDepth 100000 in
theorem mx_X10_form {B : mt_B} (hl : B.1.stackTraces = false) {x0 : Nat} {x1 : Int32} {S S' : mt_S} (h : x_X10_form x0 x1 S = some S') : mt_MT B yX10_form cX10_form 2 (some .long) 6 [mt_rf B x0, .int x1] S S' := by
  unfold x_X10_form at h
  refine mt_MT.of hl (by decide) (Nat.le_of_ble_eq_true rfl) (fun E hC hT hN hE => ?_)
  obtain ⟨hk0, h⟩ := mt_gd h
  refine go_iload_n hC 1 dX10_form_0 rfl rfl ?_
  refine go_if_lt hC (tgt := 16) dX10_form_1 (by decide) (fun hc => ?_) (fun hc => ?_)
  · have h := mt_ip h hc
    exact go_throw hC hT hN (mt_ret h hE) (by decide) dX10_form_16 dX10_form_19 dX10_form_20 dX10_form_23
  · have h := mt_in' h hc
    refine go_iload_n hC 1 dX10_form_4 rfl rfl ?_
    refine go_iconst (v := 2) hC dX10_form_5 (by decide) ?_
    refine go_icmp_gt hC (tgt := 16) dX10_form_6 (by decide) (fun hc => ?_) (fun hc => ?_)
    · have h := mt_ip h hc
      exact go_throw hC hT hN (mt_ret h hE) (by decide) dX10_form_16 dX10_form_19 dX10_form_20 dX10_form_23
    · have h := mt_in' h hc
      refine go_aload_n hC 0 dX10_form_9 rfl rfl ?_
      obtain ⟨v2, S1, e2, h⟩ := mt_ob2 h
      refine go_callVi hC [] [] (m_X10_setForm e2) mt_cvX10_202 (k_X10_setForm e2) dX10_form_10 rfl rfl (by decide) (Nat.le_of_ble_eq_true rfl) (by decide) ?_
      refine go_if_ne hC (tgt := 24) dX10_form_13 (by decide) (fun hc => ?_) (fun hc => ?_)
      · have h := mt_in' h hc
        refine go_aload_n hC 0 dX10_form_24 rfl rfl ?_
        obtain ⟨v3, e3, h⟩ := mt_ob h
        refine go_getR hC mt_flX10_62 e3 dX10_form_25 ?_
        refine go_iload_n hC 1 dX10_form_28 rfl rfl ?_
        obtain ⟨v5, S4, e5, h⟩ := mt_ob2 h
        refine go_callVl hC [.int x1] [] (m_X1_coefficient e5) mt_cvX10_205 (k_X1_coefficient e5) dX10_form_29 rfl rfl (by decide) (Nat.le_of_ble_eq_true rfl) (by decide) ?_
        cases h
      · have h := mt_ip h hc
        exact go_throw hC hT hN (mt_ret h hE) (by decide) dX10_form_16 dX10_form_19 dX10_form_20 dX10_form_23
set_option maxHeartbeats 4000000 in
set_option maxRecDepth 100000 in
theorem ovx_X10_form {T : mt_S} {x0 : Nat} {x1 : Int32} {S S' : mt_S} (hp : mt_cp S T) (h : x_X10_form x0 x1 S = some S') : x_X10_form x0 x1 (mt_ov S T) = some (mt_ov S' T) ∧ mt_cp S' T := by
  unfold x_X10_form at h ⊢
  obtain ⟨hg, h⟩ := mt_gd h
  refine ov_t (ov_K hp hg) ?_
  by_cases hc : x1 < 0
  · have h := mt_ip h hc
    refine ov_t hc ?_
    exact ov_retv hp h
  · have h := mt_in' h hc
    refine ov_f hc ?_
    by_cases hc : 2 < x1
    · have h := mt_ip h hc
      refine ov_t hc ?_
      exact ov_retv hp h
    · have h := mt_in' h hc
      refine ov_f hc ?_
      obtain ⟨v2, S1, e2, h⟩ := mt_ob2 h
      obtain ⟨o_, hp⟩ := ov_X10_setForm hp e2
      refine ov_b2 o_ ?_
      by_cases hc : v2 = 0
      · have h := mt_ip h hc
        refine ov_t hc ?_
        exact ov_retv hp h
      · have h := mt_in' h hc
        refine ov_f hc ?_
        obtain ⟨v3, e3, h⟩ := mt_ob h
        refine ov_b (ov_rR hp e3) ?_
        obtain ⟨v5, S4, e5, h⟩ := mt_ob2 h
        obtain ⟨o_, hp⟩ := ov_X1_coefficient hp e5
        refine ov_b2 o_ ?_
        cases h
set_option maxRecDepth 20000 in
theorem mt_ch_triple : mt_CH RL 67 yL_triple cL_triple 4 [(0, 8, 11, 13)] 3 := ⟨mt_mem (i := 920) (by decide +kernel) rfl, mt_mem (i := 922) rfl rfl, mt_mem (i := 62) (by decide +kernel) rfl, mt_mem (i := 921) (by decide +kernel) rfl, by decide, by decide +kernel, by decide +kernel, by decide +kernel⟩
set_option maxHeartbeats 4000000 in
set_option maxRecDepth 100000 in
/-- the helper, where nothing is thrown -/
theorem mh_triple {B : mt_B} (hl : B.1.stackTraces = false) {x0 ko : Nat} {x1 : Int32} {S S1 S2 : mt_S} {r : Int64} (h1 : f_X10_triple x0 x1 S = some (r, S1)) (h2 : mt_sL S1 ko 0 r = some S2) : mt_MH B yL_triple cL_triple 4 [(0, 8, 11, 13)] 7 [mt_rf B x0, .int x1, mt_rf B ko] S 0 S2 := by
  refine mt_MH.of hl (by decide) (Nat.le_of_ble_eq_true rfl) (fun E hC hT hB hE => ?_)
  refine go_widen (c1 := (1, 6)) (by decide) (by decide) ?_
  refine go_aload_n hC 2 dL_triple_0 rfl rfl ?_
  refine go_iconst (v := 0) hC dL_triple_1 (by decide) ?_
  refine go_aload_n hC 0 dL_triple_2 rfl rfl ?_
  refine go_iload_n hC 1 dL_triple_3 rfl rfl ?_
  refine go_callVl hC [.int x1] [.int 0, mt_rf B ko] (m_X10_triple h1) mt_cvL_7 (k_X10_triple h1) dL_triple_4 rfl rfl (by decide) (Nat.le_of_ble_eq_true rfl) (by decide) ?_
  refine go_last hC h2 dL_triple_7 ?_
  refine go_goto hC (tgt := 14) dL_triple_8 (by decide) ?_
  refine go_iconst (v := 0) hC dL_triple_14 (by decide) ?_
  exact go_iret hC hE dL_triple_15
set_option maxHeartbeats 4000000 in
set_option maxRecDepth 100000 in
/-- the helper, where it is thrown -/
theorem mhx_triple {B : mt_B} (hl : B.1.stackTraces = false) {x0 ko : Nat} {x1 : Int32} {S S1 : mt_S} (h1 : x_X10_triple x0 x1 S = some S1) : mt_MH B yL_triple cL_triple 4 [(0, 8, 11, 13)] 7 [mt_rf B x0, .int x1, mt_rf B ko] S 1 S1 := by
  refine mt_MH.of hl (by decide) (Nat.le_of_ble_eq_true rfl) (fun E hC hT hB hE => ?_)
  refine go_aload_n hC 2 dL_triple_0 rfl rfl ?_
  refine go_iconst (v := 0) hC dL_triple_1 (by decide) ?_
  refine go_aload_n hC 0 dL_triple_2 rfl rfl ?_
  refine go_iload_n hC 1 dL_triple_3 rfl rfl ?_
  refine go_callT hC hT hB [.int x1] [.int 0, mt_rf B ko] (cs1 := (1, 6)) (mx_X10_triple hl h1) mt_cvL_7 (kx_X10_triple h1) mt_nsL (by decide) (by decide) dL_triple_4 rfl rfl (by decide) (Nat.le_of_ble_eq_true rfl) rfl (by decide) (fun q9 => ?_)
  refine go_astore_n hC [1, 2, 3, 0] (lv1 := [(0, mt_rf B x0), (1, .int x1), (2, mt_rf B ko), (3, .ref q9)]) dL_triple_11 rfl (by decide) rfl ?_
  refine go_iconst (v := 1) hC dL_triple_12 (by decide) ?_
  exact go_iret hC hE dL_triple_13
set_option maxRecDepth 20000 in
theorem mt_ch_matrix : mt_CH RL 84 yL_matrix cL_matrix 5 [(0, 9, 12, 13)] 4 := ⟨mt_mem (i := 989) (by decide +kernel) rfl, mt_mem (i := 991) rfl rfl, mt_mem (i := 62) (by decide +kernel) rfl, mt_mem (i := 990) (by decide +kernel) rfl, by decide, by decide +kernel, by decide +kernel, by decide +kernel⟩
set_option maxHeartbeats 4000000 in
set_option maxRecDepth 100000 in
/-- the helper, where nothing is thrown -/
theorem mh_matrix {B : mt_B} (hl : B.1.stackTraces = false) {x0 ko : Nat} {x1 : Int32} {x2 : Int32} {S S1 S2 : mt_S} {r : Int64} (h1 : f_X10_matrix x0 x1 x2 S = some (r, S1)) (h2 : mt_sL S1 ko 0 r = some S2) : mt_MH B yL_matrix cL_matrix 5 [(0, 9, 12, 13)] 7 [mt_rf B x0, .int x1, .int x2, mt_rf B ko] S 0 S2 := by
  refine mt_MH.of hl (by decide) (Nat.le_of_ble_eq_true rfl) (fun E hC hT hB hE => ?_)
  refine go_widen (c1 := (1, 6)) (by decide) (by decide) ?_
  refine go_aload_n hC 3 dL_matrix_0 rfl rfl ?_
  refine go_iconst (v := 0) hC dL_matrix_1 (by decide) ?_
  refine go_aload_n hC 0 dL_matrix_2 rfl rfl ?_
  refine go_iload_n hC 1 dL_matrix_3 rfl rfl ?_
  refine go_iload_n hC 2 dL_matrix_4 rfl rfl ?_
  refine go_callVl hC [.int x1, .int x2] [.int 0, mt_rf B ko] (m_X10_matrix h1) mt_cvL_15 (k_X10_matrix h1) dL_matrix_5 rfl rfl (by decide) (Nat.le_of_ble_eq_true rfl) (by decide) ?_
  refine go_last hC h2 dL_matrix_8 ?_
  refine go_goto hC (tgt := 16) dL_matrix_9 (by decide) ?_
  refine go_iconst (v := 0) hC dL_matrix_16 (by decide) ?_
  exact go_iret hC hE dL_matrix_17
set_option maxHeartbeats 4000000 in
set_option maxRecDepth 100000 in
/-- the helper, where it is thrown -/
theorem mhx_matrix {B : mt_B} (hl : B.1.stackTraces = false) {x0 ko : Nat} {x1 : Int32} {x2 : Int32} {S S1 : mt_S} (h1 : x_X10_matrix x0 x1 x2 S = some S1) : mt_MH B yL_matrix cL_matrix 5 [(0, 9, 12, 13)] 7 [mt_rf B x0, .int x1, .int x2, mt_rf B ko] S 1 S1 := by
  refine mt_MH.of hl (by decide) (Nat.le_of_ble_eq_true rfl) (fun E hC hT hB hE => ?_)
  refine go_aload_n hC 3 dL_matrix_0 rfl rfl ?_
  refine go_iconst (v := 0) hC dL_matrix_1 (by decide) ?_
  refine go_aload_n hC 0 dL_matrix_2 rfl rfl ?_
  refine go_iload_n hC 1 dL_matrix_3 rfl rfl ?_
  refine go_iload_n hC 2 dL_matrix_4 rfl rfl ?_
  refine go_callT hC hT hB [.int x1, .int x2] [.int 0, mt_rf B ko] (cs1 := (1, 6)) (mx_X10_matrix hl h1) mt_cvL_15 (kx_X10_matrix h1) mt_nsL (by decide) (by decide) dL_matrix_5 rfl rfl (by decide) (Nat.le_of_ble_eq_true rfl) rfl (by decide) (fun q9 => ?_)
  refine go_astore hC [1, 2, 3, 4, 0] (lv1 := [(0, mt_rf B x0), (1, .int x1), (2, .int x2), (3, mt_rf B ko), (4, .ref q9)]) dL_matrix_12 (by decide) rfl ?_
  refine go_iconst (v := 1) hC dL_matrix_14 (by decide) ?_
  exact go_iret hC hE dL_matrix_15
set_option maxRecDepth 20000 in
theorem mt_ch_form : mt_CH RL 88 yL_form cL_form 4 [(0, 8, 11, 13)] 3 := ⟨mt_mem (i := 996) (by decide +kernel) rfl, mt_mem (i := 998) rfl rfl, mt_mem (i := 62) (by decide +kernel) rfl, mt_mem (i := 997) (by decide +kernel) rfl, by decide, by decide +kernel, by decide +kernel, by decide +kernel⟩
set_option maxHeartbeats 4000000 in
set_option maxRecDepth 100000 in
/-- the helper, where nothing is thrown -/
theorem mh_form {B : mt_B} (hl : B.1.stackTraces = false) {x0 ko : Nat} {x1 : Int32} {S S1 S2 : mt_S} {r : Int64} (h1 : f_X10_form x0 x1 S = some (r, S1)) (h2 : mt_sL S1 ko 0 r = some S2) : mt_MH B yL_form cL_form 4 [(0, 8, 11, 13)] 7 [mt_rf B x0, .int x1, mt_rf B ko] S 0 S2 := by
  refine mt_MH.of hl (by decide) (Nat.le_of_ble_eq_true rfl) (fun E hC hT hB hE => ?_)
  refine go_widen (c1 := (1, 6)) (by decide) (by decide) ?_
  refine go_aload_n hC 2 dL_form_0 rfl rfl ?_
  refine go_iconst (v := 0) hC dL_form_1 (by decide) ?_
  refine go_aload_n hC 0 dL_form_2 rfl rfl ?_
  refine go_iload_n hC 1 dL_form_3 rfl rfl ?_
  refine go_callVl hC [.int x1] [.int 0, mt_rf B ko] (m_X10_form h1) mt_cvL_19 (k_X10_form h1) dL_form_4 rfl rfl (by decide) (Nat.le_of_ble_eq_true rfl) (by decide) ?_
  refine go_last hC h2 dL_form_7 ?_
  refine go_goto hC (tgt := 14) dL_form_8 (by decide) ?_
  refine go_iconst (v := 0) hC dL_form_14 (by decide) ?_
  exact go_iret hC hE dL_form_15
set_option maxHeartbeats 4000000 in
set_option maxRecDepth 100000 in
/-- the helper, where it is thrown -/
theorem mhx_form {B : mt_B} (hl : B.1.stackTraces = false) {x0 ko : Nat} {x1 : Int32} {S S1 : mt_S} (h1 : x_X10_form x0 x1 S = some S1) : mt_MH B yL_form cL_form 4 [(0, 8, 11, 13)] 7 [mt_rf B x0, .int x1, mt_rf B ko] S 1 S1 := by
  refine mt_MH.of hl (by decide) (Nat.le_of_ble_eq_true rfl) (fun E hC hT hB hE => ?_)
  refine go_aload_n hC 2 dL_form_0 rfl rfl ?_
  refine go_iconst (v := 0) hC dL_form_1 (by decide) ?_
  refine go_aload_n hC 0 dL_form_2 rfl rfl ?_
  refine go_iload_n hC 1 dL_form_3 rfl rfl ?_
  refine go_callT hC hT hB [.int x1] [.int 0, mt_rf B ko] (cs1 := (1, 6)) (mx_X10_form hl h1) mt_cvL_19 (kx_X10_form h1) mt_nsL (by decide) (by decide) dL_form_4 rfl rfl (by decide) (Nat.le_of_ble_eq_true rfl) rfl (by decide) (fun q9 => ?_)
  refine go_astore_n hC [1, 2, 3, 0] (lv1 := [(0, mt_rf B x0), (1, .int x1), (2, mt_rf B ko), (3, .ref q9)]) dL_form_11 rfl (by decide) rfl ?_
  refine go_iconst (v := 1) hC dL_form_12 (by decide) ?_
  exact go_iret hC hE dL_form_13
