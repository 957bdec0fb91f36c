/-! further rows over the uniform heap -/
def mt_rfo (B : mt_B) (o : Option Nat) : Value := va_rf (o.map (fun a => B.2.2.2 + a))
def mt_bo {β : Type} (o : Option Nat) (a : Option β) (g : Nat → Option β) : Option β := match o with
  | none => a
  | some k => g k
theorem mt_rei {B : mt_B} {E : mt_E} {cs : Nat × Nat} {e r : Int32} {S S' : mt_S} (h : some (e, S) = some (r, S')) (hE : mt_End B E cs (some (.int r)) S') : mt_End B E cs (some (.int e)) S := by cases h; exact hE
theorem mt_rel {B : mt_B} {E : mt_E} {cs : Nat × Nat} {e r : Int64} {S S' : mt_S} (h : some (e, S) = some (r, S')) (hE : mt_End B E cs (some (.long r)) S') : mt_End B E cs (some (.long e)) S := by cases h; exact hE
theorem mt_rer {B : mt_B} {E : mt_E} {cs : Nat × Nat} {e r : Nat} {S S' : mt_S} (h : some (e, S) = some (r, S')) (hE : mt_End B E cs (some (mt_rf B r)) S') : mt_End B E cs (some (mt_rf B e)) S := by cases h; exact hE
theorem mt_reo {B : mt_B} {E : mt_E} {cs : Nat × Nat} {e r : Option Nat} {S S' : mt_S} (h : some (e, S) = some (r, S')) (hE : mt_End B E cs (some (mt_rfo B r)) S') : mt_End B E cs (some (mt_rfo B e)) S := by cases h; exact hE
theorem mt_rev {B : mt_B} {E : mt_E} {cs : Nat × Nat} {S S' : mt_S} (h : some S = some S') (hE : mt_End B E cs none S') : mt_End B E cs none S := by cases h; exact hE
theorem mt_ofWF {l : Launch} {y : MethodName} {ws ws' : List Cond} {rm : Room} {Pc : Array Value → State → Prop} {Qc : Array Value → State → Outcome → State → Prop} {mc ms : Nat} {free : Addr → Prop} {cc : ByteArray} {maxL : Nat} {ret : Option FieldType}
    (hy : plainFor y = true) (hw : ws = Cond.code y cc maxL ret :: ws')
    (body : ∀ p e s m args below meth c s₁, BodyLoose p l y (headSpec ws rm) cc maxL ret e s m args below meth c s₁ → c.maxLocals = maxL → Pc args s →
      W p l e (headSpec ws rm).room s m args below meth c s.heap [] 0 0 (MQ below Qc args s mc ms free) (entryFrame m args maxL)) : Met l y ws rm Pc Qc mc ms free := by
  refine MetFree.of_bodySF (code := cc) (maxLocals := maxL) (ret := ret) hy ?_ ?_
  · intro args s m h hn
    obtain ⟨meth, c, h1, h2, h3, h4, h5, h6, -, -⟩ := Cond.code_spec hn (atoms_spec (ws := ws) h _ (by rw [hw]; exact List.mem_cons_self))
    exact ⟨meth, c, h1, h2, h3, h4, h5, h6⟩
  · intro p e s m args below meth c s₁ B hml hP _
    have hh0 : s₁.heap = s.heap := by rw [B.state]; rfl
    obtain ⟨t, a1, o, b1, b2, b3⟩ := body p e s m args below meth c s₁ B hml hP s₁ hh0 (Stand.of_body B)
    exact ⟨t, o, a1, b1, b2, ⟨b3.1, b3.2⟩⟩
theorem mt_M.ofF {B : mt_B} {y : MethodName} {cc : ByteArray} {nL : Nat} {ret : Option FieldType} {d : Nat} {vs : List Value} {S : mt_S} {rv : Option Value} {S' : mt_S} (hy : plainFor y = true) (hlen : (lg_sl vs).length ≤ nL)
    (body : ∀ E : mt_E, mt_Cx B E cc y.cls ret nL d 0 0 → mt_End B E (0, 0) rv S' → mt_Go B E (0, 0) S 0 (lv_args 0 vs) []) : mt_M B y cc nL ret d vs S rv S' := by
  obtain ⟨l, D, cA, b⟩ := B
  refine mt_ofWF (cc := cc) (maxL := nL) (ret := ret) hy rfl ?_
  intro p e s m args below meth c s₁ Bd hml hv
  obtain ⟨rfl, hb1, hP, hK⟩ := hv
  have hts := atoms_spec (ws := .code y cc nL ret :: mt_tb) Bd.pre
  have hown : s.vm.findClass y.cls = some m.cls := findClass_of_methodNamed Bd.named
  rw [lg_entry_eq]
  exact body (p, e, mt_R d 0 0, s, m, vs.toArray, below, meth, c, _, nL) ⟨Bd.exec, Bd.bytes, hml, rfl, hown, fun w hw => hts w (List.mem_cons_of_mem _ hw), hK, hb1, Bd.returns, Bd.notSynchronized, Nat.le_refl _, Nat.le_refl _, Nat.le_refl _, Nat.le_refl _⟩ rfl s.heap [] _ hP va_S.rf (lv_entry vs hlen)
section mtMore
variable {B : mt_B} {E : mt_E} {cs : Nat × Nat} {S : mt_S} {pc : Nat} {lv : List (Nat × Value)} {st : List Value} {cc : ByteArray} {own : String} {ret : Option FieldType} {nL d mc ms : Nat}
theorem go_sub (ks : List Nat) {lv1 : List (Nat × Value)} (hk : lv_pick lv ks = lv1) (k : mt_Go B E cs S pc lv1 st) : mt_Go B E cs S pc lv st := by
  obtain ⟨l, D, cA, b⟩ := B
  obtain ⟨p, e, R, s, m, args, below, meth, c0, Q, nL'⟩ := E
  intro H locs ls hP hS hl
  exact k H locs ls hP hS (lv_sub hl ks hk)
theorem go_aloadN_n (hC : mt_Cx B E cc own ret nL d mc ms) (j : Nat) {i : Nat} {q : Fin 4} (hd : decode cc pc = .ok (.aload_n q, 1)) (hi : (q : Nat) = i) (hj : lv[j]? = some (i, .null)) (k : mt_Go B E cs S (pc + 1) lv (.null :: st)) : mt_Go B E cs S pc lv st := by
  obtain ⟨l, D, cA, b⟩ := B
  obtain ⟨p, e, R, s, m, args, below, meth, c0, Q, nL'⟩ := E
  obtain ⟨hx, hb, hml, rfl, hown, hts, hK, hbs, hr, hlk, hrf, hrl, hrc, hrs⟩ := hC
  intro H locs ls hP hS hl
  exact lv_aload_nN hx hb hd hi (lv_at hl j hj) (k H locs ls hP hS hl)
theorem go_astoreN_n (hC : mt_Cx B E cc own ret nL d mc ms) (ks : List Nat) {i : Nat} {q : Fin 4} {lv1 : List (Nat × Value)} (hd : decode cc pc = .ok (.astore_n q, 1)) (hi : (q : Nat) = i) (hn : i < nL) (hk : lv_pick ((i, Value.null) :: lv.filter (fun q => !(q.1 == i) && !(q.1 + 1 == i && q.2.category == 2))) ks = lv1) (k : mt_Go B E cs S (pc + 1) lv1 st) : mt_Go B E cs S pc lv (.null :: st) := by
  obtain ⟨l, D, cA, b⟩ := B
  obtain ⟨p, e, R, s, m, args, below, meth, c0, Q, nL'⟩ := E
  obtain ⟨hx, hb, hml, rfl, hown, hts, hK, hbs, hr, hlk, hrf, hrl, hrc, hrs⟩ := hC
  intro H locs ls hP hS hl
  exact lv_astore_nN hx hb hd hi hl hn rfl (fun ls1 hl1 => k H locs ls1 hP hS (lv_sub hl1 ks hk))
theorem go_callVi (hC : mt_Cx B E cc own ret nL d mc ms) {y : MethodName} {bytes : ByteArray} {maxL n ci k idx d' : Nat} {ret' : Option FieldType} (As rest : List Value) {r : Int32} {S1 : mt_S} (hM : mt_M B y bytes maxL ret' d' (mt_rf B k :: As) S (some (.int r)) S1) (hq : mt_CV own idx y bytes maxL ret' n ci) (hk : mt_isK S k ci = true) (hd : decode cc pc = .ok (.invokevirtual idx, 3)) (hst : st = As.reverse ++ mt_rf B k :: rest) (hn : As.length = n) (hdd : d' + 1 ≤ d) (hw : (rest.map fun v => v.category).sum ≤ 8) (hcs : cs.1 ≤ mc ∧ cs.2 ≤ ms) (kk : mt_Go B E cs S1 (pc + 3) lv (.int r :: rest)) : mt_Go B E cs S pc lv st := go_callV hC hM hq hk hst hn hdd hw hd hcs kk
theorem go_callSi (hC : mt_Cx B E cc own ret nL d mc ms) {y : MethodName} {bytes : ByteArray} {maxL n idx d' : Nat} {ret' : Option FieldType} (As rest : List Value) {r : Int32} {S1 : mt_S} (hM : mt_M B y bytes maxL ret' d' As S (some (.int r)) S1) (hq : mt_CS own idx y bytes maxL ret' n) (hd : decode cc pc = .ok (.invokestatic idx, 3)) (hst : st = As.reverse ++ rest) (hn : As.length = n) (hdd : d' + 1 ≤ d) (hw : (rest.map fun v => v.category).sum ≤ 8) (hcs : cs.1 ≤ mc ∧ cs.2 ≤ ms) (kk : mt_Go B E cs S1 (pc + 3) lv (.int r :: rest)) : mt_Go B E cs S pc lv st := go_callS hC hM hq hst hn hdd hw hd hcs kk
theorem go_callVl (hC : mt_Cx B E cc own ret nL d mc ms) {y : MethodName} {bytes : ByteArray} {maxL n ci k idx d' : Nat} {ret' : Option FieldType} (As rest : List Value) {r : Int64} {S1 : mt_S} (hM : mt_M B y bytes maxL ret' d' (mt_rf B k :: As) S (some (.long r)) S1) (hq : mt_CV own idx y bytes maxL ret' n ci) (hk : mt_isK S k ci = true) (hd : decode cc pc = .ok (.invokevirtual idx, 3)) (hst : st = As.reverse ++ mt_rf B k :: rest) (hn : As.length = n) (hdd : d' + 1 ≤ d) (hw : (rest.map fun v => v.category).sum ≤ 8) (hcs : cs.1 ≤ mc ∧ cs.2 ≤ ms) (kk : mt_Go B E cs S1 (pc + 3) lv (.long r :: rest)) : mt_Go B E cs S pc lv st := go_callV hC hM hq hk hst hn hdd hw hd hcs kk
theorem go_callSl (hC : mt_Cx B E cc own ret nL d mc ms) {y : MethodName} {bytes : ByteArray} {maxL n idx d' : Nat} {ret' : Option FieldType} (As rest : List Value) {r : Int64} {S1 : mt_S} (hM : mt_M B y bytes maxL ret' d' As S (some (.long r)) S1) (hq : mt_CS own idx y bytes maxL ret' n) (hd : decode cc pc = .ok (.invokestatic idx, 3)) (hst : st = As.reverse ++ rest) (hn : As.length = n) (hdd : d' + 1 ≤ d) (hw : (rest.map fun v => v.category).sum ≤ 8) (hcs : cs.1 ≤ mc ∧ cs.2 ≤ ms) (kk : mt_Go B E cs S1 (pc + 3) lv (.long r :: rest)) : mt_Go B E cs S pc lv st := go_callS hC hM hq hst hn hdd hw hd hcs kk
theorem go_callVr (hC : mt_Cx B E cc own ret nL d mc ms) {y : MethodName} {bytes : ByteArray} {maxL n ci k idx d' : Nat} {ret' : Option FieldType} (As rest : List Value) {r : Nat} {S1 : mt_S} (hM : mt_M B y bytes maxL ret' d' (mt_rf B k :: As) S (some (mt_rf B r)) S1) (hq : mt_CV own idx y bytes maxL ret' n ci) (hk : mt_isK S k ci = true) (hd : decode cc pc = .ok (.invokevirtual idx, 3)) (hst : st = As.reverse ++ mt_rf B k :: rest) (hn : As.length = n) (hdd : d' + 1 ≤ d) (hw : (rest.map fun v => v.category).sum ≤ 8) (hcs : cs.1 ≤ mc ∧ cs.2 ≤ ms) (kk : mt_Go B E cs S1 (pc + 3) lv (mt_rf B r :: rest)) : mt_Go B E cs S pc lv st := go_callV hC hM hq hk hst hn hdd hw hd hcs kk
theorem go_callVv (hC : mt_Cx B E cc own ret nL d mc ms) {y : MethodName} {bytes : ByteArray} {maxL n ci k idx d' : Nat} {ret' : Option FieldType} (As rest : List Value) {S1 : mt_S} (hM : mt_M B y bytes maxL ret' d' (mt_rf B k :: As) S none S1) (hq : mt_CV own idx y bytes maxL ret' n ci) (hk : mt_isK S k ci = true) (hd : decode cc pc = .ok (.invokevirtual idx, 3)) (hst : st = As.reverse ++ mt_rf B k :: rest) (hn : As.length = n) (hdd : d' + 1 ≤ d) (hw : (rest.map fun v => v.category).sum ≤ 8) (hcs : cs.1 ≤ mc ∧ cs.2 ≤ ms) (kk : mt_Go B E cs S1 (pc + 3) lv (rest)) : mt_Go B E cs S pc lv st := go_callV hC hM hq hk hst hn hdd hw hd hcs kk
theorem go_callSv (hC : mt_Cx B E cc own ret nL d mc ms) {y : MethodName} {bytes : ByteArray} {maxL n idx d' : Nat} {ret' : Option FieldType} (As rest : List Value) {S1 : mt_S} (hM : mt_M B y bytes maxL ret' d' As S none S1) (hq : mt_CS own idx y bytes maxL ret' n) (hd : decode cc pc = .ok (.invokestatic idx, 3)) (hst : st = As.reverse ++ rest) (hn : As.length = n) (hdd : d' + 1 ≤ d) (hw : (rest.map fun v => v.category).sum ≤ 8) (hcs : cs.1 ≤ mc ∧ cs.2 ≤ ms) (kk : mt_Go B E cs S1 (pc + 3) lv (rest)) : mt_Go B E cs S pc lv st := go_callS hC hM hq hst hn hdd hw hd hcs kk
theorem go_callVn (hC : mt_Cx B E cc own ret nL d mc ms) {y : MethodName} {bytes : ByteArray} {maxL n ci k idx d' : Nat} {ret' : Option FieldType} (As rest : List Value) {S1 : mt_S} (hM : mt_M B y bytes maxL ret' d' (mt_rf B k :: As) S (some (mt_rfo B none)) S1) (hq : mt_CV own idx y bytes maxL ret' n ci) (hk : mt_isK S k ci = true) (hd : decode cc pc = .ok (.invokevirtual idx, 3)) (hst : st = As.reverse ++ mt_rf B k :: rest) (hn : As.length = n) (hdd : d' + 1 ≤ d) (hw : (rest.map fun v => v.category).sum ≤ 8) (hcs : cs.1 ≤ mc ∧ cs.2 ≤ ms) (kk : mt_Go B E cs S1 (pc + 3) lv (.null :: rest)) : mt_Go B E cs S pc lv st := go_callV hC hM hq hk hst hn hdd hw hd hcs kk
theorem go_callVo (hC : mt_Cx B E cc own ret nL d mc ms) {y : MethodName} {bytes : ByteArray} {maxL n ci k idx d' : Nat} {ret' : Option FieldType} (As rest : List Value) {r : Nat} {S1 : mt_S} (hM : mt_M B y bytes maxL ret' d' (mt_rf B k :: As) S (some (mt_rfo B (some r))) S1) (hq : mt_CV own idx y bytes maxL ret' n ci) (hk : mt_isK S k ci = true) (hd : decode cc pc = .ok (.invokevirtual idx, 3)) (hst : st = As.reverse ++ mt_rf B k :: rest) (hn : As.length = n) (hdd : d' + 1 ≤ d) (hw : (rest.map fun v => v.category).sum ≤ 8) (hcs : cs.1 ≤ mc ∧ cs.2 ≤ ms) (kk : mt_Go B E cs S1 (pc + 3) lv (mt_rf B r :: rest)) : mt_Go B E cs S pc lv st := go_callV hC hM hq hk hst hn hdd hw hd hcs kk
end mtMore
theorem mt_f2m : Cond.native ⟨"java/lang/Float", "floatToRawIntBits", "(F)I"⟩ ∈ mt_tb := mt_mem (i := 1337) (by decide +kernel) rfl
theorem mt_f2s : Cond.static ⟨"java/lang/Float", "floatToRawIntBits", "(F)I"⟩ ∈ mt_tb := mt_mem (i := 1336) (by decide +kernel) rfl
theorem mt_f2i : Cond.initialized "java/lang/Float" ∈ mt_tb := mt_mem (i := 82) (by decide +kernel) rfl
theorem mt_f2l : Cond.methodLink RJxf58ca 74 ⟨"java/lang/Float", "floatToRawIntBits", "(F)I"⟩ ∈ mt_tb := mt_mem (i := 1335) (by decide +kernel) rfl
