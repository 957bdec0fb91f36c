/-! the rows over the uniform heap -/
/-- the tables' words that stand when the tables warm -/
def mt_tb : List Cond := lw_tbl.filter goodWord
abbrev mt_B : Type := Launch × va_G × (Nat → ClassId) × Nat
abbrev mt_E : Type := Program × Env × Room × State × MethodId × Array Value × List Frame × Method × Code × (State → Prop) × Nat
def mt_R (d mc ms : Nat) : Room := { frames := d, cells := mc, slots := ms, locals := 64 * d }
abbrev mt_rf (B : mt_B) (k : Nat) : Value := .ref (B.2.2.2 + k)
def mt_Go (B : mt_B) (E : mt_E) (cs : Nat × Nat) (S : mt_S) (pc : Nat) (lv : List (Nat × Value)) (st : List Value) : Prop := match B, E with
  | (l, D, cA, b), (p, e, R, s, m, args, below, meth, c, Q, nL) => ∀ (H : Heap) (locs : List Loc) (ls : Array Slot), va_P D vwCl (mt_W cA b S) H → va_S (fun q => b ≤ q) s.heap H locs → lv_has ls nL lv → W p l e R s m args below meth c H locs cs.1 cs.2 Q (F0 m pc ls st)
/-- what holds throughout a method: the machine, its code, its class, the tables' words, the kinds, the base, its answer's type, its room -/
def mt_Cx (B : mt_B) (E : mt_E) (cc : ByteArray) (own : String) (ret : Option FieldType) (nL d mc ms : Nat) : Prop := match B, E with
  | (_, D, cA, b), (p, _, R, s, m, args, _, meth, c, _, nL') => p.tables.exec = Jvm.exec ∧ c.code = cc ∧ c.maxLocals = nL ∧ nL' = nL ∧ s.vm.findClass own = some m.cls ∧ (∀ w ∈ mt_tb, w.before args s = true) ∧ va_K D vwCl (mt_ty cA) s ∧ b ≤ s.heap.size ∧ meth.sig.returnType = ret ∧ meth.locks = false ∧ d ≤ R.frames ∧ 64 * d ≤ R.locals ∧ mc ≤ R.cells ∧ ms ≤ R.slots
def mt_nm (E : mt_E) (n : String) : Prop := match E with
  | (_, _, _, _, _, _, _, meth, _, _, _) => meth.name = n
/-- at the entry all cells behind the base are the world's -/
def mt_X (B : mt_B) (E : mt_E) (n0 : Nat) : Prop := match B, E with
  | (_, _, _, b), (_, _, _, s, _, _, _, _, _, _, _) => s.heap.size = b + n0
def mt_Bd (B : mt_B) (S : mt_S) (U : State) : Prop := match B with
  | (_, D, cA, b) => b ≤ U.heap.size ∧ va_P D vwCl (mt_W cA b S) U.heap ∧ va_K D vwCl (mt_ty cA) U
def mt_Q (B : mt_B) (rv : Option Value) (S : mt_S) : Array Value → State → Outcome → State → Prop := fun _ st o t => match B with
  | (_, D, cA, b) => o = .returned rv ∧ va_P D vwCl (mt_W cA b S) t.heap ∧ va_F (fun q => b ≤ q) st t
def mt_End (B : mt_B) (E : mt_E) (cs : Nat × Nat) (rv : Option Value) (S : mt_S) : Prop := match E with
  | (_, _, _, s, _, args, below, _, _, Q, _) => Q = MQ below (mt_Q B rv S) args s cs.1 cs.2 (fun q => B.2.2.2 ≤ q)
/-- a contract: from the heap S with arguments vs it answers rv and leaves S' -/
def mt_M (B : mt_B) (y : MethodName) (cc : ByteArray) (nL : Nat) (ret : Option FieldType) (d : Nat) (vs : List Value) (S : mt_S) (rv : Option Value) (S' : mt_S) : Prop :=
  Met B.1 y (.code y cc nL ret :: mt_tb) (mt_R d 0 0) (va_Pc vs (mt_Bd B S)) (mt_Q B rv S') 0 0 (fun q => B.2.2.2 ≤ q)
def mt_BdA (B : mt_B) (S : mt_S) (U : State) : Prop := mt_Bd B S U ∧ U.heap.size = B.2.2.2 + S.1
/-- a contract of one that makes cells -/
def mt_MA (B : mt_B) (y : MethodName) (cc : ByteArray) (nL : Nat) (ret : Option FieldType) (d mc ms : Nat) (vs : List Value) (S : mt_S) (rv : Option Value) (S' : mt_S) : Prop :=
  Met B.1 y (.code y cc nL ret :: mt_tb) (mt_R d mc ms) (va_Pc vs (mt_BdA B S)) (mt_Q B rv S') mc ms (fun q => B.2.2.2 ≤ q)
theorem mt_good : mt_tb.all goodWord = true := List.all_eq_true.mpr (fun w h => (List.mem_filter.mp h).2)
theorem mt_mem {w : Cond} {i : Nat} (h : lw_tbl[i]? = some w) (hg : goodWord w = true) : w ∈ mt_tb := List.mem_filter.mpr ⟨List.mem_of_getElem? h, hg⟩
theorem mt_mems {ws : List Cond} (h : ∀ w ∈ ws, w ∈ lw_tbl) (hg : ws.all goodWord = true) : ∀ w ∈ ws, w ∈ mt_tb := fun w hw => List.mem_filter.mpr ⟨h w hw, List.all_eq_true.mp hg w hw⟩
theorem mt_goodIn {c : Cond} (hc : c ∈ mt_tb) : GoodIn mt_tb (c :: mt_tb) := fun w hw => by
  have hm : w ∈ mt_tb := (List.mem_cons.mp hw).elim (fun e => e ▸ hc) id
  exact ⟨hm, good_of_word (List.all_eq_true.mp mt_good w hm)⟩
theorem mt_Bd_blind {B : mt_B} {vs : List Value} {S : mt_S} : FrameBlind (va_Pc vs (mt_Bd B S)) := by
  obtain ⟨l, D, cA, b⟩ := B
  intro a U g mk q
  obtain ⟨q0, q1, qP, qK⟩ := q
  exact ⟨q0, q1, qP, va_K.moved (u := U) (U := U.calling g mk a) (Vm.Alike.refl U.vm) qK⟩
theorem mt_BdA_blind {B : mt_B} {vs : List Value} {S : mt_S} : FrameBlind (va_Pc vs (mt_BdA B S)) := by
  obtain ⟨l, D, cA, b⟩ := B
  intro a U g mk q
  obtain ⟨q0, ⟨q1, qP, qK⟩, qz⟩ := q
  exact ⟨q0, ⟨q1, qP, va_K.moved (u := U) (U := U.calling g mk a) (Vm.Alike.refl U.vm) qK⟩, qz⟩
theorem mt_M.of {B : mt_B} {y : MethodName} {cc : ByteArray} {nL : Nat} {ret : Option FieldType} {d : Nat} {vs : List Value} {S : mt_S} {rv : Option Value} {S' : mt_S} (hy : plainName y.cls = true) (hlen : (lg_sl vs).length ≤ nL)
    (body : ∀ E : mt_E, mt_Cx B E cc y.cls ret nL d 0 0 → mt_End B E (0, 0) rv S' → mt_Go B E (0, 0) S 0 (lv_args 0 vs) []) : mt_M B y cc nL ret d vs S rv S' := by
  obtain ⟨l, D, cA, b⟩ := B
  refine Met.ofW (cc := cc) (maxL := nL) (ret := ret) hy rfl ?_
  intro p e s m args below meth c s₁ Bd hml hv
  obtain ⟨rfl, hb1, hP, hK⟩ := hv
  have hts := atoms_spec (ws := .code y cc nL ret :: mt_tb) Bd.pre
  have hown : s.vm.findClass y.cls = some m.cls := findClass_of_methodNamed Bd.named
  rw [lg_entry_eq]
  exact body (p, e, mt_R d 0 0, s, m, vs.toArray, below, meth, c, _, nL) ⟨Bd.exec, Bd.bytes, hml, rfl, hown, fun w hw => hts w (List.mem_cons_of_mem _ hw), hK, hb1, Bd.returns, Bd.notSynchronized, Nat.le_refl _, Nat.le_refl _, Nat.le_refl _, Nat.le_refl _⟩ rfl s.heap [] _ hP va_S.rf (lv_entry vs hlen)
theorem mt_MA.of {B : mt_B} {y : MethodName} {cc : ByteArray} {nL : Nat} {ret : Option FieldType} {d mc ms : Nat} {vs : List Value} {S : mt_S} {rv : Option Value} {S' : mt_S} (hy : plainName y.cls = true) (hlen : (lg_sl vs).length ≤ nL)
    (body : ∀ E : mt_E, mt_Cx B E cc y.cls ret nL d mc ms → mt_nm E y.name → mt_X B E S.1 → mt_End B E (mc, ms) rv S' → mt_Go B E (0, 0) S 0 (lv_args 0 vs) []) : mt_MA B y cc nL ret d mc ms vs S rv S' := by
  obtain ⟨l, D, cA, b⟩ := B
  refine Met.ofW (cc := cc) (maxL := nL) (ret := ret) hy rfl ?_
  intro p e s m args below meth c s₁ Bd hml hv
  obtain ⟨rfl, ⟨hb1, hP, hK⟩, hz⟩ := hv
  have hts := atoms_spec (ws := .code y cc nL ret :: mt_tb) Bd.pre
  have hown : s.vm.findClass y.cls = some m.cls := findClass_of_methodNamed Bd.named
  rw [lg_entry_eq]
  exact body (p, e, mt_R d mc ms, s, m, vs.toArray, below, meth, c, _, nL) ⟨Bd.exec, Bd.bytes, hml, rfl, hown, fun w hw => hts w (List.mem_cons_of_mem _ hw), hK, hb1, Bd.returns, Bd.notSynchronized, Nat.le_refl _, Nat.le_refl _, Nat.le_refl _, Nat.le_refl _⟩ (name_of_methodNamed Bd.named Bd.method).1 hz rfl s.heap [] _ hP va_S.rf (lv_entry vs hlen)
section mtGo
variable {B : mt_B} {E : mt_E} {cs : Nat × Nat} {S : mt_S} {pc : Nat} {lv : List (Nat × Value)} {st : List Value} {cc : ByteArray} {own : String} {ret : Option FieldType} {nL d mc ms : Nat}
theorem go_iconst (hC : mt_Cx B E cc own ret nL d mc ms) {n : Int} {v : Int32} (hd : decode cc pc = .ok (.iconst n, 1)) (hv : Int32.ofInt n = v) (k : mt_Go B E cs S (pc + 1) lv (.int v :: st)) : mt_Go B E cs S pc lv (st) := by
  obtain ⟨l, D, cA, b⟩ := B
  obtain ⟨p, e, R, s, m, args, below, meth, c0, Q, nL'⟩ := E
  obtain ⟨hx, hb, hml, rfl, hown, hts, hK, hbs, hr, hlk, hrf, hrl, hrc, hrs⟩ := hC
  intro H locs ls hP hS hl
  exact lv_iconst hx hb hd hv (k H locs ls hP hS hl)
theorem go_bipush (hC : mt_Cx B E cc own ret nL d mc ms) {n : Int} {v : Int32} (hd : decode cc pc = .ok (.bipush n, 2)) (hv : (Int8.ofInt n).toInt32 = v) (k : mt_Go B E cs S (pc + 2) lv (.int v :: st)) : mt_Go B E cs S pc lv (st) := by
  obtain ⟨l, D, cA, b⟩ := B
  obtain ⟨p, e, R, s, m, args, below, meth, c0, Q, nL'⟩ := E
  obtain ⟨hx, hb, hml, rfl, hown, hts, hK, hbs, hr, hlk, hrf, hrl, hrc, hrs⟩ := hC
  intro H locs ls hP hS hl
  exact lv_bipush hx hb hd hv (k H locs ls hP hS hl)
theorem go_sipush (hC : mt_Cx B E cc own ret nL d mc ms) {n : Int} {v : Int32} (hd : decode cc pc = .ok (.sipush n, 3)) (hv : (Int16.ofInt n).toInt32 = v) (k : mt_Go B E cs S (pc + 3) lv (.int v :: st)) : mt_Go B E cs S pc lv (st) := by
  obtain ⟨l, D, cA, b⟩ := B
  obtain ⟨p, e, R, s, m, args, below, meth, c0, Q, nL'⟩ := E
  obtain ⟨hx, hb, hml, rfl, hown, hts, hK, hbs, hr, hlk, hrf, hrl, hrc, hrs⟩ := hC
  intro H locs ls hP hS hl
  exact lv_sipush hx hb hd hv (k H locs ls hP hS hl)
theorem go_lconst (hC : mt_Cx B E cc own ret nL d mc ms) {n : Fin 2} {v : Int64} (hd : decode cc pc = .ok (.lconst n, 1)) (hv : Int64.ofNat (n : Nat) = v) (k : mt_Go B E cs S (pc + 1) lv (.long v :: st)) : mt_Go B E cs S pc lv (st) := by
  obtain ⟨l, D, cA, b⟩ := B
  obtain ⟨p, e, R, s, m, args, below, meth, c0, Q, nL'⟩ := E
  obtain ⟨hx, hb, hml, rfl, hown, hts, hK, hbs, hr, hlk, hrf, hrl, hrc, hrs⟩ := hC
  intro H locs ls hP hS hl
  exact lv_lconst hx hb hd hv (k H locs ls hP hS hl)
theorem go_null (hC : mt_Cx B E cc own ret nL d mc ms)  (hd : decode cc pc = .ok (.aconst_null, 1)) (k : mt_Go B E cs S (pc + 1) lv (.null :: st)) : mt_Go B E cs S pc lv (st) := by
  obtain ⟨l, D, cA, b⟩ := B
  obtain ⟨p, e, R, s, m, args, below, meth, c0, Q, nL'⟩ := E
  obtain ⟨hx, hb, hml, rfl, hown, hts, hK, hbs, hr, hlk, hrf, hrl, hrc, hrs⟩ := hC
  intro H locs ls hP hS hl
  exact lv_null hx hb hd (k H locs ls hP hS hl)
theorem go_ldc (hC : mt_Cx B E cc own ret nL d mc ms) {index : Nat} {v : Int32} (hd : decode cc pc = .ok (.ldc index, 2)) (hq : Cond.constant own index v ∈ mt_tb) (k : mt_Go B E cs S (pc + 2) lv (.int v :: st)) : mt_Go B E cs S pc lv (st) := by
  obtain ⟨l, D, cA, b⟩ := B
  obtain ⟨p, e, R, s, m, args, below, meth, c0, Q, nL'⟩ := E
  obtain ⟨hx, hb, hml, rfl, hown, hts, hK, hbs, hr, hlk, hrf, hrl, hrc, hrs⟩ := hC
  intro H locs ls hP hS hl
  exact lv_ldc hx hb hown (hts _ hq) hd (k H locs ls hP hS hl)
theorem go_ldcw (hC : mt_Cx B E cc own ret nL d mc ms) {index : Nat} {v : Int32} (hd : decode cc pc = .ok (.ldc_w index, 3)) (hq : Cond.constant own index v ∈ mt_tb) (k : mt_Go B E cs S (pc + 3) lv (.int v :: st)) : mt_Go B E cs S pc lv (st) := by
  obtain ⟨l, D, cA, b⟩ := B
  obtain ⟨p, e, R, s, m, args, below, meth, c0, Q, nL'⟩ := E
  obtain ⟨hx, hb, hml, rfl, hown, hts, hK, hbs, hr, hlk, hrf, hrl, hrc, hrs⟩ := hC
  intro H locs ls hP hS hl
  exact lv_ldcw hx hb hown (hts _ hq) hd (k H locs ls hP hS hl)
theorem go_ldcf (hC : mt_Cx B E cc own ret nL d mc ms) {index : Nat} {v : UInt32} (hd : decode cc pc = .ok (.ldc index, 2)) (hq : Cond.constantFloat own index v ∈ mt_tb) (k : mt_Go B E cs S (pc + 2) lv (.float v :: st)) : mt_Go B E cs S pc lv (st) := by
  obtain ⟨l, D, cA, b⟩ := B
  obtain ⟨p, e, R, s, m, args, below, meth, c0, Q, nL'⟩ := E
  obtain ⟨hx, hb, hml, rfl, hown, hts, hK, hbs, hr, hlk, hrf, hrl, hrc, hrs⟩ := hC
  intro H locs ls hP hS hl
  exact lv_ldcf hx hb hown (hts _ hq) hd (k H locs ls hP hS hl)
theorem go_ldc2 (hC : mt_Cx B E cc own ret nL d mc ms) {index : Nat} {v : Int64} (hd : decode cc pc = .ok (.ldc2_w index, 3)) (hq : Cond.constantLong own index v ∈ mt_tb) (k : mt_Go B E cs S (pc + 3) lv (.long v :: st)) : mt_Go B E cs S pc lv (st) := by
  obtain ⟨l, D, cA, b⟩ := B
  obtain ⟨p, e, R, s, m, args, below, meth, c0, Q, nL'⟩ := E
  obtain ⟨hx, hb, hml, rfl, hown, hts, hK, hbs, hr, hlk, hrf, hrl, hrc, hrs⟩ := hC
  intro H locs ls hP hS hl
  exact lv_ldc2 hx hb hown (hts _ hq) hd (k H locs ls hP hS hl)
theorem go_ldcwf (hC : mt_Cx B E cc own ret nL d mc ms) {index : Nat} {v : UInt32} (hd : decode cc pc = .ok (.ldc_w index, 3)) (hq : Cond.constantFloat own index v ∈ mt_tb) (k : mt_Go B E cs S (pc + 3) lv (.float v :: st)) : mt_Go B E cs S pc lv st := by
  obtain ⟨l, D, cA, b⟩ := B
  obtain ⟨p, e, R, s, m, args, below, meth, c0, Q, nL'⟩ := E
  obtain ⟨hx, hb, hml, rfl, hown, hts, hK, hbs, hr, hlk, hrf, hrl, hrc, hrs⟩ := hC
  intro H locs ls hP hS hl
  intro T hT X
  obtain ⟨t, a1, b1⟩ := k H locs ls hP hS hl T hT X
  refine ⟨t, ?_, b1⟩
  obtain ⟨kk, cf, hk, hcf, hcp⟩ := Cond.constantFloat_spec hown (hts _ hq)
  obtain ⟨k', hk', he⟩ := X.warmed.alike.2.2 _ _ hk
  jvm_step X.here [hx, hb, hd, Op.ldc_w.wp_float (s := T) (f := F0 m pc ls st) X.here.top hk' (by rw [he]; exact hcf) hcp]
  exact a1
theorem go_iload_n (hC : mt_Cx B E cc own ret nL d mc ms) (j : Nat) {i : Nat} {q : Fin 4} {x : Int32} (hd : decode cc pc = .ok (.iload_n q, 1)) (hi : (q : Nat) = i) (hj : lv[j]? = some (i, .int x)) (k : mt_Go B E cs S (pc + 1) lv (.int x :: st)) : mt_Go B E cs S pc lv (st) := by
  obtain ⟨l, D, cA, b⟩ := B
  obtain ⟨p, e, R, s, m, args, below, meth, c0, Q, nL'⟩ := E
  obtain ⟨hx, hb, hml, rfl, hown, hts, hK, hbs, hr, hlk, hrf, hrl, hrc, hrs⟩ := hC
  intro H locs ls hP hS hl
  exact lv_iload_n hx hb hd hi (lv_at hl j hj) (k H locs ls hP hS hl)
theorem go_iload (hC : mt_Cx B E cc own ret nL d mc ms) (j : Nat) {i : Nat} {x : Int32} (hd : decode cc pc = .ok (.iload i, 2)) (hj : lv[j]? = some (i, .int x)) (k : mt_Go B E cs S (pc + 2) lv (.int x :: st)) : mt_Go B E cs S pc lv (st) := by
  obtain ⟨l, D, cA, b⟩ := B
  obtain ⟨p, e, R, s, m, args, below, meth, c0, Q, nL'⟩ := E
  obtain ⟨hx, hb, hml, rfl, hown, hts, hK, hbs, hr, hlk, hrf, hrl, hrc, hrs⟩ := hC
  intro H locs ls hP hS hl
  exact lv_iload hx hb hd (lv_at hl j hj) (k H locs ls hP hS hl)
theorem go_lload_n (hC : mt_Cx B E cc own ret nL d mc ms) (j : Nat) {i : Nat} {q : Fin 4} {x : Int64} (hd : decode cc pc = .ok (.lload_n q, 1)) (hi : (q : Nat) = i) (hj : lv[j]? = some (i, .long x)) (k : mt_Go B E cs S (pc + 1) lv (.long x :: st)) : mt_Go B E cs S pc lv (st) := by
  obtain ⟨l, D, cA, b⟩ := B
  obtain ⟨p, e, R, s, m, args, below, meth, c0, Q, nL'⟩ := E
  obtain ⟨hx, hb, hml, rfl, hown, hts, hK, hbs, hr, hlk, hrf, hrl, hrc, hrs⟩ := hC
  intro H locs ls hP hS hl
  exact lv_lload_n hx hb hd hi (lv_at hl j hj) (k H locs ls hP hS hl)
theorem go_lload (hC : mt_Cx B E cc own ret nL d mc ms) (j : Nat) {i : Nat} {x : Int64} (hd : decode cc pc = .ok (.lload i, 2)) (hj : lv[j]? = some (i, .long x)) (k : mt_Go B E cs S (pc + 2) lv (.long x :: st)) : mt_Go B E cs S pc lv (st) := by
  obtain ⟨l, D, cA, b⟩ := B
  obtain ⟨p, e, R, s, m, args, below, meth, c0, Q, nL'⟩ := E
  obtain ⟨hx, hb, hml, rfl, hown, hts, hK, hbs, hr, hlk, hrf, hrl, hrc, hrs⟩ := hC
  intro H locs ls hP hS hl
  exact lv_lload hx hb hd (lv_at hl j hj) (k H locs ls hP hS hl)
theorem go_aload_n (hC : mt_Cx B E cc own ret nL d mc ms) (j : Nat) {i : Nat} {q : Fin 4} {x : Nat} (hd : decode cc pc = .ok (.aload_n q, 1)) (hi : (q : Nat) = i) (hj : lv[j]? = some (i, .ref x)) (k : mt_Go B E cs S (pc + 1) lv (.ref x :: st)) : mt_Go B E cs S pc lv (st) := by
  obtain ⟨l, D, cA, b⟩ := B
  obtain ⟨p, e, R, s, m, args, below, meth, c0, Q, nL'⟩ := E
  obtain ⟨hx, hb, hml, rfl, hown, hts, hK, hbs, hr, hlk, hrf, hrl, hrc, hrs⟩ := hC
  intro H locs ls hP hS hl
  exact lv_aload_n hx hb hd hi (lv_at hl j hj) (k H locs ls hP hS hl)
theorem go_aload (hC : mt_Cx B E cc own ret nL d mc ms) (j : Nat) {i : Nat} {x : Nat} (hd : decode cc pc = .ok (.aload i, 2)) (hj : lv[j]? = some (i, .ref x)) (k : mt_Go B E cs S (pc + 2) lv (.ref x :: st)) : mt_Go B E cs S pc lv (st) := by
  obtain ⟨l, D, cA, b⟩ := B
  obtain ⟨p, e, R, s, m, args, below, meth, c0, Q, nL'⟩ := E
  obtain ⟨hx, hb, hml, rfl, hown, hts, hK, hbs, hr, hlk, hrf, hrl, hrc, hrs⟩ := hC
  intro H locs ls hP hS hl
  exact lv_aload hx hb hd (lv_at hl j hj) (k H locs ls hP hS hl)
theorem go_fload_n (hC : mt_Cx B E cc own ret nL d mc ms) (j : Nat) {i : Nat} {q : Fin 4} {x : UInt32} (hd : decode cc pc = .ok (.fload_n q, 1)) (hi : (q : Nat) = i) (hj : lv[j]? = some (i, .float x)) (k : mt_Go B E cs S (pc + 1) lv (.float x :: st)) : mt_Go B E cs S pc lv (st) := by
  obtain ⟨l, D, cA, b⟩ := B
  obtain ⟨p, e, R, s, m, args, below, meth, c0, Q, nL'⟩ := E
  obtain ⟨hx, hb, hml, rfl, hown, hts, hK, hbs, hr, hlk, hrf, hrl, hrc, hrs⟩ := hC
  intro H locs ls hP hS hl
  exact lv_fload_n hx hb hd hi (lv_at hl j hj) (k H locs ls hP hS hl)
theorem go_istore_n (hC : mt_Cx B E cc own ret nL d mc ms) (ks : List Nat) {i : Nat} {q : Fin 4} {x : Int32} {lv1 : List (Nat × Value)} (hd : decode cc pc = .ok (.istore_n q, 1)) (hi : (q : Nat) = i) (hn : i < nL) (hk : lv_pick ((i, Value.int x) :: lv.filter (fun q => !(q.1 == i) && !(q.1 + 1 == i && q.2.category == 2))) ks = lv1) (k : mt_Go B E cs S (pc + 1) lv1 st) : mt_Go B E cs S pc lv (Value.int x :: st) := by
  obtain ⟨l, D, cA, b⟩ := B
  obtain ⟨p, e, R, s, m, args, below, meth, c0, Q, nL'⟩ := E
  obtain ⟨hx, hb, hml, rfl, hown, hts, hK, hbs, hr, hlk, hrf, hrl, hrc, hrs⟩ := hC
  intro H locs ls hP hS hl
  exact lv_istore_n hx hb hd hi hl hn rfl (fun ls1 hl1 => k H locs ls1 hP hS (lv_sub hl1 ks hk))
theorem go_istore (hC : mt_Cx B E cc own ret nL d mc ms) (ks : List Nat) {i : Nat} {x : Int32} {lv1 : List (Nat × Value)} (hd : decode cc pc = .ok (.istore i, 2)) (hn : i < nL) (hk : lv_pick ((i, Value.int x) :: lv.filter (fun q => !(q.1 == i) && !(q.1 + 1 == i && q.2.category == 2))) ks = lv1) (k : mt_Go B E cs S (pc + 2) lv1 st) : mt_Go B E cs S pc lv (Value.int x :: st) := by
  obtain ⟨l, D, cA, b⟩ := B
  obtain ⟨p, e, R, s, m, args, below, meth, c0, Q, nL'⟩ := E
  obtain ⟨hx, hb, hml, rfl, hown, hts, hK, hbs, hr, hlk, hrf, hrl, hrc, hrs⟩ := hC
  intro H locs ls hP hS hl
  exact lv_istore hx hb hd hl hn rfl (fun ls1 hl1 => k H locs ls1 hP hS (lv_sub hl1 ks hk))
theorem go_lstore_n (hC : mt_Cx B E cc own ret nL d mc ms) (ks : List Nat) {i : Nat} {q : Fin 4} {x : Int64} {lv1 : List (Nat × Value)} (hd : decode cc pc = .ok (.lstore_n q, 1)) (hi : (q : Nat) = i) (hn : i + 1 < nL) (hk : lv_pick ((i, Value.long x) :: lv.filter (fun q => !(q.1 == i) && (!(q.1 == i + 1) && !(q.1 + 1 == i && q.2.category == 2)))) ks = lv1) (k : mt_Go B E cs S (pc + 1) lv1 st) : mt_Go B E cs S pc lv (Value.long x :: st) := by
  obtain ⟨l, D, cA, b⟩ := B
  obtain ⟨p, e, R, s, m, args, below, meth, c0, Q, nL'⟩ := E
  obtain ⟨hx, hb, hml, rfl, hown, hts, hK, hbs, hr, hlk, hrf, hrl, hrc, hrs⟩ := hC
  intro H locs ls hP hS hl
  exact lv_lstore_n hx hb hd hi hl hn rfl (fun ls1 hl1 => k H locs ls1 hP hS (lv_sub hl1 ks hk))
theorem go_lstore (hC : mt_Cx B E cc own ret nL d mc ms) (ks : List Nat) {i : Nat} {x : Int64} {lv1 : List (Nat × Value)} (hd : decode cc pc = .ok (.lstore i, 2)) (hn : i + 1 < nL) (hk : lv_pick ((i, Value.long x) :: lv.filter (fun q => !(q.1 == i) && (!(q.1 == i + 1) && !(q.1 + 1 == i && q.2.category == 2)))) ks = lv1) (k : mt_Go B E cs S (pc + 2) lv1 st) : mt_Go B E cs S pc lv (Value.long x :: st) := by
  obtain ⟨l, D, cA, b⟩ := B
  obtain ⟨p, e, R, s, m, args, below, meth, c0, Q, nL'⟩ := E
  obtain ⟨hx, hb, hml, rfl, hown, hts, hK, hbs, hr, hlk, hrf, hrl, hrc, hrs⟩ := hC
  intro H locs ls hP hS hl
  exact lv_lstore hx hb hd hl hn rfl (fun ls1 hl1 => k H locs ls1 hP hS (lv_sub hl1 ks hk))
theorem go_astore_n (hC : mt_Cx B E cc own ret nL d mc ms) (ks : List Nat) {i : Nat} {q : Fin 4} {x : Nat} {lv1 : List (Nat × Value)} (hd : decode cc pc = .ok (.astore_n q, 1)) (hi : (q : Nat) = i) (hn : i < nL) (hk : lv_pick ((i, Value.ref x) :: lv.filter (fun q => !(q.1 == i) && !(q.1 + 1 == i && q.2.category == 2))) ks = lv1) (k : mt_Go B E cs S (pc + 1) lv1 st) : mt_Go B E cs S pc lv (Value.ref x :: st) := by
  obtain ⟨l, D, cA, b⟩ := B
  obtain ⟨p, e, R, s, m, args, below, meth, c0, Q, nL'⟩ := E
  obtain ⟨hx, hb, hml, rfl, hown, hts, hK, hbs, hr, hlk, hrf, hrl, hrc, hrs⟩ := hC
  intro H locs ls hP hS hl
  exact lv_astore_n hx hb hd hi hl hn rfl (fun ls1 hl1 => k H locs ls1 hP hS (lv_sub hl1 ks hk))
theorem go_astore (hC : mt_Cx B E cc own ret nL d mc ms) (ks : List Nat) {i : Nat} {x : Nat} {lv1 : List (Nat × Value)} (hd : decode cc pc = .ok (.astore i, 2)) (hn : i < nL) (hk : lv_pick ((i, Value.ref x) :: lv.filter (fun q => !(q.1 == i) && !(q.1 + 1 == i && q.2.category == 2))) ks = lv1) (k : mt_Go B E cs S (pc + 2) lv1 st) : mt_Go B E cs S pc lv (Value.ref x :: st) := by
  obtain ⟨l, D, cA, b⟩ := B
  obtain ⟨p, e, R, s, m, args, below, meth, c0, Q, nL'⟩ := E
  obtain ⟨hx, hb, hml, rfl, hown, hts, hK, hbs, hr, hlk, hrf, hrl, hrc, hrs⟩ := hC
  intro H locs ls hP hS hl
  exact lv_astore hx hb hd hl hn rfl (fun ls1 hl1 => k H locs ls1 hP hS (lv_sub hl1 ks hk))
theorem go_fstore_n (hC : mt_Cx B E cc own ret nL d mc ms) (ks : List Nat) {i : Nat} {q : Fin 4} {x : UInt32} {lv1 : List (Nat × Value)} (hd : decode cc pc = .ok (.fstore_n q, 1)) (hi : (q : Nat) = i) (hn : i < nL) (hk : lv_pick ((i, Value.float x) :: lv.filter (fun q => !(q.1 == i) && !(q.1 + 1 == i && q.2.category == 2))) ks = lv1) (k : mt_Go B E cs S (pc + 1) lv1 st) : mt_Go B E cs S pc lv (Value.float x :: st) := by
  obtain ⟨l, D, cA, b⟩ := B
  obtain ⟨p, e, R, s, m, args, below, meth, c0, Q, nL'⟩ := E
  obtain ⟨hx, hb, hml, rfl, hown, hts, hK, hbs, hr, hlk, hrf, hrl, hrc, hrs⟩ := hC
  intro H locs ls hP hS hl
  exact lv_fstore_n hx hb hd hi hl hn rfl (fun ls1 hl1 => k H locs ls1 hP hS (lv_sub hl1 ks hk))
theorem go_iinc (hC : mt_Cx B E cc own ret nL d mc ms) (j : Nat) (ks : List Nat) {i : Nat} {n : Int} {x v : Int32} {lv1 : List (Nat × Value)} (hd : decode cc pc = .ok (.iinc i n, 3)) (hj : lv[j]? = some (i, .int x)) (hv : x + Int32.ofInt n = v) (hn : i < nL) (hk : lv_pick ((i, Value.int v) :: lv.filter (fun q => !(q.1 == i) && !(q.1 + 1 == i && q.2.category == 2))) ks = lv1) (k : mt_Go B E cs S (pc + 3) lv1 st) : mt_Go B E cs S pc lv st := by
  obtain ⟨l, D, cA, b⟩ := B
  obtain ⟨p, e, R, s, m, args, below, meth, c0, Q, nL'⟩ := E
  obtain ⟨hx, hb, hml, rfl, hown, hts, hK, hbs, hr, hlk, hrf, hrl, hrc, hrs⟩ := hC
  intro H locs ls hP hS hl
  exact lv_iinc hx hb hd hl hj hv hn rfl (fun ls1 hl1 => k H locs ls1 hP hS (lv_sub hl1 ks hk))
theorem go_iadd (hC : mt_Cx B E cc own ret nL d mc ms) {x y : Int32} (hd : decode cc pc = .ok (.iadd, 1)) (k : mt_Go B E cs S (pc + 1) lv (.int (x + y) :: st)) : mt_Go B E cs S pc lv (.int y :: .int x :: st) := by
  obtain ⟨l, D, cA, b⟩ := B
  obtain ⟨p, e, R, s, m, args, below, meth, c0, Q, nL'⟩ := E
  obtain ⟨hx, hb, hml, rfl, hown, hts, hK, hbs, hr, hlk, hrf, hrl, hrc, hrs⟩ := hC
  intro H locs ls hP hS hl
  exact lv_iadd hx hb hd (k H locs ls hP hS hl)
theorem go_isub (hC : mt_Cx B E cc own ret nL d mc ms) {x y : Int32} (hd : decode cc pc = .ok (.isub, 1)) (k : mt_Go B E cs S (pc + 1) lv (.int (x - y) :: st)) : mt_Go B E cs S pc lv (.int y :: .int x :: st) := by
  obtain ⟨l, D, cA, b⟩ := B
  obtain ⟨p, e, R, s, m, args, below, meth, c0, Q, nL'⟩ := E
  obtain ⟨hx, hb, hml, rfl, hown, hts, hK, hbs, hr, hlk, hrf, hrl, hrc, hrs⟩ := hC
  intro H locs ls hP hS hl
  exact lv_isub hx hb hd (k H locs ls hP hS hl)
theorem go_imul (hC : mt_Cx B E cc own ret nL d mc ms) {x y : Int32} (hd : decode cc pc = .ok (.imul, 1)) (k : mt_Go B E cs S (pc + 1) lv (.int (x * y) :: st)) : mt_Go B E cs S pc lv (.int y :: .int x :: st) := by
  obtain ⟨l, D, cA, b⟩ := B
  obtain ⟨p, e, R, s, m, args, below, meth, c0, Q, nL'⟩ := E
  obtain ⟨hx, hb, hml, rfl, hown, hts, hK, hbs, hr, hlk, hrf, hrl, hrc, hrs⟩ := hC
  intro H locs ls hP hS hl
  exact lv_imul hx hb hd (k H locs ls hP hS hl)
theorem go_iand (hC : mt_Cx B E cc own ret nL d mc ms) {x y : Int32} (hd : decode cc pc = .ok (.iand, 1)) (k : mt_Go B E cs S (pc + 1) lv (.int (x &&& y) :: st)) : mt_Go B E cs S pc lv (.int y :: .int x :: st) := by
  obtain ⟨l, D, cA, b⟩ := B
  obtain ⟨p, e, R, s, m, args, below, meth, c0, Q, nL'⟩ := E
  obtain ⟨hx, hb, hml, rfl, hown, hts, hK, hbs, hr, hlk, hrf, hrl, hrc, hrs⟩ := hC
  intro H locs ls hP hS hl
  exact lv_iand hx hb hd (k H locs ls hP hS hl)
theorem go_idiv (hC : mt_Cx B E cc own ret nL d mc ms) {x y : Int32} (hd : decode cc pc = .ok (.idiv, 1)) (hne : ¬ y = 0) (k : mt_Go B E cs S (pc + 1) lv (.int (x / y) :: st)) : mt_Go B E cs S pc lv (.int y :: .int x :: st) := by
  obtain ⟨l, D, cA, b⟩ := B
  obtain ⟨p, e, R, s, m, args, below, meth, c0, Q, nL'⟩ := E
  obtain ⟨hx, hb, hml, rfl, hown, hts, hK, hbs, hr, hlk, hrf, hrl, hrc, hrs⟩ := hC
  intro H locs ls hP hS hl
  exact lv_idiv hx hb hd hne (k H locs ls hP hS hl)
theorem go_irem (hC : mt_Cx B E cc own ret nL d mc ms) {x y : Int32} (hd : decode cc pc = .ok (.irem, 1)) (hne : ¬ y = 0) (k : mt_Go B E cs S (pc + 1) lv (.int (x - x / y * y) :: st)) : mt_Go B E cs S pc lv (.int y :: .int x :: st) := by
  obtain ⟨l, D, cA, b⟩ := B
  obtain ⟨p, e, R, s, m, args, below, meth, c0, Q, nL'⟩ := E
  obtain ⟨hx, hb, hml, rfl, hown, hts, hK, hbs, hr, hlk, hrf, hrl, hrc, hrs⟩ := hC
  intro H locs ls hP hS hl
  exact lv_irem hx hb hd hne (k H locs ls hP hS hl)
theorem go_ladd (hC : mt_Cx B E cc own ret nL d mc ms) {x y : Int64} (hd : decode cc pc = .ok (.ladd, 1)) (k : mt_Go B E cs S (pc + 1) lv (.long (x + y) :: st)) : mt_Go B E cs S pc lv (.long y :: .long x :: st) := by
  obtain ⟨l, D, cA, b⟩ := B
  obtain ⟨p, e, R, s, m, args, below, meth, c0, Q, nL'⟩ := E
  obtain ⟨hx, hb, hml, rfl, hown, hts, hK, hbs, hr, hlk, hrf, hrl, hrc, hrs⟩ := hC
  intro H locs ls hP hS hl
  exact lv_ladd hx hb hd (k H locs ls hP hS hl)
theorem go_lsub (hC : mt_Cx B E cc own ret nL d mc ms) {x y : Int64} (hd : decode cc pc = .ok (.lsub, 1)) (k : mt_Go B E cs S (pc + 1) lv (.long (x - y) :: st)) : mt_Go B E cs S pc lv (.long y :: .long x :: st) := by
  obtain ⟨l, D, cA, b⟩ := B
  obtain ⟨p, e, R, s, m, args, below, meth, c0, Q, nL'⟩ := E
  obtain ⟨hx, hb, hml, rfl, hown, hts, hK, hbs, hr, hlk, hrf, hrl, hrc, hrs⟩ := hC
  intro H locs ls hP hS hl
  exact lv_lsub hx hb hd (k H locs ls hP hS hl)
theorem go_lmul (hC : mt_Cx B E cc own ret nL d mc ms) {x y : Int64} (hd : decode cc pc = .ok (.lmul, 1)) (k : mt_Go B E cs S (pc + 1) lv (.long (x * y) :: st)) : mt_Go B E cs S pc lv (.long y :: .long x :: st) := by
  obtain ⟨l, D, cA, b⟩ := B
  obtain ⟨p, e, R, s, m, args, below, meth, c0, Q, nL'⟩ := E
  obtain ⟨hx, hb, hml, rfl, hown, hts, hK, hbs, hr, hlk, hrf, hrl, hrc, hrs⟩ := hC
  intro H locs ls hP hS hl
  exact lv_lmul hx hb hd (k H locs ls hP hS hl)
theorem go_land (hC : mt_Cx B E cc own ret nL d mc ms) {x y : Int64} (hd : decode cc pc = .ok (.land, 1)) (k : mt_Go B E cs S (pc + 1) lv (.long (x &&& y) :: st)) : mt_Go B E cs S pc lv (.long y :: .long x :: st) := by
  obtain ⟨l, D, cA, b⟩ := B
  obtain ⟨p, e, R, s, m, args, below, meth, c0, Q, nL'⟩ := E
  obtain ⟨hx, hb, hml, rfl, hown, hts, hK, hbs, hr, hlk, hrf, hrl, hrc, hrs⟩ := hC
  intro H locs ls hP hS hl
  exact lv_land hx hb hd (k H locs ls hP hS hl)
theorem go_lor (hC : mt_Cx B E cc own ret nL d mc ms) {x y : Int64} (hd : decode cc pc = .ok (.lor, 1)) (k : mt_Go B E cs S (pc + 1) lv (.long (x ||| y) :: st)) : mt_Go B E cs S pc lv (.long y :: .long x :: st) := by
  obtain ⟨l, D, cA, b⟩ := B
  obtain ⟨p, e, R, s, m, args, below, meth, c0, Q, nL'⟩ := E
  obtain ⟨hx, hb, hml, rfl, hown, hts, hK, hbs, hr, hlk, hrf, hrl, hrc, hrs⟩ := hC
  intro H locs ls hP hS hl
  exact lv_lor hx hb hd (k H locs ls hP hS hl)
theorem go_lxor (hC : mt_Cx B E cc own ret nL d mc ms) {x y : Int64} (hd : decode cc pc = .ok (.lxor, 1)) (k : mt_Go B E cs S (pc + 1) lv (.long (x ^^^ y) :: st)) : mt_Go B E cs S pc lv (.long y :: .long x :: st) := by
  obtain ⟨l, D, cA, b⟩ := B
  obtain ⟨p, e, R, s, m, args, below, meth, c0, Q, nL'⟩ := E
  obtain ⟨hx, hb, hml, rfl, hown, hts, hK, hbs, hr, hlk, hrf, hrl, hrc, hrs⟩ := hC
  intro H locs ls hP hS hl
  exact lv_lxor hx hb hd (k H locs ls hP hS hl)
theorem go_ldiv (hC : mt_Cx B E cc own ret nL d mc ms) {x y : Int64} (hd : decode cc pc = .ok (.ldiv, 1)) (hne : ¬ y = 0) (k : mt_Go B E cs S (pc + 1) lv (.long (x / y) :: st)) : mt_Go B E cs S pc lv (.long y :: .long x :: st) := by
  obtain ⟨l, D, cA, b⟩ := B
  obtain ⟨p, e, R, s, m, args, below, meth, c0, Q, nL'⟩ := E
  obtain ⟨hx, hb, hml, rfl, hown, hts, hK, hbs, hr, hlk, hrf, hrl, hrc, hrs⟩ := hC
  intro H locs ls hP hS hl
  exact lv_ldiv hx hb hd hne (k H locs ls hP hS hl)
theorem go_lrem (hC : mt_Cx B E cc own ret nL d mc ms) {x y : Int64} (hd : decode cc pc = .ok (.lrem, 1)) (hne : ¬ y = 0) (k : mt_Go B E cs S (pc + 1) lv (.long (x - x / y * y) :: st)) : mt_Go B E cs S pc lv (.long y :: .long x :: st) := by
  obtain ⟨l, D, cA, b⟩ := B
  obtain ⟨p, e, R, s, m, args, below, meth, c0, Q, nL'⟩ := E
  obtain ⟨hx, hb, hml, rfl, hown, hts, hK, hbs, hr, hlk, hrf, hrl, hrc, hrs⟩ := hC
  intro H locs ls hP hS hl
  exact lv_lrem hx hb hd hne (k H locs ls hP hS hl)
theorem go_lneg (hC : mt_Cx B E cc own ret nL d mc ms) {x : Int64} (hd : decode cc pc = .ok (.lneg, 1)) (k : mt_Go B E cs S (pc + 1) lv (.long (-x) :: st)) : mt_Go B E cs S pc lv (.long x :: st) := by
  obtain ⟨l, D, cA, b⟩ := B
  obtain ⟨p, e, R, s, m, args, below, meth, c0, Q, nL'⟩ := E
  obtain ⟨hx, hb, hml, rfl, hown, hts, hK, hbs, hr, hlk, hrf, hrl, hrc, hrs⟩ := hC
  intro H locs ls hP hS hl
  exact lv_lneg hx hb hd (k H locs ls hP hS hl)
theorem go_iushr (hC : mt_Cx B E cc own ret nL d mc ms) {x y : Int32} (hd : decode cc pc = .ok (.iushr, 1)) (k : mt_Go B E cs S (pc + 1) lv (.int ((x.toUInt32 >>> (y.toUInt32 &&& Int32.toUInt32 31)).toInt32) :: st)) : mt_Go B E cs S pc lv (.int y :: .int x :: st) := by
  obtain ⟨l, D, cA, b⟩ := B
  obtain ⟨p, e, R, s, m, args, below, meth, c0, Q, nL'⟩ := E
  obtain ⟨hx, hb, hml, rfl, hown, hts, hK, hbs, hr, hlk, hrf, hrl, hrc, hrs⟩ := hC
  intro H locs ls hP hS hl
  exact lv_iushr hx hb hd rfl (k H locs ls hP hS hl)
theorem go_lshl (hC : mt_Cx B E cc own ret nL d mc ms) {x : Int64} {y : Int32} (hd : decode cc pc = .ok (.lshl, 1)) (k : mt_Go B E cs S (pc + 1) lv (.long (x <<< (y.toInt64 &&& 63)) :: st)) : mt_Go B E cs S pc lv (.int y :: .long x :: st) := by
  obtain ⟨l, D, cA, b⟩ := B
  obtain ⟨p, e, R, s, m, args, below, meth, c0, Q, nL'⟩ := E
  obtain ⟨hx, hb, hml, rfl, hown, hts, hK, hbs, hr, hlk, hrf, hrl, hrc, hrs⟩ := hC
  intro H locs ls hP hS hl
  exact lv_lshl hx hb hd rfl (k H locs ls hP hS hl)
theorem go_lshr (hC : mt_Cx B E cc own ret nL d mc ms) {x : Int64} {y : Int32} (hd : decode cc pc = .ok (.lshr, 1)) (k : mt_Go B E cs S (pc + 1) lv (.long (x >>> (y.toInt64 &&& 63)) :: st)) : mt_Go B E cs S pc lv (.int y :: .long x :: st) := by
  obtain ⟨l, D, cA, b⟩ := B
  obtain ⟨p, e, R, s, m, args, below, meth, c0, Q, nL'⟩ := E
  obtain ⟨hx, hb, hml, rfl, hown, hts, hK, hbs, hr, hlk, hrf, hrl, hrc, hrs⟩ := hC
  intro H locs ls hP hS hl
  exact lv_lshr hx hb hd rfl (k H locs ls hP hS hl)
theorem go_i2l (hC : mt_Cx B E cc own ret nL d mc ms) {x : Int32} (hd : decode cc pc = .ok (.i2l, 1)) (k : mt_Go B E cs S (pc + 1) lv (.long (x.toInt64) :: st)) : mt_Go B E cs S pc lv (.int x :: st) := by
  obtain ⟨l, D, cA, b⟩ := B
  obtain ⟨p, e, R, s, m, args, below, meth, c0, Q, nL'⟩ := E
  obtain ⟨hx, hb, hml, rfl, hown, hts, hK, hbs, hr, hlk, hrf, hrl, hrc, hrs⟩ := hC
  intro H locs ls hP hS hl
  exact lv_i2l hx hb hd rfl (k H locs ls hP hS hl)
theorem go_i2b (hC : mt_Cx B E cc own ret nL d mc ms) {x : Int32} (hd : decode cc pc = .ok (.i2b, 1)) (k : mt_Go B E cs S (pc + 1) lv (.int (x.toInt8.toInt32) :: st)) : mt_Go B E cs S pc lv (.int x :: st) := by
  obtain ⟨l, D, cA, b⟩ := B
  obtain ⟨p, e, R, s, m, args, below, meth, c0, Q, nL'⟩ := E
  obtain ⟨hx, hb, hml, rfl, hown, hts, hK, hbs, hr, hlk, hrf, hrl, hrc, hrs⟩ := hC
  intro H locs ls hP hS hl
  exact lv_i2b hx hb hd rfl (k H locs ls hP hS hl)
theorem go_l2f (hC : mt_Cx B E cc own ret nL d mc ms) {x : Int64} (hd : decode cc pc = .ok (.l2f, 1)) (k : mt_Go B E cs S (pc + 1) lv (.float (FP.l2f x) :: st)) : mt_Go B E cs S pc lv (.long x :: st) := by
  obtain ⟨l, D, cA, b⟩ := B
  obtain ⟨p, e, R, s, m, args, below, meth, c0, Q, nL'⟩ := E
  obtain ⟨hx, hb, hml, rfl, hown, hts, hK, hbs, hr, hlk, hrf, hrl, hrc, hrs⟩ := hC
  intro H locs ls hP hS hl
  exact lv_l2f hx hb hd (k H locs ls hP hS hl)
theorem go_f2i (hC : mt_Cx B E cc own ret nL d mc ms) {x : UInt32} (hd : decode cc pc = .ok (.f2i, 1)) (k : mt_Go B E cs S (pc + 1) lv (.int (FP.f2i x) :: st)) : mt_Go B E cs S pc lv (.float x :: st) := by
  obtain ⟨l, D, cA, b⟩ := B
  obtain ⟨p, e, R, s, m, args, below, meth, c0, Q, nL'⟩ := E
  obtain ⟨hx, hb, hml, rfl, hown, hts, hK, hbs, hr, hlk, hrf, hrl, hrc, hrs⟩ := hC
  intro H locs ls hP hS hl
  exact lv_f2i hx hb hd (k H locs ls hP hS hl)
theorem go_fmul (hC : mt_Cx B E cc own ret nL d mc ms) {x y : UInt32} (hd : decode cc pc = .ok (.fmul, 1)) (hne : vf_n32 (FP.fmul x y)) (k : mt_Go B E cs S (pc + 1) lv (.float (FP.fmul x y) :: st)) : mt_Go B E cs S pc lv (.float y :: .float x :: st) := by
  obtain ⟨l, D, cA, b⟩ := B
  obtain ⟨p, e, R, s, m, args, below, meth, c0, Q, nL'⟩ := E
  obtain ⟨hx, hb, hml, rfl, hown, hts, hK, hbs, hr, hlk, hrf, hrl, hrc, hrs⟩ := hC
  intro H locs ls hP hS hl
  exact lv_fmul hx hb hd hne (k H locs ls hP hS hl)
theorem go_fdiv (hC : mt_Cx B E cc own ret nL d mc ms) {x y : UInt32} (hd : decode cc pc = .ok (.fdiv, 1)) (hne : vf_n32 (FP.fdiv x y)) (k : mt_Go B E cs S (pc + 1) lv (.float (FP.fdiv x y) :: st)) : mt_Go B E cs S pc lv (.float y :: .float x :: st) := by
  obtain ⟨l, D, cA, b⟩ := B
  obtain ⟨p, e, R, s, m, args, below, meth, c0, Q, nL'⟩ := E
  obtain ⟨hx, hb, hml, rfl, hown, hts, hK, hbs, hr, hlk, hrf, hrl, hrc, hrs⟩ := hC
  intro H locs ls hP hS hl
  exact lv_fdiv hx hb hd hne (k H locs ls hP hS hl)
theorem go_fsub (hC : mt_Cx B E cc own ret nL d mc ms) {x y : UInt32} (hd : decode cc pc = .ok (.fsub, 1)) (hne : vf_n32 (FP.fsub x y)) (k : mt_Go B E cs S (pc + 1) lv (.float (FP.fsub x y) :: st)) : mt_Go B E cs S pc lv (.float y :: .float x :: st) := by
  obtain ⟨l, D, cA, b⟩ := B
  obtain ⟨p, e, R, s, m, args, below, meth, c0, Q, nL'⟩ := E
  obtain ⟨hx, hb, hml, rfl, hown, hts, hK, hbs, hr, hlk, hrf, hrl, hrc, hrs⟩ := hC
  intro H locs ls hP hS hl
  exact lv_fsub hx hb hd hne (k H locs ls hP hS hl)
theorem go_fcmp (hC : mt_Cx B E cc own ret nL d mc ms) {x y : UInt32} {op : CmpOp} (hd : decode cc pc = .ok (.fcmp op, 1)) (k : mt_Go B E cs S (pc + 1) lv (.int (Op.cmpValue (FP.fcmp x y) op) :: st)) : mt_Go B E cs S pc lv (.float y :: .float x :: st) := by
  obtain ⟨l, D, cA, b⟩ := B
  obtain ⟨p, e, R, s, m, args, below, meth, c0, Q, nL'⟩ := E
  obtain ⟨hx, hb, hml, rfl, hown, hts, hK, hbs, hr, hlk, hrf, hrl, hrc, hrs⟩ := hC
  intro H locs ls hP hS hl
  exact lv_fcmp hx hb hd (k H locs ls hP hS hl)
theorem go_dup (hC : mt_Cx B E cc own ret nL d mc ms) {x : Value} (hd : decode cc pc = .ok (.dup, 1)) (hc : x.category = 1) (k : mt_Go B E cs S (pc + 1) lv (x :: x :: st)) : mt_Go B E cs S pc lv (x :: st) := by
  obtain ⟨l, D, cA, b⟩ := B
  obtain ⟨p, e, R, s, m, args, below, meth, c0, Q, nL'⟩ := E
  obtain ⟨hx, hb, hml, rfl, hown, hts, hK, hbs, hr, hlk, hrf, hrl, hrc, hrs⟩ := hC
  intro H locs ls hP hS hl
  exact lv_dup hx hb hd hc (k H locs ls hP hS hl)
theorem go_pop (hC : mt_Cx B E cc own ret nL d mc ms) {x : Value} (hd : decode cc pc = .ok (.pop, 1)) (hc : x.category = 1) (k : mt_Go B E cs S (pc + 1) lv (st)) : mt_Go B E cs S pc lv (x :: st) := by
  obtain ⟨l, D, cA, b⟩ := B
  obtain ⟨p, e, R, s, m, args, below, meth, c0, Q, nL'⟩ := E
  obtain ⟨hx, hb, hml, rfl, hown, hts, hK, hbs, hr, hlk, hrf, hrl, hrc, hrs⟩ := hC
  intro H locs ls hP hS hl
  exact lv_pop hx hb hd hc (k H locs ls hP hS hl)
theorem go_dup2 (hC : mt_Cx B E cc own ret nL d mc ms) {x y : Value} (hd : decode cc pc = .ok (.dup2, 1)) (hc : x.category = 1) (hc2 : y.category = 1) (k : mt_Go B E cs S (pc + 1) lv (x :: y :: x :: y :: st)) : mt_Go B E cs S pc lv (x :: y :: st) := by
  obtain ⟨l, D, cA, b⟩ := B
  obtain ⟨p, e, R, s, m, args, below, meth, c0, Q, nL'⟩ := E
  obtain ⟨hx, hb, hml, rfl, hown, hts, hK, hbs, hr, hlk, hrf, hrl, hrc, hrs⟩ := hC
  intro H locs ls hP hS hl
  exact lv_dup2_11 hx hb hd hc hc2 (k H locs ls hP hS hl)
theorem go_if_eq (hC : mt_Cx B E cc own ret nL d mc ms) {x : Int32} {off : Int} {tgt : Nat} (hd : decode cc pc = .ok (.ifCond .eq off, 3)) (ht : (pc : Int) + off = (tgt : Int)) (kt : x = 0 → mt_Go B E cs S tgt lv st) (kf : ¬ x = 0 → mt_Go B E cs S (pc + 3) lv st) : mt_Go B E cs S pc lv (.int x :: st) := by
  obtain ⟨l, D, cA, b⟩ := B
  obtain ⟨p, e, R, s, m, args, below, meth, c0, Q, nL'⟩ := E
  obtain ⟨hx, hb, hml, rfl, hown, hts, hK, hbs, hr, hlk, hrf, hrl, hrc, hrs⟩ := hC
  intro H locs ls hP hS hl
  exact lv_if_eq hx hb hd ht (fun h => kt h H locs ls hP hS hl) (fun h => kf h H locs ls hP hS hl)
theorem go_icmp_eq (hC : mt_Cx B E cc own ret nL d mc ms) {x y : Int32} {off : Int} {tgt : Nat} (hd : decode cc pc = .ok (.if_icmp .eq off, 3)) (ht : (pc : Int) + off = (tgt : Int)) (kt : x = y → mt_Go B E cs S tgt lv st) (kf : ¬ x = y → mt_Go B E cs S (pc + 3) lv st) : mt_Go B E cs S pc lv (.int y :: .int x :: st) := by
  obtain ⟨l, D, cA, b⟩ := B
  obtain ⟨p, e, R, s, m, args, below, meth, c0, Q, nL'⟩ := E
  obtain ⟨hx, hb, hml, rfl, hown, hts, hK, hbs, hr, hlk, hrf, hrl, hrc, hrs⟩ := hC
  intro H locs ls hP hS hl
  exact lv_icmp_eq hx hb hd ht (fun h => kt h H locs ls hP hS hl) (fun h => kf h H locs ls hP hS hl)
theorem go_if_ne (hC : mt_Cx B E cc own ret nL d mc ms) {x : Int32} {off : Int} {tgt : Nat} (hd : decode cc pc = .ok (.ifCond .ne off, 3)) (ht : (pc : Int) + off = (tgt : Int)) (kt : ¬ x = 0 → mt_Go B E cs S tgt lv st) (kf : x = 0 → mt_Go B E cs S (pc + 3) lv st) : mt_Go B E cs S pc lv (.int x :: st) := by
  obtain ⟨l, D, cA, b⟩ := B
  obtain ⟨p, e, R, s, m, args, below, meth, c0, Q, nL'⟩ := E
  obtain ⟨hx, hb, hml, rfl, hown, hts, hK, hbs, hr, hlk, hrf, hrl, hrc, hrs⟩ := hC
  intro H locs ls hP hS hl
  exact lv_if_ne hx hb hd ht (fun h => kt h H locs ls hP hS hl) (fun h => kf h H locs ls hP hS hl)
theorem go_icmp_ne (hC : mt_Cx B E cc own ret nL d mc ms) {x y : Int32} {off : Int} {tgt : Nat} (hd : decode cc pc = .ok (.if_icmp .ne off, 3)) (ht : (pc : Int) + off = (tgt : Int)) (kt : ¬ x = y → mt_Go B E cs S tgt lv st) (kf : x = y → mt_Go B E cs S (pc + 3) lv st) : mt_Go B E cs S pc lv (.int y :: .int x :: st) := by
  obtain ⟨l, D, cA, b⟩ := B
  obtain ⟨p, e, R, s, m, args, below, meth, c0, Q, nL'⟩ := E
  obtain ⟨hx, hb, hml, rfl, hown, hts, hK, hbs, hr, hlk, hrf, hrl, hrc, hrs⟩ := hC
  intro H locs ls hP hS hl
  exact lv_icmp_ne hx hb hd ht (fun h => kt h H locs ls hP hS hl) (fun h => kf h H locs ls hP hS hl)
theorem go_if_lt (hC : mt_Cx B E cc own ret nL d mc ms) {x : Int32} {off : Int} {tgt : Nat} (hd : decode cc pc = .ok (.ifCond .lt off, 3)) (ht : (pc : Int) + off = (tgt : Int)) (kt : x < 0 → mt_Go B E cs S tgt lv st) (kf : ¬ x < 0 → mt_Go B E cs S (pc + 3) lv st) : mt_Go B E cs S pc lv (.int x :: st) := by
  obtain ⟨l, D, cA, b⟩ := B
  obtain ⟨p, e, R, s, m, args, below, meth, c0, Q, nL'⟩ := E
  obtain ⟨hx, hb, hml, rfl, hown, hts, hK, hbs, hr, hlk, hrf, hrl, hrc, hrs⟩ := hC
  intro H locs ls hP hS hl
  exact lv_if_lt hx hb hd ht (fun h => kt h H locs ls hP hS hl) (fun h => kf h H locs ls hP hS hl)
theorem go_icmp_lt (hC : mt_Cx B E cc own ret nL d mc ms) {x y : Int32} {off : Int} {tgt : Nat} (hd : decode cc pc = .ok (.if_icmp .lt off, 3)) (ht : (pc : Int) + off = (tgt : Int)) (kt : x < y → mt_Go B E cs S tgt lv st) (kf : ¬ x < y → mt_Go B E cs S (pc + 3) lv st) : mt_Go B E cs S pc lv (.int y :: .int x :: st) := by
  obtain ⟨l, D, cA, b⟩ := B
  obtain ⟨p, e, R, s, m, args, below, meth, c0, Q, nL'⟩ := E
  obtain ⟨hx, hb, hml, rfl, hown, hts, hK, hbs, hr, hlk, hrf, hrl, hrc, hrs⟩ := hC
  intro H locs ls hP hS hl
  exact lv_icmp_lt hx hb hd ht (fun h => kt h H locs ls hP hS hl) (fun h => kf h H locs ls hP hS hl)
theorem go_if_ge (hC : mt_Cx B E cc own ret nL d mc ms) {x : Int32} {off : Int} {tgt : Nat} (hd : decode cc pc = .ok (.ifCond .ge off, 3)) (ht : (pc : Int) + off = (tgt : Int)) (kt : 0 ≤ x → mt_Go B E cs S tgt lv st) (kf : ¬ 0 ≤ x → mt_Go B E cs S (pc + 3) lv st) : mt_Go B E cs S pc lv (.int x :: st) := by
  obtain ⟨l, D, cA, b⟩ := B
  obtain ⟨p, e, R, s, m, args, below, meth, c0, Q, nL'⟩ := E
  obtain ⟨hx, hb, hml, rfl, hown, hts, hK, hbs, hr, hlk, hrf, hrl, hrc, hrs⟩ := hC
  intro H locs ls hP hS hl
  exact lv_if_ge hx hb hd ht (fun h => kt h H locs ls hP hS hl) (fun h => kf h H locs ls hP hS hl)
theorem go_icmp_ge (hC : mt_Cx B E cc own ret nL d mc ms) {x y : Int32} {off : Int} {tgt : Nat} (hd : decode cc pc = .ok (.if_icmp .ge off, 3)) (ht : (pc : Int) + off = (tgt : Int)) (kt : y ≤ x → mt_Go B E cs S tgt lv st) (kf : ¬ y ≤ x → mt_Go B E cs S (pc + 3) lv st) : mt_Go B E cs S pc lv (.int y :: .int x :: st) := by
  obtain ⟨l, D, cA, b⟩ := B
  obtain ⟨p, e, R, s, m, args, below, meth, c0, Q, nL'⟩ := E
  obtain ⟨hx, hb, hml, rfl, hown, hts, hK, hbs, hr, hlk, hrf, hrl, hrc, hrs⟩ := hC
  intro H locs ls hP hS hl
  exact lv_icmp_ge hx hb hd ht (fun h => kt h H locs ls hP hS hl) (fun h => kf h H locs ls hP hS hl)
theorem go_if_gt (hC : mt_Cx B E cc own ret nL d mc ms) {x : Int32} {off : Int} {tgt : Nat} (hd : decode cc pc = .ok (.ifCond .gt off, 3)) (ht : (pc : Int) + off = (tgt : Int)) (kt : 0 < x → mt_Go B E cs S tgt lv st) (kf : ¬ 0 < x → mt_Go B E cs S (pc + 3) lv st) : mt_Go B E cs S pc lv (.int x :: st) := by
  obtain ⟨l, D, cA, b⟩ := B
  obtain ⟨p, e, R, s, m, args, below, meth, c0, Q, nL'⟩ := E
  obtain ⟨hx, hb, hml, rfl, hown, hts, hK, hbs, hr, hlk, hrf, hrl, hrc, hrs⟩ := hC
  intro H locs ls hP hS hl
  exact lv_if_gt hx hb hd ht (fun h => kt h H locs ls hP hS hl) (fun h => kf h H locs ls hP hS hl)
theorem go_icmp_gt (hC : mt_Cx B E cc own ret nL d mc ms) {x y : Int32} {off : Int} {tgt : Nat} (hd : decode cc pc = .ok (.if_icmp .gt off, 3)) (ht : (pc : Int) + off = (tgt : Int)) (kt : y < x → mt_Go B E cs S tgt lv st) (kf : ¬ y < x → mt_Go B E cs S (pc + 3) lv st) : mt_Go B E cs S pc lv (.int y :: .int x :: st) := by
  obtain ⟨l, D, cA, b⟩ := B
  obtain ⟨p, e, R, s, m, args, below, meth, c0, Q, nL'⟩ := E
  obtain ⟨hx, hb, hml, rfl, hown, hts, hK, hbs, hr, hlk, hrf, hrl, hrc, hrs⟩ := hC
  intro H locs ls hP hS hl
  exact lv_icmp_gt hx hb hd ht (fun h => kt h H locs ls hP hS hl) (fun h => kf h H locs ls hP hS hl)
theorem go_if_le (hC : mt_Cx B E cc own ret nL d mc ms) {x : Int32} {off : Int} {tgt : Nat} (hd : decode cc pc = .ok (.ifCond .le off, 3)) (ht : (pc : Int) + off = (tgt : Int)) (kt : x ≤ 0 → mt_Go B E cs S tgt lv st) (kf : ¬ x ≤ 0 → mt_Go B E cs S (pc + 3) lv st) : mt_Go B E cs S pc lv (.int x :: st) := by
  obtain ⟨l, D, cA, b⟩ := B
  obtain ⟨p, e, R, s, m, args, below, meth, c0, Q, nL'⟩ := E
  obtain ⟨hx, hb, hml, rfl, hown, hts, hK, hbs, hr, hlk, hrf, hrl, hrc, hrs⟩ := hC
  intro H locs ls hP hS hl
  exact lv_if_le hx hb hd ht (fun h => kt h H locs ls hP hS hl) (fun h => kf h H locs ls hP hS hl)
theorem go_icmp_le (hC : mt_Cx B E cc own ret nL d mc ms) {x y : Int32} {off : Int} {tgt : Nat} (hd : decode cc pc = .ok (.if_icmp .le off, 3)) (ht : (pc : Int) + off = (tgt : Int)) (kt : x ≤ y → mt_Go B E cs S tgt lv st) (kf : ¬ x ≤ y → mt_Go B E cs S (pc + 3) lv st) : mt_Go B E cs S pc lv (.int y :: .int x :: st) := by
  obtain ⟨l, D, cA, b⟩ := B
  obtain ⟨p, e, R, s, m, args, below, meth, c0, Q, nL'⟩ := E
  obtain ⟨hx, hb, hml, rfl, hown, hts, hK, hbs, hr, hlk, hrf, hrl, hrc, hrs⟩ := hC
  intro H locs ls hP hS hl
  exact lv_icmp_le hx hb hd ht (fun h => kt h H locs ls hP hS hl) (fun h => kf h H locs ls hP hS hl)
theorem mt_lg (x y : Int64) : (lg_cmp x y = 0 ↔ x = y) ∧ (lg_cmp x y < 0 ↔ x < y) ∧ (0 ≤ lg_cmp x y ↔ y ≤ x) ∧ (0 < lg_cmp x y ↔ y < x) ∧ (lg_cmp x y ≤ 0 ↔ x ≤ y) := by
  have hi : ∀ a b : Int64, (a < b ↔ a.toInt < b.toInt) := fun a b => Int64.lt_iff_toInt_lt
  have hl : ∀ a b : Int64, (a ≤ b ↔ a.toInt ≤ b.toInt) := fun a b => Int64.le_iff_toInt_le
  have he : x = y ↔ x.toInt = y.toInt := Int64.toInt_inj.symm
  by_cases h1 : y < x
  · have e1 : lg_cmp x y = 1 := by simp [lg_cmp, h1]
    rw [e1, he, hi x y, hi y x, hl x y, hl y x]
    have h2 := (hi y x).mp h1
    refine ⟨⟨fun h => absurd h (by decide), fun h => by omega⟩, ⟨fun h => absurd h (by decide), fun h => by omega⟩, ⟨fun _ => by omega, fun _ => by decide⟩, ⟨fun _ => h2, fun _ => by decide⟩, ⟨fun h => absurd h (by decide), fun h => by omega⟩⟩
  · by_cases h2 : x = y
    · subst h2
      have e1 : lg_cmp x x = 0 := by simp [lg_cmp]
      rw [e1, hi x x, hl x x]
      refine ⟨⟨fun _ => rfl, fun _ => rfl⟩, ⟨fun h => absurd h (by decide), fun h => by omega⟩, ⟨fun _ => by omega, fun _ => by decide⟩, ⟨fun h => absurd h (by decide), fun h => by omega⟩, ⟨fun _ => by omega, fun _ => by decide⟩⟩
    · have e1 : lg_cmp x y = -1 := by simp [lg_cmp, h1, h2]
      rw [e1, he, hi x y, hi y x, hl x y, hl y x]
      have h3 : ¬ y.toInt < x.toInt := fun h => h1 ((hi y x).mpr h)
      have h4 : ¬ x.toInt = y.toInt := fun h => h2 (he.mpr h)
      refine ⟨⟨fun h => absurd h (by decide), fun h => absurd h h4⟩, ⟨fun _ => by omega, fun _ => by decide⟩, ⟨fun h => absurd h (by decide), fun h => by omega⟩, ⟨fun h => absurd h (by decide), fun h => by omega⟩, ⟨fun _ => by omega, fun _ => by decide⟩⟩
theorem go_lcmp_eq (hC : mt_Cx B E cc own ret nL d mc ms) {x y : Int64} {off : Int} {tgt : Nat} (hd0 : decode cc pc = .ok (.lcmp, 1)) (hd : decode cc (pc + 1) = .ok (.ifCond .eq off, 3)) (ht : ((pc + 1 : Nat) : Int) + off = (tgt : Int)) (kt : x = y → mt_Go B E cs S tgt lv st) (kf : ¬ x = y → mt_Go B E cs S (pc + 4) lv st) : mt_Go B E cs S pc lv (.long y :: .long x :: st) := by
  obtain ⟨l, D, cA, b⟩ := B
  obtain ⟨p, e, R, s, m, args, below, meth, c0, Q, nL'⟩ := E
  obtain ⟨hx, hb, hml, rfl, hown, hts, hK, hbs, hr, hlk, hrf, hrl, hrc, hrs⟩ := hC
  intro H locs ls hP hS hl
  refine W.lcmp hx hb hd0 ?_
  exact lv_if_eq hx hb hd ht (fun h => kt ((mt_lg x y).1.mp h) H locs ls hP hS hl) (fun h => kf (fun q => h ((mt_lg x y).1.mpr q)) H locs ls hP hS hl)
theorem go_lcmp_ne (hC : mt_Cx B E cc own ret nL d mc ms) {x y : Int64} {off : Int} {tgt : Nat} (hd0 : decode cc pc = .ok (.lcmp, 1)) (hd : decode cc (pc + 1) = .ok (.ifCond .ne off, 3)) (ht : ((pc + 1 : Nat) : Int) + off = (tgt : Int)) (kt : ¬ x = y → mt_Go B E cs S tgt lv st) (kf : x = y → mt_Go B E cs S (pc + 4) lv st) : mt_Go B E cs S pc lv (.long y :: .long x :: st) := by
  obtain ⟨l, D, cA, b⟩ := B
  obtain ⟨p, e, R, s, m, args, below, meth, c0, Q, nL'⟩ := E
  obtain ⟨hx, hb, hml, rfl, hown, hts, hK, hbs, hr, hlk, hrf, hrl, hrc, hrs⟩ := hC
  intro H locs ls hP hS hl
  refine W.lcmp hx hb hd0 ?_
  exact lv_if_ne hx hb hd ht (fun h => kt (fun q => h ((mt_lg x y).1.mpr q)) H locs ls hP hS hl) (fun h => kf ((mt_lg x y).1.mp h) H locs ls hP hS hl)
theorem go_lcmp_lt (hC : mt_Cx B E cc own ret nL d mc ms) {x y : Int64} {off : Int} {tgt : Nat} (hd0 : decode cc pc = .ok (.lcmp, 1)) (hd : decode cc (pc + 1) = .ok (.ifCond .lt off, 3)) (ht : ((pc + 1 : Nat) : Int) + off = (tgt : Int)) (kt : x < y → mt_Go B E cs S tgt lv st) (kf : ¬ x < y → mt_Go B E cs S (pc + 4) lv st) : mt_Go B E cs S pc lv (.long y :: .long x :: st) := by
  obtain ⟨l, D, cA, b⟩ := B
  obtain ⟨p, e, R, s, m, args, below, meth, c0, Q, nL'⟩ := E
  obtain ⟨hx, hb, hml, rfl, hown, hts, hK, hbs, hr, hlk, hrf, hrl, hrc, hrs⟩ := hC
  intro H locs ls hP hS hl
  refine W.lcmp hx hb hd0 ?_
  exact lv_if_lt hx hb hd ht (fun h => kt ((mt_lg x y).2.1.mp h) H locs ls hP hS hl) (fun h => kf (fun q => h ((mt_lg x y).2.1.mpr q)) H locs ls hP hS hl)
theorem go_lcmp_ge (hC : mt_Cx B E cc own ret nL d mc ms) {x y : Int64} {off : Int} {tgt : Nat} (hd0 : decode cc pc = .ok (.lcmp, 1)) (hd : decode cc (pc + 1) = .ok (.ifCond .ge off, 3)) (ht : ((pc + 1 : Nat) : Int) + off = (tgt : Int)) (kt : y ≤ x → mt_Go B E cs S tgt lv st) (kf : ¬ y ≤ x → mt_Go B E cs S (pc + 4) lv st) : mt_Go B E cs S pc lv (.long y :: .long x :: st) := by
  obtain ⟨l, D, cA, b⟩ := B
  obtain ⟨p, e, R, s, m, args, below, meth, c0, Q, nL'⟩ := E
  obtain ⟨hx, hb, hml, rfl, hown, hts, hK, hbs, hr, hlk, hrf, hrl, hrc, hrs⟩ := hC
  intro H locs ls hP hS hl
  refine W.lcmp hx hb hd0 ?_
  exact lv_if_ge hx hb hd ht (fun h => kt ((mt_lg x y).2.2.1.mp h) H locs ls hP hS hl) (fun h => kf (fun q => h ((mt_lg x y).2.2.1.mpr q)) H locs ls hP hS hl)
theorem go_lcmp_gt (hC : mt_Cx B E cc own ret nL d mc ms) {x y : Int64} {off : Int} {tgt : Nat} (hd0 : decode cc pc = .ok (.lcmp, 1)) (hd : decode cc (pc + 1) = .ok (.ifCond .gt off, 3)) (ht : ((pc + 1 : Nat) : Int) + off = (tgt : Int)) (kt : y < x → mt_Go B E cs S tgt lv st) (kf : ¬ y < x → mt_Go B E cs S (pc + 4) lv st) : mt_Go B E cs S pc lv (.long y :: .long x :: st) := by
  obtain ⟨l, D, cA, b⟩ := B
  obtain ⟨p, e, R, s, m, args, below, meth, c0, Q, nL'⟩ := E
  obtain ⟨hx, hb, hml, rfl, hown, hts, hK, hbs, hr, hlk, hrf, hrl, hrc, hrs⟩ := hC
  intro H locs ls hP hS hl
  refine W.lcmp hx hb hd0 ?_
  exact lv_if_gt hx hb hd ht (fun h => kt ((mt_lg x y).2.2.2.1.mp h) H locs ls hP hS hl) (fun h => kf (fun q => h ((mt_lg x y).2.2.2.1.mpr q)) H locs ls hP hS hl)
theorem go_lcmp_le (hC : mt_Cx B E cc own ret nL d mc ms) {x y : Int64} {off : Int} {tgt : Nat} (hd0 : decode cc pc = .ok (.lcmp, 1)) (hd : decode cc (pc + 1) = .ok (.ifCond .le off, 3)) (ht : ((pc + 1 : Nat) : Int) + off = (tgt : Int)) (kt : x ≤ y → mt_Go B E cs S tgt lv st) (kf : ¬ x ≤ y → mt_Go B E cs S (pc + 4) lv st) : mt_Go B E cs S pc lv (.long y :: .long x :: st) := by
  obtain ⟨l, D, cA, b⟩ := B
  obtain ⟨p, e, R, s, m, args, below, meth, c0, Q, nL'⟩ := E
  obtain ⟨hx, hb, hml, rfl, hown, hts, hK, hbs, hr, hlk, hrf, hrl, hrc, hrs⟩ := hC
  intro H locs ls hP hS hl
  refine W.lcmp hx hb hd0 ?_
  exact lv_if_le hx hb hd ht (fun h => kt ((mt_lg x y).2.2.2.2.mp h) H locs ls hP hS hl) (fun h => kf (fun q => h ((mt_lg x y).2.2.2.2.mpr q)) H locs ls hP hS hl)
theorem go_goto (hC : mt_Cx B E cc own ret nL d mc ms) {off : Int} {tgt : Nat} (hd : decode cc pc = .ok (.goto off, 3)) (ht : (pc : Int) + off = (tgt : Int)) (k : mt_Go B E cs S tgt lv st) : mt_Go B E cs S pc lv st := by
  obtain ⟨l, D, cA, b⟩ := B
  obtain ⟨p, e, R, s, m, args, below, meth, c0, Q, nL'⟩ := E
  obtain ⟨hx, hb, hml, rfl, hown, hts, hK, hbs, hr, hlk, hrf, hrl, hrc, hrs⟩ := hC
  intro H locs ls hP hS hl
  exact lv_goto hx hb hd ht (k H locs ls hP hS hl)
theorem go_look (hC : mt_Cx B E cc own ret nL d mc ms) {dflt : Int} {ps : Array (Int × Int)} {len : Nat} {x : Int32} {off : Int} {tgt : Nat} (hd : decode cc pc = .ok (.lookupswitch dflt ps, len)) (hp : (ps.toList.zip (ps.toList.drop 1)).all (fun (a, next) => a.1 < next.1) = true) (ho : Op.lookupswitch.offset ps.toList dflt x.toInt = off) (ht : (pc : Int) + off = (tgt : Int)) (k : mt_Go B E cs S tgt lv st) : mt_Go B E cs S pc lv (.int x :: st) := by
  obtain ⟨l, D, cA, b⟩ := B
  obtain ⟨p, e, R, s, m, args, below, meth, c0, Q, nL'⟩ := E
  obtain ⟨hx, hb, hml, rfl, hown, hts, hK, hbs, hr, hlk, hrf, hrl, hrc, hrs⟩ := hC
  intro H locs ls hP hS hl
  exact lv_lookup hx hb hd hp ho ht (k H locs ls hP hS hl)
theorem go_tabOut (hC : mt_Cx B E cc own ret nL d mc ms) {dflt lo hi : Int} {offs : Array Int} {len : Nat} {x : Int32} {tgt : Nat} (hd : decode cc pc = .ok (.tableswitch dflt lo hi offs, len)) (h : x.toInt < lo ∨ hi < x.toInt) (ht : (pc : Int) + dflt = (tgt : Int)) (k : mt_Go B E cs S tgt lv st) : mt_Go B E cs S pc lv (.int x :: st) := by
  obtain ⟨l, D, cA, b⟩ := B
  obtain ⟨p, e, R, s, m, args, below, meth, c0, Q, nL'⟩ := E
  obtain ⟨hx, hb, hml, rfl, hown, hts, hK, hbs, hr, hlk, hrf, hrl, hrc, hrs⟩ := hC
  intro H locs ls hP hS hl
  exact lv_tableOut hx hb hd h ht (k H locs ls hP hS hl)
theorem go_tabIn (hC : mt_Cx B E cc own ret nL d mc ms) {dflt lo hi : Int} {offs : Array Int} {len : Nat} {x v : Int32} {off : Int} {tgt : Nat} (hd : decode cc pc = .ok (.tableswitch dflt lo hi offs, len)) (hv : x = v) (h1 : ¬ v.toInt < lo) (h2 : ¬ hi < v.toInt) (ho : offs[(v.toInt - lo).toNat]? = some off) (ht : (pc : Int) + off = (tgt : Int)) (k : mt_Go B E cs S tgt lv st) : mt_Go B E cs S pc lv (.int x :: st) := by
  subst hv
  obtain ⟨l, D, cA, b⟩ := B
  obtain ⟨p, e, R, s, m, args, below, meth, c0, Q, nL'⟩ := E
  obtain ⟨hx, hb, hml, rfl, hown, hts, hK, hbs, hr, hlk, hrf, hrl, hrc, hrs⟩ := hC
  intro H locs ls hP hS hl
  exact lv_tableIn hx hb hd h1 h2 ho ht (k H locs ls hP hS hl)
theorem go_ifnull_r (hC : mt_Cx B E cc own ret nL d mc ms) {x : Nat} {off : Int} (hd : decode cc pc = .ok (.ifnull off, 3)) (k : mt_Go B E cs S (pc + 3) lv st) : mt_Go B E cs S pc lv (.ref x :: st) := by
  obtain ⟨l, D, cA, b⟩ := B
  obtain ⟨p, e, R, s, m, args, below, meth, c0, Q, nL'⟩ := E
  obtain ⟨hx, hb, hml, rfl, hown, hts, hK, hbs, hr, hlk, hrf, hrl, hrc, hrs⟩ := hC
  intro H locs ls hP hS hl
  exact lv_ifnull hx hb hd (k H locs ls hP hS hl)
theorem go_ifnull_n (hC : mt_Cx B E cc own ret nL d mc ms) {off : Int} {tgt : Nat} (hd : decode cc pc = .ok (.ifnull off, 3)) (ht : (pc : Int) + off = (tgt : Int)) (k : mt_Go B E cs S tgt lv st) : mt_Go B E cs S pc lv (.null :: st) := by
  obtain ⟨l, D, cA, b⟩ := B
  obtain ⟨p, e, R, s, m, args, below, meth, c0, Q, nL'⟩ := E
  obtain ⟨hx, hb, hml, rfl, hown, hts, hK, hbs, hr, hlk, hrf, hrl, hrc, hrs⟩ := hC
  intro H locs ls hP hS hl
  exact lv_ifnullN hx hb hd ht (k H locs ls hP hS hl)
theorem go_ifnonnull_r (hC : mt_Cx B E cc own ret nL d mc ms) {x : Nat} {off : Int} {tgt : Nat} (hd : decode cc pc = .ok (.ifnonnull off, 3)) (ht : (pc : Int) + off = (tgt : Int)) (k : mt_Go B E cs S tgt lv st) : mt_Go B E cs S pc lv (.ref x :: st) := by
  obtain ⟨l, D, cA, b⟩ := B
  obtain ⟨p, e, R, s, m, args, below, meth, c0, Q, nL'⟩ := E
  obtain ⟨hx, hb, hml, rfl, hown, hts, hK, hbs, hr, hlk, hrf, hrl, hrc, hrs⟩ := hC
  intro H locs ls hP hS hl
  exact lv_ifnonnull hx hb hd ht (k H locs ls hP hS hl)
theorem go_ifnonnull_n (hC : mt_Cx B E cc own ret nL d mc ms) {off : Int} (hd : decode cc pc = .ok (.ifnonnull off, 3)) (k : mt_Go B E cs S (pc + 3) lv st) : mt_Go B E cs S pc lv (.null :: st) := by
  obtain ⟨l, D, cA, b⟩ := B
  obtain ⟨p, e, R, s, m, args, below, meth, c0, Q, nL'⟩ := E
  obtain ⟨hx, hb, hml, rfl, hown, hts, hK, hbs, hr, hlk, hrf, hrl, hrc, hrs⟩ := hC
  intro H locs ls hP hS hl
  exact lv_ifnonnullN hx hb hd (k H locs ls hP hS hl)
theorem go_iret (hC : mt_Cx B E cc own (some .int) nL d mc ms) {v : Int32} (hE : mt_End B E cs (some (.int v)) S) (hd : decode cc pc = .ok (.ireturn, 1)) : mt_Go B E cs S pc lv [.int v] := by
  obtain ⟨l, D, cA, b⟩ := B
  obtain ⟨p, e, R, s, m, args, below, meth, c0, Q, nL'⟩ := E
  obtain ⟨hx, hb, hml, rfl, hown, hts, hK, hbs, hr, hlk, hrf, hrl, hrc, hrs⟩ := hC
  intro H locs ls hP hS hl
  obtain rfl : Q = _ := hE
  exact W.iret hx hb hr (fun t ht hW => ⟨rfl, by rw [ht]; exact hP, hS.F ht⟩) hS.2.2 hd
theorem go_lret (hC : mt_Cx B E cc own (some .long) nL d mc ms) {v : Int64} (hE : mt_End B E cs (some (.long v)) S) (hd : decode cc pc = .ok (.lreturn, 1)) : mt_Go B E cs S pc lv [.long v] := by
  obtain ⟨l, D, cA, b⟩ := B
  obtain ⟨p, e, R, s, m, args, below, meth, c0, Q, nL'⟩ := E
  obtain ⟨hx, hb, hml, rfl, hown, hts, hK, hbs, hr, hlk, hrf, hrl, hrc, hrs⟩ := hC
  intro H locs ls hP hS hl
  obtain rfl : Q = _ := hE
  exact W.lret hx hb hr (fun t ht hW => ⟨rfl, by rw [ht]; exact hP, hS.F ht⟩) hS.2.2 hd
theorem go_zret (hC : mt_Cx B E cc own (some .boolean) nL d mc ms) {v : Int32} (hE : mt_End B E cs (some (.int v)) S) (hv : v = 0 ∨ v = 1) (hd : decode cc pc = .ok (.ireturn, 1)) : mt_Go B E cs S pc lv [.int v] := by
  obtain ⟨l, D, cA, b⟩ := B
  obtain ⟨p, e, R, s, m, args, below, meth, c0, Q, nL'⟩ := E
  obtain ⟨hx, hb, hml, rfl, hown, hts, hK, hbs, hr, hlk, hrf, hrl, hrc, hrs⟩ := hC
  intro H locs ls hP hS hl
  obtain rfl : Q = _ := hE
  exact W.zret hx hb hr (by rcases hv with rfl | rfl <;> rfl) (fun t ht hW => ⟨rfl, by rw [ht]; exact hP, hS.F ht⟩) hS.2.2 hd
theorem go_vret (hC : mt_Cx B E cc own none nL d mc ms) (hE : mt_End B E cs none S) (hd : decode cc pc = .ok (.return_, 1)) : mt_Go B E cs S pc lv [] := by
  obtain ⟨l, D, cA, b⟩ := B
  obtain ⟨p, e, R, s, m, args, below, meth, c0, Q, nL'⟩ := E
  obtain ⟨hx, hb, hml, rfl, hown, hts, hK, hbs, hr, hlk, hrf, hrl, hrc, hrs⟩ := hC
  intro H locs ls hP hS hl
  obtain rfl : Q = _ := hE
  exact W.vret hx hb hr (fun t ht hW => ⟨rfl, by rw [ht]; exact hP, hS.F ht⟩) hS.2.2 hd
theorem go_aret {C : String} (hC : mt_Cx B E cc own (some (.object C)) nL d mc ms) {v : Value} (hv : v = .null ∨ ∃ a, v = .ref a) (hE : mt_End B E cs (some v) S) (hd : decode cc pc = .ok (.areturn, 1)) : mt_Go B E cs S pc lv [v] := by
  obtain ⟨l, D, cA, b⟩ := B
  obtain ⟨p, e, R, s, m, args, below, meth, c0, Q, nL'⟩ := E
  obtain ⟨hx, hb, hml, rfl, hown, hts, hK, hbs, hr, hlk, hrf, hrl, hrc, hrs⟩ := hC
  intro H locs ls hP hS hl
  obtain rfl : Q = _ := hE
  exact W.aret hx hb hr (Or.inl ⟨_, rfl⟩) hv (fun t ht hW => ⟨rfl, by rw [ht]; exact hP, hS.F ht⟩) hS.2.2 hd
/-- a class and its fields, by the tables -/
def mt_CF (c : Nat) (C : String) (T : u_T) (N : Nat) (ty : Nat → FieldType) : Prop := vwCl[c]? = some (C, T, N) ∧ c < 12 ∧ N = (mt_ft c).length ∧ (∀ w ∈ u_ws C T N, w ∈ mt_tb) ∧ (∀ k, k < N → parseFieldDescriptor (T k).2.2.1 = some (ty k)) ∧ (∀ a, a < N → ∀ b, b < N → a ≠ b → (T a).2.1 ≠ (T b).2.1)
/-- a link to the field j of class c, of kind t, of type ty0, final or not -/
def mt_FL (own : String) (idx c j t : Nat) (fin : Bool) (ty0 : FieldType) : Prop := ∃ (C : String) (T : u_T) (N : Nat) (ty : Nat → FieldType), mt_CF c C T N ty ∧ (mt_ft c)[j]? = some t ∧ Cond.fieldLink own idx (T j).1 (T j).2.1 (T j).2.2.1 ∈ mt_tb ∧ (T j).2.2.2 = fin ∧ (T j).1 = C ∧ ty j = ty0
theorem mt_get (hC : mt_Cx B E cc own ret nL d mc ms) {idx c j t k : Nat} {fin : Bool} {ty0 : FieldType} (hF : mt_FL own idx c j t fin ty0) (hk : mt_isK S k c = true) (hd : decode cc pc = .ok (.getfield idx, 3)) (kk : mt_Go B E cs S (pc + 3) lv (mt_fv B.2.2.2 S k j t :: st)) : mt_Go B E cs S pc lv (mt_rf B k :: st) := by
  obtain ⟨l, D, cA, b⟩ := B
  obtain ⟨p, e, R, s, m, args, below, meth, c0, Q, nL'⟩ := E
  obtain ⟨hx, hb, hml, rfl, hown, hts, hK, hbs, hr, hlk, hrf, hrl, hrc, hrs⟩ := hC
  obtain ⟨C, T, N, ty, ⟨h1, h2, h3, h4, h5, h6⟩, ht, hln, hfin, hown2, -⟩ := hF
  intro H locs ls hP hS hl
  exact va_get (D := D) (ci := c) (C := C) (T := T) (N := N) hx hb hts h4 hown hK hP k (mt_at hk (mt_cell_o hk h2)) h1 j (by rw [h3]; exact (List.getElem?_eq_some_iff.mp ht).1) (hts _ hln) (fun _ h9 => h9) (mt_oc_get ht) hd (kk H locs ls hP hS hl)
theorem go_getI (hC : mt_Cx B E cc own ret nL d mc ms) {idx c j k : Nat} {fin : Bool} {ty0 : FieldType} {v : Int32} (hF : mt_FL own idx c j 0 fin ty0) (he : mt_rI S k c j = some v) (hd : decode cc pc = .ok (.getfield idx, 3)) (kk : mt_Go B E cs S (pc + 3) lv (.int v :: st)) : mt_Go B E cs S pc lv (mt_rf B k :: st) := by
  obtain ⟨hk, h2⟩ := mt_gd he
  refine mt_get hC hF hk hd ?_
  rw [show mt_fv B.2.2.2 S k j 0 = .int v by simp [mt_fv, h2]]
  exact kk
theorem go_getL (hC : mt_Cx B E cc own ret nL d mc ms) {idx c j k : Nat} {fin : Bool} {ty0 : FieldType} {v : Int64} (hF : mt_FL own idx c j 1 fin ty0) (he : mt_rL S k c j = some v) (hd : decode cc pc = .ok (.getfield idx, 3)) (kk : mt_Go B E cs S (pc + 3) lv (.long v :: st)) : mt_Go B E cs S pc lv (mt_rf B k :: st) := by
  obtain ⟨hk, h2⟩ := mt_gd he
  refine mt_get hC hF hk hd ?_
  rw [show mt_fv B.2.2.2 S k j 1 = .long v by simp [mt_fv, h2]]
  exact kk
theorem go_getR (hC : mt_Cx B E cc own ret nL d mc ms) {idx c j k : Nat} {fin : Bool} {ty0 : FieldType} {v : Nat} (hF : mt_FL own idx c j 2 fin ty0) (he : mt_rR S k c j = some v) (hd : decode cc pc = .ok (.getfield idx, 3)) (kk : mt_Go B E cs S (pc + 3) lv (mt_rf B v :: st)) : mt_Go B E cs S pc lv (mt_rf B k :: st) := by
  obtain ⟨hk, h2⟩ := mt_gd he
  refine mt_get hC hF hk hd ?_
  rw [show mt_fv B.2.2.2 S k j 2 = mt_rf B v by simp [mt_fv, h2, va_rf]]
  exact kk
theorem go_putI (hC : mt_Cx B E cc own ret nL d mc ms) {idx c j k : Nat} {v : Int32} {S1 : mt_S} (hF : mt_FL own idx c j 0 false .int) (he : mt_wI S k c j v = some S1) (hd : decode cc pc = .ok (.putfield idx, 3)) (kk : mt_Go B E cs S1 (pc + 3) lv st) : mt_Go B E cs S pc lv (.int v :: mt_rf B k :: st) := by
  obtain ⟨hk, h2⟩ := mt_gd he
  cases h2
  obtain ⟨l, D, cA, b⟩ := B
  obtain ⟨p, e, R, s, m, args, below, meth, c0, Q, nL'⟩ := E
  obtain ⟨hx, hb, hml, rfl, hown, hts, hK, hbs, hr, hlk, hrf, hrl, hrc, hrs⟩ := hC
  obtain ⟨C, T, N, ty, ⟨h1, h2, h3, h4, h5, h6⟩, ht, hln, hfin, hown2, hty⟩ := hF
  intro H locs ls hP hS hl
  have hj : j < N := by rw [h3]; exact (List.getElem?_eq_some_iff.mp ht).1
  refine va_put (D := D) (ci := c) (C := C) (T := T) (N := N) (ty := .int) hx hb hts h4 ty h5 h6 hown hK hP (mt_D cA b S) hS k (mt_at hk (mt_cell_o hk h2)) h1 j hj (hts _ hln) (fun _ h9 => h9) hfin (by rw [h5 j hj, hty]) rfl rfl (by rw [mt_oc_len, ← h3]; exact hj) hd (fun H1 locs1 hP1 _ hS1 => ?_)
  rw [mt_set_I hk h2 ht] at hP1
  exact kk H1 locs1 ls hP1 hS1 hl
theorem go_putZ (hC : mt_Cx B E cc own ret nL d mc ms) {idx c j k : Nat} {v : Int32} {S1 : mt_S} (hF : mt_FL own idx c j 0 false .boolean) (he : mt_wI S k c j v = some S1) (hv : v = 0 ∨ v = 1) (hd : decode cc pc = .ok (.putfield idx, 3)) (kk : mt_Go B E cs S1 (pc + 3) lv st) : mt_Go B E cs S pc lv (.int v :: mt_rf B k :: st) := by
  obtain ⟨hk, h2⟩ := mt_gd he
  cases h2
  obtain ⟨l, D, cA, b⟩ := B
  obtain ⟨p, e, R, s, m, args, below, meth, c0, Q, nL'⟩ := E
  obtain ⟨hx, hb, hml, rfl, hown, hts, hK, hbs, hr, hlk, hrf, hrl, hrc, hrs⟩ := hC
  obtain ⟨C, T, N, ty, ⟨h1, h2, h3, h4, h5, h6⟩, ht, hln, hfin, hown2, hty⟩ := hF
  intro H locs ls hP hS hl
  have hj : j < N := by rw [h3]; exact (List.getElem?_eq_some_iff.mp ht).1
  refine va_put (D := D) (ci := c) (C := C) (T := T) (N := N) (ty := .boolean) hx hb hts h4 ty h5 h6 hown hK hP (mt_D cA b S) hS k (mt_at hk (mt_cell_o hk h2)) h1 j hj (hts _ hln) (fun _ h9 => h9) hfin (by rw [h5 j hj, hty]) (by rcases hv with rfl | rfl <;> rfl) (by rcases hv with rfl | rfl <;> rfl) (by rw [mt_oc_len, ← h3]; exact hj) hd (fun H1 locs1 hP1 _ hS1 => ?_)
  rw [mt_set_I hk h2 ht] at hP1
  exact kk H1 locs1 ls hP1 hS1 hl
theorem go_putL (hC : mt_Cx B E cc own ret nL d mc ms) {idx c j k : Nat} {v : Int64} {S1 : mt_S} (hF : mt_FL own idx c j 1 false .long) (he : mt_wL S k c j v = some S1) (hd : decode cc pc = .ok (.putfield idx, 3)) (kk : mt_Go B E cs S1 (pc + 3) lv st) : mt_Go B E cs S pc lv (.long v :: mt_rf B k :: st) := by
  obtain ⟨hk, h2⟩ := mt_gd he
  cases h2
  obtain ⟨l, D, cA, b⟩ := B
  obtain ⟨p, e, R, s, m, args, below, meth, c0, Q, nL'⟩ := E
  obtain ⟨hx, hb, hml, rfl, hown, hts, hK, hbs, hr, hlk, hrf, hrl, hrc, hrs⟩ := hC
  obtain ⟨C, T, N, ty, ⟨h1, h2, h3, h4, h5, h6⟩, ht, hln, hfin, hown2, hty⟩ := hF
  intro H locs ls hP hS hl
  have hj : j < N := by rw [h3]; exact (List.getElem?_eq_some_iff.mp ht).1
  refine va_put (D := D) (ci := c) (C := C) (T := T) (N := N) (ty := .long) hx hb hts h4 ty h5 h6 hown hK hP (mt_D cA b S) hS k (mt_at hk (mt_cell_o hk h2)) h1 j hj (hts _ hln) (fun _ h9 => h9) hfin (by rw [h5 j hj, hty]) rfl rfl (by rw [mt_oc_len, ← h3]; exact hj) hd (fun H1 locs1 hP1 _ hS1 => ?_)
  rw [mt_set_L hk h2 ht] at hP1
  exact kk H1 locs1 ls hP1 hS1 hl
theorem go_putRF {C0 : String} {ty9 : FieldType} (hC : mt_Cx B E cc own ret nL d mc ms) (hN : mt_nm E "<init>") {idx c j k v : Nat} {S1 : mt_S} (hF : mt_FL own idx c j 2 true ty9) (hcl : ∃ T N, vwCl[c]? = some (own, T, N)) (hty9 : narrow ty9 (.ref (B.2.2.2 + v)) = .ref (B.2.2.2 + v) ∧ fits ty9 (.ref (B.2.2.2 + v)) = true) (he : mt_wR S k c j (some v) = some S1) (hd : decode cc pc = .ok (.putfield idx, 3)) (kk : mt_Go B E cs S1 (pc + 3) lv st) : mt_Go B E cs S pc lv (mt_rf B v :: mt_rf B k :: st) := by
  obtain ⟨hk, h2⟩ := mt_gd he
  cases h2
  obtain ⟨l, D, cA, b⟩ := B
  obtain ⟨p, e, R, s, m, args, below, meth, c0, Q, nL'⟩ := E
  obtain ⟨hx, hb, hml, rfl, hown, hts, hK, hbs, hr, hlk, hrf, hrl, hrc, hrs⟩ := hC
  obtain ⟨C, T, N, ty, ⟨h1, h2, h3, h4, h5, h6⟩, ht, hln, hfin, hown2, hty⟩ := hF
  intro H locs ls hP hS hl
  have hj : j < N := by rw [h3]; exact (List.getElem?_eq_some_iff.mp ht).1
  have hCo : C = own := by
    obtain ⟨T', N', h7⟩ := hcl
    rw [h1] at h7
    cases h7; rfl
  refine va_putF (D := D) (ci := c) (C := C) (T := T) (N := N) (ty := ty9) hx hb hts h4 ty h5 h6 hown hK hP (mt_D cA b S) hS k (mt_at hk (mt_cell_o hk h2)) h1 j hj (hts _ hln) (fun _ h9 => h9) hfin hN (by rw [hown2, hCo]) (by rw [h5 j hj, hty]) hty9.1 hty9.2 (by rw [mt_oc_len, ← h3]; exact hj) hd (fun H1 locs1 hP1 _ hS1 => ?_)
  have hP1 : va_P D vwCl ((mt_W cA b S).set k (b + k, .inr (c, (mt_oc b S k c).set j (va_rf ((some v).map (fun a => b + a)))))) H1 := hP1
  rw [mt_set_R hk h2 ht] at hP1
  exact kk H1 locs1 ls hP1 hS1 hl
theorem go_iald (hC : mt_Cx B E cc own ret nL d mc ms) {k : Nat} {i v : Int32} (he : mt_aI S k 13 i = some v) (hd : decode cc pc = .ok (.iaload, 1)) (kk : mt_Go B E cs S (pc + 1) lv (.int v :: st)) : mt_Go B E cs S pc lv (.int i :: mt_rf B k :: st) := by
  obtain ⟨hk, h2⟩ := mt_gd he
  obtain ⟨hi, h3⟩ := mt_gd h2
  obtain ⟨l, D, cA, b⟩ := B
  obtain ⟨p, e, R, s, m, args, below, meth, c0, Q, nL'⟩ := E
  obtain ⟨hx, hb, hml, rfl, hown, hts, hK, hbs, hr, hlk, hrf, hrl, hrc, hrs⟩ := hC
  intro H locs ls hP hS hl
  refine va_iald hx hb hK hP k 1 (mt_at hk (mt_cell_i hk (by decide))) rfl (mt_in_iff.mp hi) hd ?_
  rw [h3]
  exact kk H locs ls hP hS hl
theorem go_bald (hC : mt_Cx B E cc own ret nL d mc ms) {k : Nat} {i v : Int32} (he : mt_aI S k 12 i = some v) (hd : decode cc pc = .ok (.baload, 1)) (kk : mt_Go B E cs S (pc + 1) lv (.int v :: st)) : mt_Go B E cs S pc lv (.int i :: mt_rf B k :: st) := by
  obtain ⟨hk, h2⟩ := mt_gd he
  obtain ⟨hi, h3⟩ := mt_gd h2
  obtain ⟨l, D, cA, b⟩ := B
  obtain ⟨p, e, R, s, m, args, below, meth, c0, Q, nL'⟩ := E
  obtain ⟨hx, hb, hml, rfl, hown, hts, hK, hbs, hr, hlk, hrf, hrl, hrc, hrs⟩ := hC
  intro H locs ls hP hS hl
  refine va_bald hx hb hK hP k 0 (mt_at hk (mt_cell_i hk (by decide))) rfl (mt_in_iff.mp hi) hd ?_
  rw [h3]
  exact kk H locs ls hP hS hl
theorem go_zald (hC : mt_Cx B E cc own ret nL d mc ms) {k : Nat} {i v : Int32} (he : mt_aI S k 15 i = some v) (hd : decode cc pc = .ok (.baload, 1)) (kk : mt_Go B E cs S (pc + 1) lv (.int v :: st)) : mt_Go B E cs S pc lv (.int i :: mt_rf B k :: st) := by
  obtain ⟨hk, h2⟩ := mt_gd he
  obtain ⟨hi, h3⟩ := mt_gd h2
  obtain ⟨l, D, cA, b⟩ := B
  obtain ⟨p, e, R, s, m, args, below, meth, c0, Q, nL'⟩ := E
  obtain ⟨hx, hb, hml, rfl, hown, hts, hK, hbs, hr, hlk, hrf, hrl, hrc, hrs⟩ := hC
  intro H locs ls hP hS hl
  refine va_zald hx hb hK hP k 3 (mt_at hk (mt_cell_i hk (by decide))) rfl (mt_in_iff.mp hi) hd ?_
  rw [h3]
  exact kk H locs ls hP hS hl
theorem go_lald (hC : mt_Cx B E cc own ret nL d mc ms) {k : Nat} {i : Int32} {v : Int64} (he : mt_aL S k i = some v) (hd : decode cc pc = .ok (.laload, 1)) (kk : mt_Go B E cs S (pc + 1) lv (.long v :: st)) : mt_Go B E cs S pc lv (.int i :: mt_rf B k :: st) := by
  obtain ⟨hk, h2⟩ := mt_gd he
  obtain ⟨hi, h3⟩ := mt_gd h2
  obtain ⟨l, D, cA, b⟩ := B
  obtain ⟨p, e, R, s, m, args, below, meth, c0, Q, nL'⟩ := E
  obtain ⟨hx, hb, hml, rfl, hown, hts, hK, hbs, hr, hlk, hrf, hrl, hrc, hrs⟩ := hC
  intro H locs ls hP hS hl
  refine va_lald hx hb hK hP k 2 (mt_at hk (mt_cell_l hk)) rfl (mt_in_iff.mp hi) hd ?_
  rw [h3]
  exact kk H locs ls hP hS hl
theorem go_aald (hC : mt_Cx B E cc own ret nL d mc ms) {k v : Nat} {i : Int32} (he : mt_aR S k i = some v) (hd : decode cc pc = .ok (.aaload, 1)) (kk : mt_Go B E cs S (pc + 1) lv (mt_rf B v :: st)) : mt_Go B E cs S pc lv (.int i :: mt_rf B k :: st) := by
  obtain ⟨hk, h2⟩ := mt_gd he
  obtain ⟨hi, h3⟩ := mt_gd h2
  obtain ⟨l, D, cA, b⟩ := B
  obtain ⟨p, e, R, s, m, args, below, meth, c0, Q, nL'⟩ := E
  obtain ⟨hx, hb, hml, rfl, hown, hts, hK, hbs, hr, hlk, hrf, hrl, hrc, hrs⟩ := hC
  intro H locs ls hP hS hl
  refine va_aldq hx hb hK hP k 4 (C := "MarkovTree$State") (mt_at hk (mt_cell_q hk)) rfl (mt_in_iff.mp hi) hd ?_
  rw [h3]
  exact kk H locs ls hP hS hl
theorem go_iast (hC : mt_Cx B E cc own ret nL d mc ms) {k : Nat} {i v : Int32} {S1 : mt_S} (he : mt_sI S k 13 i (v) = some S1) (hd : decode cc pc = .ok (.iastore, 1)) (kk : mt_Go B E cs S1 (pc + 1) lv st) : mt_Go B E cs S pc lv (.int v :: .int i :: mt_rf B k :: st) := by
  obtain ⟨hk, h2⟩ := mt_gd he
  obtain ⟨hi, h3⟩ := mt_gd h2
  cases h3
  obtain ⟨l, D, cA, b⟩ := B
  obtain ⟨p, e, R, s, m, args, below, meth, c0, Q, nL'⟩ := E
  obtain ⟨hx, hb, hml, rfl, hown, hts, hK, hbs, hr, hlk, hrf, hrl, hrc, hrs⟩ := hC
  intro H locs ls hP hS hl
  refine va_iast hx hb hK hP (mt_D cA b S) hS k 1 (mt_at hk (mt_cell_i hk (by decide))) rfl (mt_in_iff.mp hi) hd (fun H1 locs1 hP1 _ hS1 => ?_)
  rw [mt_set_aI hk (by decide)] at hP1
  exact kk H1 locs1 ls hP1 hS1 hl
theorem go_bast (hC : mt_Cx B E cc own ret nL d mc ms) {k : Nat} {i v : Int32} {S1 : mt_S} (he : mt_sI S k 12 i (vp_nar .byte v) = some S1) (hd : decode cc pc = .ok (.bastore, 1)) (kk : mt_Go B E cs S1 (pc + 1) lv st) : mt_Go B E cs S pc lv (.int v :: .int i :: mt_rf B k :: st) := by
  obtain ⟨hk, h2⟩ := mt_gd he
  obtain ⟨hi, h3⟩ := mt_gd h2
  cases h3
  obtain ⟨l, D, cA, b⟩ := B
  obtain ⟨p, e, R, s, m, args, below, meth, c0, Q, nL'⟩ := E
  obtain ⟨hx, hb, hml, rfl, hown, hts, hK, hbs, hr, hlk, hrf, hrl, hrc, hrs⟩ := hC
  intro H locs ls hP hS hl
  refine va_bast hx hb hK hP (mt_D cA b S) hS k 0 (mt_at hk (mt_cell_i hk (by decide))) rfl (mt_in_iff.mp hi) hd (fun H1 locs1 hP1 _ hS1 => ?_)
  rw [mt_set_aI hk (by decide)] at hP1
  exact kk H1 locs1 ls hP1 hS1 hl
theorem go_zast (hC : mt_Cx B E cc own ret nL d mc ms) {k : Nat} {i v : Int32} {S1 : mt_S} (he : mt_sI S k 15 i (vp_nar .boolean v) = some S1) (hd : decode cc pc = .ok (.bastore, 1)) (kk : mt_Go B E cs S1 (pc + 1) lv st) : mt_Go B E cs S pc lv (.int v :: .int i :: mt_rf B k :: st) := by
  obtain ⟨hk, h2⟩ := mt_gd he
  obtain ⟨hi, h3⟩ := mt_gd h2
  cases h3
  obtain ⟨l, D, cA, b⟩ := B
  obtain ⟨p, e, R, s, m, args, below, meth, c0, Q, nL'⟩ := E
  obtain ⟨hx, hb, hml, rfl, hown, hts, hK, hbs, hr, hlk, hrf, hrl, hrc, hrs⟩ := hC
  intro H locs ls hP hS hl
  refine va_zast hx hb hK hP (mt_D cA b S) hS k 3 (mt_at hk (mt_cell_i hk (by decide))) rfl (mt_in_iff.mp hi) hd (fun H1 locs1 hP1 _ hS1 => ?_)
  rw [mt_set_aI hk (by decide)] at hP1
  exact kk H1 locs1 ls hP1 hS1 hl
theorem go_last (hC : mt_Cx B E cc own ret nL d mc ms) {k : Nat} {i : Int32} {v : Int64} {S1 : mt_S} (he : mt_sL S k i v = some S1) (hd : decode cc pc = .ok (.lastore, 1)) (kk : mt_Go B E cs S1 (pc + 1) lv st) : mt_Go B E cs S pc lv (.long v :: .int i :: mt_rf B k :: st) := by
  obtain ⟨hk, h2⟩ := mt_gd he
  obtain ⟨hi, h3⟩ := mt_gd h2
  cases h3
  obtain ⟨l, D, cA, b⟩ := B
  obtain ⟨p, e, R, s, m, args, below, meth, c0, Q, nL'⟩ := E
  obtain ⟨hx, hb, hml, rfl, hown, hts, hK, hbs, hr, hlk, hrf, hrl, hrc, hrs⟩ := hC
  intro H locs ls hP hS hl
  refine va_last hx hb hK hP (mt_D cA b S) hS k 2 (mt_at hk (mt_cell_l hk)) rfl (mt_in_iff.mp hi) hd (fun H1 locs1 hP1 _ hS1 => ?_)
  rw [mt_set_aL hk] at hP1
  exact kk H1 locs1 ls hP1 hS1 hl
/-- behind a call -/
theorem mt_after {p : Program} {l : Launch} {e : Env} {R : Room} {s : State} {m : MethodId} {args : Array Value} {below : List Frame} {meth : Method} {c : Code} {H : Heap} {locs : List Loc} {cells slots mc1 ms1 : Nat} {Q : State → Prop} {D : va_G} {cA : Nat → ClassId} {b : Nat} {ls : Array Slot} {st0 rest : List Value} {a : Array Value} {rv : Option Value} {S1 : mt_S}
    (hr : va_Run p l e R s m args below meth c H locs cells slots mc1 ms1 (F0 m pc ls st0) rest (mt_Q (l, D, cA, b) rv S1 a) (fun q => b ≤ q)) (hS : va_S (fun q => b ≤ q) s.heap H locs)
    (kk : ∀ (H1 : Heap) (locs1 : List Loc), va_P D vwCl (mt_W cA b S1) H1 → va_S (fun q => b ≤ q) s.heap H1 locs1 → W p l e R s m args below meth c H1 locs1 (cells + mc1) (slots + ms1) Q (F0 m (pc + 3) ls (rv.toList ++ rest))) : W p l e R s m args below meth c H locs cells slots Q (F0 m pc ls st0) := by
  intro T hT X
  obtain ⟨v, st₀, t, T', L, h0, X', hL, e1, e2, ⟨hv, hP1, hz, hk⟩, st⟩ := hr T hT X
  cases hv
  rw [h0] at hz hk
  obtain ⟨t2, a1, b1⟩ := kk T'.heap (locs ++ L) (by rw [e1]; exact hP1)
    ⟨Nat.le_trans hS.1 (by rw [e1]; exact hz), fun q h1 h2 => by rw [e1, hk q (Nat.lt_of_lt_of_le h1 hS.1) h2]; exact hS.2.1 q h1 h2, fun q hq => by
      rcases List.mem_append.mp hq with h | h
      · exact hS.2.2 q h
      · exact hL q h⟩ T' rfl X'
  exact ⟨t2, st t2 a1, b1⟩
/-- a method that is called by name: its code, its descriptor -/
def mt_CB (own : String) (idx : Nat) (y : MethodName) (bytes : ByteArray) (maxL : Nat) (ret' : Option FieldType) (n : Nat) : Prop := Cond.methodLink own idx y ∈ mt_tb ∧ Cond.code y bytes maxL ret' ∈ mt_tb ∧ Cond.initialized y.cls ∈ mt_tb ∧ maxL ≤ 45 ∧ y.cls ≠ "java/lang/invoke/MethodHandle" ∧ y.cls ≠ "java/lang/invoke/VarHandle" ∧ (parseMethodDescriptor y.desc).map (fun d => d.parameters.length) = some n
def mt_CV (own : String) (idx : Nat) (y : MethodName) (bytes : ByteArray) (maxL : Nat) (ret' : Option FieldType) (n ci : Nat) : Prop := mt_CB own idx y bytes maxL ret' n ∧ Cond.instanceMethod y ∈ mt_tb ∧ Cond.selects y.cls y y ∈ mt_tb ∧ ci < 12 ∧ ∃ q, vwCl[ci]? = some q ∧ q.1 = y.cls
def mt_CS (own : String) (idx : Nat) (y : MethodName) (bytes : ByteArray) (maxL : Nat) (ret' : Option FieldType) (n : Nat) : Prop := mt_CB own idx y bytes maxL ret' n ∧ Cond.static y ∈ mt_tb
def mt_CI (own : String) (idx : Nat) (y : MethodName) (bytes : ByteArray) (maxL : Nat) (n : Nat) : Prop := mt_CB own idx y bytes maxL none n ∧ y.name = "<init>" ∧ Cond.instanceMethod y ∈ mt_tb
theorem mt_callB {R : Room} {s : State} {args : Array Value} {idx maxL n d' mc' ms' : Nat} {y : MethodName} {bytes : ByteArray} {ret' : Option FieldType} (hts : ∀ w ∈ mt_tb, w.before args s = true) (h : mt_CB own idx y bytes maxL ret' n) (hd : d' + 1 ≤ d) (hrf : d ≤ R.frames) (hrl : 64 * d ≤ R.locals) : CallB R s args own idx y bytes maxL ret' (.code y bytes maxL ret' :: mt_tb) (mt_R d' mc' ms') mc' ms' n := by
  obtain ⟨h1, h2, h3, h4, h5, h6, h7⟩ := h
  refine ⟨rfl, rfl, by show d' + 1 ≤ R.frames; omega, by show 8 + (maxL + 11) + 64 * d' ≤ R.locals; omega, pay_in hts (mt_goodIn h2), List.mem_cons_self, hts _ h2, hts _ h3, ⟨h5, h6⟩, fun sig h => ?_, hts _ h1⟩
  rw [h] at h7
  exact (Option.some.inj h7).symm
theorem go_callV (hC : mt_Cx B E cc own ret nL d mc ms) {y : MethodName} {bytes : ByteArray} {maxL n ci k idx d' : Nat} {ret' : Option FieldType} {As rest : List Value} {rv : Option Value} {S1 : mt_S} (hM : mt_M B y bytes maxL ret' d' (mt_rf B k :: As) S rv S1) (hq : mt_CV own idx y bytes maxL ret' n ci) (hk : mt_isK S k ci = true) (hst : st = As.reverse ++ mt_rf B k :: rest) (hn : As.length = n) (hdd : d' + 1 ≤ d) (hw : (rest.map fun v => v.category).sum ≤ 8) (hd : decode cc pc = .ok (.invokevirtual idx, 3)) (hcs : cs.1 ≤ mc ∧ cs.2 ≤ ms) (kk : mt_Go B E cs S1 (pc + 3) lv (rv.toList ++ rest)) : mt_Go B E cs S pc lv st := by
  subst hst
  obtain ⟨l, D, cA, b⟩ := B
  obtain ⟨p, e, R, s, m, args, below, meth, c0, Q, nL'⟩ := E
  obtain ⟨hx, hb, hml, rfl, hown, hts, hK, hbs, hr, hlk, hrf, hrl, hrc, hrs⟩ := hC
  obtain ⟨h1, h2, h3, h4, q, h5, h6⟩ := hq
  intro H locs ls hP hS hl
  have hcw : CallW R s args own y.cls idx y bytes maxL ret' (.code y bytes maxL ret' :: mt_tb) (mt_R d' 0 0) 0 0 n := ⟨mt_callB hts h1 hdd hrf hrl, hts _ h2, hts _ h3⟩
  have hrec := va_recv hK hP h5 (mt_at hk (mt_cell_o hk h4))
  rw [h6] at hrec
  refine mt_after (mc1 := 0) (ms1 := 0) (va_runV (As := As) (rest := rest) (C := y.cls) (b := b + k) ⟨hx, hb, hml, hown, hts⟩ hM hcw ⟨mt_Bd_blind, hrec, fun U hU hW => ⟨rfl, by rw [hU]; exact Nat.le_trans hbs hS.1, by rw [hU]; exact hP, va_K.moved hW.alike hK⟩⟩ rfl hn hl.1 rfl (lv_room hw) hd ⟨by omega, by omega⟩) hS (fun H1 locs1 hP1 hS1 => ?_)
  exact kk H1 locs1 ls hP1 hS1 hl
theorem go_callS (hC : mt_Cx B E cc own ret nL d mc ms) {y : MethodName} {bytes : ByteArray} {maxL n idx d' : Nat} {ret' : Option FieldType} {As rest : List Value} {rv : Option Value} {S1 : mt_S} (hM : mt_M B y bytes maxL ret' d' As S rv S1) (hq : mt_CS own idx y bytes maxL ret' n) (hst : st = As.reverse ++ rest) (hn : As.length = n) (hdd : d' + 1 ≤ d) (hw : (rest.map fun v => v.category).sum ≤ 8) (hd : decode cc pc = .ok (.invokestatic idx, 3)) (hcs : cs.1 ≤ mc ∧ cs.2 ≤ ms) (kk : mt_Go B E cs S1 (pc + 3) lv (rv.toList ++ rest)) : mt_Go B E cs S pc lv st := by
  subst hst
  obtain ⟨l, D, cA, b⟩ := B
  obtain ⟨p, e, R, s, m, args, below, meth, c0, Q, nL'⟩ := E
  obtain ⟨hx, hb, hml, rfl, hown, hts, hK, hbs, hr, hlk, hrf, hrl, hrc, hrs⟩ := hC
  intro H locs ls hP hS hl
  have hcw : CallB R s args own idx y bytes maxL ret' (.code y bytes maxL ret' :: mt_tb) (mt_R d' 0 0) 0 0 n := mt_callB hts hq.1 hdd hrf hrl
  refine mt_after (mc1 := 0) (ms1 := 0) (va_runS (As := As) (rest := rest) ⟨hx, hb, hml, hown, hts⟩ hM ⟨hcw, hts _ hq.2⟩ ⟨mt_Bd_blind, fun U hU hW => ⟨rfl, by rw [hU]; exact Nat.le_trans hbs hS.1, by rw [hU]; exact hP, va_K.moved hW.alike hK⟩⟩ rfl hn hl.1 rfl (lv_room hw) hd ⟨by omega, by omega⟩) hS (fun H1 locs1 hP1 hS1 => ?_)
  exact kk H1 locs1 ls hP1 hS1 hl
theorem go_mmin (hC : mt_Cx B E cc own ret nL d mc ms) {x y : Int32} {idx : Nat} (h1 : Cond.methodLink own idx Lib.Math.min.name ∈ mt_tb) (h2 : Cond.static Lib.Math.min.name ∈ mt_tb) (h3 : Cond.initialized "java/lang/Math" ∈ mt_tb) (h4 : Cond.code Lib.Math.min.name Lib.Math.min.code 2 (some .int) ∈ mt_tb) (hdd : 1 ≤ d) (hw : (st.map fun v => v.category).sum ≤ 8) (hcs : cs.1 ≤ mc ∧ cs.2 ≤ ms) (hd : decode cc pc = .ok (.invokestatic idx, 3)) (kk : mt_Go B E cs S (pc + 3) lv (.int (if y < x then y else x) :: st)) : mt_Go B E cs S pc lv (.int y :: .int x :: st) := by
  obtain ⟨l, D, cA, b⟩ := B
  obtain ⟨p, e, R, s, m, args, below, meth, c0, Q, nL'⟩ := E
  obtain ⟨hx, hb, hml, rfl, hown, hts, hK, hbs, hr, hlk, hrf, hrl, hrc, hrs⟩ := hC
  intro H locs ls hP hS hl
  exact va_mmin hx hb (by rw [hml]; exact hl.1.symm) hown (hts _ h1) (hts _ h2) (hts _ h3) (hts _ h4) (by omega) (by omega) (by omega) (by omega) hd (kk H locs ls hP hS hl)
theorem go_lmin (hC : mt_Cx B E cc own ret nL d mc ms) {x y : Int64} {idx : Nat} (h1 : Cond.methodLink own idx Lib.MathLoose.min_long.x ∈ mt_tb) (h2 : Cond.static Lib.MathLoose.min_long.x ∈ mt_tb) (h3 : Cond.initialized "java/lang/Math" ∈ mt_tb) (h4 : Cond.code Lib.MathLoose.min_long.x Lib.MathLoose.min_long.code 4 (some .long) ∈ mt_tb) (hdd : 1 ≤ d) (hw : (st.map fun v => v.category).sum ≤ 8) (hcs : cs.1 ≤ mc ∧ cs.2 ≤ ms) (hd : decode cc pc = .ok (.invokestatic idx, 3)) (kk : mt_Go B E cs S (pc + 3) lv (.long (if y < x then y else x) :: st)) : mt_Go B E cs S pc lv (.long y :: .long x :: st) := by
  obtain ⟨l, D, cA, b⟩ := B
  obtain ⟨p, e, R, s, m, args, below, meth, c0, Q, nL'⟩ := E
  obtain ⟨hx, hb, hml, rfl, hown, hts, hK, hbs, hr, hlk, hrf, hrl, hrc, hrs⟩ := hC
  intro H locs ls hP hS hl
  exact va_mmin_long hx hb (by rw [hml]; exact hl.1.symm) hown (hts _ h1) (hts _ h2) (hts _ h3) (hts _ h4) (by omega) (by omega) (by omega) (by omega) hd (kk H locs ls hP hS hl)
theorem go_labs (hC : mt_Cx B E cc own ret nL d mc ms) {x : Int64} {idx : Nat} (h1 : Cond.methodLink own idx Lib.MathLoose.abs_long.x ∈ mt_tb) (h2 : Cond.static Lib.MathLoose.abs_long.x ∈ mt_tb) (h3 : Cond.initialized "java/lang/Math" ∈ mt_tb) (h4 : Cond.code Lib.MathLoose.abs_long.x Lib.MathLoose.abs_long.code 2 (some .long) ∈ mt_tb) (hdd : 1 ≤ d) (hw : (st.map fun v => v.category).sum ≤ 8) (hcs : cs.1 ≤ mc ∧ cs.2 ≤ ms) (hd : decode cc pc = .ok (.invokestatic idx, 3)) (kk : mt_Go B E cs S (pc + 3) lv (.long (if 0 < x then x else -x) :: st)) : mt_Go B E cs S pc lv (.long x :: st) := by
  obtain ⟨l, D, cA, b⟩ := B
  obtain ⟨p, e, R, s, m, args, below, meth, c0, Q, nL'⟩ := E
  obtain ⟨hx, hb, hml, rfl, hown, hts, hK, hbs, hr, hlk, hrf, hrl, hrc, hrs⟩ := hC
  intro H locs ls hP hS hl
  exact va_mabs_long hx hb (by rw [hml]; exact hl.1.symm) hown (hts _ h1) (hts _ h2) (hts _ h3) (hts _ h4) (by omega) (by omega) (by omega) (by omega) hd (kk H locs ls hP hS hl)
theorem go_f2ib (hC : mt_Cx B E cc own ret nL d mc ms) {x : UInt32} {idx : Nat} (h1 : Cond.methodLink own idx ⟨"java/lang/Float", "floatToRawIntBits", "(F)I"⟩ ∈ mt_tb) (h2 : Cond.native ⟨"java/lang/Float", "floatToRawIntBits", "(F)I"⟩ ∈ mt_tb) (h3 : Cond.static ⟨"java/lang/Float", "floatToRawIntBits", "(F)I"⟩ ∈ mt_tb) (h4 : Cond.initialized "java/lang/Float" ∈ mt_tb) (hdd : 1 ≤ d) (hw : (st.map fun v => v.category).sum ≤ 8) (hd : decode cc pc = .ok (.invokestatic idx, 3)) (kk : mt_Go B E cs S (pc + 3) lv (.int x.toInt32 :: st)) : mt_Go B E cs S pc lv (.float x :: st) := by
  obtain ⟨l, D, cA, b⟩ := B
  obtain ⟨p, e, R, s, m, args, below, meth, c0, Q, nL'⟩ := E
  obtain ⟨hx, hb, hml, rfl, hown, hts, hK, hbs, hr, hlk, hrf, hrl, hrc, hrs⟩ := hC
  intro H locs ls hP hS hl
  exact vn_f2i hx hb (by rw [hml]; exact hl.1.symm) hown (hts _ h1) (hts _ h2) (hts _ h3) (hts _ h4) (by omega) (by omega) hd (kk H locs ls hP hS hl)
end mtGo
