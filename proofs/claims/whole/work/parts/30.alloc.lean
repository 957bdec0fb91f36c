/-! cells that are made -/
def mt_new {β : Type} (S : mt_S) (kd ln : Nat) (g : Nat → mt_S → Option β) : Option β := g S.1 (mt_al S kd ln)
theorem mt_W_al (cA : Nat → ClassId) (b : Nat) (S : mt_S) (kd ln : Nat) : mt_W cA b (mt_al S kd ln) = mt_W cA b S ++ [(b + S.1, mt_cell cA b (mt_al S kd ln) S.1)] := by
  have h1 : mt_W cA b (mt_al S kd ln) = (List.range (S.1 + 1)).map (fun k => (b + k, mt_cell cA b (mt_al S kd ln) k)) := rfl
  rw [h1, List.range_succ, List.map_append]
  congr 1
  apply List.map_congr_left
  intro k hk
  have hne : k ≠ S.1 := by have := List.mem_range.mp hk; omega
  rw [mt_cell_ne (S := S) (S' := mt_al S kd ln) (va_up_ne _ _ hne) (va_up_ne _ _ hne) (va_up_ne _ _ hne) (va_up_ne _ _ hne)]
/-- the fields of a new object -/
def mt_dv (c : Nat) : List Value := (mt_ft c).map (fun t => if t = 0 then .int 0 else if t = 1 then .long 0 else .null)
theorem mt_al_oc (b : Nat) (S : mt_S) (c N : Nat) : mt_oc b (mt_al S c N) S.1 c = mt_dv c := by
  apply List.ext_getElem?
  intro i
  cases hi : (mt_ft c)[i]? with
  | none =>
    have hl : (mt_ft c).length ≤ i := List.getElem?_eq_none_iff.mp hi
    rw [List.getElem?_eq_none (by rw [mt_oc_len]; exact hl), List.getElem?_eq_none (by rw [mt_dv, List.length_map]; exact hl)]
  | some t =>
    rw [mt_oc_get hi, mt_dv, List.getElem?_map, hi]
    simp only [mt_fv, mt_gI, mt_gL, mt_gR, mt_al, va_up_self]
    by_cases h0 : t = 0
    · simp [h0]
    · by_cases h1 : t = 1
      · simp [h1]
      · simp [h0, h1, va_rf]
theorem mt_size {D : va_G} {cA : Nat → ClassId} {b n0 c1 : Nat} {S : mt_S} {H0 H : Heap} {locs : List Loc} (hP : va_P D vwCl (mt_W cA b S) H) (hS : va_S (fun q => b ≤ q) H0 H locs) (hX : H0.size = b + n0) (hn : n0 + c1 = S.1) (hu : H.size ≤ H0.size + c1) : H.size = b + S.1 := by
  have h1 : b + S.1 ≤ H.size := by
    by_cases h0 : S.1 = 0
    · have := hS.1
      omega
    · have h2 := (hP (S.1 - 1) _ (mt_W_get (by omega))).lt
      simp only at h2
      omega
  omega
def mt_BdB (B : mt_B) (S : mt_S) (U : State) : Prop := mt_Bd B S U ∧ U.heap.size = B.2.2.2 + S.1 ∧ va_AO "MarkovTree$State" U
/-- a contract of a constructor -/
def mt_MB (B : mt_B) (y : MethodName) (cc : ByteArray) (nL : Nat) (d mc ms : Nat) (vs : List Value) (S : mt_S) (S' : mt_S) : Prop :=
  Met B.1 y (.code y cc nL none :: mt_tb) (mt_R d mc ms) (va_Pc vs (mt_BdB B S)) (mt_Q B none S') mc ms (fun q => B.2.2.2 ≤ q)
def mt_ao (E : mt_E) : Prop := match E with
  | (_, _, _, s, _, _, _, _, _, _, _) => va_AO "MarkovTree$State" s
theorem mt_BdB_blind {B : mt_B} {vs : List Value} {S : mt_S} : FrameBlind (va_Pc vs (mt_BdB B S)) := by
  obtain ⟨l, D, cA, b⟩ := B
  intro a U g mk q
  obtain ⟨q0, ⟨q1, qP, qK⟩, qz, qa⟩ := q
  exact ⟨q0, ⟨q1, qP, va_K.moved (u := U) (U := U.calling g mk a) (Vm.Alike.refl U.vm) qK⟩, qz, va_AO.moved (u := U) (U := U.calling g mk a) (Vm.Alike.refl U.vm) qa⟩
theorem mt_MB.of {B : mt_B} {y : MethodName} {cc : ByteArray} {nL : Nat} {d mc ms : Nat} {vs : List Value} {S : mt_S} {S' : mt_S} (hy : plainName y.cls = true) (hlen : (lg_sl vs).length ≤ nL)
    (body : ∀ E : mt_E, mt_Cx B E cc y.cls none nL d mc ms → mt_nm E y.name → mt_X B E S.1 → mt_ao E → mt_End B E (mc, ms) none S' → mt_Go B E (0, 0) S 0 (lv_args 0 vs) []) : mt_MB B y cc nL d mc ms vs S S' := by
  obtain ⟨l, D, cA, b⟩ := B
  refine Met.ofW (cc := cc) (maxL := nL) (ret := none) hy rfl ?_
  intro p e s m args below meth c s₁ Bd hml hv
  obtain ⟨rfl, ⟨hb1, hP, hK⟩, hz, ha⟩ := hv
  have hts := atoms_spec (ws := .code y cc nL none :: mt_tb) Bd.pre
  have hown : s.vm.findClass y.cls = some m.cls := findClass_of_methodNamed Bd.named
  rw [lg_entry_eq]
  exact body (p, e, mt_R d mc ms, s, m, vs.toArray, below, meth, c, _, nL) ⟨Bd.exec, Bd.bytes, hml, rfl, hown, fun w hw => hts w (List.mem_cons_of_mem _ hw), hK, hb1, Bd.returns, Bd.notSynchronized, Nat.le_refl _, Nat.le_refl _, Nat.le_refl _, Nat.le_refl _⟩ (name_of_methodNamed Bd.named Bd.method).1 hz ha rfl s.heap [] _ hP va_S.rf (lv_entry vs hlen)
theorem mt_wI_n {S S1 : mt_S} {k c j : Nat} {v : Int32} (h : mt_wI S k c j v = some S1) : S1.1 = S.1 := by obtain ⟨-, h⟩ := mt_gd h; cases h; rfl
theorem mt_wL_n {S S1 : mt_S} {k c j : Nat} {v : Int64} (h : mt_wL S k c j v = some S1) : S1.1 = S.1 := by obtain ⟨-, h⟩ := mt_gd h; cases h; rfl
theorem mt_wR_n {S S1 : mt_S} {k c j : Nat} {v : Option Nat} (h : mt_wR S k c j v = some S1) : S1.1 = S.1 := by obtain ⟨-, h⟩ := mt_gd h; cases h; rfl
theorem mt_sI_n {S S1 : mt_S} {k c : Nat} {i v : Int32} (h : mt_sI S k c i v = some S1) : S1.1 = S.1 := by obtain ⟨-, h⟩ := mt_gd h; obtain ⟨-, h⟩ := mt_gd h; cases h; rfl
theorem mt_sR_n {S S1 : mt_S} {k : Nat} {i : Int32} {v : Option Nat} (h : mt_sR S k i v = some S1) : S1.1 = S.1 := by obtain ⟨-, h⟩ := mt_gd h; obtain ⟨-, h⟩ := mt_gd h; cases h; rfl
theorem mt_set_aR {cA : Nat → ClassId} {b : Nat} {S : mt_S} {k j v : Nat} (h : mt_isK S k 16 = true) : (mt_W cA b S).set k (b + k, .inl (cA 16, mt_ln S k, .inr (.inr (.inr (.inr (va_up (fun j => (mt_gR S k j).map (fun a => b + a)) j (some (b + v)))))))) = mt_W cA b (mt_pR S k j (some v)) := by
  have h' : mt_isK (mt_pR S k j (some v)) k 16 = true := h
  rw [← mt_W_set (S := S) (S' := mt_pR S k j (some v)) (k := k) rfl (fun a ha => mt_cell_pR ha), mt_cell_q h']
  have e : (fun i => (mt_gR (mt_pR S k j (some v)) k i).map (fun a => b + a)) = va_up (fun i => (mt_gR S k i).map (fun a => b + a)) j (some (b + v)) := by
    funext i
    by_cases hi : i = j <;> simp [mt_gR, mt_pR, mt_u2, va_up, hi]
  rw [e]; rfl
section mtAl
variable {B : mt_B} {E : mt_E} {cs : Nat × Nat} {S : mt_S} {pc : Nat} {lv : List (Nat × Value)} {st : List Value} {cc : ByteArray} {own : String} {ret : Option FieldType} {nL d mc ms : Nat}
theorem go_objInit (hC : mt_Cx B E cc own ret nL d mc ms) {idx k : Nat} (h1 : Cond.methodLink own idx Lib.objectInit ∈ mt_tb) (h2 : Cond.instanceMethod Lib.objectInit ∈ mt_tb) (h3 : Cond.code Lib.objectInit ⟨#[0xb1]⟩ 1 none ∈ mt_tb) (hdd : 1 ≤ d) (hw : (st.map fun v => v.category).sum ≤ 8) (hd : decode cc pc = .ok (.invokespecial idx, 3)) (k1 : mt_Go B E cs S (pc + 3) lv st) : mt_Go B E cs S pc lv (mt_rf B k :: st) := by
  obtain ⟨l, D, cA, b⟩ := B
  obtain ⟨p, e, R, s, m, args, below, meth, c0, Q, nL'⟩ := E
  obtain ⟨hx, hb, hml, rfl, hown, hts, hK, hbs, hr, hlk, hrf, hrl, hrc, hrs⟩ := hC
  intro H locs ls hP hS hl
  refine W.objInit hx hb hown (hts _ h1) (hts _ h2) (hts _ h3) rfl (by rw [hml]; exact hl.1) rfl hd (by omega) (by have := lv_room (m := m) (pc := pc) (ls := ls) (rest := mt_rf (l, D, cA, b) k :: st) hw; omega) ?_
  exact k1 H locs ls hP hS hl
theorem go_new (hC : mt_Cx B E cc own ret nL d mc ms) {n0 : Nat} (hX : mt_X B E n0) {cs1 : Nat × Nat} {idx ci N : Nat} {C : String} {T : u_T} {ty : Nat → FieldType} (hF : mt_CF ci C T N ty) (hdv : ∀ j, j < N → defaultValue (ty j) = vp_V (mt_dv ci) j) (h1 : Cond.classLink own idx C ∈ mt_tb) (h2 : Cond.instantiable C N ∈ mt_tb) (h3 : Cond.initialized C ∈ mt_tb) (hn : n0 + cs.1 = S.1) (hcs : cs1 = (cs.1 + 1, cs.2 + N)) (hrm : cs.1 + 1 ≤ mc ∧ cs.2 + N ≤ ms) (hd : decode cc pc = .ok (.new idx, 3)) (k : mt_Go B E cs1 (mt_al S ci N) (pc + 3) lv (mt_rf B S.1 :: st)) : mt_Go B E cs S pc lv st := by
  subst hcs
  obtain ⟨l, D, cA, b⟩ := B
  obtain ⟨p, e, R, s, m, args, below, meth, c0, Q, nL'⟩ := E
  obtain ⟨hx, hb, hml, rfl, hown, hts, hK, hbs, hr, hlk, hrf, hrl, hrc, hrs⟩ := hC
  obtain ⟨f1, f2, f3, f4, f5, f6⟩ := hF
  intro H locs ls hP hS hl
  intro T0 hT X
  have hsz : H.size = b + S.1 := mt_size hP hS hX hn (by rw [← hT]; exact X.heapSize)
  have hKn := hK.1 ci _ f1
  suffices key : W p l e R s m args below meth c0 H locs cs.1 cs.2 Q (F0 m pc ls st) from key T0 hT X
  refine W.newcK (n := N) hx hb hown (hts _ h1) (hts _ h2) (hts _ h3) rfl hd (by omega) (by omega) hKn.2.1 hsz (fun H1 kC hkC e1 z1 o1 => ?_)
  refine k H1 locs ls ?_ ⟨by have := hS.1; omega, fun x h1 h2 => (o1 x (by have := hS.1; omega)).trans (hS.2.1 x h1 h2), hS.2.2⟩ hl
  rw [mt_W_al]
  refine va_P.app (hP.kept fun k x hx => o1 x.1 (by rw [← hsz]; exact (hP k x hx).lt)) (fun k x hx => ?_)
  have hz : k < 1 := (List.getElem?_eq_some_iff.mp hx).1
  rw [show k = 0 by omega] at hx
  have hx : some (b + S.1, mt_cell cA b (mt_al S ci N) S.1) = some x := hx
  obtain rfl := Option.some.inj hx
  have hk : mt_isK (mt_al S ci N) S.1 ci = true := mt_isK_iff.mpr ⟨Nat.lt_succ_self _, by simp [mt_kd, mt_al, va_up_self]⟩
  rw [mt_cell_o hk f2, mt_al_oc]
  exact ⟨_, f1, (u_born ty hts f4 hKn hkC e1 f5).to hdv⟩
theorem go_newa_int (hC : mt_Cx B E cc own ret nL d mc ms) {n0 : Nat} (hX : mt_X B E n0) {cs1 : Nat × Nat} {n : Int32} {N : Nat} (h1 : Cond.arrayClass .int ∈ mt_tb) (h0 : ¬ n < 0) (hN : n.toNatClampNeg = N) (hby : N ≤ 65536) (hn : n0 + cs.1 = S.1) (hcs : cs1 = (cs.1 + 1, cs.2 + N)) (hrm : cs.1 + 1 ≤ mc ∧ cs.2 + N ≤ ms) (hd : decode cc pc = .ok (.newarray .int, 2)) (k : mt_Go B E cs1 (mt_al S 13 N) (pc + 2) lv (mt_rf B S.1 :: st)) : mt_Go B E cs S pc lv (.int n :: st) := by
  subst hcs
  obtain ⟨l, D, cA, b⟩ := B
  obtain ⟨p, e, R, s, m, args, below, meth, c0, Q, nL'⟩ := E
  obtain ⟨hx, hb, hml, rfl, hown, hts, hK, hbs, hr, hlk, hrf, hrl, hrc, hrs⟩ := hC
  intro H locs ls hP hS hl
  intro T0 hT X
  have hsz : H.size = b + S.1 := mt_size hP hS hX hn (by rw [← hT]; exact X.heapSize)
  suffices key : W p l e R s m args below meth c0 H locs cs.1 cs.2 Q (F0 m pc ls (.int n :: st)) from key T0 hT X
  refine va_newaK (N := N) (atype := .int) hx hb (hts _ h1) rfl hd rfl h0 hN (by show N * componentBytes .int ≤ _; simp only [componentBytes]; omega) (by omega) (by omega) hsz (fun H1 cA' e1 z1 o1 hAr hNm => ?_)
  have hcA : cA' = cA 13 := Option.some.inj (hNm.symm.trans (hK.2 1 _ rfl).2)
  subst hcA
  refine k H1 locs ls ?_ ⟨by have := hS.1; omega, fun x h1 h2 => (o1 x (by have := hS.1; omega)).trans (hS.2.1 x h1 h2), hS.2.2⟩ hl
  rw [mt_W_al]
  refine va_P.app (hP.kept fun k x hx => o1 x.1 (by rw [← hsz]; exact (hP k x hx).lt)) (fun k x hx => ?_)
  have hz : k < 1 := (List.getElem?_eq_some_iff.mp hx).1
  rw [show k = 0 by omega] at hx
  have hx : some (b + S.1, mt_cell cA b (mt_al S 13 N) S.1) = some x := hx
  obtain rfl := Option.some.inj hx
  have hk : mt_isK (mt_al S 13 N) S.1 13 = true := mt_isK_iff.mpr ⟨Nat.lt_succ_self _, by simp [mt_kd, mt_al, va_up_self]⟩
  rw [mt_cell_i hk (by decide)]
  show H1[b + S.1]? = some (vp_cell _ _)
  have hln : mt_ln (mt_al S 13 N) S.1 = N := by simp [mt_ln, mt_al, va_up_self]
  rw [hln, e1]
  simp [vp_cell, mt_gI, mt_gL, mt_al, va_up_self, defaultValue, newarray.typeOf]
theorem go_newa_byte (hC : mt_Cx B E cc own ret nL d mc ms) {n0 : Nat} (hX : mt_X B E n0) {cs1 : Nat × Nat} {n : Int32} {N : Nat} (h1 : Cond.arrayClass .byte ∈ mt_tb) (h0 : ¬ n < 0) (hN : n.toNatClampNeg = N) (hby : N ≤ 65536) (hn : n0 + cs.1 = S.1) (hcs : cs1 = (cs.1 + 1, cs.2 + N)) (hrm : cs.1 + 1 ≤ mc ∧ cs.2 + N ≤ ms) (hd : decode cc pc = .ok (.newarray .byte, 2)) (k : mt_Go B E cs1 (mt_al S 12 N) (pc + 2) lv (mt_rf B S.1 :: st)) : mt_Go B E cs S pc lv (.int n :: st) := by
  subst hcs
  obtain ⟨l, D, cA, b⟩ := B
  obtain ⟨p, e, R, s, m, args, below, meth, c0, Q, nL'⟩ := E
  obtain ⟨hx, hb, hml, rfl, hown, hts, hK, hbs, hr, hlk, hrf, hrl, hrc, hrs⟩ := hC
  intro H locs ls hP hS hl
  intro T0 hT X
  have hsz : H.size = b + S.1 := mt_size hP hS hX hn (by rw [← hT]; exact X.heapSize)
  suffices key : W p l e R s m args below meth c0 H locs cs.1 cs.2 Q (F0 m pc ls (.int n :: st)) from key T0 hT X
  refine va_newaK (N := N) (atype := .byte) hx hb (hts _ h1) rfl hd rfl h0 hN (by show N * componentBytes .byte ≤ _; simp only [componentBytes]; omega) (by omega) (by omega) hsz (fun H1 cA' e1 z1 o1 hAr hNm => ?_)
  have hcA : cA' = cA 12 := Option.some.inj (hNm.symm.trans (hK.2 0 _ rfl).2)
  subst hcA
  refine k H1 locs ls ?_ ⟨by have := hS.1; omega, fun x h1 h2 => (o1 x (by have := hS.1; omega)).trans (hS.2.1 x h1 h2), hS.2.2⟩ hl
  rw [mt_W_al]
  refine va_P.app (hP.kept fun k x hx => o1 x.1 (by rw [← hsz]; exact (hP k x hx).lt)) (fun k x hx => ?_)
  have hz : k < 1 := (List.getElem?_eq_some_iff.mp hx).1
  rw [show k = 0 by omega] at hx
  have hx : some (b + S.1, mt_cell cA b (mt_al S 12 N) S.1) = some x := hx
  obtain rfl := Option.some.inj hx
  have hk : mt_isK (mt_al S 12 N) S.1 12 = true := mt_isK_iff.mpr ⟨Nat.lt_succ_self _, by simp [mt_kd, mt_al, va_up_self]⟩
  rw [mt_cell_i hk (by decide)]
  show H1[b + S.1]? = some (vp_cell _ _)
  have hln : mt_ln (mt_al S 12 N) S.1 = N := by simp [mt_ln, mt_al, va_up_self]
  rw [hln, e1]
  simp [vp_cell, mt_gI, mt_gL, mt_al, va_up_self, defaultValue, newarray.typeOf]
theorem go_newa_boolean (hC : mt_Cx B E cc own ret nL d mc ms) {n0 : Nat} (hX : mt_X B E n0) {cs1 : Nat × Nat} {n : Int32} {N : Nat} (h1 : Cond.arrayClass .boolean ∈ mt_tb) (h0 : ¬ n < 0) (hN : n.toNatClampNeg = N) (hby : N ≤ 65536) (hn : n0 + cs.1 = S.1) (hcs : cs1 = (cs.1 + 1, cs.2 + N)) (hrm : cs.1 + 1 ≤ mc ∧ cs.2 + N ≤ ms) (hd : decode cc pc = .ok (.newarray .boolean, 2)) (k : mt_Go B E cs1 (mt_al S 15 N) (pc + 2) lv (mt_rf B S.1 :: st)) : mt_Go B E cs S pc lv (.int n :: st) := by
  subst hcs
  obtain ⟨l, D, cA, b⟩ := B
  obtain ⟨p, e, R, s, m, args, below, meth, c0, Q, nL'⟩ := E
  obtain ⟨hx, hb, hml, rfl, hown, hts, hK, hbs, hr, hlk, hrf, hrl, hrc, hrs⟩ := hC
  intro H locs ls hP hS hl
  intro T0 hT X
  have hsz : H.size = b + S.1 := mt_size hP hS hX hn (by rw [← hT]; exact X.heapSize)
  suffices key : W p l e R s m args below meth c0 H locs cs.1 cs.2 Q (F0 m pc ls (.int n :: st)) from key T0 hT X
  refine va_newaK (N := N) (atype := .boolean) hx hb (hts _ h1) rfl hd rfl h0 hN (by show N * componentBytes .boolean ≤ _; simp only [componentBytes]; omega) (by omega) (by omega) hsz (fun H1 cA' e1 z1 o1 hAr hNm => ?_)
  have hcA : cA' = cA 15 := Option.some.inj (hNm.symm.trans (hK.2 3 _ rfl).2)
  subst hcA
  refine k H1 locs ls ?_ ⟨by have := hS.1; omega, fun x h1 h2 => (o1 x (by have := hS.1; omega)).trans (hS.2.1 x h1 h2), hS.2.2⟩ hl
  rw [mt_W_al]
  refine va_P.app (hP.kept fun k x hx => o1 x.1 (by rw [← hsz]; exact (hP k x hx).lt)) (fun k x hx => ?_)
  have hz : k < 1 := (List.getElem?_eq_some_iff.mp hx).1
  rw [show k = 0 by omega] at hx
  have hx : some (b + S.1, mt_cell cA b (mt_al S 15 N) S.1) = some x := hx
  obtain rfl := Option.some.inj hx
  have hk : mt_isK (mt_al S 15 N) S.1 15 = true := mt_isK_iff.mpr ⟨Nat.lt_succ_self _, by simp [mt_kd, mt_al, va_up_self]⟩
  rw [mt_cell_i hk (by decide)]
  show H1[b + S.1]? = some (vp_cell _ _)
  have hln : mt_ln (mt_al S 15 N) S.1 = N := by simp [mt_ln, mt_al, va_up_self]
  rw [hln, e1]
  simp [vp_cell, mt_gI, mt_gL, mt_al, va_up_self, defaultValue, newarray.typeOf]
theorem go_newa_long (hC : mt_Cx B E cc own ret nL d mc ms) {n0 : Nat} (hX : mt_X B E n0) {cs1 : Nat × Nat} {n : Int32} {N : Nat} (h1 : Cond.arrayClass .long ∈ mt_tb) (h0 : ¬ n < 0) (hN : n.toNatClampNeg = N) (hby : N ≤ 65536) (hn : n0 + cs.1 = S.1) (hcs : cs1 = (cs.1 + 1, cs.2 + N)) (hrm : cs.1 + 1 ≤ mc ∧ cs.2 + N ≤ ms) (hd : decode cc pc = .ok (.newarray .long, 2)) (k : mt_Go B E cs1 (mt_al S 14 N) (pc + 2) lv (mt_rf B S.1 :: st)) : mt_Go B E cs S pc lv (.int n :: st) := by
  subst hcs
  obtain ⟨l, D, cA, b⟩ := B
  obtain ⟨p, e, R, s, m, args, below, meth, c0, Q, nL'⟩ := E
  obtain ⟨hx, hb, hml, rfl, hown, hts, hK, hbs, hr, hlk, hrf, hrl, hrc, hrs⟩ := hC
  intro H locs ls hP hS hl
  intro T0 hT X
  have hsz : H.size = b + S.1 := mt_size hP hS hX hn (by rw [← hT]; exact X.heapSize)
  suffices key : W p l e R s m args below meth c0 H locs cs.1 cs.2 Q (F0 m pc ls (.int n :: st)) from key T0 hT X
  refine va_newaK (N := N) (atype := .long) hx hb (hts _ h1) rfl hd rfl h0 hN (by show N * componentBytes .long ≤ _; simp only [componentBytes]; omega) (by omega) (by omega) hsz (fun H1 cA' e1 z1 o1 hAr hNm => ?_)
  have hcA : cA' = cA 14 := Option.some.inj (hNm.symm.trans (hK.2 2 _ rfl).2)
  subst hcA
  refine k H1 locs ls ?_ ⟨by have := hS.1; omega, fun x h1 h2 => (o1 x (by have := hS.1; omega)).trans (hS.2.1 x h1 h2), hS.2.2⟩ hl
  rw [mt_W_al]
  refine va_P.app (hP.kept fun k x hx => o1 x.1 (by rw [← hsz]; exact (hP k x hx).lt)) (fun k x hx => ?_)
  have hz : k < 1 := (List.getElem?_eq_some_iff.mp hx).1
  rw [show k = 0 by omega] at hx
  have hx : some (b + S.1, mt_cell cA b (mt_al S 14 N) S.1) = some x := hx
  obtain rfl := Option.some.inj hx
  have hk : mt_isK (mt_al S 14 N) S.1 14 = true := mt_isK_iff.mpr ⟨Nat.lt_succ_self _, by simp [mt_kd, mt_al, va_up_self]⟩
  rw [mt_cell_l hk]
  show H1[b + S.1]? = some (vp_cell _ _)
  have hln : mt_ln (mt_al S 14 N) S.1 = N := by simp [mt_ln, mt_al, va_up_self]
  rw [hln, e1]
  simp [vp_cell, mt_gI, mt_gL, mt_al, va_up_self, defaultValue, newarray.typeOf]
theorem go_anew (hC : mt_Cx B E cc own ret nL d mc ms) {n0 : Nat} (hX : mt_X B E n0) (hA : mt_ao E) {cs1 : Nat × Nat} {n : Int32} {N idx : Nat} (h1 : Cond.classLink own idx "MarkovTree$State" ∈ mt_tb) (h0 : ¬ n < 0) (hN : n.toNatClampNeg = N) (hby : N ≤ 65536) (hn : n0 + cs.1 = S.1) (hcs : cs1 = (cs.1 + 1, cs.2 + N)) (hrm : cs.1 + 1 ≤ mc ∧ cs.2 + N ≤ ms) (hd : decode cc pc = .ok (.anewarray idx, 3)) (k : mt_Go B E cs1 (mt_al S 16 N) (pc + 3) lv (mt_rf B S.1 :: st)) : mt_Go B E cs S pc lv (.int n :: st) := by
  subst hcs
  obtain ⟨l, D, cA, b⟩ := B
  obtain ⟨p, e, R, s, m, args, below, meth, c0, Q, nL'⟩ := E
  obtain ⟨hx, hb, hml, rfl, hown, hts, hK, hbs, hr, hlk, hrf, hrl, hrc, hrs⟩ := hC
  intro H locs ls hP hS hl
  intro T0 hT X
  have hsz : H.size = b + S.1 := mt_size hP hS hX hn (by rw [← hT]; exact X.heapSize)
  subst hN
  suffices key : W p l e R s m args below meth c0 H locs cs.1 cs.2 Q (F0 m pc ls (.int n :: st)) from key T0 hT X
  refine W.anew hx hb hown (hts _ h1) (va_AO.use hA) rfl hd rfl h0 (by omega) (by omega) (by omega) (fun cA' kA comp f1 f2 f3 f4 => ?_)
  obtain ⟨_, _, _, _, _, hNm⟩ := (hK.2 4 _ rfl).2
  have hcA : cA' = cA 16 := Option.some.inj (f1.symm.trans hNm)
  subst hcA
  generalize hH1 : H.push ({ cls := cA 16, slots := Array.replicate n.toNatClampNeg .null, vm := .none } : Cell) = H1
  have z1 : H1.size = H.size + 1 := by rw [← hH1, Array.size_push]
  have e1 : H1[H.size]? = some (arrV (cA 16) n.toNatClampNeg (fun _ => .null)) := by rw [← hH1, Array.getElem?_push_size, ← arrV_new]
  have o1 : ∀ q : Nat, q < H.size → H1[q]? = H[q]? := fun q hq => by rw [← hH1, Array.getElem?_push, if_neg (Nat.ne_of_lt hq)]
  rw [hsz]
  refine k H1 locs ls ?_ ⟨by have := hS.1; omega, fun x h1 h2 => (o1 x (by have := hS.1; omega)).trans (hS.2.1 x h1 h2), hS.2.2⟩ hl
  rw [mt_W_al]
  refine va_P.app (hP.kept fun k x hx => o1 x.1 (hP k x hx).lt) (fun k x hx => ?_)
  have hz : k < 1 := (List.getElem?_eq_some_iff.mp hx).1
  rw [show k = 0 by omega] at hx
  have hx : some (b + S.1, mt_cell cA b (mt_al S 16 n.toNatClampNeg) S.1) = some x := hx
  obtain rfl := Option.some.inj hx
  have hk : mt_isK (mt_al S 16 n.toNatClampNeg) S.1 16 = true := mt_isK_iff.mpr ⟨Nat.lt_succ_self _, by simp [mt_kd, mt_al, va_up_self]⟩
  rw [mt_cell_q hk]
  show H1[b + S.1]? = some (vp_cell _ _)
  have hln : mt_ln (mt_al S 16 n.toNatClampNeg) S.1 = n.toNatClampNeg := by simp [mt_ln, mt_al, va_up_self]
  rw [hln, ← hsz, e1]
  simp [vp_cell, mt_gR, mt_al, va_up_self, va_rf]
theorem go_aast (hC : mt_Cx B E cc own ret nL d mc ms) {k v : Nat} {i : Int32} {S1 : mt_S} (hv : mt_isK S v 5 = true) (he : mt_sR S k i (some v) = some S1) (hd : decode cc pc = .ok (.aastore, 1)) (kk : mt_Go B E cs S1 (pc + 1) lv st) : mt_Go B E cs S pc lv (mt_rf B v :: .int i :: mt_rf B k :: st) := by
  obtain ⟨hk, h2⟩ := mt_gd he
  obtain ⟨hi, h3⟩ := mt_gd h2
  cases h3
  obtain ⟨l, D, cA, b⟩ := B
  obtain ⟨p, e, R, s, m, args, below, meth, c0, Q, nL'⟩ := E
  obtain ⟨hx, hb, hml, rfl, hown, hts, hK, hbs, hr, hlk, hrf, hrl, hrc, hrs⟩ := hC
  intro H locs ls hP hS hl
  refine va_astq hx hb hK hP (mt_D cA b S) hS k 4 v 5 (r := (RX5, TX5, 2)) (mt_at hk (mt_cell_q hk)) rfl (mt_at hv (mt_cell_o hv (by decide))) rfl (mt_in_iff.mp hi) hd (fun H1 locs1 hP1 _ hS1 => ?_)
  rw [mt_set_aR hk] at hP1
  exact kk H1 locs1 ls hP1 hS1 hl
theorem go_callI (hC : mt_Cx B E cc own ret nL d mc ms) {n0 : Nat} (hX : mt_X B E n0) (hA : mt_ao E) {y : MethodName} {bytes : ByteArray} {maxL n k idx d' mc' ms' : Nat} {cs1 : Nat × Nat} (As rest : List Value) {S1 : mt_S} (hM : mt_MB B y bytes maxL d' mc' ms' (mt_rf B k :: As) S S1) (hq : mt_CI own idx y bytes maxL n) (hd : decode cc pc = .ok (.invokespecial idx, 3)) (hst : st = As.reverse ++ mt_rf B k :: rest) (hn : As.length = n) (hdd : d' + 1 ≤ d) (hw : (rest.map fun v => v.category).sum ≤ 8) (hnn : n0 + cs.1 = S.1) (hcs : cs1 = (cs.1 + mc', cs.2 + ms')) (hrm : cs.1 + mc' ≤ mc ∧ cs.2 + ms' ≤ ms) (kk : mt_Go B E cs1 S1 (pc + 3) lv rest) : mt_Go B E cs S pc lv st := by
  subst hst
  subst hcs
  obtain ⟨l, D, cA, b⟩ := B
  obtain ⟨p, e, R, s, m, args, below, meth, c0, Q, nL'⟩ := E
  obtain ⟨hx, hb, hml, rfl, hown, hts, hK, hbs, hr, hlk, hrf, hrl, hrc, hrs⟩ := hC
  intro H locs ls hP hS hl
  intro T0 hT X
  have hsz : H.size = b + S.1 := mt_size hP hS hX hnn (by rw [← hT]; exact X.heapSize)
  have hcw : CallB R s args own idx y bytes maxL none (.code y bytes maxL none :: mt_tb) (mt_R d' mc' ms') mc' ms' n := mt_callB hts hq.1 hdd hrf hrl
  refine mt_after (mc1 := mc') (ms1 := ms') (rv := none) (va_runI (As := As) (rest := rest) (b := b + k) ⟨hx, hb, hml, hown, hts⟩ hM ⟨hcw, hq.2.1, hts _ hq.2.2⟩ ⟨mt_BdB_blind, fun U hU hW => ⟨rfl, ⟨by rw [hU]; exact Nat.le_trans hbs hS.1, by rw [hU]; exact hP, va_K.moved hW.alike hK⟩, by rw [hU]; exact hsz, va_AO.moved hW.alike hA⟩⟩ rfl hn hl.1 rfl (lv_room hw) hd ⟨by omega, by omega⟩) hS (fun H1 locs1 hP1 hS1 => ?_) T0 hT X
  exact kk H1 locs1 ls hP1 hS1 hl
end mtAl
theorem mt_oi : Cond.instanceMethod Lib.objectInit ∈ mt_tb := mt_mem (i := 89) (by decide +kernel) rfl
set_option maxRecDepth 20000 in
theorem mt_oc0 : Cond.code Lib.objectInit ⟨#[0xb1]⟩ 1 none ∈ mt_tb := mt_mem (i := 90) (by decide +kernel) rfl
theorem mt_klL_8 : Cond.classLink RL 8 RX10 ∈ mt_tb := mt_mem (i := 83) (by decide +kernel) rfl
theorem mt_olX10_1 : Cond.methodLink RX10 1 Lib.objectInit ∈ mt_tb := mt_mem (i := 88) (by decide +kernel) rfl
theorem mt_klX10_7 : Cond.classLink RX10 7 RX7 ∈ mt_tb := mt_mem (i := 91) (by decide +kernel) rfl
theorem mt_olX7_3 : Cond.methodLink RX7 3 Lib.objectInit ∈ mt_tb := mt_mem (i := 96) (by decide +kernel) rfl
theorem mt_klX10_16 : Cond.classLink RX10 16 RX0 ∈ mt_tb := mt_mem (i := 105) (by decide +kernel) rfl
theorem mt_olX0_1 : Cond.methodLink RX0 1 Lib.objectInit ∈ mt_tb := mt_mem (i := 110) (by decide +kernel) rfl
theorem mt_klX10_23 : Cond.classLink RX10 23 RX5 ∈ mt_tb := mt_mem (i := 146) (by decide +kernel) rfl
theorem mt_olX5_3 : Cond.methodLink RX5 3 Lib.objectInit ∈ mt_tb := mt_mem (i := 151) (by decide +kernel) rfl
theorem mt_klX5_9 : Cond.classLink RX5 9 RX4 ∈ mt_tb := mt_mem (i := 152) (by decide +kernel) rfl
theorem mt_olX4_3 : Cond.methodLink RX4 3 Lib.objectInit ∈ mt_tb := mt_mem (i := 157) (by decide +kernel) rfl
theorem mt_klX5_18 : Cond.classLink RX5 18 RX3 ∈ mt_tb := mt_mem (i := 178) (by decide +kernel) rfl
theorem mt_olX3_3 : Cond.methodLink RX3 3 Lib.objectInit ∈ mt_tb := mt_mem (i := 183) (by decide +kernel) rfl
theorem mt_klX10_30 : Cond.classLink RX10 30 RX2 ∈ mt_tb := mt_mem (i := 205) (by decide +kernel) rfl
theorem mt_olX2_3 : Cond.methodLink RX2 3 Lib.objectInit ∈ mt_tb := mt_mem (i := 210) (by decide +kernel) rfl
theorem mt_klX2_11 : Cond.classLink RX2 11 RX5 ∈ mt_tb := mt_mem (i := 211) (by decide +kernel) rfl
theorem mt_klX10_45 : Cond.classLink RX10 45 RX8 ∈ mt_tb := mt_mem (i := 224) (by decide +kernel) rfl
theorem mt_olX8_3 : Cond.methodLink RX8 3 Lib.objectInit ∈ mt_tb := mt_mem (i := 229) (by decide +kernel) rfl
theorem mt_klX8_15 : Cond.classLink RX8 15 RX4 ∈ mt_tb := mt_mem (i := 230) (by decide +kernel) rfl
theorem mt_klX10_52 : Cond.classLink RX10 52 RX9 ∈ mt_tb := mt_mem (i := 243) (by decide +kernel) rfl
theorem mt_olX9_1 : Cond.methodLink RX9 1 Lib.objectInit ∈ mt_tb := mt_mem (i := 248) (by decide +kernel) rfl
theorem mt_klX10_59 : Cond.classLink RX10 59 RX1 ∈ mt_tb := mt_mem (i := 275) (by decide +kernel) rfl
theorem mt_olX1_1 : Cond.methodLink RX1 1 Lib.objectInit ∈ mt_tb := mt_mem (i := 280) (by decide +kernel) rfl
theorem mt_klX10_66 : Cond.classLink RX10 66 RX6 ∈ mt_tb := mt_mem (i := 312) (by decide +kernel) rfl
theorem mt_olX6_3 : Cond.methodLink RX6 3 Lib.objectInit ∈ mt_tb := mt_mem (i := 317) (by decide +kernel) rfl
theorem mt_klL_23 : Cond.classLink RL 23 RX11 ∈ mt_tb := mt_mem (i := 1024) (by decide +kernel) rfl
theorem mt_olX11_18 : Cond.methodLink RX11 18 Lib.objectInit ∈ mt_tb := mt_mem (i := 1028) (by decide +kernel) rfl
theorem mt_in0 : Cond.instantiable RX0 11 ∈ mt_tb := mt_mem (i := 106) (by decide +kernel) rfl
theorem mt_ii0 : Cond.initialized RX0 ∈ mt_tb := mt_mem (i := 65) (by decide +kernel) rfl
theorem mt_dd0 : ∀ j, j < 11 → defaultValue (tyX0 j) = vp_V (mt_dv 0) j := by decide +kernel
theorem mt_in1 : Cond.instantiable RX1 7 ∈ mt_tb := mt_mem (i := 276) (by decide +kernel) rfl
theorem mt_ii1 : Cond.initialized RX1 ∈ mt_tb := mt_mem (i := 72) (by decide +kernel) rfl
theorem mt_dd1 : ∀ j, j < 7 → defaultValue (tyX1 j) = vp_V (mt_dv 1) j := by decide +kernel
theorem mt_in2 : Cond.instantiable RX2 3 ∈ mt_tb := mt_mem (i := 206) (by decide +kernel) rfl
theorem mt_ii2 : Cond.initialized RX2 ∈ mt_tb := mt_mem (i := 69) (by decide +kernel) rfl
theorem mt_dd2 : ∀ j, j < 3 → defaultValue (tyX2 j) = vp_V (mt_dv 2) j := by decide +kernel
theorem mt_in3 : Cond.instantiable RX3 4 ∈ mt_tb := mt_mem (i := 179) (by decide +kernel) rfl
theorem mt_ii3 : Cond.initialized RX3 ∈ mt_tb := mt_mem (i := 68) (by decide +kernel) rfl
theorem mt_dd3 : ∀ j, j < 4 → defaultValue (tyX3 j) = vp_V (mt_dv 3) j := by decide +kernel
theorem mt_in4 : Cond.instantiable RX4 5 ∈ mt_tb := mt_mem (i := 153) (by decide +kernel) rfl
theorem mt_ii4 : Cond.initialized RX4 ∈ mt_tb := mt_mem (i := 67) (by decide +kernel) rfl
theorem mt_dd4 : ∀ j, j < 5 → defaultValue (tyX4 j) = vp_V (mt_dv 4) j := by decide +kernel
theorem mt_in5 : Cond.instantiable RX5 2 ∈ mt_tb := mt_mem (i := 147) (by decide +kernel) rfl
theorem mt_ii5 : Cond.initialized RX5 ∈ mt_tb := mt_mem (i := 66) (by decide +kernel) rfl
theorem mt_dd5 : ∀ j, j < 2 → defaultValue (tyX5 j) = vp_V (mt_dv 5) j := by decide +kernel
theorem mt_in6 : Cond.instantiable RX6 7 ∈ mt_tb := mt_mem (i := 313) (by decide +kernel) rfl
theorem mt_ii6 : Cond.initialized RX6 ∈ mt_tb := mt_mem (i := 73) (by decide +kernel) rfl
theorem mt_dd6 : ∀ j, j < 7 → defaultValue (tyX6 j) = vp_V (mt_dv 6) j := by decide +kernel
theorem mt_in7 : Cond.instantiable RX7 2 ∈ mt_tb := mt_mem (i := 92) (by decide +kernel) rfl
theorem mt_ii7 : Cond.initialized RX7 ∈ mt_tb := mt_mem (i := 64) (by decide +kernel) rfl
theorem mt_dd7 : ∀ j, j < 2 → defaultValue (tyX7 j) = vp_V (mt_dv 7) j := by decide +kernel
theorem mt_in8 : Cond.instantiable RX8 3 ∈ mt_tb := mt_mem (i := 225) (by decide +kernel) rfl
theorem mt_ii8 : Cond.initialized RX8 ∈ mt_tb := mt_mem (i := 70) (by decide +kernel) rfl
theorem mt_dd8 : ∀ j, j < 3 → defaultValue (tyX8 j) = vp_V (mt_dv 8) j := by decide +kernel
theorem mt_in9 : Cond.instantiable RX9 4 ∈ mt_tb := mt_mem (i := 244) (by decide +kernel) rfl
theorem mt_ii9 : Cond.initialized RX9 ∈ mt_tb := mt_mem (i := 71) (by decide +kernel) rfl
theorem mt_dd9 : ∀ j, j < 4 → defaultValue (tyX9 j) = vp_V (mt_dv 9) j := by decide +kernel
theorem mt_in10 : Cond.instantiable RX10 10 ∈ mt_tb := mt_mem (i := 84) (by decide +kernel) rfl
theorem mt_ii10 : Cond.initialized RX10 ∈ mt_tb := mt_mem (i := 63) (by decide +kernel) rfl
theorem mt_dd10 : ∀ j, j < 10 → defaultValue (tyX10 j) = vp_V (mt_dv 10) j := by decide +kernel
theorem mt_in11 : Cond.instantiable RX11 39 ∈ mt_tb := mt_mem (i := 1018) (by decide +kernel) rfl
theorem mt_ii11 : Cond.initialized RX11 ∈ mt_tb := mt_mem (i := 74) (by decide +kernel) rfl
theorem mt_dd11 : ∀ j, j < 39 → defaultValue (tyX11 j) = vp_V (mt_dv 11) j := by decide +kernel
theorem mt_ac_int : Cond.arrayClass .int ∈ mt_tb := mt_mem (i := 145) (by decide +kernel) rfl
theorem mt_ac_byte : Cond.arrayClass .byte ∈ mt_tb := mt_mem (i := 104) (by decide +kernel) rfl
theorem mt_ac_boolean : Cond.arrayClass .boolean ∈ mt_tb := mt_mem (i := 242) (by decide +kernel) rfl
theorem mt_ac_long : Cond.arrayClass .long ∈ mt_tb := mt_mem (i := 197) (by decide +kernel) rfl
