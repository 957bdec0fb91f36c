/-! THE CLAIM OUT OF ONE WALK OF THE LAW'S BODY. Your part is whole_start (and what it stands on); all else here is the same for every law, but numbers. -/
def R_law : String := "MarkovTreeLaw"
def lw_P (b : Addr) (xs : List Int32) (args : Array Value) (s : State) : Prop := args = #[.ref b] ∧ s.IntsAt b xs ∧ xs.length ≤ 3072 ∧ (Jvm.Cond.and given_1 narrow_1).before args s = true
/-- what a walk over the start with the record d0 says of its end, said of the start itself -/
theorem lw_closed {s t : State} {o : Outcome} {d0 : Drawn} {L : List Loc} {k n : Nat} (hd0 : s.drawn.sameBut d0 lw_cs) (hv : ∃ v, o = .returned v) (hW : (s.setDrawn d0).WarmedH t.vm) (hs : (s.setDrawn d0).sameButNew ({ t with vm := s.vm } : State) L k n) : State.butDraws s t lw_cs (fun t1 => Framed s o t1 L k n) := by
  have h2 : t.drawn = d0 := congrArg State.drawn hs.1
  refine ⟨⟨hv, hW, State.sameButNew.setDrawn hs s.drawn⟩, ?_, by decide⟩
  rw [h2]
  exact hd0
def lw_Q (_ : Array Value) (s : State) (o : Outcome) (t : State) : Prop := o = .returned (some (.int 1)) ∧ State.butDraws s t lw_cs (fun t1 => Framed s o t1 [] 601024 7293034)
def lw_Z (below : List Frame) (a : Array Value) (s : State) : State → Prop := fun t => ∃ o, t.status = .running ∧ Ended t below o ∧ lw_Q a s o t
/-- the law's own end, with 1 on the stack, nothing written that was there before, its room as the claim has it; d0: the record of draws at this point (at the entry s.drawn: begin with 'refine W.base ?_' and 'have hd0 := Drawn.sameBut.refl s.drawn lw_cs') -/
theorem lw_ret {p : Program} {l : Launch} {e : Env} {s : State} {m : MethodId} {below : List Frame} {meth : Method} {c : Code} {b : Nat} {d0 : Drawn} (hd0 : s.drawn.sameBut d0 lw_cs) (hx : p.tables.exec = Jvm.exec) (hb : c.code = code) (hr : meth.sig.returnType = ret) (hlocks : meth.locks = false) {pc : Nat} {H : Heap} {ls : Array Slot} (hdg : decode code pc = .ok (.ireturn, 1)) : W p l e room_1 (s.setDrawn d0) m #[Value.ref b] below meth c H [] 601024 7293034 (lw_Z below #[Value.ref b] s) (F0 m pc ls [.int 1]) := by
  intro T hT X
  obtain ⟨fs, hret, hrun, hended, hW, hframe⟩ := X.leave (v := some (.int 1)) (hlocks := hlocks) (fun h => by rw [hr] at h; cases h)
  have hmeth' : T.vm.method? m = some meth := X.method'
  refine ⟨T.setFrames fs, ?_, .returned (some (.int 1)), hrun, hended, rfl, lw_closed hd0 ⟨_, rfl⟩ hW hframe⟩
  jvm_step X.here [X.here.top, hx, hb, hdg, hmeth', hr, ret, narrow_b1]
  (try refine ⟨rfl, ?_⟩); (try refine ⟨rfl, ?_⟩)
  first | (intro acts; rw [hret _ acts rfl rfl rfl]) | rw [hret _ _ rfl rfl rfl]
  exact Steps.refl _
/-- what holds at the law's entry: the machine, the code, the tables' words (any of lw_tbl by 'hts w (by decide +kernel)'), the script of L ints xs at the cell b, what the Statement gives of the start (any of its parts by flat_of_before) -/
def lw_At (p : Program) (s : State) (m : MethodId) (meth : Method) (c : Code) (b L : Nat) (xs : Nat → Int32) : Prop :=
  p.tables.exec = Jvm.exec ∧ c.code = code ∧ meth.sig.returnType = ret ∧ c.maxLocals = 8 ∧ s.vm.findClass R_law = some m.cls ∧ (∀ w ∈ lw_tbl, w.before #[Value.ref b] s = true) ∧ va_X b L xs s s.heap ∧ b < s.heap.size ∧ meth.locks = false ∧ (Jvm.Cond.and given_1 narrow_1).before #[Value.ref b] s = true
theorem mt_inl {w : Cond} {i : Nat} (h : lw_tbl[i]? = some w) : w ∈ lw_tbl := List.mem_of_getElem? h
theorem mt_arr {args : Array Value} {s : State} {ty : FieldType} (hp : ∀ C, ty ≠ .object C) (h : (Cond.arrayClass ty).before args s = true) : ∃ cA, ArrOfT s cA ty ∧ va_RA s cA ty := by
  obtain ⟨cA, kA, comp, h1, h2, h3⟩ := Cond.arrayClass_spec h
  refine ⟨cA, fun n z => ⟨fun k h => (by cases h), kA, h2, comp, h3⟩, ?_⟩
  cases ty with
  | object C => exact absurd rfl (hp C)
  | _ => exact h1
theorem mt_arq {args : Array Value} {s : State} (h : (Cond.arrayOver (.object "MarkovTree$State")).before args s = true) : ∃ cA, ArrOfT s cA (.object "MarkovTree$State") ∧ va_RA s cA (.object "MarkovTree$State") := by
  obtain ⟨comp, cA, kA, h1, -, h2, h3, h4⟩ := Cond.arrayOver_spec h
  exact ⟨cA, fun n z => ⟨fun k h => (by cases h), kA, h2, comp, h3⟩, kA, comp, h2, h3, h1, h4⟩
set_option maxHeartbeats 4000000 in
theorem mt_known {args : Array Value} {s : State} (hts : ∀ w ∈ lw_tbl, w.before args s = true) : ∃ (D : va_G) (cA : Nat → ClassId), va_K D vwCl (mt_ty cA) s := by
  obtain ⟨c0, i0, k0⟩ := u_known (C := RX0) (T := TX0) (N := 11) (n := 11) hts (fun w h => (List.mem_filter.mp (mt_cf0.2.2.2.1 w h)).1) (hts _ (List.mem_filter.mp mt_in0).1)
  obtain ⟨c1, i1, k1⟩ := u_known (C := RX1) (T := TX1) (N := 7) (n := 7) hts (fun w h => (List.mem_filter.mp (mt_cf1.2.2.2.1 w h)).1) (hts _ (List.mem_filter.mp mt_in1).1)
  obtain ⟨c2, i2, k2⟩ := u_known (C := RX2) (T := TX2) (N := 3) (n := 3) hts (fun w h => (List.mem_filter.mp (mt_cf2.2.2.2.1 w h)).1) (hts _ (List.mem_filter.mp mt_in2).1)
  obtain ⟨c3, i3, k3⟩ := u_known (C := RX3) (T := TX3) (N := 4) (n := 4) hts (fun w h => (List.mem_filter.mp (mt_cf3.2.2.2.1 w h)).1) (hts _ (List.mem_filter.mp mt_in3).1)
  obtain ⟨c4, i4, k4⟩ := u_known (C := RX4) (T := TX4) (N := 5) (n := 5) hts (fun w h => (List.mem_filter.mp (mt_cf4.2.2.2.1 w h)).1) (hts _ (List.mem_filter.mp mt_in4).1)
  obtain ⟨c5, i5, k5⟩ := u_known (C := RX5) (T := TX5) (N := 2) (n := 2) hts (fun w h => (List.mem_filter.mp (mt_cf5.2.2.2.1 w h)).1) (hts _ (List.mem_filter.mp mt_in5).1)
  obtain ⟨c6, i6, k6⟩ := u_known (C := RX6) (T := TX6) (N := 7) (n := 7) hts (fun w h => (List.mem_filter.mp (mt_cf6.2.2.2.1 w h)).1) (hts _ (List.mem_filter.mp mt_in6).1)
  obtain ⟨c7, i7, k7⟩ := u_known (C := RX7) (T := TX7) (N := 2) (n := 2) hts (fun w h => (List.mem_filter.mp (mt_cf7.2.2.2.1 w h)).1) (hts _ (List.mem_filter.mp mt_in7).1)
  obtain ⟨c8, i8, k8⟩ := u_known (C := RX8) (T := TX8) (N := 3) (n := 3) hts (fun w h => (List.mem_filter.mp (mt_cf8.2.2.2.1 w h)).1) (hts _ (List.mem_filter.mp mt_in8).1)
  obtain ⟨c9, i9, k9⟩ := u_known (C := RX9) (T := TX9) (N := 4) (n := 4) hts (fun w h => (List.mem_filter.mp (mt_cf9.2.2.2.1 w h)).1) (hts _ (List.mem_filter.mp mt_in9).1)
  obtain ⟨c10, i10, k10⟩ := u_known (C := RX10) (T := TX10) (N := 10) (n := 10) hts (fun w h => (List.mem_filter.mp (mt_cf10.2.2.2.1 w h)).1) (hts _ (List.mem_filter.mp mt_in10).1)
  obtain ⟨c11, i11, k11⟩ := u_known (C := RX11) (T := TX11) (N := 39) (n := 39) hts (fun w h => (List.mem_filter.mp (mt_cf11.2.2.2.1 w h)).1) (hts _ (List.mem_filter.mp mt_in11).1)
  obtain ⟨a12, b12⟩ := mt_arr (ty := .byte) (fun C h => by cases h) (hts _ (List.mem_filter.mp mt_ac_byte).1)
  obtain ⟨a13, b13⟩ := mt_arr (ty := .int) (fun C h => by cases h) (hts _ (List.mem_filter.mp mt_ac_int).1)
  obtain ⟨a14, b14⟩ := mt_arr (ty := .long) (fun C h => by cases h) (hts _ (List.mem_filter.mp mt_ac_long).1)
  obtain ⟨a15, b15⟩ := mt_arr (ty := .boolean) (fun C h => by cases h) (hts _ (List.mem_filter.mp mt_ac_boolean).1)
  obtain ⟨a16, b16⟩ := mt_arq (hts _ (mt_inl (i := 212) (by decide +kernel)))
  refine ⟨(fun k => [c0, c1, c2, c3, c4, c5, c6, c7, c8, c9, c10, c11].getD k 0, fun k => [i0, i1, i2, i3, i4, i5, i6, i7, i8, i9, i10, i11].getD k (fun _ => 0)), fun k => [a12, a13, a14, a15, a16].getD (k - 12) 0, ?_, ?_⟩
  · intro k q hq
    match k, hq with
    | 0, hq => cases hq; exact k0
    | 1, hq => cases hq; exact k1
    | 2, hq => cases hq; exact k2
    | 3, hq => cases hq; exact k3
    | 4, hq => cases hq; exact k4
    | 5, hq => cases hq; exact k5
    | 6, hq => cases hq; exact k6
    | 7, hq => cases hq; exact k7
    | 8, hq => cases hq; exact k8
    | 9, hq => cases hq; exact k9
    | 10, hq => cases hq; exact k10
    | 11, hq => cases hq; exact k11
    | k + 12, hq => simp [vwCl] at hq
  · intro k q hq
    match k, hq with
    | 0, hq => cases hq; exact b12
    | 1, hq => cases hq; exact b13
    | 2, hq => cases hq; exact b14
    | 3, hq => cases hq; exact b15
    | 4, hq => cases hq; exact b16
    | k + 5, hq => simp [mt_ty] at hq
/-- the law's end -/
theorem go_lawEnd {B : mt_B} {p : Program} {e : Env} {s : State} {m : MethodId} {below : List Frame} {meth : Method} {c : Code} {bs : Nat} {cs : Nat × Nat} {S : mt_S} {lv : List (Nat × Value)} (hB : B.2.2.2 = s.heap.size) (hx : p.tables.exec = Jvm.exec) (hb : c.code = code) (hr : meth.sig.returnType = ret) (hlk : meth.locks = false) (hc : cs.1 ≤ 601024 ∧ cs.2 ≤ 7293034) : mt_Go B (p, e, room_1, s, m, #[Value.ref bs], below, meth, c, lw_Z below #[Value.ref bs] s, 8) cs S 1297 lv [.int 1] := by
  obtain ⟨l, D, cA, b⟩ := B
  intro H locs ls hP hS hl
  refine va_forget (fun q hq => by have := hS.2.2 q hq; rw [← hB]; exact this) ?_
  refine W.widen hc.1 hc.2 ?_
  exact W.base (lw_ret (Drawn.sameBut.refl s.drawn lw_cs) hx hb hr hlk dL_law_1297)
theorem mt_cmp6 {L t : Nat} (hL : L ≤ 3072) (ht : 6 * t ≤ L + 6) : (nI L - 6 < nI (6 * t)) ↔ L < 6 * t + 6 := by
  have e6 : (6 : Int32) = nI 6 := by decide
  rw [e6, Int32.lt_iff_toInt_lt, pk_sub_toInt (by omega) (by omega), nI_toInt (by omega)]
  omega
set_option maxHeartbeats 4000000 in
set_option maxRecDepth 100000 in
/-- the law's loop -/
theorem mt_loop {B : mt_B} {p : Program} {e : Env} {s : State} {m : MethodId} {below : List Frame} {meth : Method} {c : Code} {bs L : Nat} {xs : Nat → Int32} (Inv : mt_S → Prop) (hturn : ∀ (k w1 w2 w3 w4 w5 : Int32) (S : mt_S), Inv S → ∃ S', l_turn k w1 w2 w3 w4 w5 S = some S' ∧ Inv S') (hL : L ≤ 3072) (hB : B.2.2.2 = s.heap.size) (hxs : va_X bs L xs s s.heap) (hbl : bs < s.heap.size) (hb : c.code = code) (hr : meth.sig.returnType = ret) (hlk : meth.locks = false)
    (hC : mt_Cx B (p, e, room_1, s, m, #[Value.ref bs], below, meth, c, lw_Z below #[Value.ref bs] s, 8) cL_law RL (some .boolean) 8 1300 601024 7293034) (hT : mt_th B (p, e, room_1, s, m, #[Value.ref bs], below, meth, c, lw_Z below #[Value.ref bs] s, 8)) :
    ∀ (n t : Nat) (S : mt_S), L < 6 * t + 6 * n → 6 * t ≤ L → Inv S → mt_Go B (p, e, room_1, s, m, #[Value.ref bs], below, meth, c, lw_Z below #[Value.ref bs] s, 8) (109 + t, 3871 + 6 * t) S 23 [(0, .ref bs), (1, mt_rf B 0), (2, mt_rf B 96), (3, mt_rf B 108), (4, .int (nI (6 * t)))] [] := by
  intro n
  induction n with
  | zero => intro t S h1 h2; omega
  | succ n ih =>
    intro t S h1 h2 hI
    have hno : ¬ B.2.2.2 ≤ bs := by rw [hB]; omega
    have sr : ∀ k : Nat, 6 * t + k < L → mt_sr B (p, e, room_1, s, m, #[Value.ref bs], below, meth, c, lw_Z below #[Value.ref bs] s, 8) bs (nI (6 * t + k)) (xs (6 * t + k)) := fun k hk => ⟨L, xs, hxs, hbl, hno, vp_in_nI hk (by omega), by rw [nI_clamp (by omega)]⟩
    refine go_iload hC 4 dL_law_23 rfl ?_
    refine go_aload_n hC 0 dL_law_25 rfl rfl ?_
    refine go_slen hC (n := nI L) ⟨L, xs, hxs, hbl, hno, rfl⟩ dL_law_26 ?_
    refine go_bipush (v := 6) hC dL_law_27 (by decide) ?_
    refine go_isub hC dL_law_29 ?_
    refine go_icmp_gt hC (tgt := 1296) dL_law_30 (by decide) (fun hc => ?_) (fun hc => ?_)
    · refine go_iconst (v := 1) hC dL_law_1296 (by decide) ?_
      exact go_lawEnd hB hC.1 hb hr hlk ⟨by show 109 + t ≤ _; omega, by show 3871 + 6 * t ≤ _; omega⟩
    · have hge : 6 * t + 6 ≤ L := by
        rcases Nat.lt_or_ge L (6 * t + 6) with q | q
        · exact absurd ((mt_cmp6 hL (by omega)).mpr q) hc
        · exact q
      obtain ⟨S', hS', hI'⟩ := hturn (xs (6 * t) &&& 63) (xs (6 * t + 1)) (xs (6 * t + 2)) (xs (6 * t + 3)) (xs (6 * t + 4)) (xs (6 * t + 5)) S hI
      have a1 : nI (6 * t) + 1 = nI (6 * t + 1) := nI_1 _
      have a2 : nI (6 * t) + 2 = nI (6 * t + 2) := nI_add _ 2
      have a3 : nI (6 * t) + 3 = nI (6 * t + 3) := nI_add _ 3
      have a4 : nI (6 * t) + 4 = nI (6 * t + 4) := nI_add _ 4
      have a5 : nI (6 * t) + 5 = nI (6 * t + 5) := nI_add _ 5
      refine ml_turn hC hT hT.1 ⟨by show 109 + t + 1 ≤ _; omega, by show 3871 + 6 * t + 6 ≤ _; omega⟩ (by rw [a1]; exact sr 1 (by omega)) (by rw [a2]; exact sr 2 (by omega)) (by rw [a3]; exact sr 3 (by omega)) (by rw [a4]; exact sr 4 (by omega)) (by rw [a5]; exact sr 5 (by omega)) (sr 0 (by omega)) hS' (fun S1 hS1 => ?_)
      subst hS1
      refine go_iinc hC 4 [1, 2, 3, 4, 0] (v := nI (6 * (t + 1))) (lv1 := [(0, .ref bs), (1, mt_rf B 0), (2, mt_rf B 96), (3, mt_rf B 108), (4, .int (nI (6 * (t + 1))))]) dL_law_1290 rfl (by rw [show Int32.ofInt 6 = nI 6 by decide, nI_add]; rfl) (by decide) rfl ?_
      refine go_goto hC (tgt := 23) dL_law_1293 (by decide) ?_
      exact ih (t + 1) S1 (by omega) (by omega) hI'
def mt_S0 : mt_S := (0, fun _ => (99, 0), fun _ _ => none, fun _ _ => none, fun _ _ => none)
set_option maxHeartbeats 4000000 in
set_option maxRecDepth 100000 in
/-- the law from its entry, over an invariant -/
theorem whole_open (Inv : mt_S → Prop) (Sa Sb : mt_S) (ha : f_X10_init 0 (mt_al mt_S0 10 10) = some Sa) (hb9 : f_X11_init Sa.1 (mt_al Sa 11 39) = some Sb) (hi : ∃ Sc, Sc = mt_al Sb 14 1 ∧ Inv Sc) (hn : Sa.1 = 96 ∧ Sb.1 = 108) (hturn : ∀ (k w1 w2 w3 w4 w5 : Int32) (S : mt_S), Inv S → ∃ S', l_turn k w1 w2 w3 w4 w5 S = some S' ∧ Inv S')
    {p : Program} {e : Env} {s : State} {m : MethodId} {below : List Frame} {meth : Method} {c : Code} (l : Launch) (hflags : l.flags = flags0) {b L : Nat} {xs : Nat → Int32} (hL : L ≤ 3072) (C0 : lw_At p s m meth c b L xs) : W p l e room_1 s m #[Value.ref b] below meth c s.heap [] 0 0 (lw_Z below #[Value.ref b] s) (entryFrame m ([Value.ref b] : List Value).toArray 8) := by
  obtain ⟨hx, hb, hr, hml, hown, hts, hX, hbl, hlocks, hgv⟩ := id C0
  obtain ⟨D, cA, hK⟩ := mt_known hts
  have hst : l.stackTraces = false := by unfold Launch.stackTraces; rw [hflags]; decide +kernel
  have hg := flat_of_before _ hgv
  have hC : mt_Cx (l, D, cA, s.heap.size) (p, e, room_1, s, m, #[Value.ref b], below, meth, c, lw_Z below #[Value.ref b] s, 8) cL_law RL (some .boolean) 8 1300 601024 7293034 := ⟨hx, hb, hml, rfl, hown, fun w hw => hts w (List.mem_filter.mp hw).1, hK, Nat.le_refl _, hr, hlocks, Nat.le_of_ble_eq_true rfl, Nat.le_of_ble_eq_true rfl, Nat.le_of_ble_eq_true rfl, Nat.le_of_ble_eq_true rfl⟩
  have hin : (Cond.initialized Bundle.tN).before #[Value.ref b] s = true := hts _ (mt_inl (i := 78) (by decide +kernel))
  have hlo : ∀ a : Nat, a < s.heap.size → ¬ s.heap.size ≤ a := fun a h => by omega
  have hT : mt_th (l, D, cA, s.heap.size) (p, e, room_1, s, m, #[Value.ref b], below, meth, c, lw_Z below #[Value.ref b] s, 8) := ⟨hst, ⟨va_Nw.of rfl (hts _ (mt_inl (i := 930) (by decide +kernel))), va_Nw.of rfl (hts _ (mt_inl (i := 931) (by decide +kernel))), va_Nw.of rfl (hts _ (mt_inl (i := 933) (by decide +kernel))), va_Nw.of rfl (hts _ (mt_inl (i := 935) (by decide +kernel)))⟩,
    vx_Zqof (hts _ (mt_inl (i := 955) (by decide +kernel))) hin (hg _ (by decide +kernel)) hlo, vx_Zqof (hts _ (mt_inl (i := 957) (by decide +kernel))) hin (hg _ (by decide +kernel)) hlo⟩
  have hA : mt_ao (p, e, room_1, s, m, #[Value.ref b], below, meth, c, lw_Z below #[Value.ref b] s, 8) := va_AO.of (hts _ (mt_inl (i := 212) (by decide +kernel)))
  have hX0 : mt_X (l, D, cA, s.heap.size) (p, e, room_1, s, m, #[Value.ref b], below, meth, c, lw_Z below #[Value.ref b] s, 8) 0 := rfl
  have hl := lv_entry ([.ref b]) (n := 8) (Nat.le_of_ble_eq_true rfl)
  have key : mt_Go (l, D, cA, s.heap.size) (p, e, room_1, s, m, #[Value.ref b], below, meth, c, lw_Z below #[Value.ref b] s, 8) (0, 0) mt_S0 0 [(0, .ref b)] [] := by
    obtain ⟨Sc, hSc, hI⟩ := hi
    refine go_new hC hX0 (cs1 := (1, 10)) mt_cf10 mt_dd10 mt_klL_8 mt_in10 mt_ii10 rfl rfl (by decide) dL_law_0 ?_
    refine go_dup hC dL_law_3 rfl ?_
    refine go_callI hC hX0 hA (cs1 := (96, 2660)) [] [mt_rf (l, D, cA, s.heap.size) 0] (m_X10_init ha) mt_ciL_22 dL_law_4 rfl rfl (by decide) (Nat.le_of_ble_eq_true rfl) rfl rfl (by decide) ?_
    refine go_astore_n hC [1, 0] (lv1 := [(0, .ref b), (1, mt_rf (l, D, cA, s.heap.size) 0)]) dL_law_7 rfl (by decide) rfl ?_
    refine go_new hC hX0 (cs1 := (97, 2699)) mt_cf11 mt_dd11 mt_klL_23 mt_in11 mt_ii11 (by rw [hn.1]; rfl) rfl (by decide) dL_law_8 ?_
    refine go_dup hC dL_law_11 rfl ?_
    refine go_callI hC hX0 hA (cs1 := (108, 3870)) [] [mt_rf (l, D, cA, s.heap.size) Sa.1] (m_X11_init hb9) mt_ciL_25 dL_law_12 rfl rfl (by decide) (Nat.le_of_ble_eq_true rfl) (by show 0 + 97 = Sa.1 + 1; rw [hn.1]) rfl (by decide) ?_
    rw [hn.1]
    refine go_astore_n hC [1, 2, 0] (lv1 := [(0, .ref b), (1, mt_rf (l, D, cA, s.heap.size) 0), (2, mt_rf (l, D, cA, s.heap.size) 96)]) dL_law_15 rfl (by decide) rfl ?_
    refine go_iconst (v := 1) hC dL_law_16 (by decide) ?_
    refine go_newa_long hC hX0 (cs1 := (109, 3871)) mt_ac_long (by decide) (N := 1) (by decide) (by decide) (by rw [hn.2]; rfl) rfl (by decide) dL_law_17 ?_
    rw [← hSc, hn.2]
    refine go_astore_n hC [1, 2, 3, 0] (lv1 := [(0, .ref b), (1, mt_rf (l, D, cA, s.heap.size) 0), (2, mt_rf (l, D, cA, s.heap.size) 96), (3, mt_rf (l, D, cA, s.heap.size) 108)]) dL_law_19 rfl (by decide) rfl ?_
    refine go_iconst (v := 0) hC dL_law_20 (by decide) ?_
    refine go_istore hC [1, 2, 3, 4, 0] (lv1 := [(0, .ref b), (1, mt_rf (l, D, cA, s.heap.size) 0), (2, mt_rf (l, D, cA, s.heap.size) 96), (3, mt_rf (l, D, cA, s.heap.size) 108), (4, .int (nI (6 * 0)))]) dL_law_21 (by decide) rfl ?_
    exact mt_loop Inv hturn hL rfl hX hbl hb hr hlocks hC hT (L + 1) 0 Sc (by omega) (by omega) hI
  rw [lg_entry_eq]
  exact key s.heap [] _ (fun k q h => by simp [mt_W, mt_S0] at h) va_S.rf hl
