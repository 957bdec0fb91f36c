/-! a whole path: both read the same, and go the same -/
def mt_pre (c : Nat → Int32) (n d i : Nat) (T : mt_S) (t s : Nat) (mc nf : Int32) : Prop := mt_st T ∧ mt_tpC c n T ∧ mt_pC T s d mc nf ∧ mt_mcO c n i mc ∧ t ≤ i ∧ s ≤ i
def mt_oC (c : Nat → Int32) (n d i b : Nat) (ac : Nat → List mt_Ac) : Prop := ∀ (T : mt_S) (t s : Nat) (mc nf : Int32), mt_pre c n d i T t s mc nf → ∃ T' t' mc' nf', mt_rl n i t T = mt_rl n b t' T' ∧ t' ≤ b ∧ mt_pC T' (s + (ac s).length) d mc' nf' ∧ mt_aC T' s (ac s) ∧ s + (ac s).length ≤ b ∧ mt_fr (mt_DP s d) T T'
def mt_fC9 (c : Nat → Int32) (n d i : Nat) (k : Int32) (p : Nat) : Prop := ∀ (T : mt_S) (t s : Nat) (mc nf : Int32), mt_pre c n d i T t s mc nf → ∃ T', mt_rl n i t T = some T' ∧ T'.2.2.1 3 9 = some k ∧ T'.2.2.1 3 10 = some (uI p) ∧ mt_fr mt_DF T T'
def mt_iC (c : Nat → Int32) (n d i j : Nat) (it : Nat → List mt_Ac) : Prop := ∀ (T : mt_S) (t s : Nat) (mc nf : Int32), mt_pre c n d i T t s mc nf → ∃ T' t' mc' nf', mt_rl n i t T = mt_rl n j t' T' ∧ t' ≤ j ∧ mt_pC T' (s + (it s).length) d mc' nf' ∧ mt_mcO c n j mc' ∧ mt_aC T' s (it s) ∧ s + (it s).length ≤ j ∧ mt_fr (mt_DP s d) T T'
def mt_em (ac : Nat → List mt_Ac) (den : mt_Dn9) : Prop := ((∀ s, ac s = []) ∧ den = mt_d0) ∨ ∀ s, ¬ ac s = []
def mt_PP (c : Nat → Int32) (n d i : Nat) : Prop := (∃ k p, ¬ k = 0 ∧ mt_fC9 c n d i k p ∧ mt_rM c n d i (mt_ftM k p)) ∨ ∃ b ac den, i ≤ b ∧ b ≤ n ∧ (d = 0 → b = n) ∧ (¬ d = 0 → b < n ∧ c b = 93) ∧ mt_oC c n d i b ac ∧ mt_rM c n d i (mt_okM b) ∧ mt_sM c n i b ∧ mt_gM c n d i den ∧ mt_dk den ∧ (∀ s, mt_rC9 (4 - d) s (ac s) den) ∧ mt_em ac den
section mtMn
variable {c : Nat → Int32} {n : Nat}
theorem mt_icO {d i j b : Nat} {it ac : Nat → List mt_Ac} (hjb : j ≤ b) (h1 : mt_iC c n d i j it) (h2 : mt_oC c n d j b ac) : mt_oC c n d i b (fun s => it s ++ ac (s + (it s).length)) := by
  intro T t s mc nf hp
  obtain ⟨T1, t1, mc1, nf1, a1, a2, a3, a4, a5, a6, a7⟩ := h1 T t s mc nf hp
  obtain ⟨hs, htp, -⟩ := hp
  obtain ⟨T2, t2, mc2, nf2, b1, b2, b3, b4, b5, b6⟩ := h2 T1 t1 (s + (it s).length) mc1 nf1 ⟨a7.st hs, mt_tpC_D a7 htp, a3, a4, a2, a6⟩
  have e : (it s ++ ac (s + (it s).length)).length = (it s).length + (ac (s + (it s).length)).length := List.length_append
  refine ⟨T2, t2, mc2, nf2, a1.trans b1, b2, ?_, mt_aC_app (mt_aC_f b6 (fun k m k1 k2 hm => ?_) a5) b4, ?_, a7.trans (mt_DP_m (by omega) (Nat.le_refl _) b6)⟩
  · show mt_pC T2 (s + (it s ++ ac (s + (it s).length)).length) d mc2 nf2
    rw [e, ← Nat.add_assoc]; exact b3
  · unfold mt_DP
    simp only [Bool.or_eq_false_iff, Bool.and_eq_false_iff, decide_eq_false_iff_not]; omega
  · show s + (it s ++ ac (s + (it s).length)).length ≤ b
    rw [e]; omega
theorem mt_icF {d i j p : Nat} {k : Int32} {it : Nat → List mt_Ac} (h1 : mt_iC c n d i j it) (h2 : mt_fC9 c n d j k p) : mt_fC9 c n d i k p := by
  intro T t s mc nf hp
  obtain ⟨T1, t1, mc1, nf1, a1, a2, a3, a4, a5, a6, a7⟩ := h1 T t s mc nf hp
  obtain ⟨hs, htp, -⟩ := hp
  obtain ⟨T2, b1, b2, b3, b4⟩ := h2 T1 t1 (s + (it s).length) mc1 nf1 ⟨a7.st hs, mt_tpC_D a7 htp, a3, a4, a2, a6⟩
  exact ⟨T2, a1.trans b1, b2, b3, (mt_DP_F a7).trans b4⟩
theorem mt_dS00 : mt_dS mt_d0 mt_d0 = mt_d0 := by
  funext z
  exact if_neg Bool.false_ne_true
theorem mt_dR00 : ∀ k, mt_dR mt_d0 k = mt_d0 := by
  intro k
  induction k with
  | zero => rfl
  | succ k ih =>
    funext z
    show (if (mt_d0 z).2 = true then mt_d0 z else mt_dR mt_d0 k (mt_d0 z).1) = mt_d0 z
    rw [show (if (mt_d0 z).2 = true then mt_d0 z else mt_dR mt_d0 k (mt_d0 z).1) = mt_dR mt_d0 k (mt_d0 z).1 from if_neg Bool.false_ne_true, ih]; rfl
/-- an item, then the rest -/
theorem mt_PPc {d i j : Nat} {it : Nat → List mt_Ac} {di : mt_Dn9} (hij : i ≤ j) (h1 : mt_iC c n d i j it) (hsM : mt_sM c n i j) (hdi : mt_dk di) (hrC : ∀ s, mt_rC9 (4 - d) s (it s) di) (hem : mt_em it di) (hrM : ∀ R, mt_rM c n d j R → mt_rM c n d i R) (hgM : ∀ g, mt_gM c n d j g → mt_gM c n d i (mt_dS di g)) (hrest : mt_PP c n d j) : mt_PP c n d i := by
  rcases hrest with ⟨k, p, k0, f1, f2⟩ | ⟨b, ac, den, b1, b2, b3, b4, b5, b6, b7, b8, b9, b10, b11⟩
  · exact Or.inl ⟨k, p, k0, mt_icF h1 f1, hrM _ f2⟩
  · refine Or.inr ⟨b, fun s => it s ++ ac (s + (it s).length), mt_dS di den, by omega, b2, b3, b4, mt_icO b1 h1 b5, hrM _ b6, mt_sMt hsM b7, hgM _ b8, mt_dkS hdi b9, fun s => mt_rcS hdi (hrC s) (b10 _) b9, ?_⟩
    rcases hem with ⟨e1, e2⟩ | e1
    · rcases b11 with ⟨g1, g2⟩ | g1
      · refine Or.inl ⟨fun s => ?_, by rw [e2, g2]; exact mt_dS00⟩
        show it s ++ ac (s + (it s).length) = []
        rw [e1 s, g1]; rfl
      · refine Or.inr fun s z => ?_
        have z : it s ++ ac (s + (it s).length) = [] := z
        exact g1 _ (List.append_eq_nil_iff.mp z).2
    · refine Or.inr fun s z => ?_
      have z : it s ++ ac (s + (it s).length) = [] := z
      exact e1 s (List.append_eq_nil_iff.mp z).1
/-- [ .. ] with how often, for the program -/
theorem mt_brI (hn : n ≤ 200) {i a b j v d : Nat} {ac : Nat → List mt_Ac} (hk : mt_skp c n i a) (ha : a < n) (hw : c a = 91) (hd : d < 3) (hab : a < b) (hb : b < n) (hw2 : c b = 93) (hin : mt_oC c n (d + 1) (a + 1) b ac) (h : mt_nb c n (b + 1) j v) : mt_iC c n d i j (fun s => if ac s = [] then [] else ac s ++ [(93, v, s)]) := by
  intro T t s mc nf hpre
  obtain ⟨hs, hp, hc, hm, ht, hsi⟩ := hpre
  have k1 := hk.1
  have jb := mt_nb_b h
  obtain ⟨T1, t1, a1, a2, a3, a4, a5⟩ := mt_opC hn hk ha hw ht hsi hd hs hp hc
  have hs1 := a5.st hs
  have hp1 := mt_tpC_D a5 hp
  obtain ⟨T2, t2, mc2, nf2, b1, b2, b3, b4, b5, b6⟩ := hin T1 t1 s 0 nf ⟨hs1, hp1, a3, Or.inl rfl, a2, by omega⟩
  have hs2 := b6.st hs1
  have hp2 := mt_tpC_D b6 hp1
  have e8 : T2.2.2.1 8 d = some (uI s) := (b6.2 8 d (by unfold mt_DP; simp)).1.trans a4
  obtain ⟨T3, t3, s3, nf3, c1, c2, c3, c4, c5⟩ := mt_clC hn hb hw2 b2 (Nat.le_add_right _ _) b5 hd hs2 hp2 b3 e8
  have hs3 := c5.st hs2
  have hp3 := mt_tpC_D c5 hp2
  have f03 : mt_fr (mt_DP s d) T T3 := (a5.trans (mt_DP_m (Nat.le_refl _) (by omega) b6)).trans (mt_DP_m (by omega) (by omega) c5)
  rcases c4 with ⟨q1, q2, q3⟩ | ⟨q1, q2, q3, q4⟩
  · have hl0 : (ac s).length = 0 := by omega
    have hnil : ac s = [] := List.eq_nil_of_length_eq_zero hl0
    subst q2
    subst q3
    obtain ⟨T4, t4, mc4, d1, d2, d3, d4, d5, d6⟩ := mt_nbC hn h c2 hs3 hp3 c3 (Or.inl rfl) (by omega) (fun m hm' hl' => absurd hm'.symm (uI_n1 (by omega)))
    refine ⟨T4, t4, mc4, -1, a1.trans (b1.trans (c1.trans d1)), d2, ?_, d4, ?_, ?_, f03.trans (d6.mono (fun k m w => ?_))⟩
    · show mt_pC T4 (s + (if ac s = [] then ([] : List mt_Ac) else ac s ++ [((93 : Int32), v, s)]).length) d mc4 (-1)
      rw [if_pos hnil]
      have e : s + (ac s).length = s + ([] : List mt_Ac).length := by rw [hnil]
      rw [← e]; exact d3
    · show mt_aC T4 s (if ac s = [] then ([] : List mt_Ac) else ac s ++ [((93 : Int32), v, s)])
      rw [if_pos hnil]; intro m x hm'; cases hm'
    · show s + (if ac s = [] then ([] : List mt_Ac) else ac s ++ [((93 : Int32), v, s)]).length ≤ j
      rw [if_pos hnil]; show s + 0 ≤ j; omega
    · unfold mt_DP at w
      simp only [Bool.or_eq_false_iff, Bool.and_eq_false_iff, decide_eq_false_iff_not] at w ⊢
      refine ⟨by omega, ?_⟩
      by_cases hm' : m < s + (ac s).length
      · exact Or.inr (Or.inr fun z => absurd z.symm (uI_n1 (by omega)))
      · exact Or.inr (Or.inl hm')
  · have hne : ¬ ac s = [] := fun z => by rw [z] at q1; exact Nat.lt_irrefl _ q1
    subst q2
    subst q3
    obtain ⟨z1, z2, z3, z4⟩ := q4 0 _ rfl
    rw [Nat.add_zero] at z1 z2 z3 z4
    obtain ⟨T4, t4, mc4, d1, d2, d3, d4, d5, d6⟩ := mt_nbC hn h c2 hs3 hp3 c3 (Or.inr ⟨s + (ac s).length, by omega, rfl⟩) (by omega) (fun m hm' hl' => by
      have : m = s + (ac s).length := ((uI_eq (by omega) (by omega)).mp hm').symm
      rw [this]; exact z2)
    have el : (ac s ++ [((93 : Int32), v, s)]).length = (ac s).length + 1 := by rw [List.length_append]; rfl
    have b4' : mt_aC T3 s (ac s) := mt_aC_f c5 (fun k m k1 k2 hm' => by
      unfold mt_DP
      simp only [Bool.or_eq_false_iff, Bool.and_eq_false_iff, decide_eq_false_iff_not]; omega) b4
    have e6 : ∀ k m, ¬ k = 3 → ¬ (k = 5 ∧ m = s + (ac s).length) → ((decide (k = 3) && decide (m = 7)) || (decide (k = 5) && (decide (m < s + (ac s).length + 1) && decide (uI (s + (ac s).length) = uI m)))) = false := fun k m h3 h5 => by
      simp only [Bool.or_eq_false_iff, Bool.and_eq_false_iff, decide_eq_false_iff_not]
      refine ⟨Or.inl h3, ?_⟩
      by_cases k5 : k = 5
      · by_cases hm' : m < s + (ac s).length + 1
        · refine Or.inr (Or.inr fun z => h5 ⟨k5, ?_⟩)
          exact ((uI_eq (by omega) (by omega)).mp z).symm
        · exact Or.inr (Or.inl hm')
      · exact Or.inl k5
    refine ⟨T4, t4, mc4, uI (s + (ac s).length), a1.trans (b1.trans (c1.trans d1)), d2, ?_, d4, ?_, ?_, f03.trans (d6.mono (fun k m w => ?_))⟩
    · show mt_pC T4 (s + (if ac s = [] then ([] : List mt_Ac) else ac s ++ [((93 : Int32), v, s)]).length) d mc4 (uI (s + (ac s).length))
      rw [if_neg hne, el, ← Nat.add_assoc]; exact d3
    · show mt_aC T4 s (if ac s = [] then ([] : List mt_Ac) else ac s ++ [((93 : Int32), v, s)])
      rw [if_neg hne]
      refine mt_aC_app (mt_aC_f d6 (fun k m k1 k2 hm' => e6 k (s + m) (by omega) (by omega)) b4') (fun m x hm' => ?_)
      match m, hm' with
      | 0, hm' =>
        cases hm'
        rw [Nat.add_zero]
        exact ⟨(d6.2 4 _ (e6 4 _ (by decide) (by omega))).1.trans z1, d5 _ rfl (by omega), (d6.2 6 _ (e6 6 _ (by decide) (by omega))).1.trans z3, (d6.2 7 _ (e6 7 _ (by decide) (by omega))).1.trans z4⟩
    · show s + (if ac s = [] then ([] : List mt_Ac) else ac s ++ [((93 : Int32), v, s)]).length ≤ j
      rw [if_neg hne, el]; omega
    · unfold mt_DP at w
      simp only [Bool.or_eq_false_iff, Bool.and_eq_false_iff, decide_eq_false_iff_not] at w
      exact e6 k m (by omega) (by omega)
/-- [ and what is inside, a fault; and a fault behind ] -/
theorem mt_brF (hn : n ≤ 200) {i a d p : Nat} {k : Int32} (hk : mt_skp c n i a) (ha : a < n) (hw : c a = 91) (hd : d < 3) (hin : mt_fC9 c n (d + 1) (a + 1) k p) : mt_fC9 c n d i k p := by
  intro T t s mc nf hpre
  obtain ⟨hs, hp, hc, hm, ht, hsi⟩ := hpre
  have k1 := hk.1
  obtain ⟨T1, t1, a1, a2, a3, a4, a5⟩ := mt_opC hn hk ha hw ht hsi hd hs hp hc
  obtain ⟨T2, b1, b2, b3, b4⟩ := hin T1 t1 s 0 nf ⟨a5.st hs, mt_tpC_D a5 hp, a3, Or.inl rfl, a2, by omega⟩
  exact ⟨T2, a1.trans b1, b2, b3, (mt_DP_F a5).trans b4⟩
theorem mt_brX (hn : n ≤ 200) {i a b d p : Nat} {ac : Nat → List mt_Ac} (hk : mt_skp c n i a) (ha : a < n) (hw : c a = 91) (hd : d < 3) (hab : a < b) (hb : b < n) (hw2 : c b = 93) (hin : mt_oC c n (d + 1) (a + 1) b ac) (h : mt_nx c n (b + 1) p) : mt_fC9 c n d i 2 p := by
  intro T t s mc nf hpre
  obtain ⟨hs, hp, hc, hm, ht, hsi⟩ := hpre
  have k1 := hk.1
  obtain ⟨T1, t1, a1, a2, a3, a4, a5⟩ := mt_opC hn hk ha hw ht hsi hd hs hp hc
  have hs1 := a5.st hs
  have hp1 := mt_tpC_D a5 hp
  obtain ⟨T2, t2, mc2, nf2, b1, b2, b3, b4, b5, b6⟩ := hin T1 t1 s 0 nf ⟨hs1, hp1, a3, Or.inl rfl, a2, by omega⟩
  have hs2 := b6.st hs1
  have hp2 := mt_tpC_D b6 hp1
  have e8 : T2.2.2.1 8 d = some (uI s) := (b6.2 8 d (by unfold mt_DP; simp)).1.trans a4
  obtain ⟨T3, t3, s3, nf3, c1, c2, c3, c4, c5⟩ := mt_clC hn hb hw2 b2 (Nat.le_add_right _ _) b5 hd hs2 hp2 b3 e8
  obtain ⟨T4, d1, d2, d3, d4⟩ := mt_nxC hn h c2 (c5.st hs2) (mt_tpC_D c5 hp2) c3
  exact ⟨T4, a1.trans (b1.trans (c1.trans d1)), d2, d3, (((mt_DP_F a5).trans (mt_DP_F b6)).trans (mt_DP_F c5)).trans d4⟩
theorem mt_main (hn : n ≤ 200) : ∀ (r i d : Nat), n - i ≤ r → i ≤ n → d ≤ 3 → mt_PP c n d i := by
  intro r
  induction r with
  | zero =>
    intro i d hr hi hd
    have hi : i = n := by omega
    subst hi
    have hk : mt_skp c i i i := ⟨Nat.le_refl _, Nat.le_refl _, fun j h1 h2 => by omega, fun h => absurd h (Nat.lt_irrefl _)⟩
    have rE := mt_enM (c := c) (d := d) hn hk
    by_cases d0 : d = 0
    · rw [if_pos d0] at rE
      exact Or.inr ⟨i, fun _ => [], mt_d0, Nat.le_refl _, Nat.le_refl _, fun _ => rfl, fun z => absurd d0 z, fun T t s mc nf hp => ⟨T, t, mc, nf, rfl, hp.2.2.2.2.1, hp.2.2.1, fun m x hm => (by cases hm), hp.2.2.2.2.2, mt_fr.refl _ T⟩, rE, mt_sMk hn hk, mt_gEn hn hk (Or.inl (Nat.le_refl _)), mt_dk0, fun s => mt_rc0 _ s, Or.inl ⟨fun _ => rfl, rfl⟩⟩
    · rw [if_neg d0] at rE
      refine Or.inl ⟨1, i, by decide, fun T t s mc nf hp => ?_, rE⟩
      obtain ⟨hs, -, hc, -, ht, -⟩ := hp
      have e := mt_rlE hn ht hs hc.2.2.2.2 hc.2.1 hd
      rw [if_neg d0] at e
      exact ⟨_, e, (mt_I_ne (Or.inr (by decide))).trans mt_I_eq, mt_I_eq, ((mt_fr.refl mt_DF T).I 3 9 _ rfl).I 3 10 _ rfl⟩
  | succ r ih =>
    intro i d hr hi hd
    obtain ⟨a, hk⟩ := mt_skE c n (n - i) i (by omega)
    have k1 := hk.1
    have k2 := hk.2.1
    by_cases ha : a < n
    · by_cases w9 : c a = 93
      · by_cases d0 : d = 0
        · subst d0
          refine Or.inl ⟨1, a, by decide, fun T t s mc nf hp => ?_, mt_xxM hn hk ha (fun w => w.2 rfl) (by rw [w9]; decide) (by rw [w9]; decide) (by rw [w9]; decide) (by rw [w9]; decide) (by rw [w9]; decide)⟩
          obtain ⟨hs, htp, hc, -, ht, -⟩ := hp
          exact mt_sgF hn hk ha ht hs htp hc.2.2.2.2 (by decide) (by rw [w9]; decide) (mt_sgC0 w9 hs hc.2.1)
        · refine Or.inr ⟨a, fun _ => [], mt_d0, k1, k2, fun z => absurd z d0, fun _ => ⟨ha, w9⟩, fun T t s mc nf hp => ?_, mt_clM hn hk ha w9 d0, mt_sMk hn hk, mt_gEn hn hk (Or.inr ⟨w9, d0⟩), mt_dk0, fun s => mt_rc0 _ s, Or.inl ⟨fun _ => rfl, rfl⟩⟩
          obtain ⟨hs, htp, hc, -, ht, hsi⟩ := hp
          exact ⟨T, t + (a - i), mc, nf, mt_rlB hn (a - i) i t T (by omega) ht hs htp hc.2.2.2.2 hk, by omega, hc, fun m x hm => (by cases hm), by show s + 0 ≤ a; omega, mt_fr.refl _ T⟩
      · by_cases wl : c a = 108 ∨ c a = 114 ∨ c a = 117
        · have hwl : c a ∈ ([108, 114, 117, 104] : List Int32) := by rcases wl with e | e | e <;> rw [e] <;> decide
          have ns : ¬ c a = 91 ∧ ¬ c a = 93 := by rcases wl with e | e | e <;> rw [e] <;> decide
          rcases mt_nbE c (n := n) (i := a + 1) (by omega) with ⟨j, v, hnb⟩ | ⟨p, hnx⟩
          · have jb := mt_nb_b hnb
            refine mt_PPc (it := fun _ => [(c a, v, 0)]) (di := mt_dL (c a) v) (by omega) (fun T t s mc nf hp => ?_) (mt_sMt (mt_sMk hn hk) (mt_sMt (mt_sMs hn ha ns.1 ns.2) (mt_sMb hn hnb))) (mt_dkL hwl v) (fun s => mt_rcL hwl (by omega) jb.2.2.1 jb.2.2.2) (Or.inr fun s z => by cases z) (fun R hR => mt_ltM hn hk ha wl hnb hR) (fun g hg => mt_gLt hn hk ha wl hnb hg) (ih j d (by omega) jb.2.1 hd)
            obtain ⟨hs, htp, hc, -, ht, hsi⟩ := hp
            obtain ⟨T', t', mc', b1, b2, b3, b4, b5, b6⟩ := mt_ltC hn hk ha wl hnb ht hsi hs htp hc
            exact ⟨T', t', mc', uI s, b1, b2, b3, b4, b5, by show s + 1 ≤ j; omega, b6⟩
          · refine Or.inl ⟨2, p, by decide, fun T t s mc nf hp => ?_, mt_ltMx hn hk ha wl hnx⟩
            obtain ⟨hs, htp, hc, -, ht, hsi⟩ := hp
            exact mt_ltX hn hk ha wl hnx ht hsi hs htp hc
        · by_cases wh : c a = 104
          · refine mt_PPc (j := a + 1) (it := fun _ => [(104, 1, 0)]) (di := mt_dL 104 1) (by omega) (fun T t s mc nf hp => ?_) (mt_sMt (mt_sMk hn hk) (mt_sMs hn ha (by rw [wh]; decide) (by rw [wh]; decide))) (mt_dkL (by decide) 1) (fun s => mt_rcL (by decide) (by omega) (by decide) (by decide)) (Or.inr fun s z => by cases z) (fun R hR => mt_hmM hn hk ha wh hR) (fun g hg => mt_gHm hn hk ha wh hg) (ih (a + 1) d (by omega) (by omega) hd)
            obtain ⟨hs, htp, hc, -, ht, hsi⟩ := hp
            obtain ⟨T', t', b1, b2, b3, b5, b6⟩ := mt_hmC hn hk ha wh ht hsi hs htp hc
            exact ⟨T', t', 0, uI s, b1, b2, b3, Or.inl rfl, b5, by show s + 1 ≤ a + 1; omega, b6⟩
          · by_cases wo : c a = 91
            · by_cases d3 : d = 3
              · subst d3
                refine Or.inl ⟨3, a, by decide, fun T t s mc nf hp => ?_, mt_brM3 hn hk ha wo⟩
                obtain ⟨hs, htp, hc, -, ht, -⟩ := hp
                exact mt_sgF hn hk ha ht hs htp hc.2.2.2.2 (by decide) (by rw [wo]; decide) (mt_sgO3 wo hs hc.2.1)
              · have hd3 : d < 3 := by omega
                rcases ih (a + 1) (d + 1) (by omega) (by omega) (by omega) with ⟨k, p, k0, f1, f2⟩ | ⟨b, ac, den, b1, b2, b3, b4, b5, b6, b7, b8, b9, b10, b11⟩
                · exact Or.inl ⟨k, p, k0, mt_brF hn hk ha wo hd3 f1, mt_brMf hn k0 hk ha wo hd3 f2⟩
                · obtain ⟨hb, hw2⟩ := b4 (by omega)
                  have hab : a < b := by omega
                  rcases mt_nbE c (n := n) (i := b + 1) (by omega) with ⟨j, v, hnb⟩ | ⟨p, hnx⟩
                  · have jb := mt_nb_b hnb
                    have hsM := mt_sMt (mt_sMk hn hk) (mt_sMt (mt_sMB hn ha wo b7 hb hw2) (mt_sMb hn hnb))
                    refine mt_PPc (it := fun s => if ac s = [] then [] else ac s ++ [(93, v, s)]) (di := mt_dR den v) (by omega) (mt_brI hn hk ha wo hd3 hab hb hw2 b5 hnb) hsM (mt_dkR b9 v) (fun s => ?_) ?_ (fun R hR => mt_brMo hn hk ha wo hd3 hab b6 hnb hR) (fun g hg => mt_gBr hn hk ha wo hd3 hab hb hw2 b7 b9 b8 hnb hg) (ih j d (by omega) jb.2.1 hd)
                    · show mt_rC9 (4 - d) s (if ac s = [] then ([] : List mt_Ac) else ac s ++ [((93 : Int32), v, s)]) (mt_dR den v)
                      by_cases z : ac s = []
                      · have e0 : den = mt_d0 := by
                          rcases b11 with ⟨-, g2⟩ | g1
                          · exact g2
                          · exact absurd z (g1 s)
                        rw [if_pos z, e0, mt_dR00]; exact mt_rc0 _ s
                      · rw [if_neg z, show 4 - d = (4 - (d + 1)) + 1 by omega]
                        exact mt_rcB b9 z (b10 s) jb.2.2.1 jb.2.2.2
                    · rcases b11 with ⟨g1, g2⟩ | g1
                      · exact Or.inl ⟨fun s => if_pos (g1 s), by rw [g2]; exact mt_dR00 v⟩
                      · refine Or.inr fun s z => ?_
                        have z : (if ac s = [] then [] else ac s ++ [((93 : Int32), v, s)]) = [] := z
                        rw [if_neg (g1 s)] at z
                        exact g1 s (List.append_eq_nil_iff.mp z).1
                  · exact Or.inl ⟨2, p, by decide, mt_brX hn hk ha wo hd3 hab hb hw2 b5 hnx, mt_brMx hn hk ha wo hd3 hab b6 hnx⟩
            · obtain ⟨l1, l2⟩ := not_or.mp wl
              obtain ⟨l2, l3⟩ := not_or.mp l2
              refine Or.inl ⟨1, a, by decide, fun T t s mc nf hp => ?_, mt_xxM hn hk ha (fun w => w9 w.1) wo wh l1 l2 l3⟩
              obtain ⟨hs, htp, hc, hm, ht, hsi⟩ := hp
              cases hdg : mt_dg (c a) with
              | false => exact mt_sgF hn hk ha ht hs htp hc.2.2.2.2 (by decide) hdg (mt_sgX (hk.2.2.2 ha) wo w9 wh l1 l2 l3 hs)
              | true =>
                have m0 := mt_mcA hm hk ha hdg
                obtain ⟨e, e1, e2, e3, e4⟩ := mt_dgE c n (n - a) a (by omega)
                have ea : a < e := by
                  by_cases z : e = a
                  · rw [z] at e4
                    have := e4 ha
                    rw [hdg] at this; cases this
                  · omega
                have s1 := mt_rlB hn (a - i) i t T (by omega) ht hs htp hc.2.2.2.2 hk
                obtain ⟨T', b1, b2, b3, b4⟩ := mt_rnB hn (t := t + (a - i)) (k := 1) (a := a) (e := e) ⟨ea, e2, e3, e4⟩ (by omega) hs htp hc.2.2.2.2 hc.2.2.1 (Or.inl ⟨m0, rfl⟩)
                exact ⟨T', s1.trans b1, b2, b3, b4⟩
    · have hn' : a = n := by omega
      subst hn'
      have rE := mt_enM (c := c) (d := d) hn hk
      by_cases d0 : d = 0
      · rw [if_pos d0] at rE
        refine Or.inr ⟨a, fun _ => [], mt_d0, k1, Nat.le_refl _, fun _ => rfl, fun z => absurd d0 z, fun T t s mc nf hp => ?_, rE, mt_sMk hn hk, mt_gEn hn hk (Or.inl (Nat.le_refl _)), mt_dk0, fun s => mt_rc0 _ s, Or.inl ⟨fun _ => rfl, rfl⟩⟩
        obtain ⟨hs, htp, hc, -, ht, hsi⟩ := hp
        exact ⟨T, t + (a - i), mc, nf, mt_rlB hn (a - i) i t T (by omega) ht hs htp hc.2.2.2.2 hk, by omega, hc, fun m x hm => (by cases hm), by show s + 0 ≤ a; omega, mt_fr.refl _ T⟩
      · rw [if_neg d0] at rE
        refine Or.inl ⟨1, a, by decide, fun T t s mc nf hp => ?_, rE⟩
        obtain ⟨hs, htp, hc, -, ht, hsi⟩ := hp
        have s1 := mt_rlB hn (a - i) i t T (by omega) ht hs htp hc.2.2.2.2 hk
        have e := mt_rlE hn (t := t + (a - i)) (by omega) hs hc.2.2.2.2 hc.2.1 hd
        rw [if_neg d0] at e
        exact ⟨_, s1.trans e, (mt_I_ne (Or.inr (by decide))).trans mt_I_eq, mt_I_eq, ((mt_fr.refl mt_DF T).I 3 9 _ rfl).I 3 10 _ rfl⟩
end mtMn
