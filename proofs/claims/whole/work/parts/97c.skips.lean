/-! skips -/
section mtSk
variable {c : Nat → Int32} {n : Nat}
theorem mt_sk1 {i q f : Nat} (hn : n ≤ 200) (hi : i < n) (hq : 1 ≤ q) (hq2 : q < 5000) {T : mt_S} (hs : mt_st T) (hp : mt_tpM c n T) (e : T.2.2.1 96 32 = some (uI i)) : f_X11_skips_L2 (f + 1) 96 (uI q) T = f_X11_skips_L2 f 96 (if c i = 91 then uI (q + 1) else if c i = 93 then uI (q - 1) else uI q) (mt_pI T 96 32 (uI (i + 1))) := by
  have a0 := T_aI hs (k := 97) (c := 13) (by decide) rfl (n := 240) (by omega) (by decide) (hp.2 i hi)
  have w0 : ∀ {y : Option mt_S} {x : Int32}, f_X11_skips_L2 f 96 x (mt_pI T 96 32 (uI (i + 1))) = y → (Option.bind (mt_rI T 96 11 32) fun v16 => Option.bind (mt_wI T 96 11 32 (v16 + 1)) fun S17 => f_X11_skips_L2 f 96 x S17) = y := fun h => fw_b (T_rI hs (by decide) rfl e) (by rw [uI_s]; exact fw_b (T_wI hs _ (by decide) rfl) h)
  refine fw_f (by rw [show (0 : Int32) = uI 0 from rfl, uI_le (by omega) (by decide)]; omega) (fw_b (T_rR hs (by decide) rfl rfl) (fw_b (T_rI hs (by decide) rfl e) (fw_b a0 ?_)))
  by_cases z1 : c i = 91
  · refine fw_t z1 (fw_b (T_rR hs (by decide) rfl rfl) (fw_b (T_rI hs (by decide) rfl e) (fw_b a0 (fw_f (by rw [z1]; decide) (w0 ?_)))))
    rw [if_pos z1, uI_s]
  · refine fw_f z1 (fw_b (T_rR hs (by decide) rfl rfl) (fw_b (T_rI hs (by decide) rfl e) (fw_b a0 ?_)))
    by_cases z2 : c i = 93
    · refine fw_t z2 (w0 ?_)
      obtain ⟨p, rfl⟩ : ∃ p, q = p + 1 := ⟨q - 1, by omega⟩
      rw [if_neg z1, if_pos z2, uI_m, Nat.add_sub_cancel]
    · refine fw_f z2 (w0 ?_)
      rw [if_neg z1, if_neg z2]
/-- from i to b the brackets fit -/
def mt_sM (c : Nat → Int32) (n i b : Nat) : Prop := i ≤ b ∧ b ≤ n ∧ ∀ (T : mt_S) (f q : Nat), mt_st T → mt_tpM c n T → T.2.2.1 96 32 = some (uI i) → 1 ≤ q → q + (b - i) < 4000 → ∃ T', f_X11_skips_L2 (f + (b - i)) 96 (uI q) T = f_X11_skips_L2 f 96 (uI q) T' ∧ T'.2.2.1 96 32 = some (uI b) ∧ mt_fr mt_D32 T T'
theorem mt_tpM_3 {T T' : mt_S} (f : mt_fr mt_D32 T T') (h : mt_tpM c n T) : mt_tpM c n T' := mt_tpM_f f rfl (fun _ => rfl) h
theorem mt_sMn {i : Nat} (hi : i ≤ n) : mt_sM c n i i := ⟨Nat.le_refl _, hi, fun T f q hs hp e h1 h2 => ⟨T, by rw [Nat.sub_self]; rfl, e, mt_fr.refl _ T⟩⟩
theorem mt_sMt {i j b : Nat} (h1 : mt_sM c n i j) (h2 : mt_sM c n j b) : mt_sM c n i b := by
  obtain ⟨a1, a2, a3⟩ := h1
  obtain ⟨b1, b2, b3⟩ := h2
  refine ⟨by omega, b2, fun T f q hs hp e q1 q2 => ?_⟩
  obtain ⟨T1, c1, c2, c3⟩ := a3 T (f + (b - j)) q hs hp e q1 (by omega)
  obtain ⟨T2, d1, d2, d3⟩ := b3 T1 f q (c3.st hs) (mt_tpM_3 c3 hp) c2 q1 (by omega)
  refine ⟨T2, ?_, d2, c3.trans d3⟩
  rw [show f + (b - i) = f + (b - j) + (j - i) by omega, c1, d1]
theorem mt_sMs (hn : n ≤ 200) {i : Nat} (hi : i < n) (h1 : ¬ c i = 91) (h2 : ¬ c i = 93) : mt_sM c n i (i + 1) := by
  refine ⟨by omega, by omega, fun T f q hs hp e q1 q2 => ?_⟩
  have s := mt_sk1 (f := f) hn hi q1 (by omega) hs hp e
  rw [if_neg h1, if_neg h2] at s
  refine ⟨_, ?_, mt_I_eq, (mt_fr.refl mt_D32 T).I 96 32 _ rfl⟩
  rw [show f + (i + 1 - i) = f + 1 by omega]; exact s
theorem mt_sMr (hn : n ≤ 200) : ∀ (r i : Nat), i + r ≤ n → (∀ j, i ≤ j → j < i + r → ¬ c j = 91 ∧ ¬ c j = 93) → mt_sM c n i (i + r) := by
  intro r
  induction r with
  | zero => intro i hi _; exact mt_sMn hi
  | succ r ih =>
    intro i hi h
    have := h i (Nat.le_refl _) (by omega)
    rw [show i + (r + 1) = i + 1 + r by omega]
    exact mt_sMt (mt_sMs hn (by omega) this.1 this.2) (ih (i + 1) (by omega) (fun j h1 h2 => h j (by omega) (by omega)))
theorem mt_sMk (hn : n ≤ 200) {i a : Nat} (hk : mt_skp c n i a) : mt_sM c n i a := by
  obtain ⟨k1, k2, k3, -⟩ := hk
  have := mt_sMr (c := c) hn (a - i) i (by omega) (fun j h1 h2 => by rw [k3 j h1 (by omega)]; decide)
  rwa [show i + (a - i) = a by omega] at this
theorem mt_sMd (hn : n ≤ 200) {a e : Nat} (hd : mt_dgp c n a e) : mt_sM c n a e := by
  obtain ⟨k1, k2, k3, -⟩ := hd
  have := mt_sMr (c := c) hn (e - a) a (by omega) (fun j h1 h2 => by
    have z := k3 j h1 (by omega)
    refine ⟨fun w => ?_, fun w => ?_⟩
    · rw [w] at z; exact absurd z (by decide)
    · rw [w] at z; exact absurd z (by decide))
  rwa [show a + (e - a) = e by omega] at this
theorem mt_sMb (hn : n ≤ 200) {i j v : Nat} (h : mt_nb c n i j v) : mt_sM c n i j := by
  rcases h with ⟨h, -, -⟩ | ⟨a, h, d', -⟩
  · exact mt_sMk hn h
  · exact mt_sMt (mt_sMk hn h) (mt_sMd hn d')
theorem mt_sMB (hn : n ≤ 200) {a b : Nat} (ha : a < n) (hw : c a = 91) (h : mt_sM c n (a + 1) b) (hb : b < n) (hw2 : c b = 93) : mt_sM c n a (b + 1) := by
  obtain ⟨a1, a2, a3⟩ := h
  refine ⟨by omega, by omega, fun T f q hs hp e q1 q2 => ?_⟩
  have s := mt_sk1 (f := f + 1 + (b - (a + 1))) hn ha q1 (by omega) hs hp e
  rw [if_pos hw] at s
  have g1 := (mt_fr.refl mt_D32 T).I 96 32 (uI (a + 1)) rfl
  obtain ⟨T1, c1, c2, c3⟩ := a3 (mt_pI T 96 32 (uI (a + 1))) (f + 1) (q + 1) hs (mt_tpM_3 g1 hp) mt_I_eq (by omega) (by omega)
  have f1 := g1.trans c3
  have s2 := mt_sk1 (f := f) (q := q + 1) hn hb (by omega) (by omega) (f1.st hs) (mt_tpM_3 f1 hp) c2
  rw [if_neg (by rw [hw2]; decide), if_pos hw2, Nat.add_sub_cancel] at s2
  refine ⟨_, ?_, mt_I_eq, f1.I 96 32 _ rfl⟩
  rw [show f + (b + 1 - a) = f + 1 + (b - (a + 1)) + 1 by omega, s, c1, s2]
/-- skips, from behind [ -/
theorem mt_skpT (hn : n ≤ 200) {a b : Nat} (h : mt_sM c n (a + 1) b) (hb : b < n) (hw2 : c b = 93) {T : mt_S} (hs : mt_st T) (hp : mt_tpM c n T) (e : T.2.2.1 96 32 = some (uI (a + 1))) : ∃ T', f_X11_skips 96 T = some T' ∧ T'.2.2.1 96 32 = some (uI (b + 1)) ∧ mt_fr mt_D32 T T' := by
  obtain ⟨a1, a2, a3⟩ := h
  obtain ⟨T1, c1, c2, c3⟩ := a3 T (1000 - (b - (a + 1))) 1 hs hp e (by decide) (by omega)
  rw [show 1000 - (b - (a + 1)) + (b - (a + 1)) = 1000 by omega] at c1
  have hs1 := c3.st hs
  have s2 := mt_sk1 (f := 1000 - (b - (a + 1)) - 1) (q := 1) hn hb (by decide) (by decide) hs1 (mt_tpM_3 c3 hp) c2
  rw [if_neg (by rw [hw2]; decide), if_pos hw2, show 1000 - (b - (a + 1)) - 1 + 1 = 1000 - (b - (a + 1)) by omega] at s2
  refine ⟨mt_pI T1 96 32 (uI (b + 1)), fw_t (T_K hs (by decide) rfl) (c1.trans (s2.trans ?_)), mt_I_eq, c3.I 96 32 _ rfl⟩
  rw [show 1000 - (b - (a + 1)) - 1 = 1000 - (b - (a + 1)) - 2 + 1 by omega]
  show f_X11_skips_L2s (f_X11_skips_L2 (1000 - (b - (a + 1)) - 2)) 96 (uI 0) (mt_pI T1 96 32 (uI (b + 1))) = _
  exact fw_t (by decide) rfl
end mtSk
