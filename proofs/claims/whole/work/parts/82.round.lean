/-! rounds -/
theorem mt_Jabs (x : Int64) (S : mt_S) : f_J9_abs_067f4 x S = some (mt_abs x, S) := by
  unfold f_J9_abs_067f4 mt_abs
  by_cases h : 0 ≤ x
  · rw [if_pos h, if_pos h]
  · rw [if_neg h, if_neg h]
theorem mt_Jmin (x y : Int64) (S : mt_S) : f_J9_min_f86c9 x y S = some (mt_mnL x y, S) := by
  unfold f_J9_min_f86c9 mt_mnL
  by_cases h : y < x
  · rw [if_pos h, if_pos h]
  · rw [if_neg h, if_neg h]
theorem mt_Jfm {x y : Int64} (hy : ¬ y = 0) (S : mt_S) : f_J9_floorMod_f86c9 x y S = some (mt_fmo x y, S) := by
  unfold f_J9_floorMod_f86c9 mt_fmo
  rw [if_neg hy]
  by_cases h : 0 ≤ (x ^^^ y)
  · rw [if_pos h, if_pos h]
  · rw [if_neg h, if_neg h]
    by_cases g : (x - x / y * y) = 0
    · rw [if_pos g, if_pos g]
    · rw [if_neg g, if_neg g]
/-- the form at a cell from o on: a, b, c, d, r -/
def mt_f5 (T : mt_S) (k o : Nat) (t : mt_T3) (d r : Int64) : Prop := T.2.2.2.1 k o = some t.1 ∧ T.2.2.2.1 k (o + 1) = some t.2.1 ∧ T.2.2.2.1 k (o + 2) = some t.2.2 ∧ T.2.2.2.1 k (o + 3) = some d ∧ T.2.2.2.1 k (o + 4) = some r
def mt_w3 (T : mt_S) (k o : Nat) (t : mt_T3) : mt_S := mt_pL (mt_pL (mt_pL T k o t.1) k (o + 1) t.2.1) k (o + 2) t.2.2
theorem mt_w3f (T : mt_S) (k o : Nat) (t : mt_T3) : mt_fr (fun a b => decide (a = k) && (decide (o ≤ b) && decide (b < o + 3))) T (mt_w3 T k o t) := (((mt_fr.refl _ T).L k o _ (by simp)).L k (o + 1) _ (by simp)).L k (o + 2) _ (by simp)
theorem mt_w35 {T : mt_S} {k o : Nat} {t u : mt_T3} {d r : Int64} (h : mt_f5 T k o t d r) : mt_f5 (mt_w3 T k o u) k o u d r := by
  have f := mt_w3f T k o u
  obtain ⟨-, -, -, h3, h4⟩ := h
  refine ⟨(mt_L_ne (Or.inr (by omega))).trans ((mt_L_ne (Or.inr (by omega))).trans mt_L_eq), (mt_L_ne (Or.inr (by omega))).trans mt_L_eq, mt_L_eq, (f.2 k (o + 3) (by simp)).2.trans h3, (f.2 k (o + 4) (by simp)).2.trans h4⟩
theorem mt_f5f {D : Nat → Nat → Bool} {T T' : mt_S} {k o : Nat} {t : mt_T3} {d r : Int64} (f : mt_fr D T T') (hD : ∀ i, i < 5 → D k (o + i) = false) (h : mt_f5 T k o t d r) : mt_f5 T' k o t d r := by
  obtain ⟨h0, h1, h2, h3, h4⟩ := h
  exact ⟨(f.2 _ _ (hD 0 (by decide))).2.trans h0, (f.2 _ _ (hD 1 (by decide))).2.trans h1, (f.2 _ _ (hD 2 (by decide))).2.trans h2, (f.2 _ _ (hD 3 (by decide))).2.trans h3, (f.2 _ _ (hD 4 (by decide))).2.trans h4⟩
theorem mt_gtn {T : mt_S} (hs : mt_st T) {t t' : mt_T3} {d r : Int64} (h : mt_f5 T 89 0 t d r) (q : mt_nC d r t = some t') : f_X1_goToNext 89 T = some (mt_w3 T 89 0 t') := by
  obtain ⟨h0, h1, h2, h3, h4⟩ := h
  unfold mt_nC at q
  by_cases z1 : (2 * mt_abs t.2.2) = 0
  · rw [if_pos z1] at q; cases q
  · rw [if_neg z1] at q
    by_cases z2 : (4 * t.2.2) = 0
    · rw [if_pos z2] at q; cases q
    · rw [if_neg z2] at q
      have q := Option.some.inj q
      subst q
      exact fw_t (T_K hs (by decide) rfl) (fw_b (T_rL hs (by decide) rfl h2) (fw_b2 (mt_Jabs _ _) (fw_f z1 (fw_b (T_rL hs (by decide) rfl h4) (fw_b (T_rL hs (by decide) rfl h4) (fw_b (T_rL hs (by decide) rfl h1) (fw_b2 (mt_Jfm z1 _) (fw_b (T_rL hs (by decide) rfl h3) (fw_b (T_rL hs (by decide) rfl h2) (fw_f z2 (fw_b (T_rL hs (by decide) rfl h2) (fw_b (T_wL hs _ (by decide) rfl) (fw_b (T_wL (T := mt_pL T 89 0 _) hs _ (by decide) rfl) (fw_b (T_wL (T := mt_pL (mt_pL T 89 0 _) 89 1 _) hs _ (by decide) rfl) rfl))))))))))))))
theorem mt_fon {T : mt_S} (hs : mt_st T) {t t' : mt_T3} {d r : Int64} (h : mt_f5 T 96 17 t d r) (q : mt_nM d r t = some t') : f_X11_formOn 96 T = some (mt_w3 T 96 17 t') := by
  obtain ⟨h0, h1, h2, h3, h4⟩ := h
  unfold mt_nM at q
  by_cases z1 : (2 * mt_abs t.2.2) = 0
  · rw [if_pos z1] at q; cases q
  · rw [if_neg z1] at q
    by_cases z2 : (4 * t.2.2) = 0
    · rw [if_pos z2] at q; cases q
    · rw [if_neg z2] at q
      have q := Option.some.inj q
      subst q
      unfold mt_ree
      by_cases c0 : 0 ≤ t.2.2
      · have ea : mt_abs t.2.2 = t.2.2 := by unfold mt_abs; rw [if_pos c0]
        rw [ea] at z1 ⊢
        refine fw_t (T_K hs (by decide) rfl) (fw_b (T_rL hs (by decide) rfl h2) (fw_t c0 (fw_b (T_rL hs (by decide) rfl h2) (fw_b (T_rL hs (by decide) rfl h4) (fw_b (T_rL hs (by decide) rfl h1) (fw_f z1 ?_))))))
        by_cases e0 : 0 ≤ ((r + t.2.1) - (r + t.2.1) / (2 * t.2.2) * (2 * t.2.2))
        · rw [if_pos e0, if_pos e0]
          exact fw_b (T_rL hs (by decide) rfl h4) (fw_b (T_rL hs (by decide) rfl h3) (fw_b (T_rL hs (by decide) rfl h2) (fw_f z2 (fw_b (T_rL hs (by decide) rfl h2) (fw_b (T_wL hs _ (by decide) rfl) (fw_b (T_wL (T := mt_pL T 96 17 _) hs _ (by decide) rfl) (fw_b (T_wL (T := mt_pL (mt_pL T 96 17 _) 96 18 _) hs _ (by decide) rfl) rfl)))))))
        · rw [if_neg e0, if_neg e0]
          exact fw_b (T_rL hs (by decide) rfl h4) (fw_b (T_rL hs (by decide) rfl h3) (fw_b (T_rL hs (by decide) rfl h2) (fw_f z2 (fw_b (T_rL hs (by decide) rfl h2) (fw_b (T_wL hs _ (by decide) rfl) (fw_b (T_wL (T := mt_pL T 96 17 _) hs _ (by decide) rfl) (fw_b (T_wL (T := mt_pL (mt_pL T 96 17 _) 96 18 _) hs _ (by decide) rfl) rfl)))))))
      · have ea : mt_abs t.2.2 = -t.2.2 := by unfold mt_abs; rw [if_neg c0]
        rw [ea] at z1 ⊢
        refine fw_t (T_K hs (by decide) rfl) (fw_b (T_rL hs (by decide) rfl h2) (fw_f c0 (fw_b (T_rL hs (by decide) rfl h2) (fw_b (T_rL hs (by decide) rfl h4) (fw_b (T_rL hs (by decide) rfl h1) (fw_f z1 ?_))))))
        by_cases e0 : 0 ≤ ((r + t.2.1) - (r + t.2.1) / (2 * (-t.2.2)) * (2 * (-t.2.2)))
        · rw [if_pos e0, if_pos e0]
          exact fw_b (T_rL hs (by decide) rfl h4) (fw_b (T_rL hs (by decide) rfl h3) (fw_b (T_rL hs (by decide) rfl h2) (fw_f z2 (fw_b (T_rL hs (by decide) rfl h2) (fw_b (T_wL hs _ (by decide) rfl) (fw_b (T_wL (T := mt_pL T 96 17 _) hs _ (by decide) rfl) (fw_b (T_wL (T := mt_pL (mt_pL T 96 17 _) 96 18 _) hs _ (by decide) rfl) rfl)))))))
        · rw [if_neg e0, if_neg e0]
          exact fw_b (T_rL hs (by decide) rfl h4) (fw_b (T_rL hs (by decide) rfl h3) (fw_b (T_rL hs (by decide) rfl h2) (fw_f z2 (fw_b (T_rL hs (by decide) rfl h2) (fw_b (T_wL hs _ (by decide) rfl) (fw_b (T_wL (T := mt_pL T 96 17 _) hs _ (by decide) rfl) (fw_b (T_wL (T := mt_pL (mt_pL T 96 17 _) 96 18 _) hs _ (by decide) rfl) rfl)))))))
/-- the program's loop -/
theorem mt_rCL {d r fa fb : Int64} {s' : Int32} {m' : Int64} : ∀ (n i : Nat) (t : mt_T3) (s : Int32) (m : Int64) (T : mt_S), mt_st T → i + n < 1000000 → mt_f5 T 89 0 t d r → T.2.2.1 89 5 = some s → T.2.2.2.1 89 6 = some m → mt_rC d r fa fb n t s m = some (s', m') → ∃ T', f_X1_goRound_L29 n 89 fa fb (uI i) T = some T' ∧ T'.2.2.1 89 5 = some s' ∧ T'.2.2.2.1 89 6 = some m' ∧ mt_fr mt_Df T T' := by
  intro n
  induction n with
  | zero => intro i t s m T hs hi h5 es em q; cases q
  | succ n ih =>
    intro i t s m T hs hi h5 es em q
    have q : (match mt_nC d r t with
      | none => none
      | some t' => if t'.1 = fa ∧ t'.2.1 = fb then some (s + 1, mt_mnL m (mt_abs t.1)) else mt_rC d r fa fb n t' (s + 1) (mt_mnL m (mt_abs t.1))) = some (s', m') := q
    cases e : mt_nC d r t with
    | none => rw [e] at q; cases q
    | some t' =>
      rw [e] at q
      have q : (if t'.1 = fa ∧ t'.2.1 = fb then some (s + 1, mt_mnL m (mt_abs t.1)) else mt_rC d r fa fb n t' (s + 1) (mt_mnL m (mt_abs t.1))) = some (s', m') := q
      have g1 : mt_f5 (mt_pL T 89 6 (mt_mnL m (mt_abs t.1))) 89 0 t d r := mt_f5f ((mt_fr.refl (fun a b => decide (a = 89) && decide (b = 6)) T).L 89 6 _ rfl) (fun i hi => by simp; omega) h5
      have a2 := mt_gtn (T := mt_pL T 89 6 (mt_mnL m (mt_abs t.1))) hs g1 e
      have hs2 : mt_st (mt_w3 (mt_pL T 89 6 (mt_mnL m (mt_abs t.1))) 89 0 t') := hs
      have h52 : mt_f5 (mt_w3 (mt_pL T 89 6 (mt_mnL m (mt_abs t.1))) 89 0 t') 89 0 t' d r := mt_w35 g1
      have es2 : (mt_w3 (mt_pL T 89 6 (mt_mnL m (mt_abs t.1))) 89 0 t').2.2.1 89 5 = some s := es
      have em2 : (mt_w3 (mt_pL T 89 6 (mt_mnL m (mt_abs t.1))) 89 0 t').2.2.2.1 89 6 = some (mt_mnL m (mt_abs t.1)) := ((mt_w3f _ 89 0 t').2 89 6 rfl).2.trans mt_L_eq
      have f2 : mt_fr mt_Df T (mt_w3 (mt_pL T 89 6 (mt_mnL m (mt_abs t.1))) 89 0 t') := ((mt_fr.refl _ T).L 89 6 _ rfl).trans ((mt_w3f _ 89 0 t').mono (fun k j z => by
        unfold mt_Df at z
        rw [(Bool.or_eq_false_iff.mp z).2]; rfl))
      generalize mt_w3 (mt_pL T 89 6 (mt_mnL m (mt_abs t.1))) 89 0 t' = U at a2 hs2 h52 es2 em2 f2
      have hs3 : mt_st (mt_pI U 89 5 (s + 1)) := hs2
      have h53 : mt_f5 (mt_pI U 89 5 (s + 1)) 89 0 t' d r := h52
      have f3 : mt_fr mt_Df T (mt_pI U 89 5 (s + 1)) := f2.I 89 5 _ rfl
      have pre : ∀ {z : Option mt_S}, (if t'.1 = fa then Option.bind (mt_rL (mt_pI U 89 5 (s + 1)) 89 1 1) fun v19 => if v19 = fb then some (mt_pI U 89 5 (s + 1)) else f_X1_goRound_L29 n 89 fa fb (uI i + 1) (mt_pI U 89 5 (s + 1)) else f_X1_goRound_L29 n 89 fa fb (uI i + 1) (mt_pI U 89 5 (s + 1))) = z → f_X1_goRound_L29 (n + 1) 89 fa fb (uI i) T = z := fun w => by
        refine fw_f ?_ (fw_b (T_rL hs (by decide) rfl em) (fw_b (T_rL hs (by decide) rfl h5.1) (fw_b2 (mt_Jabs _ _) (fw_b2 (mt_Jmin _ _ _) (fw_b (T_wL hs _ (by decide) rfl) (fw_b a2 (fw_b (T_rI hs2 (by decide) rfl es2) (fw_b (T_wI hs2 _ (by decide) rfl) (fw_b (T_rL hs3 (by decide) rfl h53.1) w)))))))))
        rw [show (1000000 : Int32) = uI 1000000 from rfl, uI_le (by decide) (by omega)]; omega
      by_cases q1 : t'.1 = fa
      · by_cases q2 : t'.2.1 = fb
        · rw [if_pos ⟨q1, q2⟩] at q
          cases q
          exact ⟨_, pre (fw_t q1 (fw_b (T_rL hs3 (by decide) rfl h53.2.1) (fw_t q2 rfl))), mt_I_eq, em2, f3⟩
        · rw [if_neg (fun z => q2 z.2)] at q
          obtain ⟨T', b1, b2, b3, b4⟩ := ih (i + 1) t' (s + 1) _ (mt_pI U 89 5 (s + 1)) hs3 (by omega) h53 mt_I_eq em2 q
          exact ⟨T', pre (fw_t q1 (fw_b (T_rL hs3 (by decide) rfl h53.2.1) (fw_f q2 (by rw [uI_s]; exact b1)))), b2, b3, f3.trans b4⟩
      · rw [if_neg (fun z => q1 z.1)] at q
        obtain ⟨T', b1, b2, b3, b4⟩ := ih (i + 1) t' (s + 1) _ (mt_pI U 89 5 (s + 1)) hs3 (by omega) h53 mt_I_eq em2 q
        exact ⟨T', pre (fw_f q1 (by rw [uI_s]; exact b1)), b2, b3, f3.trans b4⟩
/-- what a reference's round may write -/
def mt_Dr (k j : Nat) : Bool := decide (k = 96) && (decide (17 ≤ j) && decide (j ≤ 22))
theorem mt_w3r (T : mt_S) (t : mt_T3) : mt_fr mt_Dr T (mt_w3 T 96 17 t) := (mt_w3f T 96 17 t).mono (fun k j z => by
  unfold mt_Dr at z
  simp only [Bool.and_eq_false_iff, decide_eq_false_iff_not] at z ⊢; omega)
/-- the end of a turn of the reference's second loop -/
theorem mt_rGE {d r : Int64} {s : mt_T3} {n : Int32} {t t' : mt_T3} {T : mt_S} (hs : mt_st T) (h5 : mt_f5 T 96 17 t d r) (e : mt_nM d r t = some t') {rc : Nat → Int64 → Int64 → Int64 → Int32 → mt_S → Option (Int32 × mt_S)} {z : Option (Int32 × mt_S)} (h : (if t'.1 = s.1 ∧ t'.2.1 = s.2.1 ∧ t'.2.2 = s.2.2 then some (n + 1, mt_w3 T 96 17 t') else rc 96 s.1 s.2.1 s.2.2 (n + 1) (mt_w3 T 96 17 t')) = z) : (Option.bind (f_X11_formOn 96 T) fun S26 => Option.bind (mt_rL S26 96 11 17) fun v27 => if v27 = s.1 then Option.bind (mt_rL S26 96 11 18) fun v28 => if v28 = s.2.1 then Option.bind (mt_rL S26 96 11 19) fun v29 => if v29 = s.2.2 then some (n + 1, S26) else rc 96 s.1 s.2.1 s.2.2 (n + 1) S26 else rc 96 s.1 s.2.1 s.2.2 (n + 1) S26 else rc 96 s.1 s.2.1 s.2.2 (n + 1) S26) = z := by
  have hs2 : mt_st (mt_w3 T 96 17 t') := hs
  have h52 : mt_f5 (mt_w3 T 96 17 t') 96 17 t' d r := mt_w35 h5
  refine fw_b (mt_fon hs h5 e) (fw_b (T_rL hs2 (by decide) rfl h52.1) ?_)
  by_cases q1 : t'.1 = s.1
  · refine fw_t q1 (fw_b (T_rL hs2 (by decide) rfl h52.2.1) ?_)
    by_cases q2 : t'.2.1 = s.2.1
    · refine fw_t q2 (fw_b (T_rL hs2 (by decide) rfl h52.2.2.1) ?_)
      by_cases q3 : t'.2.2 = s.2.2
      · rw [if_pos ⟨q1, q2, q3⟩] at h; exact fw_t q3 h
      · rw [if_neg (fun z => q3 z.2.2)] at h; exact fw_f q3 h
    · rw [if_neg (fun z => q2 z.2.1)] at h; exact fw_f q2 h
  · rw [if_neg (fun z => q1 z.1)] at h; exact fw_f q1 h
theorem mt_rGL {d r : Int64} {s : mt_T3} {n' : Int32} {m' : Int64} : ∀ (k : Nat) (t : mt_T3) (n : Int32) (m : Int64) (T : mt_S), mt_st T → mt_f5 T 96 17 t d r → T.2.2.2.1 96 22 = some m → mt_rG d r s k t n m = some (n', m') → ∃ T', f_X11_laysRound_L132 k 96 s.1 s.2.1 s.2.2 n T = some (n', T') ∧ T'.2.2.2.1 96 22 = some m' ∧ mt_fr mt_Dr T T' := by
  intro k
  induction k with
  | zero => intro t n m T hs h5 em q; cases q
  | succ k ih =>
    intro t n m T hs h5 em q
    have q : (match mt_nM d r t with
      | none => none
      | some t' => if t'.1 = s.1 ∧ t'.2.1 = s.2.1 ∧ t'.2.2 = s.2.2 then some (n + 1, mt_lsN n m (mt_abs t.1)) else mt_rG d r s k t' (n + 1) (mt_lsN n m (mt_abs t.1))) = some (n', m') := q
    cases e : mt_nM d r t with
    | none => rw [e] at q; cases q
    | some t' =>
      rw [e] at q
      have q : (if t'.1 = s.1 ∧ t'.2.1 = s.2.1 ∧ t'.2.2 = s.2.2 then some (n + 1, mt_lsN n m (mt_abs t.1)) else mt_rG d r s k t' (n + 1) (mt_lsN n m (mt_abs t.1))) = some (n', m') := q
      /- from a state U where the least stands -/
      have go : ∀ U : mt_S, mt_st U → mt_f5 U 96 17 t d r → U.2.2.2.1 96 22 = some (mt_lsN n m (mt_abs t.1)) → mt_fr mt_Dr T U → ∃ T', (if t'.1 = s.1 ∧ t'.2.1 = s.2.1 ∧ t'.2.2 = s.2.2 then some (n + 1, mt_w3 U 96 17 t') else f_X11_laysRound_L132 k 96 s.1 s.2.1 s.2.2 (n + 1) (mt_w3 U 96 17 t')) = some (n', T') ∧ T'.2.2.2.1 96 22 = some m' ∧ mt_fr mt_Dr T T' := fun U hU hU5 hU22 fU => by
        have e22 : (mt_w3 U 96 17 t').2.2.2.1 96 22 = some (mt_lsN n m (mt_abs t.1)) := ((mt_w3f U 96 17 t').2 96 22 rfl).2.trans hU22
        have fU2 := fU.trans (mt_w3r U t')
        by_cases c : t'.1 = s.1 ∧ t'.2.1 = s.2.1 ∧ t'.2.2 = s.2.2
        · rw [if_pos c] at q
          cases q
          exact ⟨_, if_pos c, e22, fU2⟩
        · rw [if_neg c] at q
          obtain ⟨T', b1, b2, b3⟩ := ih t' (n + 1) _ (mt_w3 U 96 17 t') hU (mt_w35 hU5) e22 q
          exact ⟨T', (if_neg c).trans b1, b2, fU2.trans b3⟩
      have gw : ∀ v : Int64, mt_lsN n m (mt_abs t.1) = v → ∃ T', (if t'.1 = s.1 ∧ t'.2.1 = s.2.1 ∧ t'.2.2 = s.2.2 then some (n + 1, mt_w3 (mt_pL T 96 22 v) 96 17 t') else f_X11_laysRound_L132 k 96 s.1 s.2.1 s.2.2 (n + 1) (mt_w3 (mt_pL T 96 22 v) 96 17 t')) = some (n', T') ∧ T'.2.2.2.1 96 22 = some m' ∧ mt_fr mt_Dr T T' := fun v hv => go (mt_pL T 96 22 v) hs (mt_f5f ((mt_fr.refl (fun a b => decide (a = 96) && decide (b = 22)) T).L 96 22 _ rfl) (fun i hi => by simp; omega) h5) (by rw [hv]; exact mt_L_eq) ((mt_fr.refl _ T).L 96 22 _ rfl)
      have w5 : ∀ v : Int64, mt_f5 (mt_pL T 96 22 v) 96 17 t d r := fun v => mt_f5f ((mt_fr.refl (fun a b => decide (a = 96) && decide (b = 22)) T).L 96 22 _ rfl) (fun i hi => by simp; omega) h5
      by_cases c0 : 0 ≤ t.1
      · have ea : mt_abs t.1 = t.1 := by unfold mt_abs; rw [if_pos c0]
        by_cases n0 : n = 0
        · obtain ⟨T', b1, b2⟩ := gw t.1 (by unfold mt_lsN; rw [if_pos n0, ea])
          exact ⟨T', fw_b (T_rL hs (by decide) rfl h5.1) (fw_t c0 (fw_b (T_rL hs (by decide) rfl h5.1) (fw_t n0 (fw_b (T_wL hs _ (by decide) rfl) (mt_rGE (T := mt_pL T 96 22 t.1) hs (w5 _) e b1))))), b2⟩
        · by_cases l0 : m ≤ t.1
          · obtain ⟨T', b1, b2⟩ := go T hs h5 (by unfold mt_lsN; rw [if_neg n0, ea, if_pos l0]; exact em) (mt_fr.refl _ T)
            exact ⟨T', fw_b (T_rL hs (by decide) rfl h5.1) (fw_t c0 (fw_b (T_rL hs (by decide) rfl h5.1) (fw_f n0 (fw_b (T_rL hs (by decide) rfl em) (fw_t l0 (mt_rGE hs h5 e b1)))))), b2⟩
          · obtain ⟨T', b1, b2⟩ := gw t.1 (by unfold mt_lsN; rw [if_neg n0, ea, if_neg l0])
            exact ⟨T', fw_b (T_rL hs (by decide) rfl h5.1) (fw_t c0 (fw_b (T_rL hs (by decide) rfl h5.1) (fw_f n0 (fw_b (T_rL hs (by decide) rfl em) (fw_f l0 (fw_b (T_wL hs _ (by decide) rfl) (mt_rGE (T := mt_pL T 96 22 t.1) hs (w5 _) e b1))))))), b2⟩
      · have ea : mt_abs t.1 = -t.1 := by unfold mt_abs; rw [if_neg c0]
        by_cases n0 : n = 0
        · obtain ⟨T', b1, b2⟩ := gw (-t.1) (by unfold mt_lsN; rw [if_pos n0, ea])
          exact ⟨T', fw_b (T_rL hs (by decide) rfl h5.1) (fw_f c0 (fw_b (T_rL hs (by decide) rfl h5.1) (fw_t n0 (fw_b (T_wL hs _ (by decide) rfl) (mt_rGE (T := mt_pL T 96 22 (-t.1)) hs (w5 _) e b1))))), b2⟩
        · by_cases l0 : m ≤ -t.1
          · obtain ⟨T', b1, b2⟩ := go T hs h5 (by unfold mt_lsN; rw [if_neg n0, ea, if_pos l0]; exact em) (mt_fr.refl _ T)
            exact ⟨T', fw_b (T_rL hs (by decide) rfl h5.1) (fw_f c0 (fw_b (T_rL hs (by decide) rfl h5.1) (fw_f n0 (fw_b (T_rL hs (by decide) rfl em) (fw_t l0 (mt_rGE hs h5 e b1)))))), b2⟩
          · obtain ⟨T', b1, b2⟩ := gw (-t.1) (by unfold mt_lsN; rw [if_neg n0, ea, if_neg l0])
            exact ⟨T', fw_b (T_rL hs (by decide) rfl h5.1) (fw_f c0 (fw_b (T_rL hs (by decide) rfl h5.1) (fw_f n0 (fw_b (T_rL hs (by decide) rfl em) (fw_f l0 (fw_b (T_wL hs _ (by decide) rfl) (mt_rGE (T := mt_pL T 96 22 (-t.1)) hs (w5 _) e b1))))))), b2⟩
