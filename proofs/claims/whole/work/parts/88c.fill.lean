/-! filled -/
/-- filled -/
def mt_tF (T : mt_S) : Prop := T.2.2.1 90 5 = some (uI mt_TT.length) ∧ T.2.2.1 90 6 = some (uI mt_TN.length) ∧ (∀ m x, mt_TT[m]? = some x → mt_tr T m x) ∧ ∀ m v, mt_TN[m]? = some v → T.2.2.2.1 95 m = some v
def mt_Dj (k j : Nat) : Bool := mt_Dt k j || mt_Dk k j
theorem mt_fill {T : mt_S} (hs : mt_st T) (h : mt_iTab T) : ∃ T', f_X6_fill 90 T = some T' ∧ mt_tF T' ∧ mt_fr mt_Dj T T' := by
  obtain ⟨l1, l2⟩ := mt_TTl
  rcases h with h | h
  · have t0 : mt_tl T [] := ⟨h, fun m r q => by cases q⟩
    obtain ⟨T1, a1, b1, f1⟩ := mt_pr hs (l := []) (by decide) t0 (1, 2, 5, 2)
    have hs1 := f1.st hs
    obtain ⟨T2, a2, b2, f2⟩ := mt_flL 1000 0 [(1, 2, 5, 2)] T1 hs1 b1 (by decide) mt_fl_t (by decide)
    have hs2 := f2.st hs1
    have f3 := (((mt_fr.refl mt_Dk T2).L 95 0 1 rfl).L 95 1 2 rfl).I 90 6 2 rfl
    have hs3 := f3.st hs2
    obtain ⟨T4, a4, b4, c4, f4⟩ := mt_fnL mt_TT 0 1000 [2, 1] (mt_pI (mt_pL (mt_pL T2 95 0 1) 95 1 2) 90 6 2) hs3 (by omega) (by rw [Nat.zero_add]; exact (f3.2 90 5 rfl).1.trans b2.1) (by omega) (fun m r q => by rw [Nat.zero_add]; exact (f3.2 93 m rfl).2.trans (b2.2 m r q).2.2.1) (by omega) (by decide) (by rw [show ([2, 1] : List Int64).length = 2 from rfl]; omega) mt_I_eq (fun m v q => by
      match m, q with
      | 0, q => cases q; exact (mt_L_ne (Or.inr (by decide))).trans mt_L_eq
      | 1, q => cases q; exact mt_L_eq)
    have aN : f_X6_fillNumbers 90 T2 = some T4 := fw_t (T_K hs2 (by decide) rfl) (fw_b (T_rR hs2 (by decide) rfl rfl) (fw_b (T_sL hs2 (j := 0) _ (by decide) rfl (n := 160) (by decide) (by decide)) (fw_b (T_rR (T := mt_pL T2 95 0 1) hs2 (by decide) rfl rfl) (fw_b (T_sL (T := mt_pL T2 95 0 1) hs2 (j := 1) _ (by decide) rfl (n := 160) (by decide) (by decide)) (fw_b (T_wI (T := mt_pL (mt_pL T2 95 0 1) 95 1 2) hs2 _ (by decide) rfl) a4)))))
    have eL : (mt_fn mt_TT [2, 1]).length = mt_TN.length := by rw [← mt_fn_t, List.length_reverse]
    have f34 := f3.trans f4
    refine ⟨T4, ?_, ⟨(f34.2 90 5 rfl).1.trans b2.1, by rw [b4, eL], fun m x q => mt_tr_f f34 rfl rfl rfl rfl (b2.2 m x q), fun m v q => c4 m v (by rw [mt_fn_t]; exact q)⟩, (f1.trans f2).mono (fun k j q => ?_) |>.trans (f34.mono (fun k j q => ?_))⟩
    · refine fw_t (T_K hs (by decide) rfl) (fw_b (T_rI hs (by decide) rfl h) (fw_t (by decide) (fw_b a1 ?_)))
      exact a2.trans (fw_b aN rfl)
    · unfold mt_Dj at q
      exact (Bool.or_eq_false_iff.mp q).1
    · unfold mt_Dj at q
      exact (Bool.or_eq_false_iff.mp q).2
  · refine ⟨T, ?_, h, mt_fr.refl _ T⟩
    refine fw_t (T_K hs (by decide) rfl) (fw_b (T_rI hs (by decide) rfl h.1) (fw_f ?_ rfl))
    rw [show (0 : Int32) = uI 0 from rfl, uI_le (by omega) (by decide)]; omega
theorem mt_tF_fill {T : mt_S} (hs : mt_st T) (h : mt_tF T) : f_X6_fill 90 T = some T := by
  obtain ⟨l1, l2⟩ := mt_TTl
  refine fw_t (T_K hs (by decide) rfl) (fw_b (T_rI hs (by decide) rfl h.1) (fw_f ?_ rfl))
  rw [show (0 : Int32) = uI 0 from rfl, uI_le (by omega) (by decide)]; omega
