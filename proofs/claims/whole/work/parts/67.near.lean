/-! near: the reference -/
theorem mt_row_n {T T' : mt_S} {c : mt_C} (hl : c.2.length ≤ 16) (f : mt_fr mt_Dn T T') (h : mt_row T 98 0 c) : mt_row T' 98 0 c := mt_row_f f hl (fun _ _ => rfl) h
theorem mt_nrL (c : mt_C) (hg : mt_gC c) (n : Int64) (e : Int32) : ∀ (r : List mt_P) (b : Int64) (i f : Nat) (T : mt_S), mt_st T → mt_row T 98 0 c → i + r.length = c.2.length → (∀ (m : Nat) (y : mt_P), r[m]? = some y → c.2[i + m]? = some y) → r.length < f → ∃ T', f_X11_near_L13 f 96 n e b (uI i) T = some (if e = 0 then mt_mL n b r else mt_mN n b r, T') ∧ mt_fr mt_Dn T T' := by
  have hl := hg.2.2.1
  intro r
  induction r with
  | nil =>
    intro b i f T hs hR hi _ hf
    obtain ⟨f, rfl⟩ : ∃ g, f = g + 1 := ⟨f - 1, by omega⟩
    have hi : i = c.2.length := hi
    refine ⟨T, fw_b (T_rR hs (by decide) rfl rfl) (fw_b (T_aI hs (j := 2) (by decide) rfl (n := 35) (by decide) (by decide) hR.2.2.1) (fw_t (by rw [uI_le (by omega) (by omega)]; omega) ?_)), mt_fr.refl _ T⟩
    show some (b, T) = some (if e = 0 then b else b, T)
    rw [ite_self]
  | cons y r ih =>
    intro b i f T hs hR hi hr hf
    obtain ⟨f, rfl⟩ : ∃ g, f = g + 1 := ⟨f - 1, by omega⟩
    rw [List.length_cons] at hi hf
    obtain ⟨T1, k1, f1⟩ := mt_mkN hs hg hR (hr 0 y rfl)
    have go : ∀ b2 : Int64, ∃ T', f_X11_near_L13 f 96 n e b2 (uI i + 1) T1 = some (if e = 0 then mt_mL n b2 r else mt_mN n b2 r, T') ∧ mt_fr mt_Dn T1 T' := fun b2 => by
      rw [uI_s]
      exact ih b2 (i + 1) f T1 (f1.st hs) (mt_row_n hl f1 hR) (by omega) (fun m v hm => by rw [show i + 1 + m = i + (m + 1) by omega]; exact hr (m + 1) v hm) (by omega)
    have pre : ∀ {z : Option (Int64 × mt_S)}, (if e = 0 then if n < mt_num y then f_X11_near_L13 f 96 n e b (uI i + 1) T1 else f_X11_near_L13 f 96 n e (mt_num y) (uI i + 1) T1 else if mt_num y < n then f_X11_near_L13 f 96 n e b (uI i + 1) T1 else if b = (-1) then f_X11_near_L13 f 96 n e (mt_num y) (uI i + 1) T1 else f_X11_near_L13 f 96 n e b (uI i + 1) T1) = z → f_X11_near_L13 (f + 1) 96 n e b (uI i) T = z := fun h => fw_b (T_rR hs (by decide) rfl rfl) (fw_b (T_aI hs (j := 2) (by decide) rfl (n := 35) (by decide) (by decide) hR.2.2.1) (fw_f (by rw [uI_le (by omega) (by omega)]; omega) (fw_b2 k1 h)))
    by_cases e0 : e = 0
    · by_cases q : n < mt_num y
      · obtain ⟨T', a, g⟩ := go b
        refine ⟨T', pre (fw_t e0 (fw_t q (a.trans ?_))), f1.trans g⟩
        rw [if_pos e0, if_pos e0]
        show _ = some (if n < mt_num y then mt_mL n b r else mt_mL n (mt_num y) r, T')
        rw [if_pos q]
      · obtain ⟨T', a, g⟩ := go (mt_num y)
        refine ⟨T', pre (fw_t e0 (fw_f q (a.trans ?_))), f1.trans g⟩
        rw [if_pos e0, if_pos e0]
        show _ = some (if n < mt_num y then mt_mL n b r else mt_mL n (mt_num y) r, T')
        rw [if_neg q]
    · by_cases q : mt_num y < n
      · obtain ⟨T', a, g⟩ := go b
        refine ⟨T', pre (fw_f e0 (fw_t q (a.trans ?_))), f1.trans g⟩
        rw [if_neg e0, if_neg e0]
        show _ = some (if mt_num y < n then mt_mN n b r else if b = -1 then mt_mN n (mt_num y) r else mt_mN n b r, T')
        rw [if_pos q]
      · by_cases b0 : b = -1
        · obtain ⟨T', a, g⟩ := go (mt_num y)
          refine ⟨T', pre (fw_f e0 (fw_f q (fw_t b0 (a.trans ?_)))), f1.trans g⟩
          rw [if_neg e0, if_neg e0]
          show _ = some (if mt_num y < n then mt_mN n b r else if b = -1 then mt_mN n (mt_num y) r else mt_mN n b r, T')
          rw [if_neg q, if_pos b0]
        · obtain ⟨T', a, g⟩ := go b
          refine ⟨T', pre (fw_f e0 (fw_f q (fw_f b0 (a.trans ?_)))), f1.trans g⟩
          rw [if_neg e0, if_neg e0]
          show _ = some (if mt_num y < n then mt_mN n b r else if b = -1 then mt_mN n (mt_num y) r else mt_mN n b r, T')
          rw [if_neg q, if_neg b0]
