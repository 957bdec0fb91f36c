/-! every turn keeps the invariant; the law's start -/
theorem mt_turn (k w1 w2 w3 w4 w5 : Int32) (S : mt_S) (h : mt_Inv S) : ∃ S', l_turn k w1 w2 w3 w4 w5 S = some S' ∧ mt_Inv S' := by
  unfold l_turn
  by_cases h0 : k = 0
  · rw [if_pos h0]; exact t_0 w1 w2 w3 w4 w5 h
  rw [if_neg h0]
  by_cases h1 : k = 1
  · rw [if_pos h1]; exact t_1 w1 h
  rw [if_neg h1]
  by_cases h2 : k = 2
  · rw [if_pos h2]; exact t_2 h
  rw [if_neg h2]
  by_cases h3 : k = 3
  · rw [if_pos h3]; exact t_3 h
  rw [if_neg h3]
  by_cases h4 : k = 4
  · rw [if_pos h4]; exact t_4 w1 h
  rw [if_neg h4]
  by_cases h5 : k = 5
  · rw [if_pos h5]; exact t_5 h
  rw [if_neg h5]
  by_cases h6 : k = 6
  · rw [if_pos h6]; exact t_6 h
  rw [if_neg h6]
  by_cases h7 : k = 7
  · rw [if_pos h7]; exact t_7 h
  rw [if_neg h7]
  by_cases h8 : k = 8
  · rw [if_pos h8]; exact t_8 w1 w2 h
  rw [if_neg h8]
  by_cases h9 : k = 9
  · rw [if_pos h9]; exact t_9 w1 h
  rw [if_neg h9]
  by_cases h10 : k = 10
  · rw [if_pos h10]; exact t_10 w1 h
  rw [if_neg h10]
  by_cases h11 : k = 11
  · rw [if_pos h11]; exact t_11 h
  rw [if_neg h11]
  by_cases h12 : k = 12
  · rw [if_pos h12]; exact t_12 w1 w2 h
  rw [if_neg h12]
  by_cases h13 : k = 13
  · rw [if_pos h13]; exact t_13 w1 h
  rw [if_neg h13]
  by_cases h14 : k = 14
  · rw [if_pos h14]; exact t_14 w1 w2 h
  rw [if_neg h14]
  by_cases h15 : k = 15
  · rw [if_pos h15]; exact t_15 h
  rw [if_neg h15]
  by_cases h16 : k = 16
  · rw [if_pos h16]; exact t_16 h
  rw [if_neg h16]
  by_cases h17 : k = 17
  · rw [if_pos h17]; exact t_17 w1 w2 h
  rw [if_neg h17]
  by_cases h18 : k = 18
  · rw [if_pos h18]; exact t_18 w1 h
  rw [if_neg h18]
  by_cases h19 : k = 19
  · rw [if_pos h19]; exact t_19 w1 w2 h
  rw [if_neg h19]
  by_cases h20 : k = 20
  · rw [if_pos h20]; exact t_20 w1 w2 h
  rw [if_neg h20]
  by_cases h21 : k = 21
  · rw [if_pos h21]; exact t_21 w1 w2 w3 h
  rw [if_neg h21]
  by_cases h22 : k = 22
  · rw [if_pos h22]; exact t_22 h
  rw [if_neg h22]
  by_cases h23 : k = 23
  · rw [if_pos h23]; exact t_23 h
  rw [if_neg h23]
  by_cases h24 : k = 24
  · rw [if_pos h24]; exact t_24 h
  rw [if_neg h24]
  by_cases h25 : k = 25
  · rw [if_pos h25]; exact t_25 w1 w2 h
  rw [if_neg h25]
  by_cases h26 : k = 26
  · rw [if_pos h26]; exact t_26 w1 w2 w3 h
  rw [if_neg h26]
  by_cases h27 : k = 27
  · rw [if_pos h27]; exact t_27 w1 h
  rw [if_neg h27]
  by_cases h28 : k = 28
  · rw [if_pos h28]; exact t_28 h
  rw [if_neg h28]
  by_cases h29 : k = 29
  · rw [if_pos h29]; exact t_29 w1 h
  rw [if_neg h29]
  by_cases h30 : k = 30
  · rw [if_pos h30]; exact t_30 w1 w2 h
  rw [if_neg h30]
  by_cases h31 : k = 31
  · rw [if_pos h31]; exact t_31 h
  rw [if_neg h31]
  by_cases h32 : k = 32
  · rw [if_pos h32]; exact t_32 w1 h
  rw [if_neg h32]
  by_cases h33 : k = 33
  · rw [if_pos h33]; exact t_33 w1 h
  rw [if_neg h33]
  exact ⟨S, rfl, h⟩
theorem whole_start {p : Program} {e : Env} {s : State} {m : MethodId} {below : List Frame} {meth : Method} {c : Code} (l : Launch) (hflags : l.flags = flags0) {b L : Nat} {xs : Nat → Int32} (hL : L ≤ 3072) (C0 : lw_At p s m meth c b L xs) : W p l e room_1 s m #[Value.ref b] below meth c s.heap [] 0 0 (lw_Z below #[Value.ref b] s) (entryFrame m ([Value.ref b] : List Value).toArray 8) := by
  obtain ⟨Sa, Sb, h1, h2, h3, h4, h5⟩ := mt_ini
  exact whole_open mt_Inv Sa Sb h1 h2 ⟨_, rfl, h5⟩ ⟨h3, h4⟩ mt_turn l hflags hL C0
