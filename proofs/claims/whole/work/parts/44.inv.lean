/-! what stands between two calls: the parts of it, and that they only hang on their own slots -/
def mt_TT : List (Int64 × Int64 × Int64 × Int32) := [(1, 2, 5, 2), (1, 5, 13, 3), (2, 5, 29, 3), (1, 13, 34, 4), (1, 34, 89, 5), (2, 29, 169, 4), (5, 13, 194, 4), (1, 89, 233, 6), (5, 29, 433, 4), (1, 233, 610, 7), (2, 169, 985, 5), (13, 34, 1325, 5), (1, 610, 1597, 8), (5, 194, 2897, 5), (1, 1597, 4181, 9), (2, 985, 5741, 6), (5, 433, 6466, 5), (13, 194, 7561, 5), (34, 89, 9077, 6), (1, 4181, 10946, 10), (29, 169, 14701, 5), (1, 10946, 28657, 11), (2, 5741, 33461, 7), (29, 433, 37666, 5), (5, 2897, 43261, 6), (13, 1325, 51641, 6), (89, 233, 62210, 7), (1, 28657, 75025, 12), (5, 6466, 96557, 6), (34, 1325, 135137, 6), (2, 33461, 195025, 8), (1, 75025, 196418, 13), (13, 7561, 294685, 6), (233, 610, 426389, 8), (169, 985, 499393, 6), (1, 196418, 514229, 14), (5, 43261, 646018, 7), (34, 9077, 925765, 7), (2, 195025, 1136689, 9), (29, 14701, 1278818, 6), (1, 514229, 1346269, 15), (5, 96557, 1441889, 7), (194, 2897, 1686049, 6), (13, 51641, 2012674, 7), (89, 9077, 2423525, 7), (610, 1597, 2922509, 9), (29, 37666, 3276509, 6), (1, 1346269, 3524578, 16), (194, 7561, 4400489, 6), (2, 1136689, 6625109, 10), (169, 14701, 7453378, 6), (433, 6466, 8399329, 6), (1, 3524578, 9227465, 17), (5, 646018, 9647009, 8), (13, 294685, 11485154, 7), (34, 135137, 13782649, 7), (89, 62210, 16609837, 8), (985, 5741, 16964653, 7), (1597, 4181, 20031170, 10), (5, 1441889, 21531778, 8), (1, 9227465, 24157817, 18), (2, 6625109, 38613965, 11), (233, 62210, 43484701, 8), (433, 37666, 48928105, 6), (1, 24157817, 63245986, 19), (13, 2012674, 78442645, 8), (34, 925765, 94418953, 8), (29, 1278818, 111242465, 7), (4181, 10946, 137295677, 11), (5, 9647009, 144059117, 9), (1, 63245986, 165580141, 20), (1325, 51641, 205272962, 7), (2, 38613965, 225058681, 12), (169, 499393, 253191266, 7), (29, 3276509, 285018617, 7), (233, 426389, 298045301, 9), (5, 21531778, 321534781, 9), (2897, 43261, 375981346, 7), (1, 165580141, 433494437, 21), (13, 11485154, 447626321, 8), (1325, 135137, 537169541, 7), (5741, 33461, 576298801, 8), (89, 2423525, 647072098, 8), (610, 426389, 780291637, 9), (10946, 28657, 941038565, 12), (194, 1686049, 981277621, 7), (1, 433494437, 1134903170, 22), (2, 225058681, 1311738121, 13), (34, 13782649, 1405695061, 8), (985, 499393, 1475706146, 7), (6466, 96557, 1873012681, 7), (5, 144059117, 2151239746, 10), (194, 4400489, 2561077037, 7), (1, 1134903170, 2971215073, 23), (13, 78442645, 3057250481, 9), (169, 7453378, 3778847945, 7), (89, 16609837, 4434764269, 9), (5, 321534781, 4801489937, 10), (610, 2922509, 5348189873, 10), (28657, 75025, 6449974274, 13), (7561, 294685, 6684339842, 7), (2, 1311738121, 7645370045, 14), (1, 2971215073, 7778742049, 24), (34, 94418953, 9629807441, 9), (29, 111242465, 9676815637, 8), (433, 8399329, 10910721905, 7), (1597, 2922509, 14001740009, 10), (2897, 1686049, 14653451665, 7), (13, 447626321, 17445941365, 9), (33461, 195025, 19577194573, 9), (1, 7778742049, 20365011074, 25), (29, 285018617, 24793343170, 8), (9077, 925765, 25209506681, 8), (233, 43484701, 30395743789, 9), (5, 2151239746, 32124537073, 11), (75025, 196418, 44208781349, 14), (2, 7645370045, 44560482149, 15), (985, 16964653, 50130543874, 8), (1, 20365011074, 53316291173, 26), (14701, 1278818, 56399710225, 7), (433, 48928105, 63557570729, 7), (9077, 2423525, 65995009186, 8), (5, 4801489937, 71700814274, 11), (43261, 646018, 83842154089, 8), (1597, 20031170, 95969331289, 11), (7561, 4400489, 99816291793, 7), (13, 3057250481, 119154326114, 10), (169, 253191266, 128367472469, 8), (1, 53316291173, 139583862445, 27), (34, 1405695061, 143367113573, 9), (6466, 8399329, 162930183509, 7), (89, 647072098, 172765826641, 9), (233, 298045301, 208333239010, 10), (4181, 20031170, 251250963713, 11), (2, 44560482149, 259717522849, 16), (5741, 16964653, 292182217634, 8), (196418, 514229, 303011495165, 15), (51641, 2012674, 311809494089, 8), (14701, 7453378, 328716329765, 7), (1, 139583862445, 365435296162, 28), (37666, 3276509, 370238963953, 7), (96557, 1441889, 417673428514, 8), (5, 32124537073, 479716816349, 12), (194, 981277621, 571101889373, 8), (195025, 1136689, 665048316673, 10), (13, 17445941365, 679944086914, 10), (1325, 205272962, 815959972309, 8), (29, 9676815637, 841771717954, 9), (1, 365435296162, 956722026041, 29), (34, 9629807441, 982145940029, 10)]
def mt_TN : List Int64 := [1, 2, 5, 13, 29, 34, 89, 169, 194, 233, 433, 610, 985, 1325, 1597, 2897, 4181, 5741, 6466, 7561, 9077, 10946, 14701, 28657, 33461, 37666, 43261, 51641, 62210, 75025, 96557, 135137, 195025, 196418, 294685, 426389, 499393, 514229, 646018, 925765, 1136689, 1278818, 1346269, 1441889, 1686049, 2012674, 2423525, 2922509, 3276509, 3524578, 4400489, 6625109, 7453378, 8399329, 9227465, 9647009, 11485154, 13782649, 16609837, 16964653, 20031170, 21531778, 24157817, 38613965, 43484701, 48928105, 63245986, 78442645, 94418953, 111242465, 137295677, 144059117, 165580141, 205272962, 225058681, 253191266, 285018617, 298045301, 321534781, 375981346, 433494437, 447626321, 537169541, 576298801, 647072098, 780291637, 941038565, 981277621, 1134903170, 1311738121, 1405695061, 1475706146, 1873012681, 2151239746, 2561077037, 2971215073, 3057250481, 3778847945, 4434764269, 4801489937, 5348189873, 6449974274, 6684339842, 7645370045, 7778742049, 9629807441, 9676815637, 10910721905, 14001740009, 14653451665, 17445941365, 19577194573, 20365011074, 24793343170, 25209506681, 30395743789, 32124537073, 44208781349, 44560482149, 50130543874, 53316291173, 56399710225, 63557570729, 65995009186, 71700814274, 83842154089, 95969331289, 99816291793, 119154326114, 128367472469, 139583862445, 143367113573, 162930183509, 172765826641, 208333239010, 251250963713, 259717522849, 292182217634, 303011495165, 311809494089, 328716329765, 365435296162, 370238963953, 417673428514, 479716816349, 571101889373, 665048316673, 679944086914, 815959972309, 841771717954, 956722026041, 982145940029]
def mt_pcT : List Nat := [0, 4, 4, 0, 0, 0, 0, 0, 0, 0, 1, 1, 1, 1, 1, 2, 0, 2, 2, 2, 2, 2, 2, 2, 2, 2, 2, 2, 2, 2, 2, 2, 2, 2, 2, 2, 2, 2, 2, 2, 2, 2, 2, 2, 2, 2, 2, 2, 2, 2, 2, 2, 2, 2, 2, 2, 2, 2, 2, 2, 2, 2, 2, 2, 2, 2, 2, 2, 2, 2, 2, 0, 3, 3, 3, 3, 3, 3, 3, 3, 3, 3, 3, 3, 3, 5, 5, 0, 0, 0, 7, 7, 7, 7, 7, 7, 0, 4, 1, 3, 2, 0, 0, 3, 0, 0, 0, 5, 0]
/-- to which part a slot belongs -/
def mt_pc (k j : Nat) : Nat := if k = 96 then (if j = 9 then 2 else if j = 2 then 4 else if j = 30 then 5 else if j = 33 then 6 else 0) else if k = 3 then (if j = 9 then 6 else 0) else mt_pcT.getD k 0
def mt_sp (p : Nat) (T T' : mt_S) : Prop := (∀ k j, mt_perI k j = true → mt_pc k j = p → T'.2.2.1 k j = T.2.2.1 k j) ∧ (∀ k j, mt_perL k j = true → mt_pc k j = p → T'.2.2.2.1 k j = T.2.2.2.1 k j)
theorem mt_same.sp {T T' : mt_S} (h : mt_same T T') (p : Nat) : mt_sp p T T' := ⟨fun k j a _ => h.1 k j a, fun k j a _ => h.2 k j a⟩
def mt_iTab (T : mt_S) : Prop := T.2.2.1 90 5 = some 0 ∨ (T.2.2.1 90 5 = some (uI mt_TT.length) ∧ T.2.2.1 90 6 = some (uI mt_TN.length) ∧ (∀ m x, mt_TT[m]? = some x → T.2.2.2.1 91 m = some x.1 ∧ T.2.2.2.1 92 m = some x.2.1 ∧ T.2.2.2.1 93 m = some x.2.2.1 ∧ T.2.2.1 94 m = some x.2.2.2) ∧ ∀ m v, mt_TN[m]? = some v → T.2.2.2.1 95 m = some v)
def mt_Inv (T : mt_S) : Prop := mt_st T ∧ (∃ c, mt_iCur T c) ∧ (∃ nx h, mt_iHist T nx h) ∧ mt_iIm T ∧ (∃ n, mt_iTape T n) ∧ (∃ n, mt_iText T n) ∧ mt_iFault T ∧ mt_iTab T
theorem mt_lt_of {α : Type} {l : List α} {m : Nat} {y : α} (h : l[m]? = some y) : m < l.length := (List.getElem?_eq_some_iff.mp h).1
theorem mt_blk_c {T T' : mt_S} {k : Nat} {c : mt_C} (hl : c.2.length ≤ 16) (h1 : ∀ j, j < 5 → T'.2.2.1 (k + 1) j = T.2.2.1 (k + 1) j) (h2 : T'.2.2.1 (k + 2) 3 = T.2.2.1 (k + 2) 3) (h3 : ∀ m, m < 16 → T'.2.2.2.1 (k + 3) m = T.2.2.2.1 (k + 3) m ∧ T'.2.2.1 (k + 4) m = T.2.2.1 (k + 4) m ∧ T'.2.2.1 (k + 5) m = T.2.2.1 (k + 5) m) (h : mt_blk T k c) : mt_blk T' k c := by
  obtain ⟨a, b, d⟩ := h
  refine ⟨fun j v hj => ?_, by rw [h2]; exact b, fun m y hm => ?_⟩
  · rw [h1 j (mt_lt_of hj)]; exact a j v hj
  · obtain ⟨e1, e2, e3⟩ := h3 m (Nat.lt_of_lt_of_le (mt_lt_of hm) hl)
    rw [e1, e2, e3]; exact d m y hm
theorem mt_row_t {T T' : mt_S} {a o a2 o2 : Nat} {c : mt_C} (hl : c.2.length ≤ 16) (h1 : ∀ j, j < 35 → T'.2.2.1 a2 (o2 + j) = T.2.2.1 a (o + j)) (h : mt_row T a o c) : mt_row T' a2 o2 c := by
  obtain ⟨x, y, z, d, e⟩ := h
  refine ⟨by have := h1 0 (by decide); rw [Nat.add_zero, Nat.add_zero] at this; rw [this]; exact x, by rw [h1 1 (by decide)]; exact y, by rw [h1 2 (by decide)]; exact z, fun m v hm => ?_, fun j hj => ?_⟩
  · have hm' := mt_lt_of hm
    have e1 := h1 (3 + 2 * m) (by omega)
    have e2 := h1 (4 + 2 * m) (by omega)
    rw [← Nat.add_assoc, ← Nat.add_assoc] at e1 e2
    rw [e1, e2]; exact d m v hm
  · rw [h1 j hj]; exact e j hj
theorem mt_row_c {T T' : mt_S} {a o : Nat} {c : mt_C} (hl : c.2.length ≤ 16) (h1 : ∀ j, j < 35 → T'.2.2.1 a (o + j) = T.2.2.1 a (o + j)) (h : mt_row T a o c) : mt_row T' a o c := mt_row_t hl h1 h
theorem mt_iCur_c {T T' : mt_S} {c : mt_C} (hc : mt_sp 1 T T') (h : mt_iCur T c) : mt_iCur T' c := by
  obtain ⟨g, b, r⟩ := h
  have q : ∀ m, m < 16 → (mt_perL 12 m = true ∧ mt_perI 13 m = true ∧ mt_perI 14 m = true) := by decide +kernel
  have q2 : ∀ j, j < 35 → mt_perI 98 j = true := by decide +kernel
  have q3 : ∀ j, j < 5 → mt_perI 10 j = true := by decide +kernel
  refine ⟨g, mt_blk_c g.2.2.1 (fun j hj => hc.1 10 j (q3 j hj) rfl) (hc.1 11 3 (by decide +kernel) rfl) (fun m hm => ⟨hc.2 12 m (q m hm).1 rfl, hc.1 13 m (q m hm).2.1 rfl, hc.1 14 m (q m hm).2.2 rfl⟩) b, mt_row_c g.2.2.1 (fun j hj => ?_) r⟩
  rw [Nat.zero_add]
  exact hc.1 98 j (q2 j hj) rfl
/-- the blocks of the ring -/
def mt_rgQ : Bool := (List.range 9).all (fun r => (List.range 5).all (fun j => mt_perI (17 + 6 * r + 1) j && decide (mt_pc (17 + 6 * r + 1) j = 2)) && (mt_perI (17 + 6 * r + 2) 3 && decide (mt_pc (17 + 6 * r + 2) 3 = 2)) && (List.range 16).all (fun j => mt_perL (17 + 6 * r + 3) j && decide (mt_pc (17 + 6 * r + 3) j = 2) && mt_perI (17 + 6 * r + 4) j && decide (mt_pc (17 + 6 * r + 4) j = 2) && mt_perI (17 + 6 * r + 5) j && decide (mt_pc (17 + 6 * r + 5) j = 2)))
theorem mt_rgQ_t : mt_rgQ = true := by decide +kernel
theorem mt_rg_b {T T' : mt_S} {c : mt_C} {r : Nat} (hr : r < 9) (hl : c.2.length ≤ 16) (hc : mt_sp 2 T T') (h : mt_blk T (17 + 6 * r) c) : mt_blk T' (17 + 6 * r) c := by
  have q := List.all_eq_true.mp mt_rgQ_t r (List.mem_range.mpr hr)
  simp only [Bool.and_eq_true, List.all_eq_true, List.mem_range, decide_eq_true_eq] at q
  obtain ⟨⟨q1, q2⟩, q3⟩ := q
  exact mt_blk_c hl (fun j hj => hc.1 _ j (q1 j hj).1 (q1 j hj).2) (hc.1 _ 3 q2.1 q2.2) (fun m hm => ⟨hc.2 _ m (q3 m hm).1.1.1.1.1 (q3 m hm).1.1.1.1.2, hc.1 _ m (q3 m hm).1.1.1.2 (q3 m hm).1.1.2, hc.1 _ m (q3 m hm).1.2 (q3 m hm).2⟩) h
theorem mt_iHist_c {T T' : mt_S} {nx : Nat} {h : List mt_C} (hc : mt_sp 2 T T') (hh : mt_iHist T nx h) : mt_iHist T' nx h := by
  obtain ⟨a, b, c1, c2, c3, d⟩ := hh
  refine ⟨a, b, by rw [hc.1 15 1 (by decide +kernel) rfl]; exact c1, by rw [hc.1 15 2 (by decide +kernel) rfl]; exact c2, by rw [hc.1 96 9 (by decide +kernel) rfl]; exact c3, fun m c hm => ?_⟩
  obtain ⟨g, b1, r1⟩ := d m c hm
  have hm' := mt_lt_of hm
  have q : ∀ j, j < 280 → mt_perI 100 j = true := by decide +kernel
  exact ⟨g, mt_rg_b (Nat.mod_lt _ (by decide)) g.2.2.1 hc b1, mt_row_c g.2.2.1 (fun j hj => hc.1 100 _ (q _ (by omega)) rfl) r1⟩
theorem mt_iIm_c {T T' : mt_S} (hc : mt_sp 3 T T') (h : mt_iIm T) : mt_iIm T' := by
  intro m hm
  obtain ⟨v, h1, h2, h3, h4⟩ := h m hm
  have q1 : ∀ m, m < 2 → mt_perI 84 m = true ∧ mt_perI 103 m = true := by decide +kernel
  have q2 : ∀ j, j < 70 → mt_perI 99 j = true := by decide +kernel
  refine ⟨v, by rw [hc.1 84 m (q1 m hm).1 rfl]; exact h1, by rw [hc.1 103 m (q1 m hm).2 rfl]; exact h2, h3, fun e => ?_⟩
  obtain ⟨c, g, b, r⟩ := h4 e
  refine ⟨c, g, ?_, mt_row_c g.2.2.1 (fun j hj => hc.1 99 _ (q2 _ (by omega)) rfl) r⟩
  have p1 : ∀ m, m < 2 → ∀ j, j < 5 → mt_perI (72 + 6 * m + 1) j = true ∧ mt_pc (72 + 6 * m + 1) j = 3 := by decide +kernel
  have p2 : ∀ m, m < 2 → mt_perI (72 + 6 * m + 2) 3 = true ∧ mt_pc (72 + 6 * m + 2) 3 = 3 := by decide +kernel
  have p3 : ∀ m, m < 2 → ∀ j, j < 16 → mt_perL (72 + 6 * m + 3) j = true ∧ mt_pc (72 + 6 * m + 3) j = 3 ∧ mt_perI (72 + 6 * m + 4) j = true ∧ mt_pc (72 + 6 * m + 4) j = 3 ∧ mt_perI (72 + 6 * m + 5) j = true ∧ mt_pc (72 + 6 * m + 5) j = 3 := by decide +kernel
  refine mt_blk_c g.2.2.1 (fun j hj => hc.1 _ j (p1 m hm j hj).1 (p1 m hm j hj).2) (hc.1 _ 3 (p2 m hm).1 (p2 m hm).2) (fun j hj => ?_) b
  obtain ⟨z1, z2, z3, z4, z5, z6⟩ := p3 m hm j hj
  exact ⟨hc.2 _ j z1 z2, hc.1 _ j z3 z4, hc.1 _ j z5 z6⟩
theorem mt_iTape_c {T T' : mt_S} {n : Nat} (hc : mt_sp 4 T T') (h : mt_iTape T n) : mt_iTape T' n := by
  obtain ⟨a, b, c, d⟩ := h
  have q : ∀ j, j < 240 → mt_perI 2 j = true ∧ mt_perI 97 j = true := by decide +kernel
  refine ⟨a, by rw [hc.1 1 1 (by decide +kernel) rfl]; exact b, by rw [hc.1 96 2 (by decide +kernel) rfl]; exact c, fun m hm => ?_⟩
  obtain ⟨v, e1, e2⟩ := d m hm
  have hq := q m (by omega)
  exact ⟨v, by rw [hc.1 2 m hq.1 rfl]; exact e1, by rw [hc.1 97 m hq.2 rfl]; exact e2⟩
theorem mt_iText_c {T T' : mt_S} {n : Nat} (hc : mt_sp 5 T T') (h : mt_iText T n) : mt_iText T' n := by
  obtain ⟨a, b, c, d⟩ := h
  have q : ∀ j, j < 44 → mt_perI 86 j = true ∧ mt_perI 107 j = true := by decide +kernel
  refine ⟨a, by rw [hc.1 85 2 (by decide +kernel) rfl]; exact b, by rw [hc.1 96 30 (by decide +kernel) rfl]; exact c, fun m hm => ?_⟩
  obtain ⟨v, e1, e2⟩ := d m hm
  have hq := q m (by omega)
  exact ⟨v, by rw [hc.1 86 m hq.1 rfl]; exact e1, by rw [hc.1 107 m hq.2 rfl]; exact e2⟩
theorem mt_iFault_c {T T' : mt_S} (hc : mt_sp 6 T T') (h : mt_iFault T) : mt_iFault T' := by
  obtain ⟨v, a, b⟩ := h
  exact ⟨v, by rw [hc.1 3 9 (by decide +kernel) rfl]; exact a, by rw [hc.1 96 33 (by decide +kernel) rfl]; exact b⟩
theorem mt_iTab_c {T T' : mt_S} (hc : mt_sp 7 T T') (h : mt_iTab T) : mt_iTab T' := by
  have q : ∀ j, j < 160 → mt_perL 91 j = true ∧ mt_perL 92 j = true ∧ mt_perL 93 j = true ∧ mt_perI 94 j = true ∧ mt_perL 95 j = true := by decide +kernel
  rcases h with h | ⟨a, b, c, d⟩
  · exact Or.inl (by rw [hc.1 90 5 (by decide +kernel) rfl]; exact h)
  · refine Or.inr ⟨by rw [hc.1 90 5 (by decide +kernel) rfl]; exact a, by rw [hc.1 90 6 (by decide +kernel) rfl]; exact b, fun m x hm => ?_, fun m v hm => ?_⟩
    · obtain ⟨q1, q2, q3, q4, q5⟩ := q m (Nat.lt_of_lt_of_le (mt_lt_of hm) (by decide +kernel))
      rw [hc.2 91 m q1 rfl, hc.2 92 m q2 rfl, hc.2 93 m q3 rfl, hc.1 94 m q4 rfl]
      exact c m x hm
    · obtain ⟨q1, q2, q3, q4, q5⟩ := q m (Nat.lt_of_lt_of_le (mt_lt_of hm) (by decide +kernel))
      rw [hc.2 95 m q5 rfl]
      exact d m v hm
theorem mt_st_of {T T' : mt_S} (h : T'.1 = T.1 ∧ T'.2.1 = T.2.1 ∧ T'.2.2.2.2 = T.2.2.2.2) (hs : mt_st T) : mt_st T' := by
  obtain ⟨a, b, c⟩ := h
  refine ⟨by rw [a]; exact hs.1, by rw [b]; exact hs.2.1, by rw [c]; exact hs.2.2⟩
theorem mt_Inv_c {T T' : mt_S} (h : mt_st T') (hc : mt_same T T') (hi : mt_Inv T) : mt_Inv T' := by
  obtain ⟨hs, ⟨c, h1⟩, ⟨nx, hh, h2⟩, h3, ⟨n4, h4⟩, ⟨n5, h5⟩, h6, h7⟩ := hi
  exact ⟨h, ⟨c, mt_iCur_c (hc.sp 1) h1⟩, ⟨nx, hh, mt_iHist_c (hc.sp 2) h2⟩, mt_iIm_c (hc.sp 3) h3, ⟨n4, mt_iTape_c (hc.sp 4) h4⟩, ⟨n5, mt_iText_c (hc.sp 5) h5⟩, mt_iFault_c (hc.sp 6) h6, mt_iTab_c (hc.sp 7) h7⟩
/-- what a place shows -/
def mt_pxQ : Bool := mt_PL.all (fun x => decide (x.1 = x.2.2.1 + x.2.2.2.2.1) && decide (x.2.1 = x.2.2.2.1 + x.2.2.2.2.2.1))
theorem mt_px_of {T : mt_S} {c : mt_C} (h : mt_iCur T c) : ∀ k j v, mt_px c.1 k j = some v → T.2.2.1 k j = some v := by
  obtain ⟨-, b, r⟩ := h
  obtain ⟨⟨p, q, x1, x2, x3, x4, x5⟩, ms⟩ := c
  intro k j v hv
  simp only [mt_px] at hv
  by_cases h1 : k = 10
  · subst h1
    rw [if_pos rfl] at hv
    exact b.1 j v hv
  · rw [if_neg h1] at hv
    by_cases h2 : k = 98
    · subst h2
      rw [if_pos rfl] at hv
      match j, hv with
      | 0, hv => rw [r.1]; exact hv
      | 1, hv => rw [r.2.1]; exact hv
    · rw [if_neg h2] at hv; cases hv
/-- a turn that is closed at each place -/
theorem mt_closed {l : mt_S → Option mt_S} (hov : ∀ S T S' : mt_S, mt_cp S T → l S = some S' → l (mt_ov S T) = some (mt_ov S' T)) (hcl : mt_PL.all (fun x => mt_qv (l (mt_s0 mt_K1 x)) (fun S' => mt_kp mt_Q1 (mt_s0 mt_K1 x) S')) = true) {T : mt_S} (hi : mt_Inv T) : ∃ S', l T = some S' ∧ mt_Inv S' := by
  obtain ⟨c, h1⟩ := hi.2.1
  obtain ⟨S', e, hk⟩ := mt_qv_t (List.all_eq_true.mp hcl c.1 h1.1.1)
  have hI := mt_px_of h1
  have hcp : mt_cp (mt_s0 mt_K1 c.1) T := mt_cp_m hi.1
  have e2 := hov _ _ _ hcp e
  have hT : mt_ov (mt_s0 mt_K1 c.1) T = T := mt_ov_of hI (fun _ _ _ h => by cases h)
  rw [hT] at e2
  have e3 := mt_stv e (hov _ _ _ (mt_cp_self _) e)
  exact ⟨_, e2, mt_Inv_c hi.1 (mt_keep hI ⟨e3.1, e3.2.1⟩ mt_kq1 hk) hi⟩
theorem t_11 {T : mt_S} (hi : mt_Inv T) : ∃ S', l_11 T = some S' ∧ mt_Inv S' := mt_closed (fun _ _ _ hp h => (ov_l_11 hp h).1) cl_11 hi
theorem t_22 {T : mt_S} (hi : mt_Inv T) : ∃ S', l_22 T = some S' ∧ mt_Inv S' := mt_closed (fun _ _ _ hp h => (ov_l_22 hp h).1) cl_22 hi
