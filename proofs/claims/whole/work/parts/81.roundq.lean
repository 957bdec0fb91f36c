/-! rounds: pure, closed -/
abbrev mt_T3 : Type := Int64 × Int64 × Int64
def mt_abs (x : Int64) : Int64 := if 0 ≤ x then x else -x
def mt_fmo (x y : Int64) : Int64 := if 0 ≤ (x ^^^ y) then x - x / y * y else if (x - x / y * y) = 0 then x - x / y * y else (x - x / y * y) + y
/-- the program's next form -/
def mt_nC (d r : Int64) (t : mt_T3) : Option mt_T3 := if (2 * mt_abs t.2.2) = 0 then none else if (4 * t.2.2) = 0 then none else some (t.2.2, r - mt_fmo (r + t.2.1) (2 * mt_abs t.2.2), (((r - mt_fmo (r + t.2.1) (2 * mt_abs t.2.2)) * (r - mt_fmo (r + t.2.1) (2 * mt_abs t.2.2))) - d) / (4 * t.2.2))
def mt_ree (x y : Int64) : Int64 := if 0 ≤ (x - x / y * y) then x - x / y * y else (x - x / y * y) + y
/-- the reference's -/
def mt_nM (d r : Int64) (t : mt_T3) : Option mt_T3 := if (2 * mt_abs t.2.2) = 0 then none else if (4 * t.2.2) = 0 then none else some (t.2.2, r - mt_ree (r + t.2.1) (2 * mt_abs t.2.2), (((r - mt_ree (r + t.2.1) (2 * mt_abs t.2.2)) * (r - mt_ree (r + t.2.1) (2 * mt_abs t.2.2))) - d) / (4 * t.2.2))
def mt_mnL (a b : Int64) : Int64 := if b < a then b else a
/-- the program's round: how many, the least -/
def mt_rC (d r fa fb : Int64) : Nat → mt_T3 → Int32 → Int64 → Option (Int32 × Int64)
  | 0, _, _, _ => none
  | n + 1, t, s, m => match mt_nC d r t with
    | none => none
    | some t' => if t'.1 = fa ∧ t'.2.1 = fb then some (s + 1, mt_mnL m (mt_abs t.1)) else mt_rC d r fa fb n t' (s + 1) (mt_mnL m (mt_abs t.1))
/-- the reference: where the slow and the fast meet -/
def mt_rF (d r : Int64) : Nat → mt_T3 → mt_T3 → Option mt_T3
  | 0, _, _ => none
  | n + 1, t, s => match mt_nM d r s with
    | none => none
    | some s' => match mt_nM d r t with
      | none => none
      | some t1 => match mt_nM d r t1 with
        | none => none
        | some t2 => if t2.1 = s'.1 ∧ t2.2.1 = s'.2.1 ∧ t2.2.2 = s'.2.2 then some s' else mt_rF d r n t2 s'
def mt_lsN (n : Int32) (m a : Int64) : Int64 := if n = 0 then a else if m ≤ a then m else a
def mt_rG (d r : Int64) (s : mt_T3) : Nat → mt_T3 → Int32 → Int64 → Option (Int32 × Int64)
  | 0, _, _, _ => none
  | k + 1, t, n, m => match mt_nM d r t with
    | none => none
    | some t' => if t'.1 = s.1 ∧ t'.2.1 = s.2.1 ∧ t'.2.2 = s.2.2 then some (n + 1, mt_lsN n m (mt_abs t.1)) else mt_rG d r s k t' (n + 1) (mt_lsN n m (mt_abs t.1))
def mt_t3 (y : mt_P) : mt_T3 := (mt_fA y, mt_fB y, mt_fC y)
def mt_rdC (y : mt_P) : Option (Int32 × Int64) := mt_rC (mt_fD y) (mt_fE y) (mt_fA y) (mt_fB y) 1000 (mt_t3 y) 0 (mt_abs (mt_fA y))
def mt_rdF (y : mt_P) : Option mt_T3 := mt_rF (mt_fD y) (mt_fE y) 1000 (mt_t3 y) (mt_t3 y)
def mt_rdM (y : mt_P) : Option (Int32 × Int64) := Option.bind (mt_rdF y) fun s => mt_rG (mt_fD y) (mt_fE y) s 1000 s 0 0
def mt_chRd (y : mt_P) : Bool := decide (1000000000 < mt_en y 1) || ((mt_rdC y).isSome && decide (mt_rdC y = mt_rdM y))
theorem mt_chRd_t : mt_PL.all mt_chRd = true := by decide +kernel
