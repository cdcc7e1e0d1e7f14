/-! ===== as in whole: spec ===== -/
/-- the digit k places from the right -/
def dgt (c : Nat) : Nat → Nat
  | 0 => c % 10
  | k + 1 => dgt (c / 10) k
theorem dgt_lt (c k : Nat) : dgt c k < 10 := by
  induction k generalizing c with
  | zero => exact Nat.mod_lt _ (by decide)
  | succ k ih => exact ih (c / 10)
/-- all depths of a row together -/
def sumD (c : Nat) : Nat := dgt c 0 + dgt c 1 + dgt c 2 + dgt c 3
/-- one gram more where both depths differ -/
def nd (f s k : Nat) : Nat := if dgt f k = dgt s k then 0 else 1
def lockW (f s : Nat) : Nat := 4 + sumD f + (nd f s 0 + nd f s 1 + nd f s 2 + nd f s 3)
def lossW (w l : Nat) : Nat := (w * l + 99) / 100
/-- two depths side by side that a key may have -/
def adj (st a b : Nat) : Bool := decide (a ≤ b + st) && decide (b ≤ a + st)
def canK (st c : Nat) : Bool := adj st (dgt c 0) (dgt c 1) && adj st (dgt c 1) (dgt c 2) && adj st (dgt c 2) (dgt c 3)
/-- at the place k from the right the key's depth is one of both -/
def fitK (c f s k : Nat) : Bool := decide (dgt c k = dgt f k) || decide (dgt c k = dgt s k)
def fitL (c f s : Nat) : Bool := fitK c f s 0 && fitK c f s 1 && fitK c f s 2 && fitK c f s 3
theorem sumD_le (c : Nat) : sumD c ≤ 36 := by
  have h0 := dgt_lt c 0; have h1 := dgt_lt c 1; have h2 := dgt_lt c 2; have h3 := dgt_lt c 3
  unfold sumD; omega
theorem nd_le (f s k : Nat) : nd f s k ≤ 1 := by unfold nd; split <;> omega
theorem lockW_le (f s : Nat) : lockW f s ≤ 44 := by
  have h := sumD_le f; have h0 := nd_le f s 0; have h1 := nd_le f s 1; have h2 := nd_le f s 2; have h3 := nd_le f s 3
  unfold lockW; omega
theorem lockW_pos (f s : Nat) : 4 ≤ lockW f s := by unfold lockW; omega
theorem lossW_le {w l : Nat} (hw : w ≤ 100) (hl : l ≤ 50) : lossW w l ≤ w := by
  unfold lossW
  have h : w * l ≤ w * 50 := Nat.mul_le_mul_left w hl
  omega
/-- with one place less to the right: the rest of a walk from the right -/
def sumF : Nat → Nat → Nat
  | 0, _ => 0
  | n + 1, c => c % 10 + sumF n (c / 10)
def ndF : Nat → Nat → Nat → Nat
  | 0, _, _ => 0
  | n + 1, f, s => (if f % 10 = s % 10 then 0 else 1) + ndF n (f / 10) (s / 10)
def fitF : Nat → Nat → Nat → Nat → Bool
  | 0, _, _, _ => true
  | n + 1, c, f, s => (decide (c % 10 = f % 10) || decide (c % 10 = s % 10)) && fitF n (c / 10) (f / 10) (s / 10)
def canF (st : Nat) : Nat → Nat → Nat → Bool
  | 0, _, _ => true
  | n + 1, r, c => adj st r (c % 10) && canF st n (c % 10) (c / 10)
theorem sumF_4 (c : Nat) : sumF 4 c = sumD c := by simp [sumF, sumD, dgt]; omega
theorem ndF_4 (f s : Nat) : ndF 4 f s = nd f s 0 + nd f s 1 + nd f s 2 + nd f s 3 := by
  show nd f s 0 + (nd f s 1 + (nd f s 2 + (nd f s 3 + 0))) = _
  omega
theorem fitF_4 (c f s : Nat) : fitF 4 c f s = fitL c f s := by
  show (fitK c f s 0 && (fitK c f s 1 && (fitK c f s 2 && (fitK c f s 3 && true)))) = _
  simp only [fitL, Bool.and_true, Bool.and_assoc]
theorem canF_3 (st c : Nat) : canF st 3 (c % 10) (c / 10) = canK st c := by
  show (adj st (dgt c 0) (dgt c 1) && (adj st (dgt c 1) (dgt c 2) && (adj st (dgt c 2) (dgt c 3) && true))) = _
  simp only [canK, Bool.and_true, Bool.and_assoc]
/-- the model's sum, from the left -/
def wsF (f s : Nat) : Nat → Nat
  | 0 => 0
  | k + 1 => wsF f s k + (1 + dgt f (3 - k) + nd f s (3 - k))
theorem wsF_le (f s k : Nat) : wsF f s k ≤ 11 * k := by
  induction k with
  | zero => exact Nat.le_refl 0
  | succ k ih =>
    have h1 := dgt_lt f (3 - k)
    have h2 := nd_le f s (3 - k)
    simp only [wsF]
    omega
theorem ab_Z {z : Int} (h : -2147483647 ≤ z ∧ z < 2147483648) : (if (0 : Int32) ≤ zI z then zI z else 0 - zI z) = zI (if z ≥ 0 then z else -z) := by
  by_cases hz : 0 ≤ z
  · rw [if_pos ((ge0_Z (by omega)).mpr hz), if_pos (by omega)]
  · rw [if_neg (fun q => hz ((ge0_Z (by omega)).mp q)), if_neg (by omega), n_0, nz, sb_ZZ]
    congr 1
    omega
theorem bnf {b : Bool} (h : ¬ b = false) : b = true := by cases b <;> simp_all
