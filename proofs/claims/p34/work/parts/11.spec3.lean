/-! ===== as in whole: spec3 ===== -/
def doorsOf (v : Nat → Nat) (k : Nat) : Nat := bitsF (fun d => !decide (whrR v k = 9) && opnD v (cutR v k) d) (v 4)
theorem doorsOf_eq (v : Nat → Nat) (k : Nat) : doorsOf v k = if whrR v k = 9 then 0 else doorsBy v (cutR v k) := by
  unfold doorsOf doorsBy
  split
  · next h => simp only [h, decide_true, Bool.not_true, Bool.false_and]; generalize v 4 = n; induction n with
    | zero => rfl
    | succ n ih => simp [bitsF, ih]
  · next h => exact bitsF_cong (fun d _ => by simp [h])
def cntF (p : Nat → Bool) : Nat → Nat
  | 0 => 0
  | n + 1 => cntF p n + (if p n = true then 1 else 0)
theorem cntF_le (p : Nat → Bool) (n : Nat) : cntF p n ≤ n := by
  induction n with
  | zero => exact Nat.le_refl 0
  | succ n ih => simp only [cntF]; split <;> omega
/-- the first one, -6 if there is none -/
def ffF (p : Nat → Bool) : Nat → Int
  | 0 => -6
  | n + 1 => if ffF p n = -6 then (if p n = true then (n : Int) else -6) else ffF p n
theorem ffF_stay (p : Nat → Bool) (n m : Nat) (h : ffF p n ≠ -6) : ffF p (n + m) = ffF p n := by
  induction m with
  | zero => rfl
  | succ m ih => rw [← Nat.add_assoc, ffF, ih, if_neg h]
def chkP (v : Nat → Nat) (x : Nat) (c : Nat) : Bool := canK (v 0) c && decide (doorsBy v c &&& x = x)
def jstP (v : Nat → Nat) (x : Nat) (c : Nat) : Bool := canK (v 0) c && decide (doorsBy v c = x)
def ksF (v : Nat → Nat) (rm : Nat) : Nat → Nat
  | 0 => keysAt v 8
  | n + 1 => ksF v rm n ||| (if rm.testBit n = true then keysAt v n else 0)
/-- the keys that are carried, and those that lie in some rooms -/
def ksOf (v : Nat → Nat) (rm : Nat) : Nat := ksF v rm 8
theorem keysAt_lt (v : Nat → Nat) (w : Nat) (h5 : v 5 ≤ 16) : keysAt v w < 65536 :=
  Nat.lt_of_lt_of_le (bitsF_lt _ _) (Nat.pow_le_pow_right (by decide) h5 : 2 ^ v 5 ≤ 2 ^ 16)
theorem ksF_lt (v : Nat → Nat) (rm n : Nat) (h5 : v 5 ≤ 16) : ksF v rm n < 65536 := by
  induction n with
  | zero => exact keysAt_lt v 8 h5
  | succ n ih =>
    have h2 : (if rm.testBit n = true then keysAt v n else 0) < 2 ^ 16 := by
      split
      · exact keysAt_lt v n h5
      · decide
    exact Nat.or_lt_two_pow (n := 16) ih h2
theorem doorsBy_lt (v : Nat → Nat) (c : Nat) (h4 : v 4 ≤ 10) : doorsBy v c < 1024 :=
  Nat.lt_of_lt_of_le (bitsF_lt _ _) (Nat.pow_le_pow_right (by decide) h4 : 2 ^ v 4 ≤ 2 ^ 10)
def sOpens (v : Nat → Nat) (c d : Int) : Int := if 0 ≤ d ∧ d ≤ ((v 4 : Nat) : Int) - 1 then (if 0 ≤ c ∧ c ≤ 9999 then (if opnD v c.toNat d.toNat = true then 1 else 0) else -2) else -1
def areD (v : Nat → Nat) (x : Int) : Bool := decide (0 ≤ x ∧ x.toNat / 2 ^ v 4 = 0)
def sChance (v : Nat → Nat) (x : Int) : Int := if areD v x = true then ((cntF (chkP v x.toNat) 10000 : Nat) : Int) else -1
def sJust (v : Nat → Nat) (x : Int) : Int := if areD v x = true then ffF (jstP v x.toNat) 10000 else -1
def sOfDoor (v : Nat → Nat) (d w : Int) : Int := if 0 ≤ d ∧ d ≤ ((v 4 : Nat) : Int) - 1 then
  (if w = 4 then ((lockWt v d.toNat : Nat) : Int) else if w = 5 then ((v (20 + 6 * d.toNat + 4) : Nat) : Int) else if w = 6 then ((keysFor v d.toNat : Nat) : Int) else if w = 7 then plcO v d.toNat else
   if 0 ≤ w ∧ w ≤ 3 then ((v (20 + 6 * d.toNat + w.toNat) : Nat) : Int) else -2) else -1
def sOfKey (v : Nat → Nat) (k w : Int) : Int := if 0 ≤ k ∧ k ≤ ((v 5 : Nat) : Int) - 1 then
  (if w = 0 then ((v (80 + 4 * k.toNat) : Nat) : Int) else if w = 1 then ((keyWt v k.toNat : Nat) : Int) else if w = 2 then ((v (80 + 4 * k.toNat + 2) : Nat) : Int) else if w = 3 then ((doorsOf v k.toNat : Nat) : Int) else -2) else -1
/-- both rooms of a door, as a set -/
def bothR (v : Nat → Nat) (d : Nat) : Nat := 2 ^ v (20 + 6 * d) ||| 2 ^ v (20 + 6 * d + 1)
def goesR (v : Nat → Nat) (rm d : Nat) : Bool := decide (¬ rm &&& bothR v d = 0) && opnBy v d (ksOf v rm)
def rchS (v : Nat → Nat) (rm d : Nat) : Nat := rm ||| (if goesR v rm d = true then bothR v d else 0)
def rchP (v : Nat → Nat) (rm : Nat) : Nat → Nat
  | 0 => rm
  | d + 1 => rchS v (rchP v rm d) d
/-- passes until nothing more comes -/
def rchI (v : Nat → Nat) (rm : Nat) : Nat → Nat
  | 0 => rm
  | n + 1 => rchI v (rchP v rm (v 4)) n
