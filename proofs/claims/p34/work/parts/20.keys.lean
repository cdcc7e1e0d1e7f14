/-! ===== as in whole: keys ===== -/
theorem mn_NN {x y : Nat} (hx : x < 2147483648) (hy : y < 2147483648) : (if nI y < nI x then nI y else nI x) = nI (min x y) := by
  by_cases h : y < x
  · rw [if_pos ((lt_NN (by omega) (by omega)).mpr h), Nat.min_eq_right (by omega)]
  · rw [if_neg (fun q => h ((lt_NN (by omega) (by omega)).mp q)), Nat.min_eq_left (by omega)]
theorem mx_NN {x y : Nat} (hx : x < 2147483648) (hy : y < 2147483648) : (if nI x < nI y then nI y else nI x) = nI (max x y) := by
  by_cases h : x < y
  · rw [if_pos ((lt_NN (by omega) (by omega)).mpr h), Nat.max_eq_right (by omega)]
  · rw [if_neg (fun q => h ((lt_NN (by omega) (by omega)).mp q)), Nat.max_eq_left (by omega)]
theorem mx_NZ {x : Nat} {y : Int} (hx : x < 2147483648) (hy : -2147483648 ≤ y ∧ y < 2147483648) : (if nI x < zI y then zI y else nI x) = nI (max x y.toNat) := by
  by_cases h : (x : Int) < y
  · rw [if_pos ((lt_NZ (by omega) (by omega)).mpr h)]; exact zn (by omega)
  · rw [if_neg (fun q => h ((lt_NZ (by omega) (by omega)).mp q))]; exact congrArg nI (by omega)
/-- all places as far as the last one fit, and those side by side may be so -/
def pfx (st : Nat) (F : Nat → Nat) : Nat → Nat → Bool
  | 0, c => (F 0).testBit (c % 10)
  | i + 1, c => pfx st F i (c / 10) && (adj st (c / 10 % 10) (c % 10) && (F (i + 1)).testBit (c % 10))
theorem testBit_lt {x n d : Nat} (hx : x < 2 ^ n) (h : x.testBit d = true) : d < n := by
  apply Decidable.byContradiction
  intro h1
  have h2 : x < 2 ^ d := Nat.lt_of_lt_of_le hx (Nat.pow_le_pow_right (by decide) (by omega))
  rw [Nat.testBit_lt_two_pow h2] at h
  exact Bool.noConfusion h
/-- one place more of a row -/
theorem rowAt.ext1 {σ : Nat → Nat → Int32} {a n : Nat} {v : Nat → Nat} (h : rowAt σ a n v) (x : Int32) (hx : x = nI (v n)) : rowAt (s2 σ a n x) a (n + 1) v := by
  intro j hj
  by_cases e : j = n
  · subst e; rw [hx]; exact s2_same _ _ _ _
  · rw [s2_nk e]; exact h j (by omega)
theorem rowAt.zero {σ : Nat → Nat → Int32} {a : Nat} {v : Nat → Nat} : rowAt σ a 0 v := fun j hj => absurd hj (Nat.not_lt_zero _)
theorem rowAt.cong {σ : Nat → Nat → Int32} {a n : Nat} {v w : Nat → Nat} (h : rowAt σ a n v) (e : ∀ j, j < n → v j = w j) : rowAt σ a n w := fun j hj => by rw [h j hj, e j hj]
theorem rowAt.sig {σ τ : Nat → Nat → Int32} {a n : Nat} {v : Nat → Nat} (h : rowAt σ a n v) (e : τ a = σ a) : rowAt τ a n v := fun j hj => by rw [e]; exact h j hj
