/-! ===== as in whole: keys2 ===== -/
def KSh (sh : Nat → Option Kd) (ρ : Nat → Nat → Option Nat) (a : Nat) : Prop := (sh a = some (.inl 4) ∧ sh (a + 1) = some (.inr (0, 4)) ∧ sh (a + 2) = some (.inr (0, 10)) ∧ sh (a + 3) = some (.inr (0, 10))) ∧ ρ a 0 = some (a + 1) ∧ ρ a 1 = some (a + 2) ∧ ρ a 2 = some (a + 3)
