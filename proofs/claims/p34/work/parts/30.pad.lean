/-! ===== as in whole: pad ===== -/
def PdSh (sh : Nat → Option Kd) (ρ : Nat → Nat → Option Nat) (a : Nat) : Prop := (sh a = some (.inl 6) ∧ sh (a + 1) = some (.inr (2, 80)) ∧ sh (a + 2) = some (.inr (6, 27))) ∧ (∀ i, i < 27 → sh (a + 3 + i) = some (.inl 5)) ∧ (ρ a 0 = some (a + 1) ∧ ρ a 2 = some (a + 2)) ∧ ∀ i, i < 27 → ρ (a + 2) i = some (a + 3 + i)
/-- what an order of the text says, in the fields of an Order -/
def OrdF (σ : Nat → Nat → Int32) (o kd : Nat) (R : Nat × Nat × Nat) : Prop := σ o 0 = nI kd ∧ (kd = 107 → σ o 2 = nI R.1) ∧ (kd = 99 → σ o 1 = nI R.1 ∧ σ o 2 = nI R.2.1 ∧ σ o 3 = nI R.2.2) ∧ (kd = 116 ∨ kd = 112 ∨ kd = 103 ∨ kd = 98 → σ o 1 = nI R.1)
theorem OrdF.sig {σ τ : Nat → Nat → Int32} {o kd : Nat} {R : Nat × Nat × Nat} (h : OrdF σ o kd R) (e : τ o = σ o) : OrdF τ o kd R := by
  unfold OrdF at *
  rw [e]; exact h
