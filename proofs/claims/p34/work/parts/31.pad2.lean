/-! ===== as in whole: pad2 ===== -/
/-- what an order of the text says, in the model's row of texts -/
def OrdM (σ : Nat → Nat → Int32) (M i kd : Nat) (R : Nat × Nat × Nat) : Prop := σ (M + 10) (4 * i) = nI kd ∧ σ (M + 10) (4 * i + 1) = nI R.1 ∧ (kd = 99 → σ (M + 10) (4 * i + 2) = nI R.2.1 ∧ σ (M + 10) (4 * i + 3) = nI R.2.2)
theorem OrdM.keep {σ τ : Nat → Nat → Int32} {M i kd : Nat} {R : Nat × Nat × Nat} (h : OrdM σ M i kd R) (e0 : τ (M + 10) (4 * i) = σ (M + 10) (4 * i)) (e1 : τ (M + 10) (4 * i + 1) = σ (M + 10) (4 * i + 1)) (e2 : τ (M + 10) (4 * i + 2) = σ (M + 10) (4 * i + 2)) (e3 : τ (M + 10) (4 * i + 3) = σ (M + 10) (4 * i + 3)) : OrdM τ M i kd R := by
  unfold OrdM at *
  rw [e0, e1, e2, e3]; exact h
