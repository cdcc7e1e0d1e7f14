/-! ===== as in whole: keys3 ===== -/
/-- how far a row's places were looked at: place p, its unit u, the depth l to the left -/
def MF (st : Nat) (F : Nat → Nat) (x p u l : Nat) : Prop := (p = 0 ∧ u = 1000 ∧ l = x / 1000) ∨ (p = 1 ∧ u = 100 ∧ l = x / 1000 ∧ pfx st F 0 (x / 1000) = true) ∨ (p = 2 ∧ u = 10 ∧ l = x / 100 % 10 ∧ pfx st F 1 (x / 100) = true) ∨ (p = 3 ∧ u = 1 ∧ l = x / 10 % 10 ∧ pfx st F 2 (x / 10) = true) ∨ (p = 4 ∧ u = 0 ∧ l = x % 10 ∧ pfx st F 3 x = true)
theorem MF.ok {st : Nat} {F : Nat → Nat} {x p u l d : Nat} (h : MF st F x p u l) (hx : x < 10000) (hp : p < 4) (hd : d = x / u % 10) (ha : adj st d l = true) (hf : (F p).testBit d = true) : MF st F x (p + 1) (u / 10) d := by
  rcases h with ⟨rfl, rfl, h3⟩ | ⟨rfl, rfl, h3, h4⟩ | ⟨rfl, rfl, h3, h4⟩ | ⟨rfl, rfl, h3, h4⟩ | ⟨rfl, rfl, h3, h4⟩
  · refine Or.inr (Or.inl ⟨rfl, rfl, by omega, ?_⟩)
    rw [pfx, ← hd]; exact hf
  · refine Or.inr (Or.inr (Or.inl ⟨rfl, rfl, hd, ?_⟩))
    rw [pfx, ← hd, show x / 100 / 10 = x / 1000 by omega, h4, show x / 1000 % 10 = l by omega, adj_comm, ha, hf]; rfl
  · refine Or.inr (Or.inr (Or.inr (Or.inl ⟨rfl, rfl, hd, ?_⟩)))
    rw [pfx, ← hd, show x / 10 / 10 = x / 100 by omega, h4, ← h3, adj_comm, ha, hf]; rfl
  · refine Or.inr (Or.inr (Or.inr (Or.inr ⟨rfl, rfl, by omega, ?_⟩)))
    rw [pfx, h4, ← h3, show x % 10 = d by omega, adj_comm, ha, hf]; rfl
  · exact absurd hp (by decide)
