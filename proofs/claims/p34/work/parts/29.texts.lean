/-! ===== as in whole: texts ===== -/
def p1 (b : Bool × Nat × Nat) : Bool × Nat × Nat × Nat × Nat := (b.1, b.2.1, b.2.2, 0, 0)
