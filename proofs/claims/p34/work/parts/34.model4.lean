/-! ===== as in whole: model4 ===== -/
def rwF (i : Nat) (hf : Nat → Nat) : Nat → Nat := fun k => hf (i * 170 + k)
theorem key_rng {v : Nat → Nat} (h : okR v) (c r : Int) : -5 ≤ (sKey v c r).1 ∧ (sKey v c r).1 ≤ ((v 7 : Nat) : Int) + 70000 := by
  have h5 := h.2.2.2.2.2.1
  unfold sKey
  (repeat' split) <;> dsimp only <;> omega
theorem cut_rng {v : Nat → Nat} (d f s : Int) : -5 ≤ (sCut v d f s).1 ∧ (sCut v d f s).1 ≤ ((v 7 : Nat) : Int) + 70000 := by
  have hg := givW_le2 v d.toNat
  unfold sCut
  (repeat' split) <;> dsimp only <;> omega
theorem move_rng {v : Nat → Nat} (h : okR v) (k : Int) (a b : Nat) : -5 ≤ (sMove v k a b).1 ∧ (sMove v k a b).1 ≤ ((v 7 : Nat) : Int) + 70000 := by
  have h5 := h.2.2.2.2.2.1
  have hk := keysAt_lt (va_up v (80 + 4 * k.toNat + 2) b) 8 (by rw [va_up_off (by omega)]; exact h5)
  unfold sMove
  (repeat' split) <;> dsimp only <;> omega
theorem go_rng {v : Nat → Nat} (h : okR v) (d : Int) : -5 ≤ (sGo v d).1 ∧ (sGo v d).1 ≤ ((v 7 : Nat) : Int) + 70000 := by
  unfold sGo
  split
  · have hd := h.2.2.2.2.2.2.2.1 d.toNat (by omega)
    have hb := behR_rng (v := v) (d := d.toNat) (r := v 3) hd.1 hd.2.1
    split <;> dsimp only <;> omega
  · dsimp only; omega
theorem brass_rng {v : Nat → Nat} (g : Int) : -5 ≤ (sBrass v g).1 ∧ (sBrass v g).1 ≤ ((v 7 : Nat) : Int) + 70000 := by
  unfold sBrass
  split <;> dsimp only <;> omega
def sCount (v : Nat → Nat) (ln nu : Nat) (w : Int) : Int := if w = 11 then ((ln : Nat) : Int) else if w = 12 then ((nu : Nat) : Int) else sOfAll v w
