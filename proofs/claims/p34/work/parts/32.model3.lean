/-! ===== as in whole: model3 ===== -/
def recC (nu : Nat) : Nat := if nu = 6 then 5 else nu
def recB (nu : Nat) (hf : Nat → Nat) : Nat → Nat := if nu = 6 then fun j => hf (j + 170) else hf
def recH (nu : Nat) (hf v : Nat → Nat) : Nat → Nat := fun j => if j < recC nu * 170 then recB nu hf j else v (j - recC nu * 170)
def mH (W : Bool) (x : Int) (nu : Nat) (hf v : Nat → Nat) : Nat × (Nat → Nat) := if W = false ∧ 0 ≤ x then (recC nu + 1, recH nu hf v) else (nu, hf)
theorem mH_neg {W : Bool} {x : Int} {nu : Nat} {hf v : Nat → Nat} (h : x < 0) : mH W x nu hf v = (nu, hf) := if_neg (fun q => by have := q.2; omega)
theorem givW_cong {v v1 : Nat → Nat} {d : Nat} (h1 : v1 1 = v 1) (h2 : v1 (20 + 6 * d + 2) = v (20 + 6 * d + 2)) (h3 : v1 (20 + 6 * d + 3) = v (20 + 6 * d + 3)) : givW v1 d = givW v d := by
  unfold givW lockWt fstR sndR
  rw [h1, h2, h3]
