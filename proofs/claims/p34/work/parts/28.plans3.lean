/-! ===== as in whole: plans3 ===== -/
def ordF (L : List Nat) (j : Nat) : Nat := L.getD j j
theorem ord_mem {L : List Nat} {k : Nat} (hk : k < L.length) : ordF L k ∈ L := by
  unfold ordF
  rw [List.getD_eq_getElem?_getD, List.getElem?_eq_getElem hk]
  exact List.getElem_mem hk
theorem lstB_ord (L : List Nat) : lstB L = if L.length = 0 then 0 else 2 ^ ordF L (L.length - 1) := by
  induction L with
  | nil => rfl
  | cons p l ih =>
    rw [lstB, List.length_cons, if_neg (Nat.succ_ne_zero _), Nat.add_sub_cancel]
    by_cases h : l = []
    · subst h; rfl
    · rw [if_neg h, ih]
      have h1 : 0 < l.length := List.length_pos_iff.mpr h
      rw [if_neg (by omega)]
      congr 1
      unfold ordF
      rw [List.getD_eq_getElem?_getD, List.getD_eq_getElem?_getD]
      have e : l.length = (l.length - 1) + 1 := by omega
      rw [show (p :: l)[l.length]? = l[l.length - 1]? by rw [e, List.getElem?_cons_succ, Nat.add_sub_cancel]]
      rw [List.getElem?_eq_getElem (show l.length - 1 < l.length by omega)]; rfl
theorem gn_0 (v : Nat → Nat) (n : Nat) : gnF v 0 n = 0 := by
  induction n with
  | zero => rfl
  | succ n ih => rw [gnF, ih, Nat.zero_testBit]; rfl
theorem bx_0 (v : Nat → Nat) : bxA v 0 = ((v 7 : Nat) : Int) := by unfold bxA; rw [gn_0]; omega
theorem lk_le (v : Nat → Nat) (L : List Nat) : ∀ b : Int, lkL v b L ≤ (-b).toNat + 44 * L.length := by
  induction L with
  | nil => intro b; rw [lkL]; omega
  | cons p l ih =>
    intro b
    have h := ih (b + plG v p)
    have h1 := bkP_le v p
    have h2 := ndP_le v p
    have h3 := plG_eq v p
    rw [lkL, List.length_cons]
    omega
theorem minL_le (f : List Nat → Nat) (l : List (List Nat)) : minL f l ≤ 1000000 := by
  induction l with
  | nil => exact Nat.le_refl _
  | cons x l ih => rw [minL]; omega
def sPlanOrder (v : Nat → Nat) (t : Int) : Int := if 0 ≤ t ∧ t ≤ 5 then (if t.toNat < v 9 ∧ 0 < oC v (v 9) 0 then lnF v (dnF v t.toNat) else -6) else -2
def sLast (v : Nat → Nat) : Int := ffF (fun k => decide (lC v (v 9) 0 = 2 ^ k)) (v 9)
