/-! ===== what the plan's questions tell of one another ===== -/
theorem sumL_none {c : List Nat → Nat} (l : List (List Nat)) : sumL (fun L => if c L = 0 then 1 else 0) l = 0 ↔ ∀ L, L ∈ l → ¬ c L = 0 := by
  induction l with
  | nil => exact ⟨fun _ L h => absurd h (List.not_mem_nil), fun _ => rfl⟩
  | cons x l ih =>
    rw [sumL]
    constructor
    · intro h L hL
      have h2 : sumL (fun L => if c L = 0 then 1 else 0) l = 0 := by omega
      rcases List.mem_cons.mp hL with e | e
      · subst e
        intro q
        rw [if_pos q] at h; omega
      · exact ih.mp h2 L e
    · intro h
      rw [if_neg (h x List.mem_cons_self), ih.mpr (fun L hL => h L (List.mem_cons_of_mem _ hL))]
theorem minL_none {c : List Nat → Nat} (l : List (List Nat)) : 0 < minL c l ↔ ∀ L, L ∈ l → ¬ c L = 0 := by
  induction l with
  | nil => exact ⟨fun _ L h => absurd h (List.not_mem_nil), fun _ => by rw [minL]; omega⟩
  | cons x l ih =>
    rw [minL]
    constructor
    · intro h L hL
      rcases List.mem_cons.mp hL with e | e
      · subst e; omega
      · exact ih.mp (by omega) L e
    · intro h
      have h1 := h x List.mem_cons_self
      have h2 := ih.mpr (fun L hL => h L (List.mem_cons_of_mem _ hL))
      omega
theorem t_lacks {v : Nat → Nat} (hok : okR v) : oC v (v 9) 0 = 0 ↔ 0 < mC v (v 9) 0 := by
  rw [o_all, m_all v (fun D p => Nat.le_trans (gp_le v D p hok.2.2.2.2.2.2.1) (by decide)), sumL_none, minL_none]
theorem t_first {v : Nat → Nat} (h : 0 < v 9) : oC v (v 9) 0 = 0 ↔ sPlanOrder v 0 < 0 := by
  unfold sPlanOrder
  rw [if_pos (by omega)]
  by_cases ho : 0 < oC v (v 9) 0
  · rw [if_pos ⟨h, ho⟩]
    obtain ⟨p, p1, _⟩ := ln_ok v ho 0 h
    rw [show (0 : Int).toNat = 0 from rfl, p1]; omega
  · rw [if_neg (fun q => ho q.2)]; omega
theorem fsL_mem {p : List Nat → Bool} {l : List (List Nat)} {F : List Nat} (h : fsL p l = some F) : F ∈ l ∧ p F = true := by
  induction l with
  | nil => cases h
  | cons x l ih =>
    rw [fsL] at h
    by_cases e : p x = true
    · rw [if_pos e] at h
      have h := Option.some.inj h
      subst h; exact ⟨List.mem_cons_self, e⟩
    · rw [if_neg e] at h
      exact ⟨List.mem_cons_of_mem _ (ih h).1, (ih h).2⟩
theorem orL_bit {f : List Nat → Nat} {l : List (List Nat)} {F : List Nat} {i : Nat} (hF : F ∈ l) (h : (f F).testBit i = true) : (orL f l).testBit i = true := by
  induction l with
  | nil => exact absurd hF (List.not_mem_nil)
  | cons x l ih =>
    rw [orL, Nat.testBit_or, Bool.or_eq_true]
    rcases List.mem_cons.mp hF with e | e
    · subst e; exact Or.inl h
    · exact Or.inr (ih e)
theorem orL_none {c b : List Nat → Nat} {l : List (List Nat)} (h : ∀ L, L ∈ l → ¬ c L = 0) : orL (fun L => if c L = 0 then b L else 0) l = 0 := by
  induction l with
  | nil => rfl
  | cons x l ih => rw [orL, if_neg (h x List.mem_cons_self), ih (fun L hL => h L (List.mem_cons_of_mem _ hL))]; rfl
theorem orL_one {c b : List Nat → Nat} {l : List (List Nat)} {F : List Nat} (h1 : sumL (fun L => if c L = 0 then 1 else 0) l = 1) (hF : F ∈ l) (h : c F = 0) : orL (fun L => if c L = 0 then b L else 0) l = b F := by
  induction l with
  | nil => exact absurd hF (List.not_mem_nil)
  | cons x l ih =>
    rw [sumL] at h1
    rw [orL]
    by_cases e : c x = 0
    · rw [if_pos e] at h1 ⊢
      have h0 := (sumL_none (c := c) l).mp (by omega)
      rw [orL_none h0, Nat.or_zero]
      rcases List.mem_cons.mp hF with e2 | e2
      · rw [e2]
      · exact absurd h (h0 F e2)
    · rw [if_neg e] at h1 ⊢
      rcases List.mem_cons.mp hF with e2 | e2
      · subst e2; exact absurd h e
      · rw [ih (by omega) e2]; exact Nat.zero_or _
theorem ffF_some {p : Nat → Bool} {n q : Nat} (hq : q < n) (h : p q = true) : ¬ ffF p n = -6 := by
  induction n with
  | zero => exact absurd hq (Nat.not_lt_zero _)
  | succ n ih =>
    rw [ffF]
    by_cases e : q = n
    · subst e
      by_cases e2 : ffF p q = -6
      · rw [if_pos e2, if_pos h]; omega
      · rw [if_neg e2]; exact e2
    · rw [if_neg (ih (by omega))]; exact ih (by omega)
theorem t_last {v : Nat → Nat} (hok : okR v) : (0 ≤ sLast v → sLast v = sPlanOrder v (((if v 9 = 0 then 0 else v 9 - 1 : Nat)) : Int)) ∧ (0 < v 9 → oC v (v 9) 0 = 1 → sLast v = sPlanOrder v (((if v 9 = 0 then 0 else v 9 - 1 : Nat)) : Int)) ∧ (v 9 = 0 → oC v (v 9) 0 = 1 ∧ sLast v = -6) ∧ (-6 ≤ sLast v ∧ sLast v < 7) := by
  have h9 := hok.2.2.2.2.2.2.1
  have hrg : -6 ≤ sLast v ∧ sLast v < 7 := by
    unfold sLast
    rcases ffF_val (fun k => decide (lC v (v 9) 0 = 2 ^ k)) (v 9) with e | ⟨e1, e2, _⟩ <;> omega
  have hz : v 9 = 0 → oC v (v 9) 0 = 1 ∧ sLast v = -6 := fun e => by
    unfold sLast
    rw [e]; exact ⟨rfl, rfl⟩
  have hpow : ∀ k : Nat, 2 ^ k = 0 → False := fun k h => absurd (Nat.pow_pos (n := k) (show 0 < 2 by decide)) (by omega)
  by_cases e0 : v 9 = 0
  · exact ⟨fun h => by have := (hz e0).2; omega, fun h => by omega, hz, hrg⟩
  · rw [if_neg e0]
    by_cases ho : 0 < oC v (v 9) 0
    · obtain ⟨_, _, F, G, f1, _, _, f4⟩ := first_all v ho (v 9) (Nat.le_refl _)
      obtain ⟨q, q1, q2, _⟩ := ln_ok v ho (v 9 - 1) (by omega)
      obtain ⟨m1, m2⟩ := fsL_mem f1
      have m3 := (PLm_len (v 9) 0 F m1).1
      have m4 : lkL v (bxA v 0) F = 0 := of_decide_eq_true m2
      have hl : sPlanOrder v ((v 9 - 1 : Nat) : Int) = ((q : Nat) : Int) := by
        unfold sPlanOrder
        rw [if_pos (by omega), Int.toNat_natCast, if_pos ⟨by omega, ho⟩, q1]
      have hb : lstB F = 2 ^ q := by
        rw [lstB_ord, if_neg (by omega), m3]
        congr 1
        unfold ordF
        rw [List.getD_eq_getElem?_getD, f4 _ (by omega), q1, Int.toNat_natCast]; rfl
      have hbit : (lC v (v 9) 0).testBit q = true := by
        rw [l_all]
        refine orL_bit m1 ?_
        rw [if_pos m4, hb, Nat.testBit_two_pow, decide_eq_true rfl]
      rw [hl]
      have key : 0 ≤ sLast v → sLast v = ((q : Nat) : Int) := fun h => by
        unfold sLast at h ⊢
        rcases ffF_val (fun k => decide (lC v (v 9) 0 = 2 ^ k)) (v 9) with e | ⟨e1, e2, e3⟩
        · omega
        · have e3 := of_decide_eq_true e3
          rw [e3, Nat.testBit_two_pow, decide_eq_true_eq] at hbit
          omega
      refine ⟨key, fun _ h1 => key ?_, hz, hrg⟩
      have hc : lC v (v 9) 0 = 2 ^ q := by
        rw [o_all] at h1
        rw [l_all, orL_one h1 m1 m4, hb]
      unfold sLast
      have hs := ffF_some (p := fun k => decide (lC v (v 9) 0 = 2 ^ k)) q2 (decide_eq_true hc)
      rcases ffF_val (fun k => decide (lC v (v 9) 0 = 2 ^ k)) (v 9) with e | ⟨e1, e2, e3⟩
      · exact absurd e hs
      · exact e1
    · have h0 : oC v (v 9) 0 = 0 := by omega
      refine ⟨fun h => ?_, fun _ h => by omega, hz, hrg⟩
      exfalso
      unfold sLast at h
      rcases ffF_val (fun k => decide (lC v (v 9) 0 = 2 ^ k)) (v 9) with e | ⟨e1, e2, e3⟩
      · omega
      · have e3 := of_decide_eq_true e3
        rw [o_all, sumL_none] at h0
        rw [l_all, orL_none h0] at e3
        exact hpow _ e3.symm
