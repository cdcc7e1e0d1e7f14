/-! ===== as in whole: plans ===== -/
def minN (f : Nat → Nat) : Nat → Nat
  | 0 => 1000000
  | k + 1 => min (minN f k) (f k)
def orN (f : Nat → Nat) : Nat → Nat
  | 0 => 0
  | k + 1 => orN f k ||| f k
/-- what a cut of the plan brings to the box -/
def plG (v : Nat → Nat) (p : Nat) : Int := ((givW v (v (150 + 3 * p)) : Nat) : Int) - ((lockW (v (150 + 3 * p + 1)) (v (150 + 3 * p + 2)) : Nat) : Int)
def gnF (v : Nat → Nat) (D : Nat) : Nat → Int
  | 0 => 0
  | p + 1 => gnF v D p + (if D.testBit p = true then plG v p else 0)
def bxA (v : Nat → Nat) (D : Nat) : Int := ((v 7 : Nat) : Int) + gnF v D (v 9)
def gpA (v : Nat → Nat) (D p : Nat) : Nat := (-(bxA v D + plG v p)).toNat
def oC (v : Nat → Nat) : Nat → Nat → Nat
  | 0, _ => 1
  | m + 1, D => sumN (fun p => if D.testBit p = true then 0 else if gpA v D p = 0 then oC v m (D ||| 2 ^ p) else 0) (v 9)
def mC (v : Nat → Nat) : Nat → Nat → Nat
  | 0, _ => 0
  | m + 1, D => minN (fun p => if D.testBit p = true then 1000000 else max (gpA v D p) (mC v m (D ||| 2 ^ p))) (v 9)
def lC (v : Nat → Nat) : Nat → Nat → Nat
  | 0, _ => 0
  | m + 1, D => orN (fun p => if D.testBit p = true then 0 else if gpA v D p = 0 then (if m = 0 then 2 ^ p else lC v m (D ||| 2 ^ p)) else 0) (v 9)
/-- how many cuts are left -/
def rsF (n D : Nat) : Nat := cntF (fun p => !D.testBit p) n
theorem or_bit (D p q : Nat) : (D ||| 2 ^ p).testBit q = (D.testBit q || decide (p = q)) := by rw [Nat.testBit_or, Nat.testBit_two_pow]
theorem or_same {D p : Nat} (h : D.testBit p = true) : D ||| 2 ^ p = D := by
  apply Nat.eq_of_testBit_eq
  intro q
  rw [or_bit]
  by_cases e : p = q
  · subst e; rw [h]; rfl
  · rw [decide_eq_false e, Bool.or_false]
theorem or_ne {D p : Nat} (h : D.testBit p = false) : D ||| 2 ^ p ≠ D := by
  intro e
  have h1 : (D ||| 2 ^ p).testBit p = true := by rw [or_bit, decide_eq_true rfl, Bool.or_true]
  rw [e, h] at h1
  exact Bool.noConfusion h1
theorem or_gt {D p : Nat} (h : D.testBit p = false) : D < D ||| 2 ^ p := by
  have h1 : D ≤ D ||| 2 ^ p := Nat.left_le_or
  have h2 := or_ne h
  omega
theorem rs_or {n D p : Nat} (hp : p < n) (h : D.testBit p = false) : rsF n D = rsF n (D ||| 2 ^ p) + 1 := by
  unfold rsF
  rw [cntF_upd (p := fun q => !(D ||| 2 ^ p).testBit q) (q := fun q => !D.testBit q) (x := p) n (by rw [or_bit, decide_eq_true rfl, Bool.or_true]; rfl) (by rw [h]; rfl) (fun k hk => by rw [or_bit, decide_eq_false (fun q => hk q.symm), Bool.or_false]), if_pos hp]
theorem gn_cong {v : Nat → Nat} {D E : Nat} (n : Nat) (h : ∀ q, q < n → D.testBit q = E.testBit q) : gnF v D n = gnF v E n := by
  induction n with
  | zero => rfl
  | succ n ih => rw [gnF, gnF, ih (fun q hq => h q (by omega)), h n (by omega)]
theorem gn_or {v : Nat → Nat} {D p : Nat} (h : D.testBit p = false) (n : Nat) : gnF v (D ||| 2 ^ p) n = gnF v D n + (if p < n then plG v p else 0) := by
  induction n with
  | zero => rfl
  | succ n ih =>
    rw [gnF, gnF, ih, or_bit]
    by_cases e : p = n
    · subst e
      rw [h, decide_eq_true rfl, if_neg (Nat.lt_irrefl _), if_pos (Nat.lt_succ_self _)]
      simp
    · rw [decide_eq_false e, Bool.or_false]
      by_cases e2 : p < n
      · rw [if_pos e2, if_pos (show p < n + 1 by omega)]; omega
      · rw [if_neg e2, if_neg (show ¬ p < n + 1 by omega)]; omega
theorem bx_or {v : Nat → Nat} {D p : Nat} (hp : p < v 9) (h : D.testBit p = false) : bxA v (D ||| 2 ^ p) = bxA v D + plG v p := by
  unfold bxA
  rw [gn_or h, if_pos hp]; omega
/-- all orders of the cuts that are left, the least first -/
def plR (g : Nat → List (List Nat)) : Nat → List (List Nat)
  | 0 => []
  | k + 1 => plR g k ++ g k
def PLm (n : Nat) : Nat → Nat → List (List Nat)
  | 0, _ => [[]]
  | m + 1, D => plR (fun p => if D.testBit p = true then [] else (PLm n m (D ||| 2 ^ p)).map (List.cons p)) n
def lkL (v : Nat → Nat) (b : Int) : List Nat → Nat
  | [] => 0
  | p :: l => max (-(b + plG v p)).toNat (lkL v (b + plG v p) l)
def sumL (f : List Nat → Nat) : List (List Nat) → Nat
  | [] => 0
  | a :: l => f a + sumL f l
def minL (f : List Nat → Nat) : List (List Nat) → Nat
  | [] => 1000000
  | a :: l => min (f a) (minL f l)
def orL (f : List Nat → Nat) : List (List Nat) → Nat
  | [] => 0
  | a :: l => f a ||| orL f l
def fsL (p : List Nat → Bool) : List (List Nat) → Option (List Nat)
  | [] => none
  | a :: l => if p a = true then some a else fsL p l
theorem sumL_app (f : List Nat → Nat) (a b : List (List Nat)) : sumL f (a ++ b) = sumL f a + sumL f b := by
  induction a with
  | nil => simp [sumL]
  | cons x a ih => rw [List.cons_append, sumL, sumL, ih]; omega
theorem minL_app (f : List Nat → Nat) (a b : List (List Nat)) : minL f (a ++ b) = min (minL f a) (minL f b) := by
  induction a with
  | nil =>
    have h : minL f b ≤ 1000000 := by
      induction b with
      | nil => exact Nat.le_refl _
      | cons x b ih => rw [minL]; omega
    rw [List.nil_append, minL]; omega
  | cons x a ih => rw [List.cons_append, minL, minL, ih]; omega
theorem orL_app (f : List Nat → Nat) (a b : List (List Nat)) : orL f (a ++ b) = orL f a ||| orL f b := by
  induction a with
  | nil => simp [orL]
  | cons x a ih => rw [List.cons_append, orL, orL, ih, Nat.or_assoc]
theorem fsL_app (p : List Nat → Bool) (a b : List (List Nat)) : fsL p (a ++ b) = (fsL p a).orElse (fun _ => fsL p b) := by
  induction a with
  | nil => rfl
  | cons x a ih =>
    rw [List.cons_append, fsL, fsL, ih]
    by_cases h : p x = true
    · rw [if_pos h, if_pos h]; rfl
    · rw [if_neg h, if_neg h]
theorem sumL_R (f : List Nat → Nat) (g : Nat → List (List Nat)) (n : Nat) : sumL f (plR g n) = sumN (fun p => sumL f (g p)) n := by
  induction n with
  | zero => rfl
  | succ n ih => rw [plR, sumL_app, sumN, ih]
theorem minL_R (f : List Nat → Nat) (g : Nat → List (List Nat)) (n : Nat) : minL f (plR g n) = minN (fun p => minL f (g p)) n := by
  induction n with
  | zero => rfl
  | succ n ih => rw [plR, minL_app, minN, ih]
theorem orL_R (f : List Nat → Nat) (g : Nat → List (List Nat)) (n : Nat) : orL f (plR g n) = orN (fun p => orL f (g p)) n := by
  induction n with
  | zero => rfl
  | succ n ih => rw [plR, orL_app, orN, ih]
theorem minN_cong {f g : Nat → Nat} {n : Nat} (h : ∀ k, k < n → f k = g k) : minN f n = minN g n := by
  induction n with
  | zero => rfl
  | succ n ih => rw [minN, minN, ih (fun k hk => h k (by omega)), h n (by omega)]
theorem orN_cong {f g : Nat → Nat} {n : Nat} (h : ∀ k, k < n → f k = g k) : orN f n = orN g n := by
  induction n with
  | zero => rfl
  | succ n ih => rw [orN, orN, ih (fun k hk => h k (by omega)), h n (by omega)]
theorem sumL_map (f : List Nat → Nat) (p : Nat) (l : List (List Nat)) : sumL f (l.map (List.cons p)) = sumL (fun L => f (p :: L)) l := by
  induction l with
  | nil => rfl
  | cons x l ih => rw [List.map_cons, sumL, sumL, ih]
theorem minL_map (f : List Nat → Nat) (p : Nat) (l : List (List Nat)) : minL f (l.map (List.cons p)) = minL (fun L => f (p :: L)) l := by
  induction l with
  | nil => rfl
  | cons x l ih => rw [List.map_cons, minL, minL, ih]
theorem orL_map (f : List Nat → Nat) (p : Nat) (l : List (List Nat)) : orL f (l.map (List.cons p)) = orL (fun L => f (p :: L)) l := by
  induction l with
  | nil => rfl
  | cons x l ih => rw [List.map_cons, orL, orL, ih]
theorem fsL_map (f : List Nat → Bool) (p : Nat) (l : List (List Nat)) : fsL f (l.map (List.cons p)) = (fsL (fun L => f (p :: L)) l).map (List.cons p) := by
  induction l with
  | nil => rfl
  | cons x l ih =>
    rw [List.map_cons, fsL, fsL, ih]
    by_cases h : f (p :: x) = true
    · rw [if_pos h, if_pos h]; rfl
    · rw [if_neg h, if_neg h]
theorem sumL_0 {f : List Nat → Nat} (l : List (List Nat)) (h : ∀ L, f L = 0) : sumL f l = 0 := by
  induction l with
  | nil => rfl
  | cons x l ih => rw [sumL, h, ih]
theorem orL_0 {f : List Nat → Nat} (l : List (List Nat)) (h : ∀ L, f L = 0) : orL f l = 0 := by
  induction l with
  | nil => rfl
  | cons x l ih => rw [orL, h, ih]; rfl
theorem orL_cong {f g : List Nat → Nat} (l : List (List Nat)) (h : ∀ L, L ∈ l → f L = g L) : orL f l = orL g l := by
  induction l with
  | nil => rfl
  | cons x l ih => rw [orL, orL, h x List.mem_cons_self, ih (fun L hL => h L (List.mem_cons_of_mem _ hL))]
theorem sumL_cong {f g : List Nat → Nat} (l : List (List Nat)) (h : ∀ L, f L = g L) : sumL f l = sumL g l := by
  induction l with
  | nil => rfl
  | cons x l ih => rw [sumL, sumL, h, ih]
theorem plR_mem {g : Nat → List (List Nat)} {n : Nat} {L : List Nat} (h : L ∈ plR g n) : ∃ p, p < n ∧ L ∈ g p := by
  induction n with
  | zero => exact absurd h (List.not_mem_nil)
  | succ n ih =>
    rw [plR, List.mem_append] at h
    rcases h with h | h
    · obtain ⟨p, h1, h2⟩ := ih h; exact ⟨p, by omega, h2⟩
    · exact ⟨n, by omega, h⟩
theorem PLm_len {n : Nat} (m : Nat) : ∀ D L, L ∈ PLm n m D → L.length = m ∧ ∀ x ∈ L, x < n := by
  induction m with
  | zero =>
    intro D L h
    rw [PLm, List.mem_singleton] at h
    subst h
    exact ⟨rfl, fun x hx => absurd hx (List.not_mem_nil)⟩
  | succ m ih =>
    intro D L h
    rw [PLm] at h
    obtain ⟨p, h1, h2⟩ := plR_mem h
    by_cases hb : D.testBit p = true
    · rw [if_pos hb] at h2; exact absurd h2 (List.not_mem_nil)
    · rw [if_neg hb, List.mem_map] at h2
      obtain ⟨l, h3, h4⟩ := h2
      subst h4
      have h5 := ih _ l h3
      refine ⟨by rw [List.length_cons, h5.1], fun x hx => ?_⟩
      rcases List.mem_cons.mp hx with e | e
      · subst e; exact h1
      · exact h5.2 x e
theorem lk_cons (v : Nat → Nat) (D p : Nat) (hp : p < v 9) (h : D.testBit p = false) (l : List Nat) : lkL v (bxA v D) (p :: l) = max (gpA v D p) (lkL v (bxA v (D ||| 2 ^ p)) l) := by
  rw [lkL, bx_or hp h]; rfl
theorem o_all (v : Nat → Nat) (m : Nat) : ∀ D, oC v m D = sumL (fun L => if lkL v (bxA v D) L = 0 then 1 else 0) (PLm (v 9) m D) := by
  induction m with
  | zero => intro D; rfl
  | succ m ih =>
    intro D
    rw [oC, PLm, sumL_R]
    apply sumN_cong
    intro p hp
    by_cases hb : D.testBit p = true
    · rw [if_pos hb, if_pos hb]; rfl
    · have hb2 : D.testBit p = false := Bool.eq_false_iff.mpr hb
      rw [if_neg hb, if_neg hb, sumL_map]
      by_cases hg : gpA v D p = 0
      · rw [if_pos hg, ih]
        apply sumL_cong
        intro L
        rw [lk_cons v D p hp hb2, hg, Nat.max_eq_right (Nat.zero_le _)]
      · rw [if_neg hg]
        refine (sumL_0 _ (fun L => ?_)).symm
        rw [lk_cons v D p hp hb2, if_neg (by omega)]
theorem minL_max (g : Nat) (hg : g ≤ 1000000) (f : List Nat → Nat) (l : List (List Nat)) : minL (fun L => max g (f L)) l = max g (minL f l) := by
  induction l with
  | nil => rw [minL, minL]; omega
  | cons x l ih => rw [minL, minL, ih]; omega
theorem minL_cong {f g : List Nat → Nat} (l : List (List Nat)) (h : ∀ L, f L = g L) : minL f l = minL g l := by
  induction l with
  | nil => rfl
  | cons x l ih => rw [minL, minL, h, ih]
theorem m_all (v : Nat → Nat) (hg : ∀ D p, gpA v D p ≤ 1000000) (m : Nat) : ∀ D, mC v m D = minL (lkL v (bxA v D)) (PLm (v 9) m D) := by
  induction m with
  | zero => intro D; rfl
  | succ m ih =>
    intro D
    rw [mC, PLm, minL_R]
    apply minN_cong
    intro p hp
    by_cases hb : D.testBit p = true
    · rw [if_pos hb, if_pos hb]; rfl
    · have hb2 : D.testBit p = false := Bool.eq_false_iff.mpr hb
      rw [if_neg hb, if_neg hb, minL_map, ih, ← minL_max _ (hg D p)]
      exact minL_cong _ (fun L => (lk_cons v D p hp hb2 L).symm)
/-- the last of an order, as a set -/
def lstB : List Nat → Nat
  | [] => 0
  | p :: l => if l = [] then 2 ^ p else lstB l
theorem l_all (v : Nat → Nat) (m : Nat) : ∀ D, lC v m D = orL (fun L => if lkL v (bxA v D) L = 0 then lstB L else 0) (PLm (v 9) m D) := by
  induction m with
  | zero => intro D; simp [lC, PLm, orL, lkL, lstB]
  | succ m ih =>
    intro D
    rw [lC, PLm, orL_R]
    apply orN_cong
    intro p hp
    by_cases hb : D.testBit p = true
    · rw [if_pos hb, if_pos hb]; rfl
    · have hb2 : D.testBit p = false := Bool.eq_false_iff.mpr hb
      rw [if_neg hb, if_neg hb, orL_map]
      by_cases hg : gpA v D p = 0
      · rw [if_pos hg]
        by_cases hm : m = 0
        · subst hm
          rw [if_pos rfl, PLm]
          show _ = (if lkL v (bxA v D) [p] = 0 then lstB [p] else 0) ||| 0
          rw [lk_cons v D p hp hb2, hg, lkL, Nat.max_self, if_pos rfl, Nat.or_zero, lstB, if_pos rfl]
        · rw [if_neg hm, ih]
          apply orL_cong
          intro L hL
          have h1 := (PLm_len m _ L hL).1
          rw [lk_cons v D p hp hb2, hg, Nat.max_eq_right (Nat.zero_le _), lstB, if_neg (show ¬ L = [] from fun e => by rw [e] at h1; exact hm h1.symm)]
      · rw [if_neg hg]
        refine (orL_0 _ (fun L => ?_)).symm
        rw [lk_cons v D p hp hb2, if_neg (by omega)]
def lnP (v : Nat → Nat) (D p : Nat) : Bool := !D.testBit p && (decide (gpA v D p = 0) && decide (0 < oC v (rsF (v 9) (D ||| 2 ^ p)) (D ||| 2 ^ p)))
def lnF (v : Nat → Nat) (D : Nat) : Int := ffF (lnP v D) (v 9)
theorem lnP_iff {v : Nat → Nat} {D p : Nat} : lnP v D p = true ↔ D.testBit p = false ∧ gpA v D p = 0 ∧ 0 < oC v (rsF (v 9) (D ||| 2 ^ p)) (D ||| 2 ^ p) := by
  unfold lnP
  simp only [Bool.and_eq_true, decide_eq_true_eq, Bool.not_eq_true']
theorem fsL_none (p : List Nat → Bool) (l : List (List Nat)) : fsL p l = none ↔ sumL (fun L => if p L = true then 1 else 0) l = 0 := by
  induction l with
  | nil => exact ⟨fun _ => rfl, fun _ => rfl⟩
  | cons x l ih =>
    rw [fsL, sumL]
    by_cases h : p x = true
    · rw [if_pos h, if_pos h]; exact ⟨fun e => (by cases e), fun e => (by omega)⟩
    · rw [if_neg h, if_neg h, ih]; omega
abbrev okL (v : Nat → Nat) (D : Nat) : List Nat → Bool := fun L => decide (lkL v (bxA v D) L = 0)
theorem fs_none (v : Nat → Nat) (m D : Nat) : fsL (okL v D) (PLm (v 9) m D) = none ↔ oC v m D = 0 := by
  rw [fsL_none, o_all]
  rw [sumL_cong _ (fun L => show (if okL v D L = true then 1 else 0) = (if lkL v (bxA v D) L = 0 then 1 else 0) by simp [okL])]
theorem fsL_R {p : List Nat → Bool} {g : Nat → List (List Nat)} {q : Nat → Bool} (hq : ∀ k, q k = false ↔ fsL p (g k) = none) (n : Nat) : fsL p (plR g n) = if ffF q n = -6 then none else fsL p (g (ffF q n).toNat) := by
  induction n with
  | zero => rfl
  | succ n ih =>
    rw [plR, fsL_app, ih, ffF]
    by_cases h : ffF q n = -6
    · rw [if_pos h, if_pos h]
      by_cases h2 : q n = true
      · rw [if_pos h2, if_neg (by omega), Int.toNat_natCast]; rfl
      · rw [if_neg h2, if_pos rfl]
        exact (hq n).mp (Bool.eq_false_iff.mpr h2)
    · rw [if_neg h, if_neg h, if_neg h]
      cases h3 : fsL p (g (ffF q n).toNat) with
      | some a => rfl
      | none =>
        exfalso
        have h4 := (hq _).mpr h3
        have key : ∀ m, ffF q m = -6 ∨ (0 ≤ ffF q m ∧ q (ffF q m).toNat = true) := by
          intro m
          induction m with
          | zero => left; rfl
          | succ m ihm =>
            rw [ffF]
            split
            · split
              · next h5 => right; rw [Int.toNat_natCast]; exact ⟨by omega, h5⟩
              · left; rfl
            · next h5 => exact Or.inr (ihm.resolve_left h5)
        rcases key n with h5 | h5
        · exact h h5
        · rw [h4] at h5; exact Bool.noConfusion h5.2
theorem ffF_val (q : Nat → Bool) (n : Nat) : ffF q n = -6 ∨ (0 ≤ ffF q n ∧ ffF q n < (n : Int) ∧ q (ffF q n).toNat = true) := by
  induction n with
  | zero => left; rfl
  | succ m ihm =>
    rw [ffF]
    split
    · split
      · next h5 => right; rw [Int.toNat_natCast]; exact ⟨by omega, by omega, h5⟩
      · left; rfl
    · next h5 =>
      obtain ⟨a, b, c⟩ := ihm.resolve_left h5
      exact Or.inr ⟨a, by omega, c⟩
theorem fs_step (v : Nat → Nat) (m D : Nat) (hr : rsF (v 9) D = m + 1) (ho : 0 < oC v (m + 1) D) :
    ∃ p, lnF v D = ((p : Nat) : Int) ∧ p < v 9 ∧ D.testBit p = false ∧ gpA v D p = 0 ∧ rsF (v 9) (D ||| 2 ^ p) = m ∧ 0 < oC v m (D ||| 2 ^ p) ∧ fsL (okL v D) (PLm (v 9) (m + 1) D) = (fsL (okL v (D ||| 2 ^ p)) (PLm (v 9) m (D ||| 2 ^ p))).map (List.cons p) := by
  have hg : ∀ k, k < v 9 → (lnP v D k = false ↔ fsL (okL v D) (if D.testBit k = true then [] else (PLm (v 9) m (D ||| 2 ^ k)).map (List.cons k)) = none) := by
    intro k hk
    unfold lnP
    by_cases hb : D.testBit k = true
    · rw [if_pos hb, hb]; exact ⟨fun _ => rfl, fun _ => rfl⟩
    · have hb2 : D.testBit k = false := Bool.eq_false_iff.mpr hb
      have hrk : rsF (v 9) (D ||| 2 ^ k) = m := by have := rs_or hk hb2; omega
      rw [if_neg hb, hb2, fsL_map, hrk]
      by_cases hgp : gpA v D k = 0
      · have e1 : (fun L => okL v D (k :: L)) = okL v (D ||| 2 ^ k) := by
          funext L
          show decide (lkL v (bxA v D) (k :: L) = 0) = _
          rw [lk_cons v D k hk hb2, hgp, Nat.max_eq_right (Nat.zero_le _)]
        rw [e1, decide_eq_true hgp]
        have h1 := fs_none v m (D ||| 2 ^ k)
        constructor
        · intro h2
          have h3 : oC v m (D ||| 2 ^ k) = 0 := by
            simp at h2; exact h2
          rw [h1.mpr h3]; rfl
        · intro h2
          have h3 : fsL (okL v (D ||| 2 ^ k)) (PLm (v 9) m (D ||| 2 ^ k)) = none := by
            cases h4 : fsL (okL v (D ||| 2 ^ k)) (PLm (v 9) m (D ||| 2 ^ k)) with
            | none => rfl
            | some a => rw [h4] at h2; cases h2
          rw [h1.mp h3]; rfl
      · have e1 : (fun L => okL v D (k :: L)) = fun _ => false := by
          funext L
          show decide (lkL v (bxA v D) (k :: L) = 0) = _
          rw [lk_cons v D k hk hb2]
          exact decide_eq_false (by omega)
        rw [e1, decide_eq_false hgp]
        have h5 : ∀ l, fsL (fun _ => false) l = none := by
          intro l
          induction l with
          | nil => rfl
          | cons x l ih => rw [fsL, if_neg (by decide)]; exact ih
        rw [h5]; exact ⟨fun _ => rfl, fun _ => rfl⟩
  have h1 : fsL (okL v D) (PLm (v 9) (m + 1) D) ≠ none := fun e => by
    have := (fs_none v (m + 1) D).mp e; omega
  have key : ∀ n, n ≤ v 9 → fsL (okL v D) (plR (fun k => if D.testBit k = true then [] else (PLm (v 9) m (D ||| 2 ^ k)).map (List.cons k)) n) = if ffF (lnP v D) n = -6 then none else fsL (okL v D) (if D.testBit (ffF (lnP v D) n).toNat = true then [] else (PLm (v 9) m (D ||| 2 ^ (ffF (lnP v D) n).toNat)).map (List.cons (ffF (lnP v D) n).toNat)) := by
    intro n
    induction n with
    | zero => intro _; rfl
    | succ n ih =>
      intro hn
      rw [plR, fsL_app, ih (by omega), ffF]
      by_cases h : ffF (lnP v D) n = -6
      · rw [if_pos h, if_pos h]
        by_cases h2 : lnP v D n = true
        · rw [if_pos h2, if_neg (show ¬ ((n : Nat) : Int) = -6 by omega), Int.toNat_natCast]; rfl
        · rw [if_neg h2, if_pos rfl]
          exact (hg n (by omega)).mp (Bool.eq_false_iff.mpr h2)
      · rw [if_neg h, if_neg h, if_neg h]
        obtain ⟨h3, h4, h5⟩ := (ffF_val (lnP v D) n).resolve_left h
        cases h6 : fsL (okL v D) (if D.testBit (ffF (lnP v D) n).toNat = true then [] else (PLm (v 9) m (D ||| 2 ^ (ffF (lnP v D) n).toNat)).map (List.cons (ffF (lnP v D) n).toNat)) with
        | some a => rfl
        | none =>
          have h7 := (hg (ffF (lnP v D) n).toNat (by omega)).mpr h6
          rw [h7] at h5; exact Bool.noConfusion h5
  have h2 := key (v 9) (Nat.le_refl _)
  rw [PLm] at h1
  by_cases h : ffF (lnP v D) (v 9) = -6
  · rw [if_pos h] at h2; exact absurd h2 h1
  · obtain ⟨h3, h4, h5⟩ := (ffF_val (lnP v D) (v 9)).resolve_left h
    rw [if_neg h] at h2
    have hp : (ffF (lnP v D) (v 9)).toNat < v 9 := by omega
    have h6 := lnP_iff.mp h5
    have hb2 : D.testBit (ffF (lnP v D) (v 9)).toNat = false := h6.1
    have hrk : rsF (v 9) (D ||| 2 ^ (ffF (lnP v D) (v 9)).toNat) = m := by have := rs_or hp hb2; omega
    have h7 := h6.2.2
    have e1 : (fun L => okL v D ((ffF (lnP v D) (v 9)).toNat :: L)) = okL v (D ||| 2 ^ (ffF (lnP v D) (v 9)).toNat) := by
      funext L
      show decide (lkL v (bxA v D) ((ffF (lnP v D) (v 9)).toNat :: L) = 0) = _
      rw [lk_cons v D _ hp hb2, h6.2.1, Nat.max_eq_right (Nat.zero_le _)]
    refine ⟨(ffF (lnP v D) (v 9)).toNat, by unfold lnF; omega, hp, hb2, h6.2.1, hrk, ?_, ?_⟩
    · rw [hrk] at h7; exact h7
    · rw [PLm, h2, if_neg (by rw [hb2]; decide), fsL_map, e1]
/-- the cuts that are done behind some places of the first order -/
def dnF (v : Nat → Nat) : Nat → Nat
  | 0 => 0
  | k + 1 => dnF v k ||| 2 ^ (lnF v (dnF v k)).toNat
theorem rs_0 (n : Nat) : rsF n 0 = n := by
  unfold rsF
  induction n with
  | zero => rfl
  | succ n ih => rw [cntF, ih, Nat.zero_testBit]; rfl
/-- the first order, place by place -/
theorem first_all (v : Nat → Nat) (ho : 0 < oC v (v 9) 0) (k : Nat) : k ≤ v 9 → rsF (v 9) (dnF v k) = v 9 - k ∧ 0 < oC v (v 9 - k) (dnF v k) ∧ ∃ F G, fsL (okL v 0) (PLm (v 9) (v 9) 0) = some F ∧ fsL (okL v (dnF v k)) (PLm (v 9) (v 9 - k) (dnF v k)) = some G ∧ F.drop k = G ∧ ∀ j, j < k → F[j]? = some (lnF v (dnF v j)).toNat := by
  induction k with
  | zero =>
    intro _
    cases h : fsL (okL v 0) (PLm (v 9) (v 9) 0) with
    | none => have := (fs_none v (v 9) 0).mp h; omega
    | some F => exact ⟨rs_0 _, ho, F, F, rfl, h, rfl, fun j hj => absurd hj (Nat.not_lt_zero _)⟩
  | succ k ih =>
    intro hk
    obtain ⟨h1, h2, F, G, h3, h4, h5, h6⟩ := ih (by omega)
    have e : v 9 - k = (v 9 - (k + 1)) + 1 := by omega
    rw [e] at h1 h2 h4
    obtain ⟨p, g1, g2, g3, g4, g5, g6, g7⟩ := fs_step v (v 9 - (k + 1)) (dnF v k) h1 h2
    have ed : dnF v (k + 1) = dnF v k ||| 2 ^ p := by rw [dnF, g1, Int.toNat_natCast]
    rw [ed]
    cases h7 : fsL (okL v (dnF v k ||| 2 ^ p)) (PLm (v 9) (v 9 - (k + 1)) (dnF v k ||| 2 ^ p)) with
    | none => have := (fs_none v _ _).mp h7; omega
    | some H =>
      rw [h7, h4] at g7
      have e2 : G = p :: H := Option.some.inj g7
      refine ⟨g5, g6, F, H, h3, rfl, ?_, fun j hj => ?_⟩
      · rw [← List.drop_drop, h5, e2]; rfl
      · by_cases ej : j = k
        · subst ej
          rw [g1, Int.toNat_natCast]
          have h8 : (F.drop j)[0]? = some p := by rw [h5, e2]; rfl
          rw [List.getElem?_drop] at h8; exact h8
        · exact h6 j (by omega)
