/-! ===== as in whole: walks ===== -/
def sbs (a b : Nat) : Prop := ∀ i, a.testBit i = true → b.testBit i = true
theorem sbs.refl (a : Nat) : sbs a a := fun _ h => h
theorem sbs.trans {a b c : Nat} (h1 : sbs a b) (h2 : sbs b c) : sbs a c := fun i h => h2 i (h1 i h)
theorem sbs.antisymm {a b : Nat} (h1 : sbs a b) (h2 : sbs b a) : a = b := by
  apply Nat.eq_of_testBit_eq
  intro i
  cases ha : a.testBit i with
  | true => exact (h1 i ha).symm
  | false =>
    cases hb : b.testBit i with
    | true => exact absurd (h2 i hb) (by rw [ha]; decide)
    | false => rfl
theorem sbs_left (a b : Nat) : sbs a (a ||| b) := fun i h => by rw [Nat.testBit_or, h]; rfl
theorem sbs_right (a b : Nat) : sbs b (a ||| b) := fun i h => by rw [Nat.testBit_or, h]; exact Bool.or_true _
theorem sbs_or {a b c : Nat} (h1 : sbs a c) (h2 : sbs b c) : sbs (a ||| b) c := fun i h => by
  rw [Nat.testBit_or, Bool.or_eq_true] at h
  exact h.elim (h1 i) (h2 i)
theorem sbs_0 (a : Nat) : sbs 0 a := fun i h => by rw [Nat.zero_testBit] at h; exact Bool.noConfusion h
theorem meet_iff {a b : Nat} : ¬ a &&& b = 0 ↔ ∃ i, a.testBit i = true ∧ b.testBit i = true := by
  constructor
  · intro h
    apply Classical.byContradiction
    intro q
    apply h
    apply Nat.eq_of_testBit_eq
    intro k
    rw [Nat.zero_testBit, Nat.testBit_and]
    cases ea : a.testBit k with
    | false => rfl
    | true =>
      cases eb : b.testBit k with
      | false => rfl
      | true => exact absurd ⟨k, ea, eb⟩ q
  · rintro ⟨i, h1, h2⟩ h3
    have h4 : (a &&& b).testBit i = false := by rw [h3]; exact Nat.zero_testBit i
    rw [Nat.testBit_and, h1, h2] at h4
    exact Bool.noConfusion h4
theorem ksF_test (v : Nat → Nat) (rm n k : Nat) : (ksF v rm n).testBit k = true ↔ (keysAt v 8).testBit k = true ∨ ∃ r, r < n ∧ rm.testBit r = true ∧ (keysAt v r).testBit k = true := by
  induction n with
  | zero => rw [ksF]; exact ⟨Or.inl, fun h => h.elim id (fun ⟨r, h1, _⟩ => absurd h1 (Nat.not_lt_zero _))⟩
  | succ n ih =>
    rw [ksF, Nat.testBit_or, Bool.or_eq_true, ih]
    constructor
    · rintro ((h | ⟨r, h1, h2⟩) | h)
      · exact Or.inl h
      · exact Or.inr ⟨r, by omega, h2⟩
      · by_cases hr : rm.testBit n = true
        · rw [if_pos hr] at h; exact Or.inr ⟨n, by omega, hr, h⟩
        · rw [if_neg hr, Nat.zero_testBit] at h; exact Bool.noConfusion h
    · rintro (h | ⟨r, h1, h2, h3⟩)
      · exact Or.inl (Or.inl h)
      · by_cases e : r = n
        · subst e; rw [if_pos h2]; exact Or.inr h3
        · exact Or.inl (Or.inr ⟨r, by omega, h2, h3⟩)
theorem ks_mono {v : Nat → Nat} {a b : Nat} (h : sbs a b) : sbs (ksOf v a) (ksOf v b) := by
  intro k hk
  unfold ksOf at *
  rw [ksF_test] at *
  exact hk.imp id (fun ⟨r, h1, h2, h3⟩ => ⟨r, h1, h r h2, h3⟩)
theorem opnBy_mono {v : Nat → Nat} {d a b : Nat} (h : sbs a b) (ho : opnBy v d a = true) : opnBy v d b = true := by
  unfold opnBy at *
  rw [anyF_iff] at *
  obtain ⟨k, h1, h2⟩ := ho
  rw [Bool.and_eq_true] at h2
  exact ⟨k, h1, by rw [h k h2.1, h2.2]; rfl⟩
theorem goes_mono {v : Nat → Nat} {d a b : Nat} (h : sbs a b) (hg : goesR v a d = true) : goesR v b d = true := by
  unfold goesR at *
  rw [Bool.and_eq_true, decide_eq_true_eq, meet_iff] at *
  obtain ⟨⟨i, h1, h2⟩, h3⟩ := hg
  exact ⟨⟨i, h i h1, h2⟩, opnBy_mono (ks_mono h) h3⟩
/-- a key of those that lie in some rooms or are carried opens the door -/
theorem keys_iff {v : Nat → Nat} {d rm : Nat} : opnBy v d (ksOf v rm) = true ↔ ¬ keysFor v d &&& ksOf v rm = 0 := by
  rw [meet_iff]
  unfold opnBy
  rw [anyF_iff]
  constructor
  · rintro ⟨k, h1, h2⟩
    rw [Bool.and_eq_true] at h2
    refine ⟨k, ?_, h2.1⟩
    have h3 := h2.1
    unfold ksOf at h3
    rw [ksF_test] at h3
    have h9 : decide (whrR v k = 9) = false := by
      apply decide_eq_false
      intro h9
      rcases h3 with h3 | ⟨r, hr, _, h3⟩
      · simp only [keysAt, bitsF_test, Bool.and_eq_true, decide_eq_true_eq] at h3; omega
      · simp only [keysAt, bitsF_test, Bool.and_eq_true, decide_eq_true_eq] at h3; omega
    simp only [keysFor, bitsF_test]
    rw [h9, h2.2, decide_eq_true h1]; rfl
  · rintro ⟨k, h1, h2⟩
    simp only [keysFor, bitsF_test, Bool.and_eq_true, decide_eq_true_eq] at h1
    exact ⟨k, h1.1, by rw [h2, h1.2.2]; rfl⟩
def closR (v : Nat → Nat) (R : Nat) : Prop := ∀ d, d < v 4 → goesR v R d = true → sbs (bothR v d) R
def beyF (v : Nat → Nat) (R : Nat) : Nat → Nat
  | 0 => 0
  | d + 1 => beyF v R d ||| (if goesR v R d = true then bothR v d else 0)
def rcC (v : Nat → Nat) (R : Nat) : Nat → Nat
  | 0 => R
  | n + 1 => rcC v R n ||| beyF v (rcC v R n) (v 4)
theorem beyF_in {v : Nat → Nat} {R C : Nat} (hC : closR v C) (h : sbs R C) (n : Nat) : n ≤ v 4 → sbs (beyF v R n) C := by
  induction n with
  | zero => intro _; exact sbs_0 C
  | succ n ih =>
    intro hn
    refine sbs_or (ih (by omega)) ?_
    by_cases hg : goesR v R n = true
    · rw [if_pos hg]; exact hC n (by omega) (goes_mono h hg)
    · rw [if_neg hg]; exact sbs_0 C
theorem beyF_has {v : Nat → Nat} {R d : Nat} (hg : goesR v R d = true) (n : Nat) : d < n → sbs (bothR v d) (beyF v R n) := by
  induction n with
  | zero => intro h; exact absurd h (Nat.not_lt_zero _)
  | succ n ih =>
    intro hd
    by_cases e : d = n
    · subst e; rw [beyF, if_pos hg]; exact sbs_right _ _
    · exact (ih (by omega)).trans (sbs_left _ _)
theorem rcC_in {v : Nat → Nat} {R C : Nat} (hC : closR v C) (h : sbs R C) (n : Nat) : sbs (rcC v R n) C := by
  induction n with
  | zero => exact h
  | succ n ih => exact sbs_or ih (beyF_in hC ih _ (Nat.le_refl _))
theorem rcC_has (v : Nat → Nat) (R n : Nat) : sbs R (rcC v R n) := by
  induction n with
  | zero => exact sbs.refl R
  | succ n ih => exact ih.trans (sbs_left _ _)
theorem rcC_end {v : Nat → Nat} {R n : Nat} (h : rcC v R (n + 1) = rcC v R n) : closR v (rcC v R n) := by
  intro d hd hg
  have h1 := (beyF_has hg (v 4) hd).trans (sbs_right (rcC v R n) (beyF v (rcC v R n) (v 4)))
  rw [show rcC v R n ||| beyF v (rcC v R n) (v 4) = rcC v R (n + 1) from rfl, h] at h1
  exact h1
theorem cntF_mono {p q : Nat → Bool} {n : Nat} (h : ∀ k, k < n → p k = true → q k = true) : cntF p n ≤ cntF q n := by
  induction n with
  | zero => exact Nat.le_refl 0
  | succ n ih =>
    have h1 := ih (fun k hk => h k (by omega))
    rw [cntF, cntF]
    by_cases e : p n = true
    · rw [if_pos e, if_pos (h n (by omega) e)]; omega
    · rw [if_neg e]; omega
theorem cntF_lt {p q : Nat → Bool} {n : Nat} (h : ∀ k, k < n → p k = true → q k = true) {j : Nat} (hj : j < n) (h1 : p j = false) (h2 : q j = true) : cntF p n < cntF q n := by
  induction n with
  | zero => exact absurd hj (Nat.not_lt_zero _)
  | succ n ih =>
    rw [cntF, cntF]
    by_cases e : j = n
    · subst e
      have := cntF_mono (n := j) (fun k hk => h k (by omega))
      rw [if_neg (by rw [h1]; decide), if_pos h2]; omega
    · have h3 := ih (fun k hk => h k (by omega)) (by omega)
      by_cases e2 : p n = true
      · rw [if_pos e2, if_pos (h n (by omega) e2)]; omega
      · rw [if_neg e2]; omega
theorem bothR_lt {v : Nat → Nat} {d : Nat} (h1 : v (20 + 6 * d) < 8) (h2 : v (20 + 6 * d + 1) < 8) : bothR v d < 256 := by
  have e : ∀ r, r < 8 → 2 ^ r < 2 ^ 8 := fun r hr => Nat.pow_lt_pow_right (by decide) hr
  exact Nat.or_lt_two_pow (n := 8) (e _ h1) (e _ h2)
theorem beyF_lt {v : Nat → Nat} {R : Nat} (hb : ∀ d, d < v 4 → bothR v d < 256) (n : Nat) : n ≤ v 4 → beyF v R n < 256 := by
  induction n with
  | zero => intro _; rw [beyF]; omega
  | succ n ih =>
    intro hn
    refine Nat.or_lt_two_pow (n := 8) (ih (by omega)) ?_
    split
    · exact hb n (by omega)
    · decide
theorem rcC_lt {v : Nat → Nat} {R : Nat} (hb : ∀ d, d < v 4 → bothR v d < 256) (hR : R < 256) (n : Nat) : rcC v R n < 256 := by
  induction n with
  | zero => exact hR
  | succ n ih => exact Nat.or_lt_two_pow (n := 8) ih (beyF_lt hb _ (Nat.le_refl _))
theorem cnt_grow {a b : Nat} (h : sbs a b) (hne : b ≠ a) (hb : b < 256) : cntF (fun i => a.testBit i) 8 < cntF (fun i => b.testBit i) 8 := by
  have h1 : ∃ i, b.testBit i = true ∧ a.testBit i = false := by
    apply Classical.byContradiction
    intro q
    apply hne
    refine sbs.antisymm (fun i hi => ?_) h
    cases e : a.testBit i with
    | true => rfl
    | false => exact absurd ⟨i, hi, e⟩ q
  obtain ⟨i, h1, h2⟩ := h1
  exact cntF_lt (fun k _ hk => h k hk) (testBit_lt (n := 8) hb h1) h2 h1
theorem rcC_stop {v : Nat → Nat} {r : Nat} (hb : ∀ d, d < v 4 → bothR v d < 256) (hr : r < 8) : closR v (rcC v (2 ^ r) 8) := by
  have hR : 2 ^ r < 256 := Nat.pow_lt_pow_right (by decide) hr
  have key : ∀ n, rcC v (2 ^ r) (n + 1) = rcC v (2 ^ r) n ∨ n + 1 ≤ cntF (fun i => (rcC v (2 ^ r) n).testBit i) 8 := by
    intro n
    induction n with
    | zero =>
      right
      have h1 : cntF (fun _ => false) 8 < cntF (fun i => (rcC v (2 ^ r) 0).testBit i) 8 :=
        cntF_lt (fun k _ hk => absurd hk (by decide)) (j := r) hr rfl (by show (2 ^ r).testBit r = true; rw [Nat.testBit_two_pow]; simp)
      omega
    | succ n ih =>
      by_cases e : rcC v (2 ^ r) (n + 1) = rcC v (2 ^ r) n
      · left
        have h1 : rcC v (2 ^ r) (n + 1 + 1) = rcC v (2 ^ r) (n + 1) ||| beyF v (rcC v (2 ^ r) (n + 1)) (v 4) := rfl
        rw [h1, e]; exact e
      · right
        have h1 := cnt_grow (sbs_left (rcC v (2 ^ r) n) (beyF v (rcC v (2 ^ r) n) (v 4))) e (rcC_lt hb hR (n + 1))
        have h2 := ih.resolve_left e
        have h3 : cntF (fun i => (rcC v (2 ^ r) n).testBit i) 8 < cntF (fun i => (rcC v (2 ^ r) (n + 1)).testBit i) 8 := h1
        omega
  have h8 := key 8
  have h9 := cntF_le (fun i => (rcC v (2 ^ r) 8).testBit i) 8
  exact rcC_end (h8.resolve_right (by omega))
theorem rchP_has (v : Nat → Nat) (R n : Nat) : sbs R (rchP v R n) := by
  induction n with
  | zero => exact sbs.refl R
  | succ n ih => exact ih.trans (sbs_left _ _)
theorem rchP_mono (v : Nat → Nat) (R n m : Nat) : sbs (rchP v R n) (rchP v R (n + m)) := by
  induction m with
  | zero => exact sbs.refl _
  | succ m ih => exact ih.trans (sbs_left _ _)
theorem rchP_in {v : Nat → Nat} {R C : Nat} (hC : closR v C) (h : sbs R C) (n : Nat) : n ≤ v 4 → sbs (rchP v R n) C := by
  induction n with
  | zero => intro _; exact h
  | succ n ih =>
    intro hn
    have h1 := ih (by omega)
    refine sbs_or h1 ?_
    by_cases hg : goesR v (rchP v R n) n = true
    · rw [if_pos hg]; exact hC n (by omega) (goes_mono h1 hg)
    · rw [if_neg hg]; exact sbs_0 C
theorem rchP_end {v : Nat → Nat} {R : Nat} (h : R = rchP v R (v 4)) : closR v R := by
  intro d hd hg
  have h1 : rchP v R d = R := by
    refine sbs.antisymm ?_ (rchP_has v R d)
    have := rchP_mono v R d (v 4 - d)
    rw [show d + (v 4 - d) = v 4 by omega, ← h] at this
    exact this
  have h2 : sbs (rchP v R (d + 1)) R := by
    have := rchP_mono v R (d + 1) (v 4 - (d + 1))
    rw [show d + 1 + (v 4 - (d + 1)) = v 4 by omega, ← h] at this
    exact this
  have h3 : rchP v R (d + 1) = R ||| bothR v d := by
    show rchP v R d ||| (if goesR v (rchP v R d) d = true then bothR v d else 0) = _
    rw [h1, if_pos hg]
  rw [h3] at h2
  exact (sbs_right R (bothR v d)).trans h2
theorem rchP_ge (v : Nat → Nat) (R n : Nat) : R ≤ rchP v R n := by
  induction n with
  | zero => exact Nat.le_refl _
  | succ n ih => exact Nat.le_trans ih Nat.left_le_or
theorem rchP_lt {v : Nat → Nat} {R : Nat} (hb : ∀ d, d < v 4 → bothR v d < 256) (hR : R < 256) (n : Nat) : n ≤ v 4 → rchP v R n < 256 := by
  induction n with
  | zero => intro _; exact hR
  | succ n ih =>
    intro hn
    refine Nat.or_lt_two_pow (n := 8) (ih (by omega)) ?_
    split
    · exact hb n (by omega)
    · decide
def sReach (v : Nat → Nat) : Nat := rcC v (2 ^ v 3) 8
theorem reach_uniq {v : Nat → Nat} {X : Nat} (hb : ∀ d, d < v 4 → bothR v d < 256) (hr : v 3 < 8) (h1 : sbs (2 ^ v 3) X) (h2 : closR v X) (h3 : ∀ C, closR v C → sbs (2 ^ v 3) C → sbs X C) : X = sReach v :=
  sbs.antisymm (h3 _ (rcC_stop hb hr) (rcC_has v _ 8)) (rcC_in h2 h1 8)
abbrev BfT := (Nat → Nat) × Nat × (Nat → Int)
def fI_up (f : Nat → Int) (k : Nat) (x : Int) : Nat → Int := fun j => if j = k then x else f j
theorem fI_at (f : Nat → Int) (k : Nat) (x : Int) : fI_up f k x k = x := if_pos rfl
theorem fI_off {f : Nat → Int} {k j : Nat} {x : Int} (h : j ≠ k) : fI_up f k x j = f j := if_neg h
def nxS (v : Nat → Nat) (a d : Nat) : Nat := 8 * (a / 8 ||| 2 ^ (behR v d (a % 8)).toNat) + (behR v d (a % 8)).toNat
def bfGo (v : Nat → Nat) (a d : Nat) : Bool := decide (0 ≤ behR v d (a % 8)) && opnBy v d (ksOf v (a / 8))
def bfE (s : BfT) (x : Nat) (e : Int) : BfT := if s.2.2 x < 0 then (va_up s.1 s.2.1 x, s.2.1 + 1, fI_up s.2.2 x e) else s
def bfS (v : Nat → Nat) (a : Nat) (s : BfT) (d : Nat) : BfT := if bfGo v a d = true then bfE s (nxS v a d) (s.2.2 a + 1) else s
def bfD (v : Nat → Nat) (a : Nat) (s : BfT) : Nat → BfT
  | 0 => s
  | d + 1 => bfS v a (bfD v a s d) d
def bfR (v : Nat → Nat) (t : Nat) : Nat → Nat → BfT → Int
  | 0, _, _ => -6
  | m + 1, h, s => if h < s.2.1 then (if s.1 h % 8 = t then s.2.2 (s.1 h) else bfR v t m (h + 1) (bfD v (s.1 h) s (v 4))) else -6
def bf00 : BfT := (fun _ => 0, 0, fun _ => -6)
def bf0 (r : Nat) : BfT := bfE bf00 (8 * 2 ^ r + r) 0
def sDoorsTo (v : Nat → Nat) (t : Int) : Int := if 0 ≤ t ∧ t ≤ 7 then bfR v t.toNat 2049 0 (bf0 (v 3)) else -2
def BInv (s : BfT) : Prop := s.2.1 = cntF (fun x => decide (0 ≤ s.2.2 x)) 2048 ∧ (∀ j, j < s.2.1 → s.1 j < 2048 ∧ 0 ≤ s.2.2 (s.1 j)) ∧ (∀ x, x < 2048 → -6 ≤ s.2.2 x ∧ s.2.2 x < (s.2.1 : Int))
theorem BInv.le {s : BfT} (h : BInv s) : s.2.1 ≤ 2048 := by rw [h.1]; exact cntF_le _ _
theorem BInv.lt {s : BfT} (h : BInv s) {x : Nat} (hx : x < 2048) (hf : s.2.2 x < 0) : s.2.1 < 2048 := by
  have h1 : cntF (fun x => decide (0 ≤ s.2.2 x)) 2048 < cntF (fun _ => true) 2048 := cntF_lt (fun _ _ _ => rfl) hx (decide_eq_false (by omega)) rfl
  have h2 := cntF_le (fun _ => true) 2048
  rw [h.1]; omega
theorem BInv.zero : BInv bf00 := by
  have h : ∀ n, cntF (fun x => decide (0 ≤ bf00.2.2 x)) n = 0 := by
    intro n
    induction n with
    | zero => rfl
    | succ n ih => rw [cntF, ih]; rfl
  refine ⟨(h 2048).symm, fun j hj => absurd hj (Nat.not_lt_zero _), fun x _ => ?_⟩
  show (-6 : Int) ≤ -6 ∧ (-6 : Int) < 0
  omega
theorem cntF_upd {p q : Nat → Bool} {x : Nat} (n : Nat) (hx : p x = false) (hq : q x = true) (h : ∀ k, k ≠ x → q k = p k) : cntF q n = cntF p n + (if x < n then 1 else 0) := by
  induction n with
  | zero => rfl
  | succ n ih =>
    rw [cntF, cntF, ih]
    by_cases e : n = x
    · subst e; rw [if_neg (Nat.lt_irrefl _), if_pos hq, if_neg (by rw [hx]; decide), if_pos (by omega)]
    · rw [h n e]
      by_cases e2 : x < n
      · rw [if_pos e2, if_pos (show x < n + 1 by omega)]; omega
      · rw [if_neg e2, if_neg (show ¬ x < n + 1 by omega)]; omega
theorem BInv.step {s : BfT} (h : BInv s) {x : Nat} {e : Int} (hx : x < 2048) (he : 0 ≤ e ∧ e ≤ (s.2.1 : Int)) : BInv (bfE s x e) := by
  unfold bfE
  by_cases hf : s.2.2 x < 0
  · rw [if_pos hf]
    obtain ⟨h1, h2, h3⟩ := h
    refine ⟨?_, fun j hj => ?_, fun y hy => ?_⟩
    · show s.2.1 + 1 = cntF (fun y => decide (0 ≤ fI_up s.2.2 x e y)) 2048
      rw [cntF_upd (p := fun y => decide (0 ≤ s.2.2 y)) (x := x) 2048 (decide_eq_false (by omega)) (by rw [fI_at]; exact decide_eq_true he.1) (fun k hk => by rw [fI_off hk]), if_pos hx, ← h1]
    · show va_up s.1 s.2.1 x j < 2048 ∧ 0 ≤ fI_up s.2.2 x e (va_up s.1 s.2.1 x j)
      have hj2 : j < s.2.1 + 1 := hj
      by_cases ej : j = s.2.1
      · subst ej; rw [va_up_at, fI_at]; exact ⟨hx, he.1⟩
      · rw [va_up_off ej]
        have h4 := h2 j (by omega)
        refine ⟨h4.1, ?_⟩
        by_cases ey : s.1 j = x
        · rw [ey, fI_at]; exact he.1
        · rw [fI_off ey]; exact h4.2
    · show -6 ≤ fI_up s.2.2 x e y ∧ fI_up s.2.2 x e y < ((s.2.1 + 1 : Nat) : Int)
      by_cases ey : y = x
      · subst ey; rw [fI_at]; omega
      · rw [fI_off ey]; have := h3 y hy; omega
  · rw [if_neg hf]; exact h
/-- t goes on from s: the item a was worked on -/
def BExt (a : Nat) (s t : BfT) : Prop := s.2.1 ≤ t.2.1 ∧ (∀ j, j < s.2.1 → t.1 j = s.1 j) ∧ (∀ x, 0 ≤ s.2.2 x → t.2.2 x = s.2.2 x) ∧ ∀ j, s.2.1 ≤ j → j < t.2.1 → t.2.2 (t.1 j) = s.2.2 a + 1
theorem BExt.refl (a : Nat) (s : BfT) : BExt a s s := ⟨Nat.le_refl _, fun _ _ => rfl, fun _ _ => rfl, fun j h1 h2 => absurd h2 (by omega)⟩
theorem BExt.step {a : Nat} {s t : BfT} (h : BExt a s t) (ha : 0 ≤ s.2.2 a) (x : Nat) : BExt a s (bfE t x (t.2.2 a + 1)) := by
  obtain ⟨h1, h2, h3, h4⟩ := h
  unfold bfE
  by_cases hf : t.2.2 x < 0
  · rw [if_pos hf]
    refine ⟨?_, fun j hj => ?_, fun y hy => ?_, fun j hj1 hj2 => ?_⟩
    · show s.2.1 ≤ t.2.1 + 1; omega
    · show va_up t.1 t.2.1 x j = s.1 j
      rw [va_up_off (by omega)]; exact h2 j hj
    · show fI_up t.2.2 x (t.2.2 a + 1) y = s.2.2 y
      have h5 := h3 y hy
      rw [fI_off (fun q => by subst q; omega)]; exact h5
    · show fI_up t.2.2 x (t.2.2 a + 1) (va_up t.1 t.2.1 x j) = s.2.2 a + 1
      have hj3 : j < t.2.1 + 1 := hj2
      have h6 := h3 a ha
      by_cases ej : j = t.2.1
      · subst ej; rw [va_up_at, fI_at, h6]
      · rw [va_up_off ej]
        have h5 := h4 j hj1 (by omega)
        rw [fI_off (fun q => by rw [q] at h5; omega)]; exact h5
  · rw [if_neg hf]; exact ⟨h1, h2, h3, h4⟩
theorem bfD_all {v : Nat → Nat} {a : Nat} {s : BfT} (hI : BInv s) (ha : a < 2048) (h0 : 0 ≤ s.2.2 a) (hdo : ∀ d, d < v 4 → v (20 + 6 * d) < 8 ∧ v (20 + 6 * d + 1) < 8) (n : Nat) : n ≤ v 4 → BInv (bfD v a s n) ∧ BExt a s (bfD v a s n) := by
  induction n with
  | zero => intro _; exact ⟨hI, BExt.refl a s⟩
  | succ n ih =>
    intro hn
    obtain ⟨h1, h2⟩ := ih (by omega)
    rw [bfD, bfS]
    by_cases hg : bfGo v a n = true
    · rw [if_pos hg]
      have h3 := h2.2.2.1 a h0
      have h4 := h1.2.2 a ha
      refine ⟨h1.step ?_ (by omega), h2.step h0 _⟩
      unfold bfGo at hg
      rw [Bool.and_eq_true, decide_eq_true_eq] at hg
      have hd := hdo n (by omega)
      have hb : behR v n (a % 8) < 8 := by unfold behR; split; · omega
                                           · split <;> omega
      have h5 : 2 ^ (behR v n (a % 8)).toNat < 2 ^ 8 := Nat.pow_lt_pow_right (by decide) (by omega)
      have h6 : (a / 8 ||| 2 ^ (behR v n (a % 8)).toNat) < 2 ^ 8 := Nat.or_lt_two_pow (by omega) h5
      unfold nxS
      omega
    · rw [if_neg hg]; exact ⟨h1, h2⟩
theorem nxS_lt {v : Nat → Nat} {a d : Nat} (ha : a < 2048) (hd : v (20 + 6 * d) < 8 ∧ v (20 + 6 * d + 1) < 8) (h0 : 0 ≤ behR v d (a % 8)) : nxS v a d < 2048 := by
  have hb : behR v d (a % 8) < 8 := by unfold behR; split; · omega
                                       · split <;> omega
  have h5 : 2 ^ (behR v d (a % 8)).toNat < 2 ^ 8 := Nat.pow_lt_pow_right (by decide) (by omega)
  have h6 : (a / 8 ||| 2 ^ (behR v d (a % 8)).toNat) < 2 ^ 8 := Nat.or_lt_two_pow (by omega) h5
  unfold nxS
  omega
