/-! ===== as in whole: spec2 ===== -/
def bitsF (p : Nat → Bool) : Nat → Nat
  | 0 => 0
  | k + 1 => bitsF p k ||| (if p k = true then 2 ^ k else 0)
def sumN (f : Nat → Nat) : Nat → Nat
  | 0 => 0
  | k + 1 => sumN f k + f k
def anyF (p : Nat → Bool) : Nat → Bool
  | 0 => false
  | k + 1 => anyF p k || p k
theorem bitsF_lt (p : Nat → Bool) (n : Nat) : bitsF p n < 2 ^ n := by
  induction n with
  | zero => exact Nat.one_pos
  | succ n ih =>
    have h1 : bitsF p n < 2 ^ (n + 1) := by rw [Nat.pow_succ]; omega
    have h2 : (if p n = true then 2 ^ n else 0) < 2 ^ (n + 1) := by
      have : 0 < 2 ^ n := Nat.two_pow_pos n
      rw [Nat.pow_succ]
      split <;> omega
    exact Nat.or_lt_two_pow h1 h2
theorem bitsF_cong {p q : Nat → Bool} {n : Nat} (h : ∀ k, k < n → p k = q k) : bitsF p n = bitsF q n := by
  induction n with
  | zero => rfl
  | succ n ih => simp only [bitsF]; rw [ih (fun k hk => h k (by omega)), h n (by omega)]
theorem sumN_cong {f g : Nat → Nat} {n : Nat} (h : ∀ k, k < n → f k = g k) : sumN f n = sumN g n := by
  induction n with
  | zero => rfl
  | succ n ih => simp only [sumN]; rw [ih (fun k hk => h k (by omega)), h n (by omega)]
theorem sumN_le {f : Nat → Nat} {n c : Nat} (h : ∀ k, k < n → f k ≤ c) : sumN f n ≤ n * c := by
  induction n with
  | zero => simp [sumN]
  | succ n ih =>
    have h1 := ih (fun k hk => h k (by omega))
    have h2 := h n (by omega)
    simp only [sumN]
    rw [Nat.succ_mul]
    omega
theorem anyF_cong {p q : Nat → Bool} {n : Nat} (h : ∀ k, k < n → p k = q k) : anyF p n = anyF q n := by
  induction n with
  | zero => rfl
  | succ n ih => simp only [anyF]; rw [ih (fun k hk => h k (by omega)), h n (by omega)]
theorem anyF_iff {p : Nat → Bool} {n : Nat} : anyF p n = true ↔ ∃ k, k < n ∧ p k = true := by
  induction n with
  | zero => simp [anyF]
  | succ n ih =>
    simp only [anyF, Bool.or_eq_true, ih]
    constructor
    · rintro (⟨k, h1, h2⟩ | h)
      · exact ⟨k, by omega, h2⟩
      · exact ⟨n, by omega, h⟩
    · rintro ⟨k, h1, h2⟩
      by_cases e : k = n
      · subst e; exact Or.inr h2
      · exact Or.inl ⟨k, by omega, h2⟩
theorem bit_or (a b k : Nat) : (a ||| b).testBit k = (a.testBit k || b.testBit k) := Nat.testBit_or a b k
theorem bitsF_test (p : Nat → Bool) (n k : Nat) : (bitsF p n).testBit k = (decide (k < n) && p k) := by
  induction n with
  | zero => simp [bitsF]
  | succ n ih =>
    simp only [bitsF, bit_or, ih]
    by_cases e : k = n
    · subst e
      cases hp : p k <;> simp
    · have h0 : (if p n = true then 2 ^ n else 0).testBit k = false := by
        split
        · rw [Nat.testBit_two_pow]; simp; omega
        · simp
      rw [h0]
      have : decide (k < n + 1) = decide (k < n) := by
        apply decide_eq_decide.mpr
        omega
      rw [this]
      simp
theorem tb_1 (n k : Nat) : (n / 2 ^ k &&& 1 = 1) ↔ n.testBit k = true := by
  rw [Nat.testBit_eq_decide_div_mod_eq, Nat.and_one_is_mod]
  simp
theorem tb_0 (n k : Nat) : ¬ (n / 2 ^ k &&& 1 = 0) ↔ n.testBit k = true := by
  rw [Nat.testBit_eq_decide_div_mod_eq, Nat.and_one_is_mod]
  simp
abbrev fstR (v : Nat → Nat) (d : Nat) : Nat := v (20 + 6 * d + 2)
abbrev sndR (v : Nat → Nat) (d : Nat) : Nat := v (20 + 6 * d + 3)
abbrev cutR (v : Nat → Nat) (k : Nat) : Nat := v (80 + 4 * k)
abbrev whrR (v : Nat → Nat) (k : Nat) : Nat := v (80 + 4 * k + 2)
def opnD (v : Nat → Nat) (c d : Nat) : Bool := fitL c (fstR v d) (sndR v d)
def keysAt (v : Nat → Nat) (w : Nat) : Nat := bitsF (fun k => decide (whrR v k = w)) (v 5)
def keysFor (v : Nat → Nat) (d : Nat) : Nat := bitsF (fun k => !decide (whrR v k = 9) && opnD v (cutR v k) d) (v 5)
def doorsBy (v : Nat → Nat) (c : Nat) : Nat := bitsF (fun d => opnD v c d) (v 4)
def lockWt (v : Nat → Nat) (d : Nat) : Nat := lockW (fstR v d) (sndR v d)
def givW (v : Nat → Nat) (d : Nat) : Nat := lockWt v d - lossW (lockWt v d) (v 1)
def keyWt (v : Nat → Nat) (k : Nat) : Nat := if whrR v k = 9 then 0 else v (80 + 4 * k + 1) - sumD (cutR v k)
def inLk (v : Nat → Nat) : Nat := sumN (lockWt v) (v 4)
def inKy (v : Nat → Nat) : Nat := sumN (keyWt v) (v 5)
def plcF (v : Nat → Nat) (d : Nat) : Nat → Int
  | 0 => -6
  | n + 1 => if v (150 + 3 * n) = d then (n : Int) else plcF v d n
def plcO (v : Nat → Nat) (d : Nat) : Int := plcF v d (v 9)
def behR (v : Nat → Nat) (d r : Nat) : Int := if v (20 + 6 * d) = r then (v (20 + 6 * d + 1) : Int) else if v (20 + 6 * d + 1) = r then (v (20 + 6 * d) : Int) else -6
/-- a key of the set opens the door -/
def opnBy (v : Nat → Nat) (d ks : Nat) : Bool := anyF (fun k => ks.testBit k && opnD v (cutR v k) d) (v 5)
theorem plcF_rng (v : Nat → Nat) (d n : Nat) : -6 ≤ plcF v d n ∧ plcF v d n < n := by
  induction n with
  | zero => simp [plcF]
  | succ n ih => simp only [plcF]; split <;> omega
/-- a house's row in order -/
def okR (v : Nat → Nat) : Prop := (1 ≤ v 0 ∧ v 0 ≤ 9) ∧ v 1 ≤ 50 ∧ (40 ≤ v 2 ∧ v 2 ≤ 90) ∧ v 3 < 8 ∧ v 4 ≤ 10 ∧ v 5 ≤ 16 ∧ v 9 ≤ 6 ∧
  (∀ d, d < v 4 → v (20 + 6 * d) < 8 ∧ v (20 + 6 * d + 1) < 8 ∧ fstR v d < 10000 ∧ sndR v d < 10000) ∧
  (∀ k, k < v 5 → cutR v k < 10000 ∧ (40 ≤ v (80 + 4 * k + 1) ∧ v (80 + 4 * k + 1) ≤ 90) ∧ whrR v k ≤ 9) ∧
  (∀ p, p < v 9 → v (150 + 3 * p) < v 4 ∧ v (150 + 3 * p + 1) < 10000 ∧ v (150 + 3 * p + 2) < 10000) ∧
  (∀ p q, p < v 9 → q < v 9 → v (150 + 3 * p) = v (150 + 3 * q) → p = q) ∧
  (∀ d, v 4 ≤ d → d < 10 → v (20 + 6 * d + 4) = 0)
/-- the model's walks from the left -/
def canG (st c : Nat) : Nat → Bool
  | 0 => true
  | k + 1 => canG st c k && adj st (dgt c (3 - k)) (dgt c (3 - (k + 1)))
def fitG (c f s : Nat) : Nat → Bool
  | 0 => true
  | k + 1 => fitG c f s k && fitK c f s (3 - k)
theorem adj_comm (st a b : Nat) : adj st a b = adj st b a := by unfold adj; exact Bool.and_comm _ _
theorem canG_3 (st c : Nat) : canG st c 3 = canK st c := by
  show (((true && adj st (dgt c 3) (dgt c 2)) && adj st (dgt c 2) (dgt c 1)) && adj st (dgt c 1) (dgt c 0)) = _
  unfold canK
  rw [adj_comm st (dgt c 3), adj_comm st (dgt c 2) (dgt c 1), adj_comm st (dgt c 1) (dgt c 0)]
  cases adj st (dgt c 0) (dgt c 1) <;> cases adj st (dgt c 1) (dgt c 2) <;> cases adj st (dgt c 2) (dgt c 3) <;> rfl
theorem fitG_4 (c f s : Nat) : fitG c f s 4 = fitL c f s := by
  show ((((true && fitK c f s 3) && fitK c f s 2) && fitK c f s 1) && fitK c f s 0) = _
  unfold fitL
  cases fitK c f s 0 <;> cases fitK c f s 1 <;> cases fitK c f s 2 <;> cases fitK c f s 3 <;> rfl
/-- the model's cells, from M on -/
def mshL : List (Nat × Kd) := [(0, .inl 11), (1, .inr (0, 170)), (2, .inr (0, 1020)), (3, .inr (0, 340)), (4, .inr (1, 2)), (5, .inr (0, 80)), (6, .inr (0, 6)), (7, .inr (0, 6)), (8, .inr (0, 2048)), (9, .inr (0, 2048)), (10, .inr (0, 320))]
def mrfL : List (Nat × Nat) := [(0, 1), (1, 2), (3, 3), (4, 4), (5, 5), (8, 6), (9, 7), (13, 8), (14, 9), (15, 10)]
def MSh (sh : Nat → Option Kd) (ρ : Nat → Nat → Option Nat) (M : Nat) : Prop := (∀ q ∈ mshL, sh (M + q.1) = some q.2) ∧ ∀ q ∈ mrfL, ρ M q.1 = some (M + q.2)
theorem MS0 {sh : Nat → Option Kd} {ρ : Nat → Nat → Option Nat} {M : Nat} (h : MSh sh ρ M) : sh M = some (.inl 11) := h.1 (0, .inl 11) (List.mem_of_getElem? (i := 0) rfl)
theorem MSa {sh : Nat → Option Kd} {ρ : Nat → Nat → Option Nat} {M : Nat} (h : MSh sh ρ M) (i t n : Nat) (hi : mshL[i]? = some (i, .inr (t, n))) : sh (M + i) = some (.inr (t, n)) := h.1 (i, .inr (t, n)) (List.mem_of_getElem? hi)
theorem MSr {sh : Nat → Option Kd} {ρ : Nat → Nat → Option Nat} {M : Nat} (h : MSh sh ρ M) (k i : Nat) (hi : (k, i) ∈ mrfL) : ρ M k = some (M + i) := h.2 (k, i) hi
