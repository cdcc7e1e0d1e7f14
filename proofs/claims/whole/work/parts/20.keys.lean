/-! ===== rows of cuts that can be a key, place by place from the left ===== -/
theorem mn_NN {x y : Nat} (hx : x < 2147483648) (hy : y < 2147483648) : (if nI y < nI x then nI y else nI x) = nI (min x y) := by
  by_cases h : y < x
  · rw [if_pos ((lt_NN (by omega) (by omega)).mpr h), Nat.min_eq_right (by omega)]
  · rw [if_neg (fun q => h ((lt_NN (by omega) (by omega)).mp q)), Nat.min_eq_left (by omega)]
theorem mx_NN {x y : Nat} (hx : x < 2147483648) (hy : y < 2147483648) : (if nI x < nI y then nI y else nI x) = nI (max x y) := by
  by_cases h : x < y
  · rw [if_pos ((lt_NN (by omega) (by omega)).mpr h), Nat.max_eq_right (by omega)]
  · rw [if_neg (fun q => h ((lt_NN (by omega) (by omega)).mp q)), Nat.max_eq_left (by omega)]
theorem mx_NZ {x : Nat} {y : Int} (hx : x < 2147483648) (hy : -2147483648 ≤ y ∧ y < 2147483648) : (if nI x < zI y then zI y else nI x) = nI (max x y.toNat) := by
  by_cases h : (x : Int) < y
  · rw [if_pos ((lt_NZ (by omega) (by omega)).mpr h)]; exact zn (by omega)
  · rw [if_neg (fun q => h ((lt_NZ (by omega) (by omega)).mp q))]; exact congrArg nI (by omega)
def fitM (f s i : Nat) : Nat := 2 ^ dgt f (3 - i) ||| 2 ^ dgt s (3 - i)
/-- the depths that fit at a place in the doors of a set -/
def ftF (v : Nat → Nat) (x i : Nat) : Nat → Nat
  | 0 => 1023
  | d + 1 => if x.testBit d = true then ftF v x i d &&& fitM (v (20 + 6 * d + 2)) (v (20 + 6 * d + 3)) i else ftF v x i d
def kfF (f s : Nat) (F : Nat → Nat) (j i : Nat) : Nat := if 4 ≤ i + j then F i &&& fitM f s i else F i
theorem ftF_test (v : Nat → Nat) (x i n e : Nat) : (ftF v x i n).testBit e = true ↔ e < 10 ∧ ∀ d, d < n → x.testBit d = true → (dgt (v (20 + 6 * d + 2)) (3 - i) = e ∨ dgt (v (20 + 6 * d + 3)) (3 - i) = e) := by
  induction n with
  | zero =>
    rw [ftF, show 1023 = 2 ^ 10 - 1 from rfl, Nat.testBit_two_pow_sub_one, decide_eq_true_eq]
    exact ⟨fun h => ⟨h, fun d hd => absurd hd (Nat.not_lt_zero _)⟩, fun h => h.1⟩
  | succ n ih =>
    rw [ftF]
    by_cases hx : x.testBit n = true
    · rw [if_pos hx, Nat.testBit_and, Bool.and_eq_true, ih]
      unfold fitM
      rw [Nat.testBit_or, Bool.or_eq_true, Nat.testBit_two_pow, Nat.testBit_two_pow, decide_eq_true_eq, decide_eq_true_eq]
      constructor
      · rintro ⟨⟨h1, h2⟩, h3⟩
        refine ⟨h1, fun d hd hb => ?_⟩
        by_cases e1 : d = n
        · subst e1; exact h3
        · exact h2 d (by omega) hb
      · rintro ⟨h1, h2⟩
        exact ⟨⟨h1, fun d hd hb => h2 d (by omega) hb⟩, h2 n (by omega) hx⟩
    · rw [if_neg hx, ih]
      constructor
      · rintro ⟨h1, h2⟩
        refine ⟨h1, fun d hd hb => ?_⟩
        by_cases e1 : d = n
        · subst e1; exact absurd hb hx
        · exact h2 d (by omega) hb
      · rintro ⟨h1, h2⟩
        exact ⟨h1, fun d hd hb => h2 d (by omega) hb⟩
/-- all places as far as the last one fit, and those side by side may be so -/
def pfx (st : Nat) (F : Nat → Nat) : Nat → Nat → Bool
  | 0, c => (F 0).testBit (c % 10)
  | i + 1, c => pfx st F i (c / 10) && (adj st (c / 10 % 10) (c % 10) && (F (i + 1)).testBit (c % 10))
theorem and_full (a x : Nat) : a &&& x = x ↔ ∀ d, x.testBit d = true → a.testBit d = true := by
  constructor
  · intro h d hd
    have h1 := hd
    rw [← h, Nat.testBit_and, Bool.and_eq_true] at h1
    exact h1.1
  · intro h
    apply Nat.eq_of_testBit_eq
    intro d
    rw [Nat.testBit_and]
    cases hx : x.testBit d with
    | true => rw [h d hx]; rfl
    | false => exact Bool.and_false _
theorem testBit_lt {x n d : Nat} (hx : x < 2 ^ n) (h : x.testBit d = true) : d < n := by
  apply Decidable.byContradiction
  intro h1
  have h2 : x < 2 ^ d := Nat.lt_of_lt_of_le hx (Nat.pow_le_pow_right (by decide) (by omega))
  rw [Nat.testBit_lt_two_pow h2] at h
  exact Bool.noConfusion h
theorem fit_all (v : Nat → Nat) (x c : Nat) (hx : x < 2 ^ v 4) : (∀ i, i < 4 → (ftF v x i (v 4)).testBit (dgt c (3 - i)) = true) ↔ doorsBy v c &&& x = x := by
  rw [and_full]
  constructor
  · intro h d hd
    have hdn := testBit_lt hx hd
    have hk : ∀ k, k < 4 → fitK c (v (20 + 6 * d + 2)) (v (20 + 6 * d + 3)) k = true := fun k hk => by
      have h1 := ((ftF_test v x (3 - k) (v 4) _).mp (h (3 - k) (by omega))).2 d hdn hd
      rw [show 3 - (3 - k) = k by omega] at h1
      unfold fitK
      rcases h1 with h1 | h1
      · rw [decide_eq_true h1.symm]; rfl
      · rw [decide_eq_true h1.symm, Bool.or_true]
    unfold doorsBy
    rw [bitsF_test]
    unfold opnD fitL
    rw [hk 0 (by omega), hk 1 (by omega), hk 2 (by omega), hk 3 (by omega), decide_eq_true hdn]; rfl
  · intro h i hi
    rw [ftF_test]
    refine ⟨dgt_lt _ _, fun d hd hb => ?_⟩
    have h1 := h d hb
    unfold doorsBy at h1
    rw [bitsF_test, Bool.and_eq_true] at h1
    have h2 := h1.2
    unfold opnD fitL at h2
    simp only [Bool.and_eq_true] at h2
    have hk : ∀ k, k < 4 → fitK c (v (20 + 6 * d + 2)) (v (20 + 6 * d + 3)) k = true := fun k hk => by
      rcases (show k = 0 ∨ k = 1 ∨ k = 2 ∨ k = 3 by omega) with rfl | rfl | rfl | rfl
      · exact h2.1.1.1
      · exact h2.1.1.2
      · exact h2.1.2
      · exact h2.2
    have h3 := hk (3 - i) (by omega)
    unfold fitK at h3
    rw [Bool.or_eq_true, decide_eq_true_eq, decide_eq_true_eq] at h3
    exact h3.imp Eq.symm Eq.symm
abbrev ftA (v : Nat → Nat) (x : Nat) : Nat → Nat := fun i => ftF v x i (v 4)
theorem pfx_chk (v : Nat → Nat) (x c : Nat) (hx : x < 2 ^ v 4) : pfx (v 0) (ftA v x) 3 c = chkP v x c := by
  have h := fit_all v x c hx
  have hd : c / 10 / 10 / 10 % 10 = dgt c 3 ∧ c / 10 / 10 % 10 = dgt c 2 ∧ c / 10 % 10 = dgt c 1 ∧ c % 10 = dgt c 0 := ⟨rfl, rfl, rfl, rfl⟩
  apply Bool.eq_iff_iff.mpr
  unfold chkP canK
  simp only [pfx, Bool.and_eq_true, decide_eq_true_eq, ftA]
  rw [hd.1, hd.2.1, hd.2.2.1, hd.2.2.2, ← h, adj_comm (v 0) (dgt c 0) (dgt c 1), adj_comm (v 0) (dgt c 1) (dgt c 2), adj_comm (v 0) (dgt c 2) (dgt c 3)]
  constructor
  · rintro ⟨⟨⟨h0, h1, h2⟩, h3, h4⟩, h5, h6⟩
    refine ⟨⟨⟨h5, h3⟩, h1⟩, fun i hi => ?_⟩
    rcases (show i = 0 ∨ i = 1 ∨ i = 2 ∨ i = 3 by omega) with rfl | rfl | rfl | rfl
    · exact h0
    · exact h2
    · exact h4
    · exact h6
  · rintro ⟨⟨⟨h1, h2⟩, h3⟩, h4⟩
    exact ⟨⟨⟨h4 0 (by omega), h3, h4 1 (by omega)⟩, h2, h4 2 (by omega)⟩, h1, h4 3 (by omega)⟩
/-- how many rows so far end with a depth -/
def wyF (st : Nat) (F : Nat → Nat) : Nat → Nat → Nat
  | 0, d => if (F 0).testBit d = true then 1 else 0
  | i + 1, d => if (F (i + 1)).testBit d = true then sumN (fun l => if adj st l d = true then wyF st F i l else 0) 10 else 0
theorem sumN_0 (n : Nat) : sumN (fun _ => 0) n = 0 := by
  induction n with
  | zero => rfl
  | succ n ih => rw [sumN, ih]
theorem sumN_10 (f : Nat → Nat) (n : Nat) : sumN f (10 * n) = sumN (fun l => sumN (fun q => f (10 * q + l)) n) 10 := by
  induction n with
  | zero => rfl
  | succ n ih =>
    have h1 : sumN f (10 * (n + 1)) = sumN f (10 * n) + f (10 * n + 0) + f (10 * n + 1) + f (10 * n + 2) + f (10 * n + 3) + f (10 * n + 4) + f (10 * n + 5) + f (10 * n + 6) + f (10 * n + 7) + f (10 * n + 8) + f (10 * n + 9) := rfl
    rw [h1, ih]
    simp only [sumN]
    omega
theorem cntF_sum (p : Nat → Bool) (n : Nat) : cntF p n = sumN (fun c => if p c = true then 1 else 0) n := by
  induction n with
  | zero => rfl
  | succ n ih => rw [cntF, sumN, ih]
theorem pfx_ten (st : Nat) (F : Nat → Nat) (i q d : Nat) (hd : d < 10) : pfx st F (i + 1) (10 * q + d) = (pfx st F i q && (adj st (q % 10) d && (F (i + 1)).testBit d)) := by
  rw [pfx, show (10 * q + d) / 10 = q by omega, show (10 * q + d) % 10 = d by omega]
theorem wy_cnt (st : Nat) (F : Nat → Nat) (i : Nat) : ∀ d, d < 10 → sumN (fun q => if pfx st F i (10 * q + d) = true then 1 else 0) (10 ^ i) = wyF st F i d := by
  induction i with
  | zero =>
    intro d hd
    show 0 + (if pfx st F 0 (10 * 0 + d) = true then 1 else 0) = _
    rw [pfx, wyF, show (10 * 0 + d) % 10 = d by omega, Nat.zero_add]
  | succ i ih =>
    intro d hd
    rw [wyF]
    by_cases hf : (F (i + 1)).testBit d = true
    · rw [if_pos hf, show 10 ^ (i + 1) = 10 * 10 ^ i by rw [Nat.pow_succ, Nat.mul_comm], sumN_10]
      apply sumN_cong
      intro l hl
      by_cases ha : adj st l d = true
      · rw [if_pos ha, ← ih l hl]
        apply sumN_cong
        intro q _
        rw [pfx_ten st F i _ d hd, show (10 * q + l) % 10 = l by omega, ha, hf]
        simp
      · rw [if_neg ha]
        refine Eq.trans (sumN_cong ?_) (sumN_0 (10 ^ i))
        intro q _
        rw [pfx_ten st F i _ d hd, show (10 * q + l) % 10 = l by omega, Bool.eq_false_iff.mpr ha]
        simp
    · rw [if_neg hf]
      refine Eq.trans (sumN_cong ?_) (sumN_0 (10 ^ (i + 1)))
      intro q _
      rw [pfx_ten st F i _ d hd, Bool.eq_false_iff.mpr hf]
      simp
theorem wy_all (v : Nat → Nat) (x : Nat) (hx : x < 2 ^ v 4) : sumN (wyF (v 0) (ftA v x) 3) 10 = cntF (chkP v x) 10000 := by
  rw [cntF_sum, show 10000 = 10 * 10 ^ 3 from rfl, sumN_10]
  apply sumN_cong
  intro d hd
  rw [← wy_cnt (v 0) (ftA v x) 3 d hd]
  apply sumN_cong
  intro q _
  rw [pfx_chk v x _ hx]
theorem sumN_mono {f : Nat → Nat} {n m : Nat} (h : n ≤ m) : sumN f n ≤ sumN f m := by
  induction m with
  | zero => rw [Nat.le_zero.mp h]; exact Nat.le_refl _
  | succ m ih =>
    by_cases e : n = m + 1
    · subst e; exact Nat.le_refl _
    · have := ih (by omega); rw [sumN]; omega
/-- the sum over the depths beside one -/
theorem beside_all (st d : Nat) (W : Nat → Nat) (k : Nat) (hk : min 9 (d + st) < k) (hk2 : k ≤ 10) (hd : d < 10) : sumN (fun l => if adj st l d = true then W l else 0) k = sumN (fun l => if adj st l d = true then W l else 0) 10 := by
  have key : ∀ m, k + m ≤ 10 → sumN (fun l => if adj st l d = true then W l else 0) (k + m) = sumN (fun l => if adj st l d = true then W l else 0) k := by
    intro m
    induction m with
    | zero => intro _; rfl
    | succ m ih =>
      intro hm
      rw [← Nat.add_assoc, sumN, ih (by omega), if_neg (by unfold adj; simp; omega)]; rfl
  have h := key (10 - k) (by omega)
  rw [show k + (10 - k) = 10 by omega] at h
  exact h.symm
theorem beside_none (st d : Nat) (W : Nat → Nat) (k : Nat) (hk : k ≤ d - st) : sumN (fun l => if adj st l d = true then W l else 0) k = 0 := by
  induction k with
  | zero => rfl
  | succ k ih => rw [sumN, ih (by omega), if_neg (by unfold adj; simp; omega)]
/-! the least row -/
def ffZ (g : Nat → Int) : Nat → Int
  | 0 => -6
  | n + 1 => if ffZ g n = -6 then g n else ffZ g n
theorem ffZ_stay (g : Nat → Int) (n m : Nat) (h : ffZ g n ≠ -6) : ffZ g (n + m) = ffZ g n := by
  induction m with
  | zero => rfl
  | succ m ih => rw [← Nat.add_assoc, ffZ, ih, if_neg h]
def ffR (p : Nat → Bool) (a : Nat) : Nat → Int
  | 0 => -6
  | n + 1 => if ffR p a n = -6 then (if p (a + n) = true then ((a + n : Nat) : Int) else -6) else ffR p a n
theorem ffR_0 (p : Nat → Bool) (n : Nat) : ffR p 0 n = ffF p n := by
  induction n with
  | zero => rfl
  | succ n ih => rw [ffR, ffF, ih, Nat.zero_add]
theorem ffR_none (p : Nat → Bool) (a n : Nat) (h : ∀ j, j < n → p (a + j) = false) : ffR p a n = -6 := by
  induction n with
  | zero => rfl
  | succ n ih => rw [ffR, ih (fun j hj => h j (by omega)), if_pos rfl, h n (by omega)]; rfl
theorem ffR_add (p : Nat → Bool) (a m n : Nat) : ffR p a (m + n) = if ffR p a m = -6 then ffR p (a + m) n else ffR p a m := by
  induction n with
  | zero => by_cases h : ffR p a m = -6 <;> simp [ffR, h]
  | succ n ih =>
    rw [← Nat.add_assoc, ffR, ih]
    by_cases h : ffR p a m = -6
    · simp only [if_pos h]; rw [ffR, Nat.add_assoc]
    · simp only [if_neg h]
theorem ffR_mul (p : Nat → Bool) (a N m : Nat) : ffR p a (N * m) = ffZ (fun e => ffR p (a + N * e) N) m := by
  induction m with
  | zero => rfl
  | succ m ih => rw [Nat.mul_succ, ffR_add, ih, ffZ]
theorem ffZ_cong {f g : Nat → Int} {n : Nat} (h : ∀ k, k < n → f k = g k) : ffZ f n = ffZ g n := by
  induction n with
  | zero => rfl
  | succ n ih => rw [ffZ, ffZ, ih (fun k hk => h k (by omega)), h n (by omega)]
def lfOk (st : Nat) (F : Nat → Nat) (p c e : Nat) : Bool := (decide (p = 0) || adj st e (c % 10)) && (F p).testBit e
def lfF (st : Nat) (F : Nat → Nat) (J : Nat → Bool) : Nat → Nat → Int
  | 0, c => if J c = true then (c : Int) else -6
  | n + 1, c => ffZ (fun e => if lfOk st F (3 - n) c e = true then lfF st F J n (c * 10 + e) else -6) 10
theorem lfF_rng (st : Nat) (F : Nat → Nat) (J : Nat → Bool) (n : Nat) : ∀ c B : Nat, (c + 1) * 10 ^ n ≤ B → -6 ≤ lfF st F J n c ∧ lfF st F J n c < (B : Int) := by
  induction n with
  | zero => intro c B h; rw [lfF]; rw [Nat.pow_zero] at h; split <;> omega
  | succ n ih =>
    intro c B h
    rw [lfF]
    have key : ∀ m, m ≤ 10 → -6 ≤ ffZ (fun e => if lfOk st F (3 - n) c e = true then lfF st F J n (c * 10 + e) else -6) m ∧ ffZ (fun e => if lfOk st F (3 - n) c e = true then lfF st F J n (c * 10 + e) else -6) m < (B : Int) := by
      intro m
      induction m with
      | zero => intro _; rw [ffZ]; omega
      | succ m ihm =>
        intro hm
        have h1 := ihm (by omega)
        have h2 := ih (c * 10 + m) B (by
          have : (c * 10 + m + 1) * 10 ^ n ≤ ((c + 1) * 10) * 10 ^ n := Nat.mul_le_mul_right _ (by omega)
          rw [Nat.pow_succ] at h
          have e : (c + 1) * 10 * 10 ^ n = (c + 1) * (10 ^ n * 10) := by rw [Nat.mul_assoc, Nat.mul_comm 10]
          omega)
        rw [ffZ]
        split
        · split
          · exact h2
          · omega
        · exact h1
    exact key 10 (Nat.le_refl _)
theorem pfx_pre (st : Nat) (F : Nat → Nat) (i m r : Nat) (h : pfx st F (i + m) r = true) : pfx st F i (r / 10 ^ m) = true := by
  induction m generalizing r with
  | zero => simpa using h
  | succ m ih =>
    rw [← Nat.add_assoc, pfx, Bool.and_eq_true] at h
    have h1 := ih (r / 10) h.1
    rwa [Nat.div_div_eq_div_mul, show 10 * 10 ^ m = 10 ^ (m + 1) by rw [Nat.pow_succ, Nat.mul_comm]] at h1
theorem lf_ff (st : Nat) (F : Nat → Nat) (J p : Nat → Bool) (hp : ∀ c, p c = (pfx st F 3 c && J c)) (n : Nat) : n ≤ 4 → ∀ c, (n < 4 → pfx st F (3 - n) c = true) → (n = 4 → c = 0) → lfF st F J n c = ffR p (c * 10 ^ n) (10 ^ n) := by
  induction n with
  | zero =>
    intro _ c h _
    have h0 := h (by omega)
    rw [show 3 - 0 = 3 from rfl] at h0
    rw [lfF, Nat.pow_zero, Nat.mul_one]
    show _ = if ffR p c 0 = -6 then (if p (c + 0) = true then ((c + 0 : Nat) : Int) else -6) else _
    rw [ffR, if_pos rfl, hp, Nat.add_zero, h0, Bool.true_and]
  | succ n ih =>
    intro hn c h hc
    rw [lfF, Nat.pow_succ, ffR_mul]
    apply ffZ_cong
    intro e he
    have ea : c * (10 ^ n * 10) + 10 ^ n * e = (c * 10 + e) * 10 ^ n := by
      rw [Nat.add_mul, Nat.mul_assoc, Nat.mul_comm (10 ^ n) 10, Nat.mul_comm (10 ^ n) e]
    show _ = ffR p (c * (10 ^ n * 10) + 10 ^ n * e) (10 ^ n)
    rw [ea]
    have hok : lfOk st F (3 - n) c e = true ↔ pfx st F (3 - n) (10 * c + e) = true := by
      unfold lfOk
      by_cases e3 : n = 3
      · subst e3
        have hc0 := hc rfl
        subst hc0
        show _ ↔ (F 0).testBit ((10 * 0 + e) % 10) = true
        rw [show (10 * 0 + e) % 10 = e by omega]; simp
      · have h1 := h (by omega)
        rw [show 3 - n = 3 - (n + 1) + 1 by omega, pfx_ten _ _ _ _ _ he, h1]
        rw [decide_eq_false (by omega), Bool.false_or, adj_comm st e]; simp
    by_cases hk : lfOk st F (3 - n) c e = true
    · rw [if_pos hk]
      have h1 := hok.mp hk
      rw [Nat.mul_comm 10 c] at h1
      exact ih (by omega) _ (fun _ => h1) (fun q => by omega)
    · rw [if_neg hk]
      refine (ffR_none _ _ _ (fun j hj => ?_)).symm
      rw [hp]
      cases h2 : pfx st F 3 ((c * 10 + e) * 10 ^ n + j) with
      | false => rfl
      | true =>
        have h3 := pfx_pre st F (3 - n) n _ (by rw [show 3 - n + n = 3 by omega]; exact h2)
        have h4 : ((c * 10 + e) * 10 ^ n + j) / 10 ^ n = 10 * c + e := by
          rw [Nat.mul_comm, Nat.mul_add_div (Nat.pow_pos (by decide)), Nat.div_eq_of_lt hj]; omega
        rw [h4] at h3
        exact absurd (hok.mpr h3) hk
theorem jst_pfx (v : Nat → Nat) (x c : Nat) (hx : x < 2 ^ v 4) : jstP v x c = (pfx (v 0) (ftA v x) 3 c && decide (doorsBy v c = x)) := by
  rw [pfx_chk v x c hx]
  unfold jstP chkP
  by_cases h : doorsBy v c = x
  · rw [h, Nat.and_self]; simp
  · simp [h]
theorem lf_all (v : Nat → Nat) (x : Nat) (hx : x < 2 ^ v 4) : lfF (v 0) (ftA v x) (fun c => decide (doorsBy v c = x)) 4 0 = ffF (jstP v x) 10000 := by
  rw [lf_ff (v 0) (ftA v x) _ (jstP v x) (fun c => jst_pfx v x c hx) 4 (Nat.le_refl 4) 0 (fun q => absurd q (by decide)) (fun _ => rfl), Nat.zero_mul]
  exact ffR_0 _ _
/-- one place more of a row -/
theorem rowAt.ext1 {σ : Nat → Nat → Int32} {a n : Nat} {v : Nat → Nat} (h : rowAt σ a n v) (x : Int32) (hx : x = nI (v n)) : rowAt (s2 σ a n x) a (n + 1) v := by
  intro j hj
  by_cases e : j = n
  · subst e; rw [hx]; exact s2_same _ _ _ _
  · rw [s2_nk e]; exact h j (by omega)
theorem rowAt.zero {σ : Nat → Nat → Int32} {a : Nat} {v : Nat → Nat} : rowAt σ a 0 v := fun j hj => absurd hj (Nat.not_lt_zero _)
theorem rowAt.cong {σ : Nat → Nat → Int32} {a n : Nat} {v w : Nat → Nat} (h : rowAt σ a n v) (e : ∀ j, j < n → v j = w j) : rowAt σ a n w := fun j hj => by rw [h j hj, e j hj]
theorem rowAt.sig {σ τ : Nat → Nat → Int32} {a n : Nat} {v : Nat → Nat} (h : rowAt σ a n v) (e : τ a = σ a) : rowAt τ a n v := fun j hj => by rw [e]; exact h j hj
