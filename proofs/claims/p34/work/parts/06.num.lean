/-! ===== as in whole: num ===== -/
def zI (z : Int) : Int32 := Int32.ofInt z
theorem nu_rng (x : Int32) : -2147483648 ≤ x.toInt ∧ x.toInt < 2147483648 := by
  have h1 := Int32.le_toInt x
  have h2 := Int32.toInt_lt x
  omega
theorem nu_bmod {z : Int} (h1 : -2147483648 ≤ z) (h2 : z < 2147483648) : z.bmod (2 ^ 32) = z := by
  rw [Int.bmod_eq_of_le (by omega) (by omega)]
theorem zI_toInt {z : Int} (h1 : -2147483648 ≤ z) (h2 : z < 2147483648) : (zI z).toInt = z := by
  unfold zI
  rw [Int32.toInt_ofInt, nu_bmod h1 h2]
theorem zI_of (x : Int32) : x = zI x.toInt := (Int32.ofInt_toInt x).symm
theorem nz (n : Nat) : nI n = zI (n : Int) := by
  apply Int32.toBitVec_inj.1
  show BitVec.ofNat 32 n = BitVec.ofInt 32 (n : Int)
  simp
theorem zn {z : Int} {n : Nat} (h : z = (n : Int)) : zI z = nI n := by rw [nz, h]
theorem ad_ZZ (a b : Int) : zI a + zI b = zI (a + b) := (Int32.ofInt_add a b).symm
theorem sb_ZZ (a b : Int) : zI a - zI b = zI (a - b) := (Int32.ofInt_sub a b).symm
theorem ml_ZZ (a b : Int) : zI a * zI b = zI (a * b) := (Int32.ofInt_mul a b).symm
theorem ng_Z (a : Int) : -(zI a) = zI (-a) := (Int32.ofInt_neg a).symm
theorem ng_N (a : Nat) : -(nI a) = zI (-(a : Int)) := by rw [nz, ng_Z]
theorem ad_NN (a b : Nat) : nI a + nI b = nI (a + b) := nI_add a b
theorem ad_NZ (a : Nat) (b : Int) : nI a + zI b = zI (a + b) := by rw [nz, ad_ZZ]
theorem ad_ZN (a : Int) (b : Nat) : zI a + nI b = zI (a + b) := by rw [nz, ad_ZZ]
theorem sb_NN (a b : Nat) : nI a - nI b = zI ((a : Int) - b) := by rw [nz, nz, sb_ZZ]
theorem sb_NZ (a : Nat) (b : Int) : nI a - zI b = zI (a - b) := by rw [nz, sb_ZZ]
theorem sb_ZN (a : Int) (b : Nat) : zI a - nI b = zI (a - b) := by rw [nz, sb_ZZ]
theorem sb_N (a b : Nat) (h : b ≤ a) : nI a - nI b = nI (a - b) := pk_sub h
theorem ml_NN (a b : Nat) : nI a * nI b = nI (a * b) := pk_mul a b
theorem ml_NZ (a : Nat) (b : Int) : nI a * zI b = zI (a * b) := by rw [nz, ml_ZZ]
theorem ml_ZN (a : Int) (b : Nat) : zI a * nI b = zI (a * b) := by rw [nz, ml_ZZ]
theorem lt_NN {a b : Nat} (ha : a < 2 ^ 31) (hb : b < 2 ^ 31) : nI a < nI b ↔ a < b := nI_ltI ha hb
theorem le_NN {a b : Nat} (ha : a < 2 ^ 31) (hb : b < 2 ^ 31) : nI a ≤ nI b ↔ a ≤ b := nI_leI ha hb
theorem eq_NN {a b : Nat} (ha : a < 2 ^ 31) (hb : b < 2 ^ 31) : nI a = nI b ↔ a = b := nI_eq ha hb
theorem lt_ZZ {a b : Int} (ha : -2147483648 ≤ a ∧ a < 2147483648) (hb : -2147483648 ≤ b ∧ b < 2147483648) : zI a < zI b ↔ a < b := by
  rw [Int32.lt_iff_toInt_lt, zI_toInt ha.1 ha.2, zI_toInt hb.1 hb.2]
theorem le_ZZ {a b : Int} (ha : -2147483648 ≤ a ∧ a < 2147483648) (hb : -2147483648 ≤ b ∧ b < 2147483648) : zI a ≤ zI b ↔ a ≤ b := by
  rw [Int32.le_iff_toInt_le, zI_toInt ha.1 ha.2, zI_toInt hb.1 hb.2]
theorem eq_ZZ {a b : Int} (ha : -2147483648 ≤ a ∧ a < 2147483648) (hb : -2147483648 ≤ b ∧ b < 2147483648) : zI a = zI b ↔ a = b := by
  rw [← Int32.toInt_inj, zI_toInt ha.1 ha.2, zI_toInt hb.1 hb.2]
theorem lt_NZ {a : Nat} {b : Int} (ha : a < 2 ^ 31) (hb : -2147483648 ≤ b ∧ b < 2147483648) : nI a < zI b ↔ (a : Int) < b := by
  rw [nz, lt_ZZ (by omega) hb]
theorem le_NZ {a : Nat} {b : Int} (ha : a < 2 ^ 31) (hb : -2147483648 ≤ b ∧ b < 2147483648) : nI a ≤ zI b ↔ (a : Int) ≤ b := by
  rw [nz, le_ZZ (by omega) hb]
theorem eq_NZ {a : Nat} {b : Int} (ha : a < 2 ^ 31) (hb : -2147483648 ≤ b ∧ b < 2147483648) : nI a = zI b ↔ (a : Int) = b := by
  rw [nz, eq_ZZ (by omega) hb]
theorem lt_ZN {a : Int} {b : Nat} (ha : -2147483648 ≤ a ∧ a < 2147483648) (hb : b < 2 ^ 31) : zI a < nI b ↔ a < (b : Int) := by
  rw [nz, lt_ZZ ha (by omega)]
theorem le_ZN {a : Int} {b : Nat} (ha : -2147483648 ≤ a ∧ a < 2147483648) (hb : b < 2 ^ 31) : zI a ≤ nI b ↔ a ≤ (b : Int) := by
  rw [nz, le_ZZ ha (by omega)]
theorem eq_ZN {a : Int} {b : Nat} (ha : -2147483648 ≤ a ∧ a < 2147483648) (hb : b < 2 ^ 31) : zI a = nI b ↔ a = (b : Int) := by
  rw [nz, eq_ZZ ha (by omega)]
theorem n_0 : (0 : Int32) = nI 0 := rfl
theorem l0_N {a : Nat} (ha : a < 2 ^ 31) : nI a < 0 ↔ False := by
  rw [n_0, lt_NN ha (by omega)]; exact ⟨fun h => absurd h (Nat.not_lt_zero _), fun h => h.elim⟩
theorem g0_N {a : Nat} (ha : a < 2 ^ 31) : 0 < nI a ↔ 0 < a := by
  rw [n_0, lt_NN (by omega) ha]
theorem ge0_N {a : Nat} (ha : a < 2 ^ 31) : 0 ≤ nI a ↔ True := by
  rw [n_0, le_NN (by omega) ha]; simp
theorem le0_N {a : Nat} (ha : a < 2 ^ 31) : nI a ≤ 0 ↔ a = 0 := by
  rw [n_0, le_NN ha (by omega)]; constructor <;> intro h <;> omega
theorem e0_N {a : Nat} (ha : a < 2 ^ 31) : nI a = 0 ↔ a = 0 := by
  rw [n_0, eq_NN ha (by omega)]
theorem l0_Z {a : Int} (ha : -2147483648 ≤ a ∧ a < 2147483648) : zI a < 0 ↔ a < 0 := by
  rw [n_0, lt_ZN ha (by omega)]; rfl
theorem g0_Z {a : Int} (ha : -2147483648 ≤ a ∧ a < 2147483648) : 0 < zI a ↔ 0 < a := by
  rw [n_0, lt_NZ (by omega) ha]; rfl
theorem ge0_Z {a : Int} (ha : -2147483648 ≤ a ∧ a < 2147483648) : 0 ≤ zI a ↔ 0 ≤ a := by
  rw [n_0, le_NZ (by omega) ha]; rfl
theorem le0_Z {a : Int} (ha : -2147483648 ≤ a ∧ a < 2147483648) : zI a ≤ 0 ↔ a ≤ 0 := by
  rw [n_0, le_ZN ha (by omega)]; rfl
theorem e0_Z {a : Int} (ha : -2147483648 ≤ a ∧ a < 2147483648) : zI a = 0 ↔ a = 0 := by
  rw [n_0, eq_ZN ha (by omega)]; rfl
theorem an_NN (a b : Nat) : nI a &&& nI b = nI (a &&& b) := by
  apply Int32.toBitVec_inj.1
  show BitVec.ofNat 32 a &&& BitVec.ofNat 32 b = BitVec.ofNat 32 (a &&& b)
  apply BitVec.eq_of_getLsbD_eq
  intro i hi
  simp [hi]
theorem or_NN (a b : Nat) : nI a ||| nI b = nI (a ||| b) := by
  apply Int32.toBitVec_inj.1
  show BitVec.ofNat 32 a ||| BitVec.ofNat 32 b = BitVec.ofNat 32 (a ||| b)
  apply BitVec.eq_of_getLsbD_eq
  intro i hi
  simp [hi]
theorem nu_smod {k : Nat} (hk : k < 31) : ((nI k &&& 31).toBitVec.smod 32).toNat = k := by
  have h : ∀ k : Fin 31, ((nI k.val &&& 31).toBitVec.smod 32).toNat = k.val := by decide +kernel
  exact h ⟨k, hk⟩
theorem sl_NN (a k : Nat) (hk : k < 31) (h : a * 2 ^ k < 2 ^ 32) : nI a <<< (nI k &&& 31) = nI (a * 2 ^ k) := pk_shlN _ k (nu_smod hk) h
theorem sl_1 (k : Nat) (hk : k < 31) : nI 1 <<< (nI k &&& 31) = nI (2 ^ k) := by
  have h : ∀ k : Fin 31, nI 1 <<< (nI k.val &&& 31) = nI (2 ^ k.val) := by decide +kernel
  exact h ⟨k, hk⟩
theorem sr_NN (a k : Nat) (hk : k < 31) (h : a < 2 ^ 31) : nI a >>> (nI k &&& 31) = nI (a / 2 ^ k) := pk_shrN h _ k (nu_smod hk)
theorem dv_NN (a d : Nat) (ha : a < 2 ^ 31) (h0 : 0 < d) (hd : d < 2 ^ 31) : nI a / nI d = nI (a / d) := pk_div ha h0 hd
theorem rm_NN (a d : Nat) (ha : a < 2 ^ 31) (h0 : 0 < d) (hd : d < 2 ^ 31) : nI a - nI a / nI d * nI d = nI (a % d) := pk_rem ha h0 hd
theorem nu_ne0 {d : Nat} (h0 : 0 < d) (hd : d < 2 ^ 31) : ¬ nI d = 0 := fun h => by rw [e0_N hd] at h; omega
/-- a truth as an int -/
def bI (b : Bool) : Int32 := if b = true then 1 else 0
theorem bI_t {b : Bool} (h : b = true) : nI 1 = bI b := by subst h; rfl
theorem bI_f {b : Bool} (h : b = false) : nI 0 = bI b := by subst h; rfl
theorem bI_0 (b : Bool) : bI b = 0 ↔ b = false := by cases b <;> decide
theorem nar_bI (b : Bool) : narrow .boolean (.int (bI b)) = .int (bI b) := by cases b <;> rfl
theorem nar_n1 : narrow .boolean (.int (nI 1)) = .int (nI 1) := rfl
theorem nar_n0 : narrow .boolean (.int (nI 0)) = .int (nI 0) := rfl
/-- an int array at a holds v on its first n places -/
def rowAt (σ : Nat → Nat → Int32) (a n : Nat) (v : Nat → Nat) : Prop := ∀ j, j < n → σ a j = nI (v j)
theorem rowAt.upd {σ : Nat → Nat → Int32} {a n : Nat} {v : Nat → Nat} (h : rowAt σ a n v) (k x : Nat) : rowAt (s2 σ a k (nI x)) a n (va_up v k x) := by
  intro j hj
  by_cases hk : j = k
  · subst hk; simp [s2, va_up]
  · simp [s2, va_up, hk, h j hj]
theorem rowAt.keep {σ : Nat → Nat → Int32} {a n : Nat} {v : Nat → Nat} (h : rowAt σ a n v) {b : Nat} (hne : a ≠ b) (k : Nat) (x : Int32) : rowAt (s2 σ b k x) a n v := by
  intro j hj
  rw [s2_na hne]
  exact h j hj
theorem rowAt.sub {σ : Nat → Nat → Int32} {a n m : Nat} {v : Nat → Nat} (h : rowAt σ a n v) (hm : m ≤ n) : rowAt σ a m v := fun j hj => h j (Nat.lt_of_lt_of_le hj hm)
theorem s2_keep {σ : Nat → Nat → Int32} {a k : Nat} {x : Int32} (h : σ a k = x) {b j : Nat} {y : Int32} (hne : a ≠ b ∨ k ≠ j) : s2 σ b j y a k = x := by
  rcases hne with hne | hne
  · rw [s2_na hne]; exact h
  · rw [s2_nk hne]; exact h
theorem r_locp {Ω : OmT} {Φ : PhT} {S : StT} {n : Nat × Nat} {pc : Nat} {ls ls' : List (Nat × Value)} {st : List Value} (ks : List Nat) (hl : lv_pick ls ks = ls') (kk : Vw Ω Φ S n pc ls' st) : Vw Ω Φ S n pc ls st := by
  obtain ⟨p, e, R, s, m, args, below, meth, c, Q, nL⟩ := Φ
  intro H locs la hw hS hh
  exact kk H locs la hw hS (lv_sub hh ks hl)
