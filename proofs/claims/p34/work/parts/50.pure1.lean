/-! ===== the brass adds up: what each act does to a house's row ===== -/
def Led (v : Nat → Nat) : Prop := v 6 = inLk v + inKy v + v 7 + v 8 ∧ ∀ d, d < v 4 → ¬ v (20 + 6 * d) = v (20 + 6 * d + 1)
theorem sumN_upd {f g : Nat → Nat} {n i : Nat} (hi : i < n) (h : ∀ j, j < n → j ≠ i → g j = f j) : sumN g n + f i = sumN f n + g i := by
  induction n with
  | zero => exact absurd hi (Nat.not_lt_zero _)
  | succ n ih =>
    rw [sumN, sumN]
    by_cases e : i = n
    · subst e
      rw [sumN_cong (f := g) (g := f) (fun k hk => h k (by omega) (by omega))]; omega
    · have h1 := ih (by omega) (fun j hj hn => h j (by omega) hn)
      have h2 := h n (by omega) (fun q => e q.symm)
      omega
theorem lockWt_cong {v w : Nat → Nat} {d : Nat} (h1 : w (20 + 6 * d + 2) = v (20 + 6 * d + 2)) (h2 : w (20 + 6 * d + 3) = v (20 + 6 * d + 3)) : lockWt w d = lockWt v d := by
  unfold lockWt fstR sndR
  rw [h1, h2]
theorem inLk_cong {v w : Nat → Nat} (h4 : w 4 = v 4) (h : ∀ d, d < v 4 → w (20 + 6 * d + 2) = v (20 + 6 * d + 2) ∧ w (20 + 6 * d + 3) = v (20 + 6 * d + 3)) : inLk w = inLk v := by
  unfold inLk
  rw [h4]
  exact sumN_cong (fun d hd => lockWt_cong (h d hd).1 (h d hd).2)
theorem inKy_cong {v w : Nat → Nat} (h5 : w 5 = v 5) (h : ∀ k, k < v 5 → keyWt w k = keyWt v k) : inKy w = inKy v := by
  unfold inKy
  rw [h5]
  exact sumN_cong h
theorem Led.same {v w : Nat → Nat} (hok : okR v) (hL : Led v) (h4 : w 4 = v 4) (h5 : w 5 = v 5) (hd : ∀ j, 20 ≤ j → j < 80 → w j = v j) (hk : ∀ k, k < v 5 → keyWt w k = keyWt v k) (hs : w 6 + v 7 + v 8 = v 6 + w 7 + w 8) : Led w := by
  have h10 := hok.2.2.2.2.1
  have e1 := inLk_cong h4 (fun d hx => ⟨hd _ (by omega) (by omega), hd _ (by omega) (by omega)⟩)
  have e2 := inKy_cong h5 hk
  obtain ⟨g1, g2⟩ := hL
  refine ⟨by rw [e1, e2]; omega, fun d hx => ?_⟩
  rw [h4] at hx
  rw [hd _ (by omega) (by omega), hd _ (by omega) (by omega)]
  exact g2 d hx
theorem keyWt_le {v : Nat → Nat} {k : Nat} (hok : okR v) (hk : k < v 5) : keyWt v k ≤ 90 := by
  have h := (hok.2.2.2.2.2.2.2.2.1 k hk).2.1.2
  unfold keyWt
  split <;> omega
theorem keyWt_pos {v : Nat → Nat} {k : Nat} (hok : okR v) (hk : k < v 5) : keyWt v k = 0 ↔ v (80 + 4 * k + 2) = 9 := by
  have h := (hok.2.2.2.2.2.2.2.2.1 k hk).2.1.1
  have h2 := sumD_le (cutR v k)
  unfold keyWt
  split
  · next e => exact ⟨fun _ => e, fun _ => rfl⟩
  · next e => exact ⟨fun q => by omega, fun q => absurd q e⟩
theorem t_brass {v : Nat → Nat} (hok : okR v) (hL : Led v) {g : Nat} (hg : 1 ≤ g ∧ g ≤ 1000) : ∃ w, sBrass v ((g : Nat) : Int) = (((w 7 : Nat) : Int), w) ∧ Led w ∧ w 6 = v 6 + g ∧ w 7 = v 7 + g := by
  obtain ⟨w, hw⟩ : ∃ w, w = va_up (va_up v 6 (v 6 + g)) 7 (v 7 + g) := ⟨_, rfl⟩
  have k : ∀ j, ¬ j = 6 → ¬ j = 7 → w j = v j := fun j a b => by rw [hw, va_up_off b, va_up_off a]
  have e6 : w 6 = v 6 + g := by rw [hw, va_up_off (by omega), va_up_at]
  have e7 : w 7 = v 7 + g := by rw [hw, va_up_at]
  have e8 := k 8 (by omega) (by omega)
  refine ⟨w, ?_, Led.same hok hL (k _ (by omega) (by omega)) (k _ (by omega) (by omega)) (fun j a b => k _ (by omega) (by omega)) (fun q _ => keyWt_cong (k _ (by omega) (by omega)) (k _ (by omega) (by omega)) (k _ (by omega) (by omega))) (by omega), e6, e7⟩
  unfold sBrass
  rw [if_pos (by omega), Int.toNat_natCast, ← hw, e7]
theorem led_D {v : Nat → Nat} (hok : okR v) (hL : Led v) {a b f s : Nat} (h4 : v 4 < 10) (hne : ¬ a = b) (h7 : lockW f s ≤ v 7) {w : Nat → Nat} (hw : w = rowD v a b f s) : Led w ∧ w 6 = v 6 ∧ w 4 = v 4 + 1 ∧ w (20 + 6 * v 4) = a ∧ w (20 + 6 * v 4 + 1) = b ∧ w (20 + 6 * v 4 + 2) = f ∧ w (20 + 6 * v 4 + 3) = s ∧ w (20 + 6 * v 4 + 4) = 0 ∧ w 7 + lockW f s = v 7 := by
  have k : ∀ j, ¬ j = 4 → ¬ j = 7 → (j < 20 + 6 * v 4 ∨ 20 + 6 * v 4 + 3 < j) → w j = v j := fun j a b c => by
    rw [hw]; unfold rowD
    rw [va_up_off a, va_up_off b, va_up_off (by omega), va_up_off (by omega), va_up_off (by omega), va_up_off (by omega)]
  have e4 : w 4 = v 4 + 1 := by rw [hw]; unfold rowD; rw [va_up_at]
  have e7 : w 7 = v 7 - lockW f s := by rw [hw]; unfold rowD; rw [va_up_off (by omega), va_up_at]
  have ea : w (20 + 6 * v 4) = a := by rw [hw]; unfold rowD; rw [va_up_off (by omega), va_up_off (by omega), va_up_off (by omega), va_up_off (by omega), va_up_off (by omega), va_up_at]
  have eb : w (20 + 6 * v 4 + 1) = b := by rw [hw]; unfold rowD; rw [va_up_off (by omega), va_up_off (by omega), va_up_off (by omega), va_up_off (by omega), va_up_at]
  have ef : w (20 + 6 * v 4 + 2) = f := by rw [hw]; unfold rowD; rw [va_up_off (by omega), va_up_off (by omega), va_up_off (by omega), va_up_at]
  have es : w (20 + 6 * v 4 + 3) = s := by rw [hw]; unfold rowD; rw [va_up_off (by omega), va_up_off (by omega), va_up_at]
  have et : w (20 + 6 * v 4 + 4) = 0 := by rw [k _ (by omega) (by omega) (by omega)]; exact hok.2.2.2.2.2.2.2.2.2.2.2 _ (Nat.le_refl _) h4
  have e6 := k 6 (by omega) (by omega) (by omega)
  have e8 := k 8 (by omega) (by omega) (by omega)
  have i1 : inLk w = inLk v + lockW f s := by
    unfold inLk
    rw [e4, sumN, sumN_cong (fun d hd => lockWt_cong (v := v) (w := w) (k _ (by omega) (by omega) (by omega)) (k _ (by omega) (by omega) (by omega)))]
    congr 1
    unfold lockWt fstR sndR
    rw [ef, es]
  have i2 : inKy w = inKy v := inKy_cong (k _ (by omega) (by omega) (by omega)) (fun q _ => keyWt_cong (k _ (by omega) (by omega) (by omega)) (k _ (by omega) (by omega) (by omega)) (k _ (by omega) (by omega) (by omega)))
  obtain ⟨g1, g2⟩ := hL
  refine ⟨⟨by rw [i1, i2]; omega, fun d hd => ?_⟩, e6, e4, ea, eb, ef, es, et, by omega⟩
  by_cases e : d = v 4
  · rw [e, ea, eb]; exact hne
  · rw [k _ (by omega) (by omega) (by omega), k _ (by omega) (by omega) (by omega)]; exact g2 d (by omega)
theorem t_door {v : Nat → Nat} (hok : okR v) (hL : Led v) {a b f s : Nat} (ha : a < 8) (hb : b < 8) (hf : f < 10000) (hs : s < 10000) {X : Int × (Nat → Nat)} (hX : X = sDoor v ((a : Nat) : Int) ((b : Nat) : Int) ((f : Nat) : Int) ((s : Nat) : Int)) : Led X.2 ∧ X.2 6 = v 6 ∧
    ((a = b ∧ X.1 = -2 ∧ X.2 = v) ∨ (¬ a = b ∧ v 4 = 10 ∧ X.1 = -4 ∧ X.2 = v) ∨ (¬ a = b ∧ v 4 < 10 ∧ v 7 < lockW f s ∧ X.1 = -5 ∧ X.2 = v) ∨
      (¬ a = b ∧ v 4 < 10 ∧ X.1 = ((v 4 : Nat) : Int) ∧ X.2 4 = v 4 + 1 ∧ X.2 (20 + 6 * v 4) = a ∧ X.2 (20 + 6 * v 4 + 1) = b ∧ X.2 (20 + 6 * v 4 + 2) = f ∧ X.2 (20 + 6 * v 4 + 3) = s ∧ X.2 (20 + 6 * v 4 + 4) = 0 ∧ X.2 7 + lockW f s = v 7)) := by
  have h10 := hok.2.2.2.2.1
  unfold sDoor at hX
  by_cases e : a = b
  · rw [if_neg (by omega)] at hX
    subst hX; exact ⟨hL, rfl, Or.inl ⟨e, rfl, rfl⟩⟩
  · rw [if_pos (by omega)] at hX
    by_cases e4 : v 4 < 10
    · rw [if_pos e4] at hX
      simp only [Int.toNat_natCast] at hX
      by_cases e7 : v 7 < lockW f s
      · rw [if_pos e7] at hX
        subst hX; exact ⟨hL, rfl, Or.inr (Or.inr (Or.inl ⟨e, e4, e7, rfl, rfl⟩))⟩
      · rw [if_neg e7] at hX
        subst hX
        obtain ⟨q1, q2, q3⟩ := led_D hok hL e4 e (by omega) (w := rowD v a b f s) rfl
        exact ⟨q1, q2, Or.inr (Or.inr (Or.inr ⟨e, e4, rfl, q3⟩))⟩
    · rw [if_neg e4] at hX
      subst hX; exact ⟨hL, rfl, Or.inr (Or.inl ⟨e, by omega, rfl, rfl⟩)⟩
theorem led_C {v : Nat → Nat} (hok : okR v) (hL : Led v) {d f s : Nat} (hd : d < v 4) (h7 : lockW f s ≤ v 7 + givW v d) {w : Nat → Nat} (hw : w = rowC v d f s) : Led w ∧ w 6 = v 6 ∧ w 7 + lossW (lockWt v d) (v 1) + lockW f s = v 7 + lockWt v d ∧ w 8 = v 8 + lossW (lockWt v d) (v 1) ∧ w 4 = v 4 ∧ w (20 + 6 * d + 2) = f ∧ w (20 + 6 * d + 3) = s ∧ w (20 + 6 * d + 4) = v (20 + 6 * d + 4) + 1 := by
  have h10 := hok.2.2.2.2.1
  have hlw := lockW_le (fstR v d) (sndR v d)
  have hls := lossW_le (w := lockWt v d) (l := v 1) (by unfold lockWt; omega) hok.2.1
  have hgv : givW v d = lockWt v d - lossW (lockWt v d) (v 1) := rfl
  have k : ∀ j, ¬ j = 8 → ¬ j = 7 → (∀ i, 2 ≤ i → i < 5 → ¬ j = 20 + 6 * d + i) → w j = v j := fun j a b c => by rw [hw]; exact rowC_off a b c
  have e7 : w 7 = v 7 + givW v d - lockW f s := by rw [hw]; exact rowC_7
  have e8 : w 8 = v 8 + lossW (lockWt v d) (v 1) := by rw [hw]; unfold rowC; rw [va_up_off (by omega), va_up_off (by omega), va_up_off (by omega), va_up_off (by omega), va_up_at]
  have ef : w (20 + 6 * d + 2) = f := by rw [hw]; unfold rowC; rw [va_up_off (by omega), va_up_off (by omega), va_up_at]
  have es : w (20 + 6 * d + 3) = s := by rw [hw]; unfold rowC; rw [va_up_off (by omega), va_up_at]
  have et : w (20 + 6 * d + 4) = v (20 + 6 * d + 4) + 1 := by rw [hw]; unfold rowC; rw [va_up_at]
  have e4 := k 4 (by omega) (by omega) (fun i _ _ => by omega)
  have e6 := k 6 (by omega) (by omega) (fun i _ _ => by omega)
  have i1 : inLk w + lockWt v d = inLk v + lockW f s := by
    unfold inLk
    rw [e4, sumN_upd (f := lockWt v) (g := lockWt w) hd (fun j hj hn => lockWt_cong (k _ (by omega) (by omega) (fun i _ _ => by omega)) (k _ (by omega) (by omega) (fun i _ _ => by omega)))]
    congr 1
    unfold lockWt fstR sndR
    rw [ef, es]
  have i2 : inKy w = inKy v := inKy_cong (k _ (by omega) (by omega) (fun i _ _ => by omega)) (fun q _ => keyWt_cong (k _ (by omega) (by omega) (fun i _ _ => by omega)) (k _ (by omega) (by omega) (fun i _ _ => by omega)) (k _ (by omega) (by omega) (fun i _ _ => by omega)))
  obtain ⟨g1, g2⟩ := hL
  refine ⟨⟨by rw [i2]; omega, fun q hq => ?_⟩, e6, by omega, e8, e4, ef, es, et⟩
  rw [k _ (by omega) (by omega) (fun i _ _ => by omega), k _ (by omega) (by omega) (fun i _ _ => by omega)]
  exact g2 q (by omega)
theorem t_cut {v : Nat → Nat} (hok : okR v) (hL : Led v) {d f s : Nat} (hf : f < 10000) (hs : s < 10000) {X : Int × (Nat → Nat)} (hX : X = sCut v ((d : Nat) : Int) ((f : Nat) : Int) ((s : Nat) : Int)) : Led X.2 ∧ X.2 6 = v 6 ∧
    ((v 4 ≤ d ∧ X.1 = -1 ∧ X.2 = v) ∨ (d < v 4 ∧ v 7 + lockWt v d < lossW (lockWt v d) (v 1) + lockW f s ∧ X.1 = -5 ∧ X.2 = v) ∨
      (d < v 4 ∧ X.1 = ((X.2 7 : Nat) : Int) ∧ X.2 7 + lossW (lockWt v d) (v 1) + lockW f s = v 7 + lockWt v d ∧ X.2 8 = v 8 + lossW (lockWt v d) (v 1) ∧ X.2 4 = v 4 ∧ X.2 (20 + 6 * d + 2) = f ∧ X.2 (20 + 6 * d + 3) = s ∧ X.2 (20 + 6 * d + 4) = v (20 + 6 * d + 4) + 1)) := by
  have hlw := lockW_le (fstR v d) (sndR v d)
  have hls := lossW_le (w := lockWt v d) (l := v 1) (by unfold lockWt; omega) hok.2.1
  have hgv : givW v d = lockWt v d - lossW (lockWt v d) (v 1) := rfl
  unfold sCut at hX
  by_cases e : d < v 4
  · rw [if_pos (by omega), if_pos (by omega)] at hX
    simp only [Int.toNat_natCast] at hX
    by_cases e7 : v 7 + givW v d < lockW f s
    · rw [if_pos e7] at hX
      subst hX; exact ⟨hL, rfl, Or.inr (Or.inl ⟨e, by omega, rfl, rfl⟩)⟩
    · rw [if_neg e7] at hX
      subst hX
      obtain ⟨q1, q2, q3⟩ := led_C hok hL e (by omega) (w := rowC v d f s) rfl
      refine ⟨q1, q2, Or.inr (Or.inr ⟨e, ?_, q3⟩)⟩
      show ((v 7 + givW v d - lockW f s : Nat) : Int) = ((rowC v d f s 7 : Nat) : Int)
      rw [rowC_7]
  · rw [if_neg (by omega)] at hX
    subst hX; exact ⟨hL, rfl, Or.inl ⟨by omega, rfl, rfl⟩⟩
theorem led_K {v : Nat → Nat} (hok : okR v) (hL : Led v) {c r : Nat} (h5 : v 5 < 16) (hr : r < 8) {w : Nat → Nat} (hw : w = rowK v c r) : Led w ∧ w 6 = v 6 + v 2 ∧ w 5 = v 5 + 1 ∧ w (80 + 4 * v 5) = c ∧ keyWt w (v 5) + sumD c = v 2 ∧ w (80 + 4 * v 5 + 2) = r ∧ w 7 = v 7 + sumD c ∧ w 2 = v 2 ∧ w 0 = v 0 := by
  have h10 := hok.2.2.2.2.1
  have h2 := hok.2.2.1
  have hsd := sumD_le c
  have k : ∀ j, ¬ j = 5 → ¬ j = 6 → ¬ j = 7 → (j < 80 + 4 * v 5 ∨ 80 + 4 * v 5 + 2 < j) → w j = v j := fun j a b c d => by
    rw [hw]; unfold rowK
    rw [va_up_off a, va_up_off c, va_up_off b, va_up_off (by omega), va_up_off (by omega), va_up_off (by omega)]
  have e5 : w 5 = v 5 + 1 := by rw [hw]; unfold rowK; rw [va_up_at]
  have e7 : w 7 = v 7 + sumD c := by rw [hw]; unfold rowK; rw [va_up_off (by omega), va_up_at]
  have e6 : w 6 = v 6 + v 2 := by rw [hw]; unfold rowK; rw [va_up_off (by omega), va_up_off (by omega), va_up_at]
  have er : w (80 + 4 * v 5 + 2) = r := by rw [hw]; unfold rowK; rw [va_up_off (by omega), va_up_off (by omega), va_up_off (by omega), va_up_at]
  have eb : w (80 + 4 * v 5 + 1) = v 2 := by rw [hw]; unfold rowK; rw [va_up_off (by omega), va_up_off (by omega), va_up_off (by omega), va_up_off (by omega), va_up_at]
  have ec : w (80 + 4 * v 5) = c := by rw [hw]; unfold rowK; rw [va_up_off (by omega), va_up_off (by omega), va_up_off (by omega), va_up_off (by omega), va_up_off (by omega), va_up_at]
  have e2 := k 2 (by omega) (by omega) (by omega) (by omega)
  have e4 := k 4 (by omega) (by omega) (by omega) (by omega)
  have e8 := k 8 (by omega) (by omega) (by omega) (by omega)
  have ek : keyWt w (v 5) = v 2 - sumD c := by
    unfold keyWt whrR cutR
    rw [er, eb, ec, if_neg (by omega)]
  have i1 : inLk w = inLk v := inLk_cong e4 (fun d hd => ⟨k _ (by omega) (by omega) (by omega) (by omega), k _ (by omega) (by omega) (by omega) (by omega)⟩)
  have i2 : inKy w = inKy v + keyWt w (v 5) := by
    unfold inKy
    rw [e5, sumN, sumN_cong (fun q hq => keyWt_cong (v := v) (v1 := w) (k _ (by omega) (by omega) (by omega) (by omega)) (k _ (by omega) (by omega) (by omega) (by omega)) (k _ (by omega) (by omega) (by omega) (by omega)))]
  obtain ⟨g1, g2⟩ := hL
  refine ⟨⟨by rw [i1, i2]; omega, fun d hd => ?_⟩, e6, e5, ec, by omega, er, e7, e2, k 0 (by omega) (by omega) (by omega) (by omega)⟩
  rw [k _ (by omega) (by omega) (by omega) (by omega), k _ (by omega) (by omega) (by omega) (by omega)]
  exact g2 d (by omega)
theorem t_key {v : Nat → Nat} (hok : okR v) (hL : Led v) {c r : Nat} (hc : c < 10000) (hr : r < 8) {X : Int × (Nat → Nat)} (hX : X = sKey v ((c : Nat) : Int) ((r : Nat) : Int)) : Led X.2 ∧ X.2 6 ≤ v 6 + 90 ∧
    ((v 5 = 16 ∧ X.1 = -4 ∧ X.2 = v) ∨ (v 5 < 16 ∧ canK (v 0) c = false ∧ X.1 = -5 ∧ X.2 = v) ∨
      (v 5 < 16 ∧ canK (v 0) c = true ∧ X.1 = ((v 5 : Nat) : Int) ∧ X.2 6 = v 6 + v 2 ∧ X.2 5 = v 5 + 1 ∧ X.2 (80 + 4 * v 5) = c ∧ keyWt X.2 (v 5) + sumD c = v 2 ∧ X.2 (80 + 4 * v 5 + 2) = r ∧ X.2 7 = v 7 + sumD c ∧ X.2 2 = v 2 ∧ X.2 0 = v 0)) := by
  have h16 := hok.2.2.2.2.2.1
  have h2 := hok.2.2.1
  unfold sKey at hX
  rw [if_pos (by omega)] at hX
  by_cases e : v 5 < 16
  · rw [if_pos e] at hX
    simp only [Int.toNat_natCast] at hX
    by_cases ec : canK (v 0) c = true
    · rw [if_pos ec] at hX
      subst hX
      obtain ⟨q1, q2, q3⟩ := led_K hok hL e hr (w := rowK v c r) (c := c) rfl
      exact ⟨q1, by show rowK v c r 6 ≤ v 6 + 90; omega, Or.inr (Or.inr ⟨e, ec, rfl, q2, q3⟩)⟩
    · rw [if_neg ec] at hX
      subst hX; exact ⟨hL, Nat.le_add_right _ _, Or.inr (Or.inl ⟨e, Bool.eq_false_iff.mpr ec, rfl, rfl⟩)⟩
  · rw [if_neg e] at hX
    subst hX; exact ⟨hL, Nat.le_add_right _ _, Or.inl ⟨by omega, rfl, rfl⟩⟩
theorem t_melt {v : Nat → Nat} (hok : okR v) (hL : Led v) {q : Nat} {X : Int × (Nat → Nat)} (hX : X = sMelt v ((q : Nat) : Int)) : Led X.2 ∧ X.2 6 = v 6 ∧
    ((v 5 ≤ q ∧ X.1 = -1 ∧ X.2 = v) ∨ (q < v 5 ∧ v (80 + 4 * q + 2) = 9 ∧ X.1 = -5 ∧ X.2 = v) ∨
      (q < v 5 ∧ ¬ v (80 + 4 * q + 2) = 9 ∧ X.1 = ((X.2 7 : Nat) : Int) ∧ X.2 7 + lossW (keyWt v q) (v 1) = v 7 + keyWt v q ∧ X.2 8 = v 8 + lossW (keyWt v q) (v 1) ∧ X.2 (80 + 4 * q + 2) = 9 ∧ X.2 5 = v 5)) := by
  have h10 := hok.2.2.2.2.1
  unfold sMelt at hX
  by_cases e : q < v 5
  · rw [if_pos (by omega)] at hX
    simp only [Int.toNat_natCast] at hX
    by_cases e9 : whrR v q = 9
    · rw [if_pos e9] at hX
      subst hX; exact ⟨hL, rfl, Or.inr (Or.inl ⟨e, e9, rfl, rfl⟩)⟩
    · rw [if_neg e9] at hX
      have hkl := keyWt_le hok e
      have hls := lossW_le (w := keyWt v q) (l := v 1) (by omega) hok.2.1
      obtain ⟨w, hw⟩ : ∃ w, w = rowM v q := ⟨_, rfl⟩
      rw [← hw] at hX
      have k : ∀ j, ¬ j = 8 → ¬ j = 7 → ¬ j = 80 + 4 * q + 2 → w j = v j := fun j a b c => by
        rw [hw]; unfold rowM
        rw [va_up_off c, va_up_off b, va_up_off a]
      have e7 : w 7 = v 7 + (keyWt v q - lossW (keyWt v q) (v 1)) := by rw [hw]; unfold rowM; rw [va_up_off (by omega), va_up_at]
      have e8 : w 8 = v 8 + lossW (keyWt v q) (v 1) := by rw [hw]; unfold rowM; rw [va_up_off (by omega), va_up_off (by omega), va_up_at]
      have er : w (80 + 4 * q + 2) = 9 := by rw [hw]; unfold rowM; rw [va_up_at]
      have e4 := k 4 (by omega) (by omega) (by omega)
      have e5 := k 5 (by omega) (by omega) (by omega)
      have e6 := k 6 (by omega) (by omega) (by omega)
      have i1 : inLk w = inLk v := inLk_cong e4 (fun d hd => ⟨k _ (by omega) (by omega) (by omega), k _ (by omega) (by omega) (by omega)⟩)
      have i2 : inKy w + keyWt v q = inKy v := by
        unfold inKy
        rw [e5, sumN_upd (f := keyWt v) (g := keyWt w) e (fun j hj hn => keyWt_cong (k _ (by omega) (by omega) (by omega)) (k _ (by omega) (by omega) (by omega)) (k _ (by omega) (by omega) (by omega)))]
        have : keyWt w q = 0 := by unfold keyWt whrR; rw [er, if_pos rfl]
        omega
      obtain ⟨g1, g2⟩ := hL
      subst hX
      refine ⟨⟨by show w 6 = inLk w + inKy w + w 7 + w 8; rw [i1]; omega, fun d hd => ?_⟩, e6, Or.inr (Or.inr ⟨e, e9, ?_, by show w 7 + _ = _; omega, e8, er, e5⟩)⟩
      · have hd : d < w 4 := hd
        show ¬ w (20 + 6 * d) = w (20 + 6 * d + 1)
        rw [k _ (by omega) (by omega) (by omega), k _ (by omega) (by omega) (by omega)]
        exact g2 d (by omega)
      · show ((v 7 + (keyWt v q - lossW (keyWt v q) (v 1)) : Nat) : Int) = ((w 7 : Nat) : Int)
        rw [e7]
  · rw [if_neg (by omega)] at hX
    subst hX; exact ⟨hL, rfl, Or.inl ⟨by omega, rfl, rfl⟩⟩
theorem keysAt_test (v : Nat → Nat) (p j : Nat) : (keysAt v p).testBit j = (decide (j < v 5) && decide (v (80 + 4 * j + 2) = p)) := by
  unfold keysAt
  rw [bitsF_test]
theorem t_move {v : Nat → Nat} (hok : okR v) (hL : Led v) {q a b : Nat} (ha : a < 9) (hb : b < 9) {X : Int × (Nat → Nat)} (hX : X = sMove v ((q : Nat) : Int) a b) : Led X.2 ∧ X.2 6 = v 6 ∧
    ((v 5 ≤ q ∧ X.1 = -1 ∧ X.2 = v) ∨ (q < v 5 ∧ ¬ v (80 + 4 * q + 2) = a ∧ X.1 = -5 ∧ X.2 = v) ∨
      (q < v 5 ∧ v (80 + 4 * q + 2) = a ∧ X.1 = ((keysAt X.2 8 : Nat) : Int) ∧ X.2 (80 + 4 * q + 2) = b ∧ X.2 5 = v 5 ∧ X.2 3 = v 3 ∧ ∀ j, (keysAt X.2 8).testBit j = if j = q then decide (b = 8) else (keysAt v 8).testBit j)) := by
  have h10 := hok.2.2.2.2.1
  unfold sMove at hX
  by_cases e : q < v 5
  · rw [if_pos (by omega)] at hX
    simp only [Int.toNat_natCast] at hX
    by_cases e9 : whrR v q = a
    · rw [if_pos e9] at hX
      obtain ⟨w, hw⟩ : ∃ w, w = va_up v (80 + 4 * q + 2) b := ⟨_, rfl⟩
      rw [← hw] at hX
      have k : ∀ j, ¬ j = 80 + 4 * q + 2 → w j = v j := fun j c => by rw [hw, va_up_off c]
      have er : w (80 + 4 * q + 2) = b := by rw [hw, va_up_at]
      have e5 := k 5 (by omega)
      subst hX
      refine ⟨Led.same hok hL (k _ (by omega)) e5 (fun j a b => k _ (by omega)) (fun j hj => ?_) (by show w 6 + v 7 + v 8 = v 6 + w 7 + w 8; rw [k 6 (by omega), k 7 (by omega), k 8 (by omega)]), k _ (by omega), Or.inr (Or.inr ⟨e, e9, rfl, er, e5, k _ (by omega), fun j => ?_⟩)⟩
      · by_cases ej : j = q
        · subst ej
          show keyWt w j = keyWt v j
          unfold keyWt whrR cutR
          unfold whrR at e9
          rw [er, e9, k _ (by omega), k _ (by omega), if_neg (by omega), if_neg (by omega)]
        · exact keyWt_cong (k _ (by omega)) (k _ (by omega)) (k _ (by omega))
      · show (keysAt w 8).testBit j = _
        rw [keysAt_test, e5]
        by_cases ej : j = q
        · subst ej
          rw [if_pos rfl, er, decide_eq_true e, Bool.true_and]
        · rw [if_neg ej, keysAt_test, k _ (by omega)]
    · rw [if_neg e9] at hX
      subst hX; exact ⟨hL, rfl, Or.inr (Or.inl ⟨e, e9, rfl, rfl⟩)⟩
  · rw [if_neg (by omega)] at hX
    subst hX; exact ⟨hL, rfl, Or.inl ⟨by omega, rfl, rfl⟩⟩
theorem take_or {v w : Nat → Nat} {q : Nat} (h : ∀ j, (keysAt w 8).testBit j = if j = q then decide (8 = 8) else (keysAt v 8).testBit j) : keysAt w 8 = keysAt v 8 ||| 2 ^ q := by
  apply Nat.eq_of_testBit_eq
  intro j
  rw [h, or_bit]
  by_cases e : j = q
  · subst e; rw [if_pos rfl, decide_eq_true rfl, decide_eq_true rfl, Bool.or_true]
  · rw [if_neg e, decide_eq_false (fun x => e x.symm), Bool.or_false]
theorem put_and {v w : Nat → Nat} {q b : Nat} (hq : q < 16) (hb : ¬ b = 8) (h : ∀ j, (keysAt w 8).testBit j = if j = q then decide (b = 8) else (keysAt v 8).testBit j) : nI (keysAt v 8) &&& (nI (2 ^ q) ^^^ zI (-1)) = nI (keysAt w 8) := by
  apply Int32.toBitVec_inj.1
  show BitVec.ofNat 32 (keysAt v 8) &&& (BitVec.ofNat 32 (2 ^ q) ^^^ BitVec.allOnes 32) = BitVec.ofNat 32 (keysAt w 8)
  apply BitVec.eq_of_getLsbD_eq
  intro i hi
  simp only [BitVec.getLsbD_and, BitVec.getLsbD_xor, BitVec.getLsbD_ofNat, BitVec.getLsbD_allOnes, hi, decide_true, Bool.true_and]
  rw [h, Nat.testBit_two_pow]
  by_cases e : i = q
  · subst e; rw [if_pos rfl, decide_eq_true rfl, decide_eq_false hb]; simp
  · rw [if_neg e, decide_eq_false (fun x => e x.symm)]; simp
theorem ks_0 (v : Nat → Nat) : ksOf v 0 = keysAt v 8 := by
  unfold ksOf
  have h : ∀ n, ksF v 0 n = keysAt v 8 := by
    intro n
    induction n with
    | zero => rfl
    | succ n ih => rw [ksF, ih, if_neg (by rw [Nat.zero_testBit]; decide), Nat.or_zero]
  exact h 8
theorem opn_iff {v : Nat → Nat} {d : Nat} : opnBy v d (keysAt v 8) = true ↔ ¬ keysAt v 8 &&& keysFor v d = 0 := by
  have h := keys_iff (v := v) (d := d) (rm := 0)
  rw [ks_0] at h
  rw [h, Nat.and_comm]
theorem t_go {v : Nat → Nat} (hok : okR v) (hL : Led v) {d : Nat} {X : Int × (Nat → Nat)} (hX : X = sGo v ((d : Nat) : Int)) : Led X.2 ∧ X.2 6 = v 6 ∧
    ((v 4 ≤ d ∧ X.1 = -1 ∧ X.2 = v) ∨ (d < v 4 ∧ ¬ ((v (20 + 6 * d) = v 3 ∨ v (20 + 6 * d + 1) = v 3) ∧ ¬ keysAt v 8 &&& keysFor v d = 0) ∧ X.1 = -5 ∧ X.2 = v) ∨
      (d < v 4 ∧ (v (20 + 6 * d) = v 3 ∨ v (20 + 6 * d + 1) = v 3) ∧ ¬ keysAt v 8 &&& keysFor v d = 0 ∧ X.1 = ((X.2 3 : Nat) : Int) ∧ X.2 3 + v 3 = v (20 + 6 * d) + v (20 + 6 * d + 1) ∧ X.2 10 = v 10 + 1)) := by
  unfold sGo at hX
  by_cases e : d < v 4
  · rw [if_pos (by omega)] at hX
    simp only [Int.toNat_natCast] at hX
    by_cases ec : 0 ≤ behR v d (v 3) ∧ opnBy v d (keysAt v 8) = true
    · rw [if_pos ec] at hX
      obtain ⟨w, hw⟩ : ∃ w, w = va_up (va_up v 3 (behR v d (v 3)).toNat) 10 (v 10 + 1) := ⟨_, rfl⟩
      rw [← hw] at hX
      have k : ∀ j, ¬ j = 3 → ¬ j = 10 → w j = v j := fun j a b => by rw [hw, va_up_off b, va_up_off a]
      have e3 : w 3 = (behR v d (v 3)).toNat := by rw [hw, va_up_off (by omega), va_up_at]
      have e10 : w 10 = v 10 + 1 := by rw [hw, va_up_at]
      have hb : (v (20 + 6 * d) = v 3 ∨ v (20 + 6 * d + 1) = v 3) ∧ w 3 + v 3 = v (20 + 6 * d) + v (20 + 6 * d + 1) := by
        have h0 := ec.1
        rw [e3]
        unfold behR at h0 ⊢
        by_cases x1 : v (20 + 6 * d) = v 3
        · rw [if_pos x1]; omega
        · rw [if_neg x1] at h0 ⊢
          by_cases x2 : v (20 + 6 * d + 1) = v 3
          · rw [if_pos x2]; omega
          · rw [if_neg x2] at h0; omega
      subst hX
      refine ⟨Led.same hok hL (k _ (by omega) (by omega)) (k _ (by omega) (by omega)) (fun j a b => k _ (by omega) (by omega)) (fun q _ => keyWt_cong (k _ (by omega) (by omega)) (k _ (by omega) (by omega)) (k _ (by omega) (by omega))) (by show w 6 + v 7 + v 8 = v 6 + w 7 + w 8; rw [k 6 (by omega) (by omega), k 7 (by omega) (by omega), k 8 (by omega) (by omega)]), k _ (by omega) (by omega), Or.inr (Or.inr ⟨e, hb.1, opn_iff.mp ec.2, ?_, hb.2, e10⟩)⟩
      show behR v d (v 3) = ((w 3 : Nat) : Int)
      rw [e3]; omega
    · rw [if_neg ec] at hX
      subst hX
      refine ⟨hL, rfl, Or.inr (Or.inl ⟨e, fun q => ec ⟨?_, opn_iff.mpr q.2⟩, rfl, rfl⟩)⟩
      unfold behR
      by_cases x1 : v (20 + 6 * d) = v 3
      · rw [if_pos x1]; omega
      · rw [if_neg x1, if_pos (q.1.resolve_left x1)]; omega
  · rw [if_neg (by omega)] at hX
    subst hX; exact ⟨hL, rfl, Or.inl ⟨by omega, rfl, rfl⟩⟩
theorem t_plan {v : Nat → Nat} (hok : okR v) (hL : Led v) {d f s : Nat} (hf : f < 10000) (hs : s < 10000) {X : Int × (Nat → Nat)} (hX : X = sPlan v ((d : Nat) : Int) ((f : Nat) : Int) ((s : Nat) : Int)) : Led X.2 ∧ X.2 6 = v 6 ∧
    ((v 4 ≤ d ∧ X.1 = -1 ∧ X.2 = v) ∨ (d < v 4 ∧ v 9 = 6 ∧ X.1 = -4 ∧ X.2 = v) ∨ (d < v 4 ∧ v 9 < 6 ∧ 0 ≤ plcO v d ∧ X.1 = -5 ∧ X.2 = v) ∨
      (d < v 4 ∧ v 9 < 6 ∧ plcO v d < 0 ∧ X.1 = ((v 9 + 1 : Nat) : Int) ∧ X.2 9 = v 9 + 1 ∧ plcO X.2 d = ((v 9 : Nat) : Int) ∧ X.2 4 = v 4)) := by
  have h10 := hok.2.2.2.2.1
  have h9 := hok.2.2.2.2.2.2.1
  unfold sPlan at hX
  by_cases e : d < v 4
  · rw [if_pos (by omega), if_pos (by omega)] at hX
    simp only [Int.toNat_natCast] at hX
    by_cases e9 : v 9 < 6
    · rw [if_pos e9] at hX
      by_cases ep : 0 ≤ plcO v d
      · rw [if_pos ep] at hX
        subst hX; exact ⟨hL, rfl, Or.inr (Or.inr (Or.inl ⟨e, e9, ep, rfl, rfl⟩))⟩
      · rw [if_neg ep] at hX
        obtain ⟨w, hw⟩ : ∃ w, w = rowP v d f s := ⟨_, rfl⟩
        rw [← hw] at hX
        have k : ∀ j, ¬ j = 9 → j < 150 → w j = v j := fun j a b => by
          rw [hw]; unfold rowP
          rw [va_up_off a, va_up_off (by omega), va_up_off (by omega), va_up_off (by omega)]
        have e1 : w 9 = v 9 + 1 := by rw [hw]; unfold rowP; rw [va_up_at]
        have e2 : w (150 + 3 * v 9) = d := by rw [hw]; unfold rowP; rw [va_up_off (by omega), va_up_off (by omega), va_up_off (by omega), va_up_at]
        have h16 := hok.2.2.2.2.2.1
        subst hX
        refine ⟨Led.same hok hL (k _ (by omega) (by omega)) (k _ (by omega) (by omega)) (fun j a b => k _ (by omega) (by omega)) (fun q hq => keyWt_cong (k _ (by omega) (by omega)) (k _ (by omega) (by omega)) (k _ (by omega) (by omega))) (by show w 6 + v 7 + v 8 = v 6 + w 7 + w 8; rw [k 6 (by omega) (by omega), k 7 (by omega) (by omega), k 8 (by omega) (by omega)]), k _ (by omega) (by omega), Or.inr (Or.inr (Or.inr ⟨e, e9, by omega, rfl, e1, ?_, k _ (by omega) (by omega)⟩))⟩
        show plcO w d = _
        unfold plcO
        rw [e1, plcF, if_pos e2]
    · rw [if_neg e9] at hX
      subst hX; exact ⟨hL, rfl, Or.inr (Or.inl ⟨e, by omega, rfl, rfl⟩)⟩
  · rw [if_neg (by omega)] at hX
    subst hX; exact ⟨hL, rfl, Or.inl ⟨by omega, rfl, rfl⟩⟩
theorem led_N {v : Nat → Nat} (hok : okR v) (hL : Led v) : Led (va_up v 9 0) := by
  have k : ∀ j, ¬ j = 9 → va_up v 9 0 j = v j := fun j a => va_up_off a
  exact Led.same hok hL (k _ (by omega)) (k _ (by omega)) (fun j a b => k _ (by omega)) (fun q hq => keyWt_cong (k _ (by omega)) (k _ (by omega)) (k _ (by omega))) (by rw [k 6 (by omega), k 7 (by omega), k 8 (by omega)])
theorem led_cp {v : Nat → Nat} (hok : okR v) (hL : Led v) (ho : 0 < oC v (v 9) 0) (k : Nat) : k ≤ v 9 → Led (cpR v k) ∧ cpR v k 6 = v 6 := by
  induction k with
  | zero => intro _; exact ⟨hL, rfl⟩
  | succ k ih =>
    intro hk
    obtain ⟨h1, h2⟩ := ih (by omega)
    obtain ⟨p, p1, _⟩ := ln_ok v ho k (by omega)
    obtain ⟨_, c2, _, _, c5, _⟩ := cp_cut v hok ho (by omega) p1
    rw [cp_succ p1]
    obtain ⟨q1, q2, _⟩ := led_C (cp_inv v hok ho k (by omega)).1 h1 c2 c5 rfl
    exact ⟨q1, q2.trans h2⟩
theorem t_carry {v : Nat → Nat} (hok : okR v) (hL : Led v) {X : Int × (Nat → Nat)} (hX : X = sCarryP v) : Led X.2 ∧ X.2 6 = v 6 ∧
    (((v 9 = 0 ∨ oC v (v 9) 0 = 0) ∧ X.1 = -5 ∧ X.2 = v) ∨ (¬ v 9 = 0 ∧ ¬ oC v (v 9) 0 = 0 ∧ X.1 = ((X.2 7 : Nat) : Int) ∧ X.2 9 = 0)) := by
  unfold sCarryP at hX
  by_cases e : v 9 = 0 ∨ oC v (v 9) 0 = 0
  · rw [if_pos e] at hX
    subst hX; exact ⟨hL, rfl, Or.inl ⟨e, rfl, rfl⟩⟩
  · rw [if_neg e] at hX
    subst hX
    obtain ⟨h1, h2⟩ := led_cp hok hL (by omega) (v 9) (Nat.le_refl _)
    refine ⟨led_N (cp_inv v hok (by omega) (v 9) (Nat.le_refl _)).1 h1, ?_, Or.inr ⟨by omega, by omega, ?_, by show va_up (cpR v (v 9)) 9 0 9 = 0; exact va_up_at _ _ _⟩⟩
    · show va_up (cpR v (v 9)) 9 0 6 = v 6
      rw [va_up_off (by omega)]; exact h2
    · show ((cpR v (v 9) 7 : Nat) : Int) = ((va_up (cpR v (v 9)) 9 0 7 : Nat) : Int)
      rw [va_up_off (by omega)]
theorem t_drop {v : Nat → Nat} (hok : okR v) (hL : Led v) {X : Int × (Nat → Nat)} (hX : X = sDrop v) : Led X.2 ∧ X.2 6 = v 6 ∧ X.1 = ((v 9 : Nat) : Int) ∧ X.2 9 = 0 := by
  subst hX
  refine ⟨led_N hok hL, ?_, rfl, by show va_up v 9 0 9 = 0; exact va_up_at _ _ _⟩
  show va_up v 9 0 6 = v 6
  rw [va_up_off (by omega)]
theorem t_sett {v : Nat → Nat} (hok : okR v) (hL : Led v) (s x : Int) {X : Int × (Nat → Nat)} (hX : X = sSet v s x) : Led X.2 ∧ X.2 6 = v 6 := by
  have key : X.2 = v ∨ (s.toNat < 3 ∧ X.2 = va_up v s.toNat x.toNat) := by
    rw [hX]
    unfold sSet
    by_cases hs : 0 ≤ s ∧ s ≤ 2
    · rw [if_pos hs]
      by_cases hc : (if s = 0 then 1 else if s = 1 then 0 else 40 : Int) ≤ x ∧ x ≤ (if s = 0 then 9 else if s = 1 then 50 else 90 : Int)
      · rw [if_pos hc]; exact Or.inr ⟨by omega, rfl⟩
      · rw [if_neg hc]; exact Or.inl rfl
    · rw [if_neg hs]; exact Or.inl rfl
  rcases key with e | ⟨hs, e⟩
  · rw [e]; exact ⟨hL, rfl⟩
  · rw [e]
    have k : ∀ j, ¬ j < 3 → va_up v s.toNat x.toNat j = v j := fun j a => va_up_off (by omega)
    exact ⟨Led.same hok hL (k _ (by omega)) (k _ (by omega)) (fun j a b => k _ (by omega)) (fun q hq => keyWt_cong (k _ (by omega)) (k _ (by omega)) (k _ (by omega))) (by rw [k 6 (by omega), k 7 (by omega), k 8 (by omega)]), k _ (by omega)⟩
