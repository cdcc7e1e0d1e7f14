/-! ===== a door that can be gone through is in reach, and its other side is one door away ===== -/
theorem t_reach {v : Nat → Nat} (hok : okR v) {d t : Nat} (hd : d < v 4) (hr : v (20 + 6 * d) = v 3 ∨ v (20 + 6 * d + 1) = v 3) (hk : ¬ keysAt v 8 &&& keysFor v d = 0) (ht : t + v 3 = v (20 + 6 * d) + v (20 + 6 * d + 1)) : (sReach v).testBit t = true := by
  have hdo := hok.2.2.2.2.2.2.2.1
  have hb : ∀ d, d < v 4 → bothR v d < 256 := fun d hd => bothR_lt (hdo d hd).1 (hdo d hd).2.1
  have hcl := rcC_stop (v := v) (r := v 3) hb hok.2.2.2.1
  have hbt : ∀ i, (bothR v d).testBit i = true ↔ v (20 + 6 * d) = i ∨ v (20 + 6 * d + 1) = i := fun i => by
    unfold bothR
    rw [Nat.testBit_or, Nat.testBit_two_pow, Nat.testBit_two_pow, Bool.or_eq_true, decide_eq_true_eq, decide_eq_true_eq]
  have hg : goesR v (2 ^ v 3) d = true := by
    unfold goesR
    rw [Bool.and_eq_true, decide_eq_true_eq, meet_iff]
    refine ⟨⟨v 3, by rw [Nat.testBit_two_pow, decide_eq_true rfl], (hbt _).mpr hr⟩, ?_⟩
    have h0 := opn_iff.mpr hk
    rw [← ks_0] at h0
    exact opnBy_mono (ks_mono (sbs_0 _)) h0
  exact hcl d hd (goes_mono (rcC_has v _ 8) hg) t ((hbt t).mpr (by omega))
/-- all that was reached stands in the queue -/
def QIn (s : BfT) : Prop := ∀ x, 0 ≤ s.2.2 x → ∃ j, j < s.2.1 ∧ s.1 j = x
theorem QIn.step {s : BfT} (h : QIn s) (x : Nat) (e : Int) : QIn (bfE s x e) := by
  unfold bfE
  by_cases hf : s.2.2 x < 0
  · rw [if_pos hf]
    intro y hy
    have hy : 0 ≤ fI_up s.2.2 x e y := hy
    show ∃ j, j < s.2.1 + 1 ∧ va_up s.1 s.2.1 x j = y
    by_cases ey : y = x
    · exact ⟨s.2.1, by omega, by rw [va_up_at]; exact ey.symm⟩
    · rw [fI_off ey] at hy
      obtain ⟨j, h1, h2⟩ := h y hy
      exact ⟨j, by omega, by rw [va_up_off (by omega)]; exact h2⟩
  · rw [if_neg hf]; exact h
theorem QIn.all {v : Nat → Nat} {a : Nat} {s : BfT} (h : QIn s) (n : Nat) : QIn (bfD v a s n) := by
  induction n with
  | zero => exact h
  | succ n ih =>
    rw [bfD, bfS]
    by_cases hg : bfGo v a n = true
    · rw [if_pos hg]; exact ih.step _ _
    · rw [if_neg hg]; exact ih
theorem bfE_has {s : BfT} {x : Nat} {e : Int} (he : 0 ≤ e) : 0 ≤ (bfE s x e).2.2 x := by
  unfold bfE
  by_cases hf : s.2.2 x < 0
  · rw [if_pos hf]; show 0 ≤ fI_up s.2.2 x e x; rw [fI_at]; exact he
  · rw [if_neg hf]; omega
theorem bfE_keep {s : BfT} {x y : Nat} {e : Int} (h : 0 ≤ s.2.2 y) : 0 ≤ (bfE s x e).2.2 y := by
  unfold bfE
  by_cases hf : s.2.2 x < 0
  · rw [if_pos hf]; show 0 ≤ fI_up s.2.2 x e y; rw [fI_off (fun q => by subst q; omega)]; exact h
  · rw [if_neg hf]; exact h
theorem bfD_has {v : Nat → Nat} {a : Nat} {s : BfT} (hI : BInv s) (ha : a < 2048) (h0 : 0 ≤ s.2.2 a) (hdo : ∀ d, d < v 4 → v (20 + 6 * d) < 8 ∧ v (20 + 6 * d + 1) < 8) {d : Nat} (hg : bfGo v a d = true) (n : Nat) : d < n → n ≤ v 4 → 0 ≤ (bfD v a s n).2.2 (nxS v a d) := by
  induction n with
  | zero => intro h; exact absurd h (Nat.not_lt_zero _)
  | succ n ih =>
    intro hd hn
    obtain ⟨h1, h2⟩ := bfD_all hI ha h0 hdo n (by omega)
    have h3 := h2.2.2.1 a h0
    rw [bfD, bfS]
    by_cases e : d = n
    · subst e
      rw [if_pos hg]; exact bfE_has (by omega)
    · by_cases hg2 : bfGo v a n = true
      · rw [if_pos hg2]; exact bfE_keep (ih (by omega) (by omega))
      · rw [if_neg hg2]; exact ih (by omega) (by omega)
theorem bf_hit {v : Nat → Nat} {t j : Nat} (hdo : ∀ d, d < v 4 → v (20 + 6 * d) < 8 ∧ v (20 + 6 * d + 1) < 8) (m n : Nat) : ∀ (h : Nat) (s : BfT), BInv s → h + n = j → j < s.2.1 → s.1 j % 8 = t → (∀ i, h ≤ i → i ≤ j → s.2.2 (s.1 i) = 1) → bfR v t (m + n + 1) h s = 1 := by
  induction n with
  | zero =>
    intro h s hI e hj ht h1
    have e : h = j := e
    subst e
    rw [Nat.add_zero, bfR, if_pos hj, if_pos ht]; exact h1 _ (Nat.le_refl _) (Nat.le_refl _)
  | succ n ih =>
    intro h s hI e hj ht h1
    rw [← Nat.add_assoc, bfR, if_pos (by omega)]
    by_cases e8 : s.1 h % 8 = t
    · rw [if_pos e8]; exact h1 h (Nat.le_refl _) (by omega)
    · rw [if_neg e8]
      have hb := hI.2.1 h (by omega)
      obtain ⟨g1, g2⟩ := bfD_all hI hb.1 hb.2 hdo (v 4) (Nat.le_refl _)
      refine ih (h + 1) _ g1 (by omega) (Nat.lt_of_lt_of_le hj g2.1) (by rw [g2.2.1 j hj]; exact ht) (fun i i1 i2 => ?_)
      have h2 := h1 i (by omega) i2
      rw [g2.2.1 i (by omega), g2.2.2.1 _ (by omega)]; exact h2
theorem t_doorsTo {v : Nat → Nat} (hok : okR v) (hL : Led v) {d t : Nat} (hd : d < v 4) (hr : v (20 + 6 * d) = v 3 ∨ v (20 + 6 * d + 1) = v 3) (hk : ¬ keysAt v 8 &&& keysFor v d = 0) (ht : t + v 3 = v (20 + 6 * d) + v (20 + 6 * d + 1)) : sDoorsTo v ((t : Nat) : Int) = 1 := by
  have hdo : ∀ d, d < v 4 → v (20 + 6 * d) < 8 ∧ v (20 + 6 * d + 1) < 8 := fun d hd => ⟨(hok.2.2.2.2.2.2.2.1 d hd).1, (hok.2.2.2.2.2.2.2.1 d hd).2.1⟩
  have hd8 := hdo d hd
  have hne := hL.2 d hd
  have h3 := hok.2.2.2.1
  have ht8 : t < 8 := by omega
  have htr : ¬ t = v 3 := by omega
  have hp : 2 ^ v 3 < 256 := Nat.pow_lt_pow_right (by decide) h3
  obtain ⟨a, ha⟩ : ∃ a, a = 8 * 2 ^ v 3 + v 3 := ⟨_, rfl⟩
  have ha8 : a % 8 = v 3 := by omega
  have hd8' : a / 8 = 2 ^ v 3 := by omega
  have haL : a < 2048 := by omega
  have hI0 : BInv (bf0 (v 3)) := by
    unfold bf0; rw [← ha]
    exact BInv.zero.step haL ⟨Int.le_refl _, by show (0 : Int) ≤ ((0 : Nat) : Int); omega⟩
  have q0 : QIn (bf0 (v 3)) := by
    unfold bf0
    refine QIn.step (fun x hx => ?_) _ _
    have hx : (0 : Int) ≤ -6 := hx
    omega
  have e00 : bf0 (v 3) = (va_up bf00.1 0 a, 1, fI_up bf00.2.2 a 0) := by
    unfold bf0 bfE; rw [← ha]
    exact if_pos (by show (-6 : Int) < 0; omega)
  have z1 : (bf0 (v 3)).2.1 = 1 := by rw [e00]
  have z0 : (bf0 (v 3)).1 0 = a := by rw [e00]; show va_up bf00.1 0 a 0 = a; exact va_up_at _ _ _
  have zd : (bf0 (v 3)).2.2 a = 0 := by rw [e00]; exact fI_at _ _ _
  have hbe : behR v d (a % 8) = ((t : Nat) : Int) := by
    rw [ha8]; unfold behR
    by_cases x1 : v (20 + 6 * d) = v 3
    · rw [if_pos x1]; omega
    · rw [if_neg x1, if_pos (hr.resolve_left x1)]; omega
  have hgo : bfGo v a d = true := by
    unfold bfGo
    rw [Bool.and_eq_true, decide_eq_true_eq, hbe]
    refine ⟨by omega, ?_⟩
    have h0 := opn_iff.mpr hk
    rw [← ks_0] at h0
    exact opnBy_mono (ks_mono (sbs_0 _)) h0
  have hnx : nxS v a d % 8 = t := by
    unfold nxS
    rw [hbe, Int.toNat_natCast]; omega
  obtain ⟨g1, g2⟩ := bfD_all hI0 haL (by rw [zd]; omega) hdo (v 4) (Nat.le_refl _)
  have g3 := bfD_has hI0 haL (by rw [zd]; omega) hdo hgo (v 4) hd (Nat.le_refl _)
  obtain ⟨j, j1, j2⟩ := q0.all (v := v) (a := a) (v 4) _ g3
  have j0 : 1 ≤ j := by
    apply Decidable.byContradiction
    intro q
    have e : j = 0 := by omega
    subst e
    rw [g2.2.1 0 (by rw [z1]; omega), z0] at j2
    rw [← j2, ha8] at hnx
    exact htr hnx.symm
  have jl := g1.le
  unfold sDoorsTo
  rw [if_pos (by omega), Int.toNat_natCast, show 2049 = 2048 + 1 from rfl, bfR, if_pos (by rw [z1]; omega), z0, if_neg (by rw [ha8]; exact fun q => htr q.symm), show 2048 = (2048 - j) + (j - 1) + 1 by omega]
  refine bf_hit (j := j) hdo (2048 - j) (j - 1) (0 + 1) _ g1 (by omega) j1 (by rw [j2]; exact hnx) (fun i i1 i2 => ?_)
  have h9 := g2.2.2.2 i (by rw [z1]; omega) (by omega)
  rw [h9, zd]; rfl
