/-! ===== as in whole: copy ===== -/
def PPR (τ σ : Nat → Nat → Int32) (h : Nat) (v : Nat → Nat) (p : Nat) : Prop := (∀ q, q < p → τ (h + 5) q = nI (v (150 + 3 * q)) ∧ τ (h + 6) q = nI (v (150 + 3 * q + 1)) ∧ τ (h + 7) q = nI (v (150 + 3 * q + 2))) ∧ ∀ q, (q < h + 4 ∨ h + 8 ≤ q) → τ q = σ q
theorem PPR.zero {σ : Nat → Nat → Int32} {h : Nat} {v : Nat → Nat} : PPR σ σ h v 0 := ⟨fun q hq => absurd hq (Nat.not_lt_zero q), fun _ _ => rfl⟩
theorem PPR.step {τ σ : Nat → Nat → Int32} {h : Nat} {v : Nat → Nat} {p : Nat} (H : PPR τ σ h v p) : PPR (s2 (s2 (s2 τ (h + 5) p (nI (v (150 + 3 * p)))) (h + 6) p (nI (v (150 + 3 * p + 1)))) (h + 7) p (nI (v (150 + 3 * p + 2)))) σ h v (p + 1) := by
  refine ⟨fun q hq => ?_, fun q hq => ?_⟩
  · by_cases e : q = p
    · subst e
      exact ⟨by rw [s2_na (by omega), s2_na (by omega), s2_same], by rw [s2_na (by omega), s2_same], by rw [s2_same]⟩
    · obtain ⟨a, b, c⟩ := H.1 q (by omega)
      exact ⟨by rw [s2_na (by omega), s2_na (by omega), s2_nk e]; exact a, by rw [s2_na (by omega), s2_nk e, s2_na (by omega)]; exact b, by rw [s2_nk e, s2_na (by omega), s2_na (by omega)]; exact c⟩
  · rw [s2_ne (by omega), s2_ne (by omega), s2_ne (by omega)]; exact H.2 q hq
/-- the whole copy: a settings, b doors, c keys, p cuts of the plan -/
def CPY (τ σ : Nat → Nat → Int32) (h : Nat) (v : Nat → Nat) (a b c p : Nat) : Prop := (∀ j, j < a → τ (h + 1) j = nI (v j)) ∧ (∀ d, d < b → ∀ j, j < 5 → τ (h + 8 + d) j = nI (v (20 + 6 * d + j))) ∧
  (∀ k, k < c → τ (h + 18 + k) 0 = nI (v (80 + 4 * k)) ∧ τ (h + 18 + k) 1 = nI (keyWt v k) ∧ τ (h + 18 + k) 2 = nI (v (80 + 4 * k + 2))) ∧
  (∀ q, q < p → τ (h + 5) q = nI (v (150 + 3 * q)) ∧ τ (h + 6) q = nI (v (150 + 3 * q + 1)) ∧ τ (h + 7) q = nI (v (150 + 3 * q + 2))) ∧ ∀ q, (q < h ∨ h + 34 ≤ q) → τ q = σ q
section CPYs
variable {τ σ : Nat → Nat → Int32} {h : Nat} {v : Nat → Nat} {a b c p : Nat}
theorem CPY.zero : CPY σ σ h v 0 0 0 0 := ⟨fun _ hq => absurd hq (Nat.not_lt_zero _), fun _ hq => absurd hq (Nat.not_lt_zero _), fun _ hq => absurd hq (Nat.not_lt_zero _), fun _ hq => absurd hq (Nat.not_lt_zero _), fun _ _ => rfl⟩
theorem CPY.set (H : CPY τ σ h v a 0 0 0) : CPY (s2 τ (h + 1) a (nI (v a))) σ h v (a + 1) 0 0 0 := by
  refine ⟨fun j hj => ?_, fun _ hq => absurd hq (Nat.not_lt_zero _), fun _ hq => absurd hq (Nat.not_lt_zero _), fun _ hq => absurd hq (Nat.not_lt_zero _), fun q hq => ?_⟩
  · by_cases e : j = a
    · subst e; rw [s2_same]
    · rw [s2_nk e]; exact H.1 j (by omega)
  · rw [s2_ne (by omega)]; exact H.2.2.2.2 q hq
theorem CPY.door (H : CPY τ σ h v a b 0 0) : CPY (s2 (s2 (s2 (s2 (s2 τ (h + 8 + b) 0 (nI (v (20 + 6 * b)))) (h + 8 + b) 1 (nI (v (20 + 6 * b + 1)))) (h + 8 + b) 2 (nI (v (20 + 6 * b + 2)))) (h + 8 + b) 3 (nI (v (20 + 6 * b + 3)))) (h + 8 + b) 4 (nI (v (20 + 6 * b + 4)))) σ h v a (b + 1) 0 0 ∨ 10 ≤ b := by
  by_cases hb : b < 10
  · left
    refine ⟨fun j hj => ?_, fun d hd j hj => ?_, fun _ hq => absurd hq (Nat.not_lt_zero _), fun _ hq => absurd hq (Nat.not_lt_zero _), fun q hq => ?_⟩
    · rw [s2_na (by omega), s2_na (by omega), s2_na (by omega), s2_na (by omega), s2_na (by omega)]; exact H.1 j hj
    · by_cases e : d = b
      · subst e
        rcases (show j = 0 ∨ j = 1 ∨ j = 2 ∨ j = 3 ∨ j = 4 by omega) with rfl | rfl | rfl | rfl | rfl
        · rw [s2_nk (by decide), s2_nk (by decide), s2_nk (by decide), s2_nk (by decide), s2_same]; rfl
        · rw [s2_nk (by decide), s2_nk (by decide), s2_nk (by decide), s2_same]
        · rw [s2_nk (by decide), s2_nk (by decide), s2_same]
        · rw [s2_nk (by decide), s2_same]
        · rw [s2_same]
      · rw [s2_na (by omega), s2_na (by omega), s2_na (by omega), s2_na (by omega), s2_na (by omega)]; exact H.2.1 d (by omega) j hj
    · rw [s2_ne (by omega), s2_ne (by omega), s2_ne (by omega), s2_ne (by omega), s2_ne (by omega)]; exact H.2.2.2.2 q hq
  · right; omega
theorem CPY.key (H : CPY τ σ h v a b c 0) (hb : b ≤ 10) : CPY (s2 (s2 (s2 τ (h + 18 + c) 0 (nI (v (80 + 4 * c)))) (h + 18 + c) 1 (nI (keyWt v c))) (h + 18 + c) 2 (nI (v (80 + 4 * c + 2)))) σ h v a b (c + 1) 0 ∨ 16 ≤ c := by
  by_cases hc : c < 16
  · left
    refine ⟨fun j hj => ?_, fun d hd j hj => ?_, fun k hk => ?_, fun _ hq => absurd hq (Nat.not_lt_zero _), fun q hq => ?_⟩
    · rw [s2_na (by omega), s2_na (by omega), s2_na (by omega)]; exact H.1 j hj
    · rw [s2_na (by omega), s2_na (by omega), s2_na (by omega)]; exact H.2.1 d hd j hj
    · by_cases e : k = c
      · subst e
        exact ⟨by rw [s2_nk (by decide), s2_nk (by decide), s2_same], by rw [s2_nk (by decide), s2_same], by rw [s2_same]⟩
      · rw [s2_na (by omega), s2_na (by omega), s2_na (by omega), s2_na (by omega), s2_na (by omega), s2_na (by omega), s2_na (by omega), s2_na (by omega), s2_na (by omega)]; exact H.2.2.1 k (by omega)
    · rw [s2_ne (by omega), s2_ne (by omega), s2_ne (by omega)]; exact H.2.2.2.2 q hq
  · right; omega
theorem CPY.plan {τ2 : Nat → Nat → Int32} (H : CPY τ σ h v a b c 0) (hb : b ≤ 10) (hc : c ≤ 16) (h1 : ∀ q, q < p → τ2 (h + 5) q = nI (v (150 + 3 * q)) ∧ τ2 (h + 6) q = nI (v (150 + 3 * q + 1)) ∧ τ2 (h + 7) q = nI (v (150 + 3 * q + 2))) (h2 : ∀ q, (q < h + 4 ∨ h + 8 ≤ q) → τ2 q = τ q) : CPY τ2 σ h v a b c p := by
  refine ⟨fun j hj => ?_, fun d hd j hj => ?_, fun k hk => ?_, h1, fun q hq => ?_⟩
  · rw [h2 _ (by omega)]; exact H.1 j hj
  · rw [h2 _ (by omega)]; exact H.2.1 d hd j hj
  · rw [h2 _ (by omega)]; exact H.2.2.1 k hk
  · rw [h2 _ (by omega)]; exact H.2.2.2.2 q hq
/-- with the House's own numbers the copy is done -/
theorem CPY.done (H : CPY τ σ h v 3 (v 4) (v 5) (v 9)) (h4 : v 4 ≤ 10) (h5 : v 5 ≤ 16) (hp : τ (h + 4) 3 = nI (v 9)) :
    HV (s2 (s2 (s2 (s2 (s2 (s2 (s2 τ h 4 (nI (v 4))) h 5 (nI (v 5))) h 6 (nI (v 3))) h 7 (nI (v 10))) h 8 (nI (v 7))) h 9 (nI (v 6))) h 10 (nI (v 8))) h v := by
  obtain ⟨a1, a2, a3, a4, a5⟩ := H
  refine ⟨fun j hj => ?_, ?_, fun d hd j hj => ?_, fun k hk => ?_, fun q hq => ?_⟩
  · rw [s2_na (by omega), s2_na (by omega), s2_na (by omega), s2_na (by omega), s2_na (by omega), s2_na (by omega), s2_na (by omega)]; exact a1 j hj
  · simp [s2, hp]
  · rw [s2_na (by omega), s2_na (by omega), s2_na (by omega), s2_na (by omega), s2_na (by omega), s2_na (by omega), s2_na (by omega)]; exact a2 d hd j hj
  · rw [s2_ne (show h + 18 + k ≠ h by omega), s2_ne (show h + 18 + k ≠ h by omega), s2_ne (show h + 18 + k ≠ h by omega), s2_ne (show h + 18 + k ≠ h by omega), s2_ne (show h + 18 + k ≠ h by omega), s2_ne (show h + 18 + k ≠ h by omega), s2_ne (show h + 18 + k ≠ h by omega)]; exact a3 k hk
  · rw [s2_ne (show h + 5 ≠ h by omega), s2_ne (show h + 5 ≠ h by omega), s2_ne (show h + 5 ≠ h by omega), s2_ne (show h + 5 ≠ h by omega), s2_ne (show h + 5 ≠ h by omega), s2_ne (show h + 5 ≠ h by omega), s2_ne (show h + 5 ≠ h by omega), s2_ne (show h + 6 ≠ h by omega), s2_ne (show h + 6 ≠ h by omega), s2_ne (show h + 6 ≠ h by omega), s2_ne (show h + 6 ≠ h by omega), s2_ne (show h + 6 ≠ h by omega), s2_ne (show h + 6 ≠ h by omega), s2_ne (show h + 6 ≠ h by omega), s2_ne (show h + 7 ≠ h by omega), s2_ne (show h + 7 ≠ h by omega), s2_ne (show h + 7 ≠ h by omega), s2_ne (show h + 7 ≠ h by omega), s2_ne (show h + 7 ≠ h by omega), s2_ne (show h + 7 ≠ h by omega), s2_ne (show h + 7 ≠ h by omega)]; exact a4 q hq
end CPYs
