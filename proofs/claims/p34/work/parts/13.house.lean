/-! ===== as in whole: house ===== -/
def hshL : List (Nat × Kd) := [(0, .inl 2), (1, .inr (0, 3)), (2, .inr (3, 10)), (3, .inr (5, 16)), (4, .inl 7), (5, .inr (0, 6)), (6, .inr (0, 6)), (7, .inr (0, 6))]
def hrfL : List (Nat × Nat × Nat) := [(0, 0, 1), (0, 1, 2), (0, 2, 3), (0, 3, 4), (4, 0, 5), (4, 1, 6), (4, 2, 7)]
def HSh (sh : Nat → Option Kd) (ρ : Nat → Nat → Option Nat) (h : Nat) : Prop := (∀ q ∈ hshL, sh (h + q.1) = some q.2) ∧ (∀ d, d < 10 → sh (h + 8 + d) = some (.inl 0)) ∧ (∀ k, k < 16 → sh (h + 18 + k) = some (.inl 3)) ∧
  (∀ q ∈ hrfL, ρ (h + q.1) q.2.1 = some (h + q.2.2)) ∧ (∀ d, d < 10 → ρ (h + 2) d = some (h + 8 + d)) ∧ ∀ k, k < 16 → ρ (h + 3) k = some (h + 18 + k)
theorem HS0 {sh : Nat → Option Kd} {ρ : Nat → Nat → Option Nat} {h : Nat} (H : HSh sh ρ h) : sh h = some (.inl 2) := H.1 (0, .inl 2) (List.mem_of_getElem? (i := 0) rfl)
theorem HSa {sh : Nat → Option Kd} {ρ : Nat → Nat → Option Nat} {h : Nat} (H : HSh sh ρ h) (i : Nat) (k : Kd) (hi : hshL[i]? = some (i, k)) : sh (h + i) = some k := H.1 (i, k) (List.mem_of_getElem? hi)
theorem HSd {sh : Nat → Option Kd} {ρ : Nat → Nat → Option Nat} {h : Nat} (H : HSh sh ρ h) {d : Nat} (hd : d < 10) : sh (h + 8 + d) = some (.inl 0) := H.2.1 d hd
theorem HSk {sh : Nat → Option Kd} {ρ : Nat → Nat → Option Nat} {h : Nat} (H : HSh sh ρ h) {k : Nat} (hk : k < 16) : sh (h + 18 + k) = some (.inl 3) := H.2.2.1 k hk
theorem HR0 {sh : Nat → Option Kd} {ρ : Nat → Nat → Option Nat} {h : Nat} (H : HSh sh ρ h) (k i : Nat) (hi : (0, k, i) ∈ hrfL) : ρ h k = some (h + i) := H.2.2.2.1 (0, k, i) hi
theorem HR4 {sh : Nat → Option Kd} {ρ : Nat → Nat → Option Nat} {h : Nat} (H : HSh sh ρ h) (k i : Nat) (hi : (4, k, i) ∈ hrfL) : ρ (h + 4) k = some (h + i) := H.2.2.2.1 (4, k, i) hi
theorem HRd {sh : Nat → Option Kd} {ρ : Nat → Nat → Option Nat} {h : Nat} (H : HSh sh ρ h) {d : Nat} (hd : d < 10) : ρ (h + 2) d = some (h + 8 + d) := H.2.2.2.2.1 d hd
theorem HRk {sh : Nat → Option Kd} {ρ : Nat → Nat → Option Nat} {h : Nat} (H : HSh sh ρ h) {k : Nat} (hk : k < 16) : ρ (h + 3) k = some (h + 18 + k) := H.2.2.2.2.2 k hk
/-- the row that the House holds, where it is alive -/
def HV (σ : Nat → Nat → Int32) (h : Nat) (v : Nat → Nat) : Prop := (∀ j, j < 3 → σ (h + 1) j = nI (v j)) ∧
  (σ h 4 = nI (v 4) ∧ σ h 5 = nI (v 5) ∧ σ h 6 = nI (v 3) ∧ σ h 7 = nI (v 10) ∧ σ h 8 = nI (v 7) ∧ σ h 9 = nI (v 6) ∧ σ h 10 = nI (v 8) ∧ σ (h + 4) 3 = nI (v 9)) ∧
  (∀ d, d < v 4 → ∀ j, j < 5 → σ (h + 8 + d) j = nI (v (20 + 6 * d + j))) ∧
  (∀ k, k < v 5 → σ (h + 18 + k) 0 = nI (v (80 + 4 * k)) ∧ σ (h + 18 + k) 1 = nI (keyWt v k) ∧ σ (h + 18 + k) 2 = nI (v (80 + 4 * k + 2))) ∧
  (∀ p, p < v 9 → σ (h + 5) p = nI (v (150 + 3 * p)) ∧ σ (h + 6) p = nI (v (150 + 3 * p + 1)) ∧ σ (h + 7) p = nI (v (150 + 3 * p + 2)))
section HVA
variable {σ : Nat → Nat → Int32} {h : Nat} {v : Nat → Nat}
theorem HVs (H : HV σ h v) {j : Nat} (hj : j < 3) : σ (h + 1) j = nI (v j) := H.1 j hj
theorem HV4 (H : HV σ h v) : σ h 4 = nI (v 4) := H.2.1.1
theorem HV5 (H : HV σ h v) : σ h 5 = nI (v 5) := H.2.1.2.1
theorem HV6 (H : HV σ h v) : σ h 6 = nI (v 3) := H.2.1.2.2.1
theorem HV7 (H : HV σ h v) : σ h 7 = nI (v 10) := H.2.1.2.2.2.1
theorem HV8 (H : HV σ h v) : σ h 8 = nI (v 7) := H.2.1.2.2.2.2.1
theorem HV9 (H : HV σ h v) : σ h 9 = nI (v 6) := H.2.1.2.2.2.2.2.1
theorem HV10 (H : HV σ h v) : σ h 10 = nI (v 8) := H.2.1.2.2.2.2.2.2.1
theorem HVp (H : HV σ h v) : σ (h + 4) 3 = nI (v 9) := H.2.1.2.2.2.2.2.2.2
theorem HVd (H : HV σ h v) {d : Nat} (hd : d < v 4) (j : Nat) (hj : j < 5) : σ (h + 8 + d) j = nI (v (20 + 6 * d + j)) := H.2.2.1 d hd j hj
theorem HVk0 (H : HV σ h v) {k : Nat} (hk : k < v 5) : σ (h + 18 + k) 0 = nI (v (80 + 4 * k)) := (H.2.2.2.1 k hk).1
theorem HVk1 (H : HV σ h v) {k : Nat} (hk : k < v 5) : σ (h + 18 + k) 1 = nI (keyWt v k) := (H.2.2.2.1 k hk).2.1
theorem HVk2 (H : HV σ h v) {k : Nat} (hk : k < v 5) : σ (h + 18 + k) 2 = nI (v (80 + 4 * k + 2)) := (H.2.2.2.1 k hk).2.2
theorem HVp0 (H : HV σ h v) {p : Nat} (hp : p < v 9) : σ (h + 5) p = nI (v (150 + 3 * p)) := (H.2.2.2.2 p hp).1
theorem HVp1 (H : HV σ h v) {p : Nat} (hp : p < v 9) : σ (h + 6) p = nI (v (150 + 3 * p + 1)) := (H.2.2.2.2 p hp).2.1
theorem HVp2 (H : HV σ h v) {p : Nat} (hp : p < v 9) : σ (h + 7) p = nI (v (150 + 3 * p + 2)) := (H.2.2.2.2 p hp).2.2
/-- cells outside a House do not matter to it -/
theorem HV.keep (H : HV σ h v) {σ1 : Nat → Nat → Int32} (hk : ∀ q, h ≤ q → q < h + 34 → σ1 q = σ q) (h4 : v 4 ≤ 10) (h5 : v 5 ≤ 16) : HV σ1 h v := by
  obtain ⟨a1, a2, a3, a4, a5⟩ := H
  have e0 := hk h (by omega) (by omega)
  have e1 := hk (h + 1) (by omega) (by omega)
  have e4 := hk (h + 4) (by omega) (by omega)
  have e5 := hk (h + 5) (by omega) (by omega)
  have e6 := hk (h + 6) (by omega) (by omega)
  have e7 := hk (h + 7) (by omega) (by omega)
  refine ⟨by rw [e1]; exact a1, by rw [e0, e4]; exact a2, fun d hd j hj => ?_, fun k hk2 => ?_, by rw [e5, e6, e7]; exact a5⟩
  · rw [hk (h + 8 + d) (by omega) (by omega)]; exact a3 d hd j hj
  · rw [hk (h + 18 + k) (by omega) (by omega)]; exact a4 k hk2
end HVA
def beyO (a b r : Nat) : Int := if r = a then (b : Int) else if r = b then (a : Int) else -6
theorem beyO_eq (v : Nat → Nat) (d r : Nat) : beyO (v (20 + 6 * d)) (v (20 + 6 * d + 1)) r = behR v d r := by
  unfold beyO behR
  by_cases h1 : v (20 + 6 * d) = r
  · rw [if_pos h1, if_pos h1.symm]
  · rw [if_neg h1, if_neg (fun q => h1 q.symm)]
    by_cases h2 : v (20 + 6 * d + 1) = r
    · rw [if_pos h2, if_pos h2.symm]
    · rw [if_neg h2, if_neg (fun q => h2 q.symm)]
/-- the place of a door in the plan, from the left -/
def plcL (v : Nat → Nat) (d : Nat) : Int := ffF (fun p => decide (v (150 + 3 * p) = d)) (v 9)
theorem plcL_eq (v : Nat → Nat) (d n : Nat) (hdis : ∀ p q, p < n → q < n → v (150 + 3 * p) = v (150 + 3 * q) → p = q) : ffF (fun p => decide (v (150 + 3 * p) = d)) n = plcF v d n := by
  induction n with
  | zero => rfl
  | succ n ih =>
    have ih := ih (fun p q hp hq => hdis p q (by omega) (by omega))
    rw [ffF, plcF, ih]
    by_cases h1 : v (150 + 3 * n) = d
    · rw [if_pos h1]
      have h2 : plcF v d n = -6 := by
        have key : ∀ m, m ≤ n → plcF v d m = -6 := by
          intro m
          induction m with
          | zero => intro _; rfl
          | succ m ihm =>
            intro hm
            rw [plcF, if_neg (fun q => by have := hdis m n (by omega) (by omega) (q.trans h1.symm); omega)]
            exact ihm (by omega)
        exact key n (Nat.le_refl n)
      rw [h2, if_pos rfl, if_pos (by simp [h1])]
    · rw [if_neg h1]
      by_cases h2 : plcF v d n = -6
      · rw [if_pos h2, if_neg (by simp [h1]), h2]
      · rw [if_neg h2]
def sOfAll (v : Nat → Nat) (w : Int) : Int := if w = 0 then ((v 3 : Nat) : Int) else if w = 1 then ((keysAt v 8 : Nat) : Int) else if w = 2 then ((v 4 : Nat) : Int) else if w = 3 then ((v 5 : Nat) : Int) else if w = 4 then ((v 6 : Nat) : Int) else if w = 5 then ((inLk v : Nat) : Int) else if w = 6 then ((inKy v : Nat) : Int) else if w = 7 then ((v 7 : Nat) : Int) else if w = 8 then ((v 8 : Nat) : Int) else if w = 9 then ((v 9 : Nat) : Int) else if w = 10 then ((v 10 : Nat) : Int) else if w = 13 then ((v 0 : Nat) : Int) else if w = 14 then ((v 1 : Nat) : Int) else if w = 15 then ((v 2 : Nat) : Int) else -2
