/-! ===== as in whole: spec4 ===== -/
theorem va_up_at {α : Type} (f : Nat → α) (k : Nat) (x : α) : va_up f k x k = x := by simp [va_up]
theorem va_up_off {α : Type} {f : Nat → α} {k j : Nat} {x : α} (h : j ≠ k) : va_up f k x j = f j := by simp [va_up, h]
def sSet (v : Nat → Nat) (s x : Int) : Int × (Nat → Nat) :=
  if 0 ≤ s ∧ s ≤ 2 then
    (if (if s = 0 then 1 else if s = 1 then 0 else 40) ≤ x ∧ x ≤ (if s = 0 then 9 else if s = 1 then 50 else 90) then (((v s.toNat : Nat) : Int), va_up v s.toNat x.toNat) else (-2, v))
  else (-2, v)
def sBrass (v : Nat → Nat) (g : Int) : Int × (Nat → Nat) := if 1 ≤ g ∧ g ≤ 1000 then (((v 7 + g.toNat : Nat) : Int), va_up (va_up v 6 (v 6 + g.toNat)) 7 (v 7 + g.toNat)) else (-2, v)
def rowD (v : Nat → Nat) (a b f s : Nat) : Nat → Nat :=
  va_up (va_up (va_up (va_up (va_up (va_up v (20 + 6 * v 4) a) (20 + 6 * v 4 + 1) b) (20 + 6 * v 4 + 2) f) (20 + 6 * v 4 + 3) s) 7 (v 7 - lockW f s)) 4 (v 4 + 1)
def sDoor (v : Nat → Nat) (a b f s : Int) : Int × (Nat → Nat) :=
  if (0 ≤ a ∧ a < 8) ∧ (0 ≤ b ∧ b < 8) ∧ ¬ a = b ∧ (0 ≤ f ∧ f ≤ 9999) ∧ (0 ≤ s ∧ s ≤ 9999) then
    (if v 4 < 10 then (if v 7 < lockW f.toNat s.toNat then (-5, v) else (((v 4 : Nat) : Int), rowD v a.toNat b.toNat f.toNat s.toNat)) else (-4, v))
  else (-2, v)
def rowC (v : Nat → Nat) (d f s : Nat) : Nat → Nat :=
  va_up (va_up (va_up (va_up (va_up v 8 (v 8 + lossW (lockWt v d) (v 1))) 7 (v 7 + givW v d - lockW f s)) (20 + 6 * d + 2) f) (20 + 6 * d + 3) s) (20 + 6 * d + 4) (v (20 + 6 * d + 4) + 1)
def sCut (v : Nat → Nat) (d f s : Int) : Int × (Nat → Nat) :=
  if 0 ≤ d ∧ d < ((v 4 : Nat) : Int) then
    (if (0 ≤ f ∧ f ≤ 9999) ∧ (0 ≤ s ∧ s ≤ 9999) then
      (if v 7 + givW v d.toNat < lockW f.toNat s.toNat then (-5, v) else (((v 7 + givW v d.toNat - lockW f.toNat s.toNat : Nat) : Int), rowC v d.toNat f.toNat s.toNat))
    else (-2, v))
  else (-1, v)
def rowK (v : Nat → Nat) (c r : Nat) : Nat → Nat :=
  va_up (va_up (va_up (va_up (va_up (va_up v (80 + 4 * v 5) c) (80 + 4 * v 5 + 1) (v 2)) (80 + 4 * v 5 + 2) r) 6 (v 6 + v 2)) 7 (v 7 + sumD c)) 5 (v 5 + 1)
def sKey (v : Nat → Nat) (c r : Int) : Int × (Nat → Nat) :=
  if (0 ≤ c ∧ c ≤ 9999) ∧ (0 ≤ r ∧ r < 8) then
    (if v 5 < 16 then (if canK (v 0) c.toNat = true then (((v 5 : Nat) : Int), rowK v c.toNat r.toNat) else (-5, v)) else (-4, v))
  else (-2, v)
def rowM (v : Nat → Nat) (k : Nat) : Nat → Nat :=
  va_up (va_up (va_up v 8 (v 8 + lossW (keyWt v k) (v 1))) 7 (v 7 + (keyWt v k - lossW (keyWt v k) (v 1)))) (80 + 4 * k + 2) 9
def sMelt (v : Nat → Nat) (k : Int) : Int × (Nat → Nat) :=
  if 0 ≤ k ∧ k < ((v 5 : Nat) : Int) then
    (if whrR v k.toNat = 9 then (-5, v) else (((v 7 + (keyWt v k.toNat - lossW (keyWt v k.toNat) (v 1)) : Nat) : Int), rowM v k.toNat))
  else (-1, v)
def sMove (v : Nat → Nat) (k : Int) (a b : Nat) : Int × (Nat → Nat) :=
  if 0 ≤ k ∧ k < ((v 5 : Nat) : Int) then
    (if whrR v k.toNat = a then (((keysAt (va_up v (80 + 4 * k.toNat + 2) b) 8 : Nat) : Int), va_up v (80 + 4 * k.toNat + 2) b) else (-5, v))
  else (-1, v)
def sGo (v : Nat → Nat) (d : Int) : Int × (Nat → Nat) :=
  if 0 ≤ d ∧ d < ((v 4 : Nat) : Int) then
    (if 0 ≤ behR v d.toNat (v 3) ∧ opnBy v d.toNat (keysAt v 8) = true then (behR v d.toNat (v 3), va_up (va_up v 3 (behR v d.toNat (v 3)).toNat) 10 (v 10 + 1)) else (-5, v))
  else (-1, v)
def rowP (v : Nat → Nat) (d f s : Nat) : Nat → Nat := va_up (va_up (va_up (va_up v (150 + 3 * v 9) d) (150 + 3 * v 9 + 1) f) (150 + 3 * v 9 + 2) s) 9 (v 9 + 1)
def sPlan (v : Nat → Nat) (d f s : Int) : Int × (Nat → Nat) :=
  if 0 ≤ d ∧ d < ((v 4 : Nat) : Int) then
    (if (0 ≤ f ∧ f ≤ 9999) ∧ (0 ≤ s ∧ s ≤ 9999) then
      (if v 9 < 6 then (if 0 ≤ plcO v d.toNat then (-5, v) else (((v 9 + 1 : Nat) : Int), rowP v d.toNat f.toNat s.toNat)) else (-4, v))
    else (-2, v))
  else (-1, v)
def sDrop (v : Nat → Nat) : Int × (Nat → Nat) := (((v 9 : Nat) : Int), va_up v 9 0)
section HVW
variable {σ : Nat → Nat → Int32} {h : Nat} {v : Nat → Nat}
theorem HV.ext (H : HV σ h v) {v1 : Nat → Nat} (e : ∀ j, v j = v1 j) : HV σ h v1 := by
  have : v = v1 := funext e
  rw [← this]; exact H
theorem keyWt_cong {v v1 : Nat → Nat} {k : Nat} (h0 : v1 (80 + 4 * k) = v (80 + 4 * k)) (h1 : v1 (80 + 4 * k + 1) = v (80 + 4 * k + 1)) (h2 : v1 (80 + 4 * k + 2) = v (80 + 4 * k + 2)) : keyWt v1 k = keyWt v k := by
  unfold keyWt whrR cutR
  rw [h0, h1, h2]
/-- a number of the House itself: its place in the House, its place in the row -/
def scaL : List (Nat × Nat) := [(6, 3), (7, 10), (8, 7), (9, 6), (10, 8)]
theorem HV.sca (H : HV σ h v) (k i x : Nat) (hi : (k, i) ∈ scaL) (h4 : v 4 ≤ 10) (h5 : v 5 ≤ 16) (h9 : v 9 ≤ 6) : HV (s2 σ h k (nI x)) h (va_up v i x) := by
  have hi2 : (k = 6 ∧ i = 3) ∨ (k = 7 ∧ i = 10) ∨ (k = 8 ∧ i = 7) ∨ (k = 9 ∧ i = 6) ∨ (k = 10 ∧ i = 8) := by simpa [scaL] using hi
  obtain ⟨a1, ⟨b1, b2, b3, b4, b5, b6, b7, b8⟩, a3, a4, a5⟩ := H
  have hk : ∀ j, (j = 4 ∨ j = 5 ∨ j = 9 ∨ j < 3 ∨ 20 ≤ j) → va_up v i x j = v j := fun j hj => va_up_off (by omega)
  refine ⟨fun j hj => ?_, ?_, fun d hd j hj => ?_, fun k2 hk2 => ?_, fun p hp => ?_⟩
  · rw [s2_na (by omega), hk j (by omega)]; exact a1 j hj
  · rcases hi2 with ⟨rfl, rfl⟩ | ⟨rfl, rfl⟩ | ⟨rfl, rfl⟩ | ⟨rfl, rfl⟩ | ⟨rfl, rfl⟩ <;> simp [s2, va_up, b1, b2, b3, b4, b5, b6, b7, b8]
  · rw [hk 4 (by omega)] at hd
    rw [s2_na (by omega), hk _ (by omega)]; exact a3 d hd j hj
  · rw [hk 5 (by omega)] at hk2
    rw [s2_na (by omega), s2_na (by omega), s2_na (by omega), hk _ (by omega), hk _ (by omega), keyWt_cong (hk _ (by omega)) (hk _ (by omega)) (hk _ (by omega))]; exact a4 k2 hk2
  · rw [hk 9 (by omega)] at hp
    rw [s2_na (by omega), s2_na (by omega), s2_na (by omega), hk _ (by omega), hk _ (by omega), hk _ (by omega)]; exact a5 p hp
theorem HV.set (H : HV σ h v) (k x : Nat) (hk3 : k < 3) (h4 : v 4 ≤ 10) (h5 : v 5 ≤ 16) (h9 : v 9 ≤ 6) : HV (s2 σ (h + 1) k (nI x)) h (va_up v k x) := by
  obtain ⟨a1, a2, a3, a4, a5⟩ := H
  have hk : ∀ j, 3 ≤ j → va_up v k x j = v j := fun j hj => va_up_off (by omega)
  refine ⟨fun j hj => ?_, ?_, fun d hd j hj => ?_, fun k2 hk2 => ?_, fun p hp => ?_⟩
  · by_cases e : j = k
    · subst e; rw [s2_same, va_up_at]
    · rw [s2_nk e, va_up_off e]; exact a1 j hj
  · simp only [s2_na (show h ≠ h + 1 by omega), s2_na (show h + 4 ≠ h + 1 by omega), hk _ (show 3 ≤ 4 by omega), hk _ (show 3 ≤ 5 by omega), hk _ (show 3 ≤ 3 by omega), hk _ (show 3 ≤ 10 by omega), hk _ (show 3 ≤ 7 by omega), hk _ (show 3 ≤ 6 by omega), hk _ (show 3 ≤ 8 by omega), hk _ (show 3 ≤ 9 by omega)]
    exact a2
  · rw [hk 4 (by omega)] at hd
    rw [s2_na (by omega), hk _ (by omega)]; exact a3 d hd j hj
  · rw [hk 5 (by omega)] at hk2
    rw [s2_na (by omega), s2_na (by omega), s2_na (by omega), hk _ (by omega), hk _ (by omega), keyWt_cong (hk _ (by omega)) (hk _ (by omega)) (hk _ (by omega))]; exact a4 k2 hk2
  · rw [hk 9 (by omega)] at hp
    rw [s2_na (by omega), s2_na (by omega), s2_na (by omega), hk _ (by omega), hk _ (by omega), hk _ (by omega)]; exact a5 p hp
/-- a write into a cell, or a place of it, that is not alive -/
theorem HV.dead (H : HV σ h v) {a k : Nat} {x : Int32} (h4 : v 4 ≤ 10) (h5 : v 5 ≤ 16) (hd : (∃ d, v 4 ≤ d ∧ d < 10 ∧ a = h + 8 + d) ∨ (∃ q, v 5 ≤ q ∧ q < 16 ∧ a = h + 18 + q) ∨ (v 9 ≤ k ∧ (a = h + 5 ∨ a = h + 6 ∨ a = h + 7)) ∨ a < h ∨ h + 34 ≤ a) : HV (s2 σ a k x) h v := by
  obtain ⟨a1, a2, a3, a4, a5⟩ := H
  refine ⟨fun j hj => ?_, ?_, fun d hd2 j hj => ?_, fun k2 hk2 => ?_, fun p hp => ?_⟩
  · rw [s2_na (by omega)]; exact a1 j hj
  · rw [s2_ne (show h ≠ a by omega), s2_ne (show h + 4 ≠ a by omega)]; exact a2
  · rw [s2_na (by omega)]; exact a3 d hd2 j hj
  · rw [s2_na (by omega), s2_na (by omega), s2_na (by omega)]; exact a4 k2 hk2
  · obtain ⟨c1, c2, c3⟩ := a5 p hp
    exact ⟨s2_keep c1 (by omega), s2_keep c2 (by omega), s2_keep c3 (by omega)⟩
theorem HV.door (H : HV σ h v) (d j x : Nat) (hd : d < v 4) (hj : j < 5) (h4 : v 4 ≤ 10) (h5 : v 5 ≤ 16) (h9 : v 9 ≤ 6) : HV (s2 σ (h + 8 + d) j (nI x)) h (va_up v (20 + 6 * d + j) x) := by
  obtain ⟨a1, a2, a3, a4, a5⟩ := H
  have hk : ∀ i, (i < 20 ∨ 80 ≤ i) → va_up v (20 + 6 * d + j) x i = v i := fun i hi => va_up_off (by omega)
  refine ⟨fun i hi => ?_, ?_, fun d2 hd2 i hi => ?_, fun k2 hk2 => ?_, fun p hp => ?_⟩
  · rw [s2_na (by omega), hk i (by omega)]; exact a1 i hi
  · rw [s2_ne (show h ≠ h + 8 + d by omega), s2_ne (show h + 4 ≠ h + 8 + d by omega)]
    simp only [hk _ (show 4 < 20 ∨ 80 ≤ 4 by omega), hk _ (show 5 < 20 ∨ 80 ≤ 5 by omega), hk _ (show 3 < 20 ∨ 80 ≤ 3 by omega), hk _ (show 10 < 20 ∨ 80 ≤ 10 by omega), hk _ (show 7 < 20 ∨ 80 ≤ 7 by omega), hk _ (show 6 < 20 ∨ 80 ≤ 6 by omega), hk _ (show 8 < 20 ∨ 80 ≤ 8 by omega), hk _ (show 9 < 20 ∨ 80 ≤ 9 by omega)]
    exact a2
  · rw [hk 4 (by omega)] at hd2
    by_cases e : d2 = d
    · subst e
      by_cases e2 : i = j
      · subst e2; rw [s2_same, va_up_at]
      · rw [s2_nk e2, va_up_off (by omega)]; exact a3 d2 hd2 i hi
    · rw [s2_na (by omega), va_up_off (by omega)]; exact a3 d2 hd2 i hi
  · rw [hk 5 (by omega)] at hk2
    rw [s2_na (by omega), s2_na (by omega), s2_na (by omega), hk _ (by omega), hk _ (by omega), keyWt_cong (hk _ (by omega)) (hk _ (by omega)) (hk _ (by omega))]; exact a4 k2 hk2
  · rw [hk 9 (by omega)] at hp
    rw [s2_na (by omega), s2_na (by omega), s2_na (by omega), hk _ (by omega), hk _ (by omega), hk _ (by omega)]; exact a5 p hp
theorem HV.plan0 (H : HV σ h v) (h4 : v 4 ≤ 10) (h5 : v 5 ≤ 16) : HV (s2 σ (h + 4) 3 (nI 0)) h (va_up v 9 0) := by
  obtain ⟨a1, ⟨b1, b2, b3, b4, b5, b6, b7, b8⟩, a3, a4, a5⟩ := H
  have hk : ∀ i, i ≠ 9 → va_up v 9 0 i = v i := fun i hi => va_up_off hi
  refine ⟨fun i hi => ?_, ?_, fun d2 hd2 i hi => ?_, fun k2 hk2 => ?_, fun p hp => ?_⟩
  · rw [s2_na (by omega), hk i (by omega)]; exact a1 i hi
  · simp [s2, va_up, b1, b2, b3, b4, b5, b6, b7]
  · rw [hk 4 (by omega)] at hd2
    rw [s2_na (by omega), hk _ (by omega)]; exact a3 d2 hd2 i hi
  · rw [hk 5 (by omega)] at hk2
    rw [s2_na (by omega), s2_na (by omega), s2_na (by omega), hk _ (by omega), hk _ (by omega), keyWt_cong (hk _ (by omega)) (hk _ (by omega)) (hk _ (by omega))]; exact a4 k2 hk2
  · rw [va_up_at] at hp; omega
/-- one door more -/
theorem HV.incD (H : HV σ h v) {a b f s : Nat} (h0 : σ (h + 8 + v 4) 0 = nI a) (h1 : σ (h + 8 + v 4) 1 = nI b) (h2 : σ (h + 8 + v 4) 2 = nI f) (h3 : σ (h + 8 + v 4) 3 = nI s) (ht : σ (h + 8 + v 4) 4 = nI (v (20 + 6 * v 4 + 4))) (h4 : v 4 < 10) (h5 : v 5 ≤ 16) (h9 : v 9 ≤ 6) :
    HV (s2 σ h 4 (nI (v 4 + 1))) h (va_up (va_up (va_up (va_up (va_up v (20 + 6 * v 4) a) (20 + 6 * v 4 + 1) b) (20 + 6 * v 4 + 2) f) (20 + 6 * v 4 + 3) s) 4 (v 4 + 1)) := by
  obtain ⟨a1, ⟨b1, b2, b3, b4, b5, b6, b7, b8⟩, a3, a4, a5⟩ := H
  generalize hD : v 4 = D at *
  generalize hw : va_up (va_up (va_up (va_up (va_up v (20 + 6 * D) a) (20 + 6 * D + 1) b) (20 + 6 * D + 2) f) (20 + 6 * D + 3) s) 4 (D + 1) = w
  have hk : ∀ i, i ≠ 4 → (i < 20 + 6 * D ∨ 20 + 6 * D + 3 < i) → w i = v i := fun i hi hi2 => by
    rw [← hw, va_up_off hi, va_up_off (by omega), va_up_off (by omega), va_up_off (by omega), va_up_off (by omega)]
  have w4 : w 4 = D + 1 := by rw [← hw, va_up_at]
  refine ⟨fun i hi => ?_, ?_, fun d2 hd2 i hi => ?_, fun k2 hk2 => ?_, fun p hp => ?_⟩
  · rw [s2_na (by omega), hk i (by omega) (by omega)]; exact a1 i hi
  · rw [s2_same, s2_nk (by decide), s2_nk (by decide), s2_nk (by decide), s2_nk (by decide), s2_nk (by decide), s2_nk (by decide), s2_na (by omega), w4, hk 5 (by omega) (by omega), hk 3 (by omega) (by omega), hk 10 (by omega) (by omega), hk 7 (by omega) (by omega), hk 6 (by omega) (by omega), hk 8 (by omega) (by omega), hk 9 (by omega) (by omega)]
    exact ⟨rfl, b2, b3, b4, b5, b6, b7, b8⟩
  · rw [w4] at hd2
    rw [s2_na (by omega)]
    by_cases e : d2 = D
    · subst e
      rcases (show i = 0 ∨ i = 1 ∨ i = 2 ∨ i = 3 ∨ i = 4 by omega) with rfl | rfl | rfl | rfl | rfl
      · rw [← hw, va_up_off (by omega), va_up_off (by omega), va_up_off (by omega), va_up_off (by omega), h0]; simp [va_up]
      · rw [← hw, va_up_off (by omega), va_up_off (by omega), va_up_off (by omega), va_up_at]; exact h1
      · rw [← hw, va_up_off (by omega), va_up_off (by omega), va_up_at]; exact h2
      · rw [← hw, va_up_off (by omega), va_up_at]; exact h3
      · rw [hk _ (by omega) (by omega)]; exact ht
    · rw [hk _ (by omega) (by omega)]; exact a3 d2 (by omega) i hi
  · rw [hk 5 (by omega) (by omega)] at hk2
    rw [s2_na (by omega), s2_na (by omega), s2_na (by omega), hk _ (by omega) (by omega), hk _ (by omega) (by omega), keyWt_cong (hk _ (by omega) (by omega)) (hk _ (by omega) (by omega)) (hk _ (by omega) (by omega))]; exact a4 k2 hk2
  · rw [hk 9 (by omega) (by omega)] at hp
    rw [s2_na (by omega), s2_na (by omega), s2_na (by omega), hk _ (by omega) (by omega), hk _ (by omega) (by omega), hk _ (by omega) (by omega)]; exact a5 p hp
/-- one key more -/
theorem HV.incK (H : HV σ h v) {c b p : Nat} (h0 : σ (h + 18 + v 5) 0 = nI c) (h1 : σ (h + 18 + v 5) 1 = nI (b - sumD c)) (h2 : σ (h + 18 + v 5) 2 = nI p) (hp9 : p ≠ 9) (h4 : v 4 ≤ 10) (h5 : v 5 < 16) (h9 : v 9 ≤ 6) :
    HV (s2 σ h 5 (nI (v 5 + 1))) h (va_up (va_up (va_up (va_up v (80 + 4 * v 5) c) (80 + 4 * v 5 + 1) b) (80 + 4 * v 5 + 2) p) 5 (v 5 + 1)) := by
  obtain ⟨a1, ⟨b1, b2, b3, b4, b5, b6, b7, b8⟩, a3, a4, a5⟩ := H
  generalize hD : v 5 = D at *
  generalize hw : va_up (va_up (va_up (va_up v (80 + 4 * D) c) (80 + 4 * D + 1) b) (80 + 4 * D + 2) p) 5 (D + 1) = w
  have hk : ∀ i, i ≠ 5 → (i < 80 + 4 * D ∨ 80 + 4 * D + 2 < i) → w i = v i := fun i hi hi2 => by
    rw [← hw, va_up_off hi, va_up_off (by omega), va_up_off (by omega), va_up_off (by omega)]
  have w5 : w 5 = D + 1 := by rw [← hw, va_up_at]
  refine ⟨fun i hi => ?_, ?_, fun d2 hd2 i hi => ?_, fun k2 hk2 => ?_, fun q hq => ?_⟩
  · rw [s2_na (by omega), hk i (by omega) (by omega)]; exact a1 i hi
  · rw [s2_same, s2_nk (by decide), s2_nk (by decide), s2_nk (by decide), s2_nk (by decide), s2_nk (by decide), s2_nk (by decide), s2_na (by omega), w5, hk 4 (by omega) (by omega), hk 3 (by omega) (by omega), hk 10 (by omega) (by omega), hk 7 (by omega) (by omega), hk 6 (by omega) (by omega), hk 8 (by omega) (by omega), hk 9 (by omega) (by omega)]
    exact ⟨b1, rfl, b3, b4, b5, b6, b7, b8⟩
  · rw [hk 4 (by omega) (by omega)] at hd2
    rw [s2_na (by omega), hk _ (by omega) (by omega)]; exact a3 d2 hd2 i hi
  · rw [w5] at hk2
    rw [s2_na (by omega), s2_na (by omega), s2_na (by omega)]
    by_cases e : k2 = D
    · subst e
      have e0 : w (80 + 4 * k2) = c := by rw [← hw, va_up_off (by omega), va_up_off (by omega), va_up_off (by omega), va_up_at]
      have e1 : w (80 + 4 * k2 + 1) = b := by rw [← hw, va_up_off (by omega), va_up_off (by omega), va_up_at]
      have e2 : w (80 + 4 * k2 + 2) = p := by rw [← hw, va_up_off (by omega), va_up_at]
      refine ⟨by rw [e0]; exact h0, ?_, by rw [e2]; exact h2⟩
      unfold keyWt whrR cutR
      rw [e0, e1, e2, if_neg hp9]; exact h1
    · rw [hk _ (by omega) (by omega), hk _ (by omega) (by omega), keyWt_cong (hk _ (by omega) (by omega)) (hk _ (by omega) (by omega)) (hk _ (by omega) (by omega))]; exact a4 k2 (by omega)
  · rw [hk 9 (by omega) (by omega)] at hq
    rw [s2_na (by omega), s2_na (by omega), s2_na (by omega), hk _ (by omega) (by omega), hk _ (by omega) (by omega), hk _ (by omega) (by omega)]; exact a5 q hq
/-- one cut more in the plan -/
theorem HV.incP (H : HV σ h v) {d f s : Nat} (h0 : σ (h + 5) (v 9) = nI d) (h1 : σ (h + 6) (v 9) = nI f) (h2 : σ (h + 7) (v 9) = nI s) (h4 : v 4 ≤ 10) (h5 : v 5 ≤ 16) (h9 : v 9 < 6) :
    HV (s2 σ (h + 4) 3 (nI (v 9 + 1))) h (va_up (va_up (va_up (va_up v (150 + 3 * v 9) d) (150 + 3 * v 9 + 1) f) (150 + 3 * v 9 + 2) s) 9 (v 9 + 1)) := by
  obtain ⟨a1, ⟨b1, b2, b3, b4, b5, b6, b7, b8⟩, a3, a4, a5⟩ := H
  generalize hD : v 9 = D at *
  generalize hw : va_up (va_up (va_up (va_up v (150 + 3 * D) d) (150 + 3 * D + 1) f) (150 + 3 * D + 2) s) 9 (D + 1) = w
  have hk : ∀ i, i ≠ 9 → (i < 150 + 3 * D ∨ 150 + 3 * D + 2 < i) → w i = v i := fun i hi hi2 => by
    rw [← hw, va_up_off hi, va_up_off (by omega), va_up_off (by omega), va_up_off (by omega)]
  have w9 : w 9 = D + 1 := by rw [← hw, va_up_at]
  refine ⟨fun i hi => ?_, ?_, fun d2 hd2 i hi => ?_, fun k2 hk2 => ?_, fun q hq => ?_⟩
  · rw [s2_na (by omega), hk i (by omega) (by omega)]; exact a1 i hi
  · rw [s2_same, s2_na (by omega), s2_na (by omega), s2_na (by omega), s2_na (by omega), s2_na (by omega), s2_na (by omega), s2_na (by omega), w9, hk 4 (by omega) (by omega), hk 5 (by omega) (by omega), hk 3 (by omega) (by omega), hk 10 (by omega) (by omega), hk 7 (by omega) (by omega), hk 6 (by omega) (by omega), hk 8 (by omega) (by omega)]
    exact ⟨b1, b2, b3, b4, b5, b6, b7, rfl⟩
  · rw [hk 4 (by omega) (by omega)] at hd2
    rw [s2_na (by omega), hk _ (by omega) (by omega)]; exact a3 d2 hd2 i hi
  · rw [hk 5 (by omega) (by omega)] at hk2
    rw [s2_na (by omega), s2_na (by omega), s2_na (by omega), hk _ (by omega) (by omega), hk _ (by omega) (by omega), keyWt_cong (hk _ (by omega) (by omega)) (hk _ (by omega) (by omega)) (hk _ (by omega) (by omega))]; exact a4 k2 hk2
  · rw [w9] at hq
    rw [s2_na (by omega), s2_na (by omega), s2_na (by omega)]
    by_cases e : q = D
    · subst e
      refine ⟨?_, ?_, ?_⟩
      · rw [← hw, va_up_off (by omega), va_up_off (by omega), va_up_off (by omega), va_up_at]; exact h0
      · rw [← hw, va_up_off (by omega), va_up_off (by omega), va_up_at]; exact h1
      · rw [← hw, va_up_off (by omega), va_up_at]; exact h2
    · rw [hk _ (by omega) (by omega), hk _ (by omega) (by omega), hk _ (by omega) (by omega)]; exact a5 q (by omega)
/-- a key goes elsewhere, not melted before nor after -/
theorem HV.place (H : HV σ h v) (k p : Nat) (hk0 : k < v 5) (hn : ¬ v (80 + 4 * k + 2) = 9) (hp9 : ¬ p = 9) (h4 : v 4 ≤ 10) (h5 : v 5 ≤ 16) (h9 : v 9 ≤ 6) : HV (s2 σ (h + 18 + k) 2 (nI p)) h (va_up v (80 + 4 * k + 2) p) := by
  obtain ⟨a1, a2, a3, a4, a5⟩ := H
  have hk : ∀ i, i ≠ 80 + 4 * k + 2 → va_up v (80 + 4 * k + 2) p i = v i := fun i hi => va_up_off hi
  refine ⟨fun i hi => ?_, ?_, fun d2 hd2 i hi => ?_, fun k2 hk2 => ?_, fun q hq => ?_⟩
  · rw [s2_na (by omega), hk i (by omega)]; exact a1 i hi
  · rw [s2_ne (show h ≠ h + 18 + k by omega), s2_ne (show h + 4 ≠ h + 18 + k by omega)]
    simp only [hk _ (show 4 ≠ 80 + 4 * k + 2 by omega), hk _ (show 5 ≠ 80 + 4 * k + 2 by omega), hk _ (show 3 ≠ 80 + 4 * k + 2 by omega), hk _ (show 10 ≠ 80 + 4 * k + 2 by omega), hk _ (show 7 ≠ 80 + 4 * k + 2 by omega), hk _ (show 6 ≠ 80 + 4 * k + 2 by omega), hk _ (show 8 ≠ 80 + 4 * k + 2 by omega), hk _ (show 9 ≠ 80 + 4 * k + 2 by omega)]
    exact a2
  · rw [hk 4 (by omega)] at hd2
    rw [s2_na (by omega), hk _ (by omega)]; exact a3 d2 hd2 i hi
  · rw [hk 5 (by omega)] at hk2
    obtain ⟨c0, c1, c2⟩ := a4 k2 hk2
    by_cases e : k2 = k
    · subst e
      refine ⟨by rw [s2_nk (by decide), hk _ (by omega)]; exact c0, ?_, by rw [s2_same, va_up_at]⟩
      rw [s2_nk (by decide), c1]
      unfold keyWt whrR cutR
      rw [va_up_at, if_neg hn, if_neg hp9, hk _ (by omega), hk _ (by omega)]
    · rw [s2_na (by omega), s2_na (by omega), s2_na (by omega), hk _ (by omega), hk _ (by omega), keyWt_cong (hk _ (by omega)) (hk _ (by omega)) (hk _ (by omega))]; exact ⟨c0, c1, c2⟩
  · rw [hk 9 (by omega)] at hq
    rw [s2_na (by omega), s2_na (by omega), s2_na (by omega), hk _ (by omega), hk _ (by omega), hk _ (by omega)]; exact a5 q hq
/-- a key is melted -/
theorem HV.melt (H : HV σ h v) (k : Nat) (hk0 : k < v 5) (h4 : v 4 ≤ 10) (h5 : v 5 ≤ 16) (h9 : v 9 ≤ 6) : HV (s2 (s2 σ (h + 18 + k) 1 (nI 0)) (h + 18 + k) 2 (nI 9)) h (va_up v (80 + 4 * k + 2) 9) := by
  obtain ⟨a1, a2, a3, a4, a5⟩ := H
  have hk : ∀ i, i ≠ 80 + 4 * k + 2 → va_up v (80 + 4 * k + 2) 9 i = v i := fun i hi => va_up_off hi
  refine ⟨fun i hi => ?_, ?_, fun d2 hd2 i hi => ?_, fun k2 hk2 => ?_, fun q hq => ?_⟩
  · rw [s2_na (by omega), s2_na (by omega), hk i (by omega)]; exact a1 i hi
  · rw [s2_ne (show h ≠ h + 18 + k by omega), s2_ne (show h ≠ h + 18 + k by omega), s2_ne (show h + 4 ≠ h + 18 + k by omega), s2_ne (show h + 4 ≠ h + 18 + k by omega)]
    simp only [hk _ (show 4 ≠ 80 + 4 * k + 2 by omega), hk _ (show 5 ≠ 80 + 4 * k + 2 by omega), hk _ (show 3 ≠ 80 + 4 * k + 2 by omega), hk _ (show 10 ≠ 80 + 4 * k + 2 by omega), hk _ (show 7 ≠ 80 + 4 * k + 2 by omega), hk _ (show 6 ≠ 80 + 4 * k + 2 by omega), hk _ (show 8 ≠ 80 + 4 * k + 2 by omega), hk _ (show 9 ≠ 80 + 4 * k + 2 by omega)]
    exact a2
  · rw [hk 4 (by omega)] at hd2
    rw [s2_na (by omega), s2_na (by omega), hk _ (by omega)]; exact a3 d2 hd2 i hi
  · rw [hk 5 (by omega)] at hk2
    obtain ⟨c0, c1, c2⟩ := a4 k2 hk2
    by_cases e : k2 = k
    · subst e
      refine ⟨by rw [s2_nk (by decide), s2_nk (by decide), hk _ (by omega)]; exact c0, ?_, by rw [s2_same, va_up_at]⟩
      rw [s2_nk (by decide), s2_same]
      unfold keyWt whrR
      rw [va_up_at, if_pos rfl]
    · rw [s2_na (by omega), s2_na (by omega), s2_na (by omega), s2_na (by omega), s2_na (by omega), s2_na (by omega), hk _ (by omega), hk _ (by omega), keyWt_cong (hk _ (by omega)) (hk _ (by omega)) (hk _ (by omega))]; exact ⟨c0, c1, c2⟩
  · rw [hk 9 (by omega)] at hq
    rw [s2_na (by omega), s2_na (by omega), s2_na (by omega), s2_na (by omega), s2_na (by omega), s2_na (by omega), hk _ (by omega), hk _ (by omega), hk _ (by omega)]; exact a5 q hq
end HVW
