/-! ===== as in whole: spec5 ===== -/
set_option maxHeartbeats 4000000 in
theorem okR_B {v : Nat → Nat} (h : okR v) (a b : Nat) : okR (va_up (va_up v 6 a) 7 b) := by
  unfold okR fstR sndR cutR whrR at h
  obtain ⟨⟨h01, h02⟩, hl1, ⟨h21, h22⟩, h3, h44, h5, h9, hdo, hke, hpn, hpd, htc⟩ := h
  generalize hw : va_up (va_up v 6 a) 7 b = w
  have w4 : w 4 = v 4 := by rw [← hw]; simp only [va_up, ↓reduceIte] <;> (repeat' split) <;> omega
  have w5 : w 5 = v 5 := by rw [← hw]; simp only [va_up, ↓reduceIte] <;> (repeat' split) <;> omega
  have w9 : w 9 = v 9 := by rw [← hw]; simp only [va_up, ↓reduceIte] <;> (repeat' split) <;> omega
  unfold okR fstR sndR cutR whrR
  refine ⟨⟨?_, ?_⟩, ?_, ⟨?_, ?_⟩, ?_, ?_, ?_, ?_, fun d hd => ⟨?_, ?_, ?_, ?_⟩, fun k hk => ⟨?_, ⟨?_, ?_⟩, ?_⟩, fun p hp => ⟨?_, ?_, ?_⟩, fun p q hp hq he => ?_, fun d hd1 hd2 => ?_⟩
  · rw [← hw]; simp only [va_up]; (repeat' split) <;> first | omega | contradiction
  · rw [← hw]; simp only [va_up]; (repeat' split) <;> first | omega | contradiction
  · rw [← hw]; simp only [va_up]; (repeat' split) <;> first | omega | contradiction
  · rw [← hw]; simp only [va_up]; (repeat' split) <;> first | omega | contradiction
  · rw [← hw]; simp only [va_up]; (repeat' split) <;> first | omega | contradiction
  · rw [← hw]; simp only [va_up]; (repeat' split) <;> first | omega | contradiction
  · rw [w4]; omega
  · rw [w5]; omega
  · rw [w9]; omega
  · have hdx := hdo d
    rw [w4] at hd
    rw [← hw]; simp only [va_up]; (repeat' split) <;> first | omega | contradiction
  · have hdx := hdo d
    rw [w4] at hd
    rw [← hw]; simp only [va_up]; (repeat' split) <;> first | omega | contradiction
  · have hdx := hdo d
    rw [w4] at hd
    rw [← hw]; simp only [va_up]; (repeat' split) <;> first | omega | contradiction
  · have hdx := hdo d
    rw [w4] at hd
    rw [← hw]; simp only [va_up]; (repeat' split) <;> first | omega | contradiction
  · have hkx := hke k
    rw [w5] at hk
    rw [← hw]; simp only [va_up]; (repeat' split) <;> first | omega | contradiction
  · have hkx := hke k
    rw [w5] at hk
    rw [← hw]; simp only [va_up]; (repeat' split) <;> first | omega | contradiction
  · have hkx := hke k
    rw [w5] at hk
    rw [← hw]; simp only [va_up]; (repeat' split) <;> first | omega | contradiction
  · have hkx := hke k
    rw [w5] at hk
    rw [← hw]; simp only [va_up]; (repeat' split) <;> first | omega | contradiction
  · have hpx := hpn p
    rw [w9] at hp
    rw [w4]
    rw [← hw]; simp only [va_up]; (repeat' split) <;> first | omega | contradiction
  · have hpx := hpn p
    rw [w9] at hp
    rw [← hw]; simp only [va_up]; (repeat' split) <;> first | omega | contradiction
  · have hpx := hpn p
    rw [w9] at hp
    rw [← hw]; simp only [va_up]; (repeat' split) <;> first | omega | contradiction
  · rw [w9] at hp hq
    have e : ∀ x, x < v 9 → w (150 + 3 * x) = v (150 + 3 * x) := fun x hx => by rw [← hw]; simp only [va_up, ↓reduceIte] <;> (repeat' split) <;> omega
    rw [e p hp, e q hq] at he; exact hpd p q (by omega) (by omega) he
  · have hcx := htc d
    rw [w4] at hd1
    rw [← hw]; simp only [va_up]; (repeat' split) <;> first | omega | contradiction
set_option maxHeartbeats 4000000 in
theorem okR_S0 {v : Nat → Nat} (h : okR v) {x : Nat} (hx : 1 ≤ x ∧ x ≤ 9) : okR (va_up v 0 x) := by
  unfold okR fstR sndR cutR whrR at h
  obtain ⟨⟨h01, h02⟩, hl1, ⟨h21, h22⟩, h3, h44, h5, h9, hdo, hke, hpn, hpd, htc⟩ := h
  generalize hw : va_up v 0 x = w
  have w4 : w 4 = v 4 := by rw [← hw]; simp only [va_up, ↓reduceIte] <;> (repeat' split) <;> omega
  have w5 : w 5 = v 5 := by rw [← hw]; simp only [va_up, ↓reduceIte] <;> (repeat' split) <;> omega
  have w9 : w 9 = v 9 := by rw [← hw]; simp only [va_up, ↓reduceIte] <;> (repeat' split) <;> omega
  unfold okR fstR sndR cutR whrR
  refine ⟨⟨?_, ?_⟩, ?_, ⟨?_, ?_⟩, ?_, ?_, ?_, ?_, fun d hd => ⟨?_, ?_, ?_, ?_⟩, fun k hk => ⟨?_, ⟨?_, ?_⟩, ?_⟩, fun p hp => ⟨?_, ?_, ?_⟩, fun p q hp hq he => ?_, fun d hd1 hd2 => ?_⟩
  · rw [← hw]; simp only [va_up]; (repeat' split) <;> first | omega | contradiction
  · rw [← hw]; simp only [va_up]; (repeat' split) <;> first | omega | contradiction
  · rw [← hw]; simp only [va_up]; (repeat' split) <;> first | omega | contradiction
  · rw [← hw]; simp only [va_up]; (repeat' split) <;> first | omega | contradiction
  · rw [← hw]; simp only [va_up]; (repeat' split) <;> first | omega | contradiction
  · rw [← hw]; simp only [va_up]; (repeat' split) <;> first | omega | contradiction
  · rw [w4]; omega
  · rw [w5]; omega
  · rw [w9]; omega
  · have hdx := hdo d
    rw [w4] at hd
    rw [← hw]; simp only [va_up]; (repeat' split) <;> first | omega | contradiction
  · have hdx := hdo d
    rw [w4] at hd
    rw [← hw]; simp only [va_up]; (repeat' split) <;> first | omega | contradiction
  · have hdx := hdo d
    rw [w4] at hd
    rw [← hw]; simp only [va_up]; (repeat' split) <;> first | omega | contradiction
  · have hdx := hdo d
    rw [w4] at hd
    rw [← hw]; simp only [va_up]; (repeat' split) <;> first | omega | contradiction
  · have hkx := hke k
    rw [w5] at hk
    rw [← hw]; simp only [va_up]; (repeat' split) <;> first | omega | contradiction
  · have hkx := hke k
    rw [w5] at hk
    rw [← hw]; simp only [va_up]; (repeat' split) <;> first | omega | contradiction
  · have hkx := hke k
    rw [w5] at hk
    rw [← hw]; simp only [va_up]; (repeat' split) <;> first | omega | contradiction
  · have hkx := hke k
    rw [w5] at hk
    rw [← hw]; simp only [va_up]; (repeat' split) <;> first | omega | contradiction
  · have hpx := hpn p
    rw [w9] at hp
    rw [w4]
    rw [← hw]; simp only [va_up]; (repeat' split) <;> first | omega | contradiction
  · have hpx := hpn p
    rw [w9] at hp
    rw [← hw]; simp only [va_up]; (repeat' split) <;> first | omega | contradiction
  · have hpx := hpn p
    rw [w9] at hp
    rw [← hw]; simp only [va_up]; (repeat' split) <;> first | omega | contradiction
  · rw [w9] at hp hq
    have e : ∀ x, x < v 9 → w (150 + 3 * x) = v (150 + 3 * x) := fun x hx => by rw [← hw]; simp only [va_up, ↓reduceIte] <;> (repeat' split) <;> omega
    rw [e p hp, e q hq] at he; exact hpd p q (by omega) (by omega) he
  · have hcx := htc d
    rw [w4] at hd1
    rw [← hw]; simp only [va_up]; (repeat' split) <;> first | omega | contradiction
set_option maxHeartbeats 4000000 in
theorem okR_S1 {v : Nat → Nat} (h : okR v) {x : Nat} (hx : x ≤ 50) : okR (va_up v 1 x) := by
  unfold okR fstR sndR cutR whrR at h
  obtain ⟨⟨h01, h02⟩, hl1, ⟨h21, h22⟩, h3, h44, h5, h9, hdo, hke, hpn, hpd, htc⟩ := h
  generalize hw : va_up v 1 x = w
  have w4 : w 4 = v 4 := by rw [← hw]; simp only [va_up, ↓reduceIte] <;> (repeat' split) <;> omega
  have w5 : w 5 = v 5 := by rw [← hw]; simp only [va_up, ↓reduceIte] <;> (repeat' split) <;> omega
  have w9 : w 9 = v 9 := by rw [← hw]; simp only [va_up, ↓reduceIte] <;> (repeat' split) <;> omega
  unfold okR fstR sndR cutR whrR
  refine ⟨⟨?_, ?_⟩, ?_, ⟨?_, ?_⟩, ?_, ?_, ?_, ?_, fun d hd => ⟨?_, ?_, ?_, ?_⟩, fun k hk => ⟨?_, ⟨?_, ?_⟩, ?_⟩, fun p hp => ⟨?_, ?_, ?_⟩, fun p q hp hq he => ?_, fun d hd1 hd2 => ?_⟩
  · rw [← hw]; simp only [va_up]; (repeat' split) <;> first | omega | contradiction
  · rw [← hw]; simp only [va_up]; (repeat' split) <;> first | omega | contradiction
  · rw [← hw]; simp only [va_up]; (repeat' split) <;> first | omega | contradiction
  · rw [← hw]; simp only [va_up]; (repeat' split) <;> first | omega | contradiction
  · rw [← hw]; simp only [va_up]; (repeat' split) <;> first | omega | contradiction
  · rw [← hw]; simp only [va_up]; (repeat' split) <;> first | omega | contradiction
  · rw [w4]; omega
  · rw [w5]; omega
  · rw [w9]; omega
  · have hdx := hdo d
    rw [w4] at hd
    rw [← hw]; simp only [va_up]; (repeat' split) <;> first | omega | contradiction
  · have hdx := hdo d
    rw [w4] at hd
    rw [← hw]; simp only [va_up]; (repeat' split) <;> first | omega | contradiction
  · have hdx := hdo d
    rw [w4] at hd
    rw [← hw]; simp only [va_up]; (repeat' split) <;> first | omega | contradiction
  · have hdx := hdo d
    rw [w4] at hd
    rw [← hw]; simp only [va_up]; (repeat' split) <;> first | omega | contradiction
  · have hkx := hke k
    rw [w5] at hk
    rw [← hw]; simp only [va_up]; (repeat' split) <;> first | omega | contradiction
  · have hkx := hke k
    rw [w5] at hk
    rw [← hw]; simp only [va_up]; (repeat' split) <;> first | omega | contradiction
  · have hkx := hke k
    rw [w5] at hk
    rw [← hw]; simp only [va_up]; (repeat' split) <;> first | omega | contradiction
  · have hkx := hke k
    rw [w5] at hk
    rw [← hw]; simp only [va_up]; (repeat' split) <;> first | omega | contradiction
  · have hpx := hpn p
    rw [w9] at hp
    rw [w4]
    rw [← hw]; simp only [va_up]; (repeat' split) <;> first | omega | contradiction
  · have hpx := hpn p
    rw [w9] at hp
    rw [← hw]; simp only [va_up]; (repeat' split) <;> first | omega | contradiction
  · have hpx := hpn p
    rw [w9] at hp
    rw [← hw]; simp only [va_up]; (repeat' split) <;> first | omega | contradiction
  · rw [w9] at hp hq
    have e : ∀ x, x < v 9 → w (150 + 3 * x) = v (150 + 3 * x) := fun x hx => by rw [← hw]; simp only [va_up, ↓reduceIte] <;> (repeat' split) <;> omega
    rw [e p hp, e q hq] at he; exact hpd p q (by omega) (by omega) he
  · have hcx := htc d
    rw [w4] at hd1
    rw [← hw]; simp only [va_up]; (repeat' split) <;> first | omega | contradiction
set_option maxHeartbeats 4000000 in
theorem okR_S2 {v : Nat → Nat} (h : okR v) {x : Nat} (hx : 40 ≤ x ∧ x ≤ 90) : okR (va_up v 2 x) := by
  unfold okR fstR sndR cutR whrR at h
  obtain ⟨⟨h01, h02⟩, hl1, ⟨h21, h22⟩, h3, h44, h5, h9, hdo, hke, hpn, hpd, htc⟩ := h
  generalize hw : va_up v 2 x = w
  have w4 : w 4 = v 4 := by rw [← hw]; simp only [va_up, ↓reduceIte] <;> (repeat' split) <;> omega
  have w5 : w 5 = v 5 := by rw [← hw]; simp only [va_up, ↓reduceIte] <;> (repeat' split) <;> omega
  have w9 : w 9 = v 9 := by rw [← hw]; simp only [va_up, ↓reduceIte] <;> (repeat' split) <;> omega
  unfold okR fstR sndR cutR whrR
  refine ⟨⟨?_, ?_⟩, ?_, ⟨?_, ?_⟩, ?_, ?_, ?_, ?_, fun d hd => ⟨?_, ?_, ?_, ?_⟩, fun k hk => ⟨?_, ⟨?_, ?_⟩, ?_⟩, fun p hp => ⟨?_, ?_, ?_⟩, fun p q hp hq he => ?_, fun d hd1 hd2 => ?_⟩
  · rw [← hw]; simp only [va_up]; (repeat' split) <;> first | omega | contradiction
  · rw [← hw]; simp only [va_up]; (repeat' split) <;> first | omega | contradiction
  · rw [← hw]; simp only [va_up]; (repeat' split) <;> first | omega | contradiction
  · rw [← hw]; simp only [va_up]; (repeat' split) <;> first | omega | contradiction
  · rw [← hw]; simp only [va_up]; (repeat' split) <;> first | omega | contradiction
  · rw [← hw]; simp only [va_up]; (repeat' split) <;> first | omega | contradiction
  · rw [w4]; omega
  · rw [w5]; omega
  · rw [w9]; omega
  · have hdx := hdo d
    rw [w4] at hd
    rw [← hw]; simp only [va_up]; (repeat' split) <;> first | omega | contradiction
  · have hdx := hdo d
    rw [w4] at hd
    rw [← hw]; simp only [va_up]; (repeat' split) <;> first | omega | contradiction
  · have hdx := hdo d
    rw [w4] at hd
    rw [← hw]; simp only [va_up]; (repeat' split) <;> first | omega | contradiction
  · have hdx := hdo d
    rw [w4] at hd
    rw [← hw]; simp only [va_up]; (repeat' split) <;> first | omega | contradiction
  · have hkx := hke k
    rw [w5] at hk
    rw [← hw]; simp only [va_up]; (repeat' split) <;> first | omega | contradiction
  · have hkx := hke k
    rw [w5] at hk
    rw [← hw]; simp only [va_up]; (repeat' split) <;> first | omega | contradiction
  · have hkx := hke k
    rw [w5] at hk
    rw [← hw]; simp only [va_up]; (repeat' split) <;> first | omega | contradiction
  · have hkx := hke k
    rw [w5] at hk
    rw [← hw]; simp only [va_up]; (repeat' split) <;> first | omega | contradiction
  · have hpx := hpn p
    rw [w9] at hp
    rw [w4]
    rw [← hw]; simp only [va_up]; (repeat' split) <;> first | omega | contradiction
  · have hpx := hpn p
    rw [w9] at hp
    rw [← hw]; simp only [va_up]; (repeat' split) <;> first | omega | contradiction
  · have hpx := hpn p
    rw [w9] at hp
    rw [← hw]; simp only [va_up]; (repeat' split) <;> first | omega | contradiction
  · rw [w9] at hp hq
    have e : ∀ x, x < v 9 → w (150 + 3 * x) = v (150 + 3 * x) := fun x hx => by rw [← hw]; simp only [va_up, ↓reduceIte] <;> (repeat' split) <;> omega
    rw [e p hp, e q hq] at he; exact hpd p q (by omega) (by omega) he
  · have hcx := htc d
    rw [w4] at hd1
    rw [← hw]; simp only [va_up]; (repeat' split) <;> first | omega | contradiction
set_option maxHeartbeats 4000000 in
theorem okR_D {v : Nat → Nat} (h : okR v) {a b f s : Nat} (h4 : v 4 < 10) (ha : a < 8) (hb : b < 8) (hf : f < 10000) (hs : s < 10000) : okR (rowD v a b f s) := by
  unfold okR fstR sndR cutR whrR at h
  obtain ⟨⟨h01, h02⟩, hl1, ⟨h21, h22⟩, h3, h44, h5, h9, hdo, hke, hpn, hpd, htc⟩ := h
  generalize hw : rowD v a b f s = w
  have w4 : w 4 = v 4 + 1 := by rw [← hw]; simp only [rowD, va_up, ↓reduceIte] <;> (repeat' split) <;> omega
  have w5 : w 5 = v 5 := by rw [← hw]; simp only [rowD, va_up, ↓reduceIte] <;> (repeat' split) <;> omega
  have w9 : w 9 = v 9 := by rw [← hw]; simp only [rowD, va_up, ↓reduceIte] <;> (repeat' split) <;> omega
  unfold okR fstR sndR cutR whrR
  refine ⟨⟨?_, ?_⟩, ?_, ⟨?_, ?_⟩, ?_, ?_, ?_, ?_, fun d hd => ⟨?_, ?_, ?_, ?_⟩, fun k hk => ⟨?_, ⟨?_, ?_⟩, ?_⟩, fun p hp => ⟨?_, ?_, ?_⟩, fun p q hp hq he => ?_, fun d hd1 hd2 => ?_⟩
  · rw [← hw]; simp only [rowD, va_up]; (repeat' split) <;> first | omega | contradiction
  · rw [← hw]; simp only [rowD, va_up]; (repeat' split) <;> first | omega | contradiction
  · rw [← hw]; simp only [rowD, va_up]; (repeat' split) <;> first | omega | contradiction
  · rw [← hw]; simp only [rowD, va_up]; (repeat' split) <;> first | omega | contradiction
  · rw [← hw]; simp only [rowD, va_up]; (repeat' split) <;> first | omega | contradiction
  · rw [← hw]; simp only [rowD, va_up]; (repeat' split) <;> first | omega | contradiction
  · rw [w4]; omega
  · rw [w5]; omega
  · rw [w9]; omega
  · have hdx := hdo d
    rw [w4] at hd
    rw [← hw]; simp only [rowD, va_up]; (repeat' split) <;> first | omega | contradiction
  · have hdx := hdo d
    rw [w4] at hd
    rw [← hw]; simp only [rowD, va_up]; (repeat' split) <;> first | omega | contradiction
  · have hdx := hdo d
    rw [w4] at hd
    rw [← hw]; simp only [rowD, va_up]; (repeat' split) <;> first | omega | contradiction
  · have hdx := hdo d
    rw [w4] at hd
    rw [← hw]; simp only [rowD, va_up]; (repeat' split) <;> first | omega | contradiction
  · have hkx := hke k
    rw [w5] at hk
    rw [← hw]; simp only [rowD, va_up]; (repeat' split) <;> first | omega | contradiction
  · have hkx := hke k
    rw [w5] at hk
    rw [← hw]; simp only [rowD, va_up]; (repeat' split) <;> first | omega | contradiction
  · have hkx := hke k
    rw [w5] at hk
    rw [← hw]; simp only [rowD, va_up]; (repeat' split) <;> first | omega | contradiction
  · have hkx := hke k
    rw [w5] at hk
    rw [← hw]; simp only [rowD, va_up]; (repeat' split) <;> first | omega | contradiction
  · have hpx := hpn p
    rw [w9] at hp
    rw [w4]
    rw [← hw]; simp only [rowD, va_up]; (repeat' split) <;> first | omega | contradiction
  · have hpx := hpn p
    rw [w9] at hp
    rw [← hw]; simp only [rowD, va_up]; (repeat' split) <;> first | omega | contradiction
  · have hpx := hpn p
    rw [w9] at hp
    rw [← hw]; simp only [rowD, va_up]; (repeat' split) <;> first | omega | contradiction
  · rw [w9] at hp hq
    have e : ∀ x, x < v 9 → w (150 + 3 * x) = v (150 + 3 * x) := fun x hx => by rw [← hw]; simp only [rowD, va_up, ↓reduceIte] <;> (repeat' split) <;> omega
    rw [e p hp, e q hq] at he; exact hpd p q (by omega) (by omega) he
  · have hcx := htc d
    rw [w4] at hd1
    rw [← hw]; simp only [rowD, va_up]; (repeat' split) <;> first | omega | contradiction
set_option maxHeartbeats 4000000 in
theorem okR_C {v : Nat → Nat} (h : okR v) {d0 f s : Nat} (hd0 : d0 < v 4) (hf : f < 10000) (hs : s < 10000) : okR (rowC v d0 f s) := by
  unfold okR fstR sndR cutR whrR at h
  obtain ⟨⟨h01, h02⟩, hl1, ⟨h21, h22⟩, h3, h44, h5, h9, hdo, hke, hpn, hpd, htc⟩ := h
  generalize hw : rowC v d0 f s = w
  have w4 : w 4 = v 4 := by rw [← hw]; simp only [rowC, va_up, ↓reduceIte] <;> (repeat' split) <;> omega
  have w5 : w 5 = v 5 := by rw [← hw]; simp only [rowC, va_up, ↓reduceIte] <;> (repeat' split) <;> omega
  have w9 : w 9 = v 9 := by rw [← hw]; simp only [rowC, va_up, ↓reduceIte] <;> (repeat' split) <;> omega
  unfold okR fstR sndR cutR whrR
  refine ⟨⟨?_, ?_⟩, ?_, ⟨?_, ?_⟩, ?_, ?_, ?_, ?_, fun d hd => ⟨?_, ?_, ?_, ?_⟩, fun k hk => ⟨?_, ⟨?_, ?_⟩, ?_⟩, fun p hp => ⟨?_, ?_, ?_⟩, fun p q hp hq he => ?_, fun d hd1 hd2 => ?_⟩
  · rw [← hw]; simp only [rowC, va_up]; (repeat' split) <;> first | omega | contradiction
  · rw [← hw]; simp only [rowC, va_up]; (repeat' split) <;> first | omega | contradiction
  · rw [← hw]; simp only [rowC, va_up]; (repeat' split) <;> first | omega | contradiction
  · rw [← hw]; simp only [rowC, va_up]; (repeat' split) <;> first | omega | contradiction
  · rw [← hw]; simp only [rowC, va_up]; (repeat' split) <;> first | omega | contradiction
  · rw [← hw]; simp only [rowC, va_up]; (repeat' split) <;> first | omega | contradiction
  · rw [w4]; omega
  · rw [w5]; omega
  · rw [w9]; omega
  · have hdx := hdo d
    rw [w4] at hd
    rw [← hw]; simp only [rowC, va_up]; (repeat' split) <;> first | omega | contradiction
  · have hdx := hdo d
    rw [w4] at hd
    rw [← hw]; simp only [rowC, va_up]; (repeat' split) <;> first | omega | contradiction
  · have hdx := hdo d
    rw [w4] at hd
    rw [← hw]; simp only [rowC, va_up]; (repeat' split) <;> first | omega | contradiction
  · have hdx := hdo d
    rw [w4] at hd
    rw [← hw]; simp only [rowC, va_up]; (repeat' split) <;> first | omega | contradiction
  · have hkx := hke k
    rw [w5] at hk
    rw [← hw]; simp only [rowC, va_up]; (repeat' split) <;> first | omega | contradiction
  · have hkx := hke k
    rw [w5] at hk
    rw [← hw]; simp only [rowC, va_up]; (repeat' split) <;> first | omega | contradiction
  · have hkx := hke k
    rw [w5] at hk
    rw [← hw]; simp only [rowC, va_up]; (repeat' split) <;> first | omega | contradiction
  · have hkx := hke k
    rw [w5] at hk
    rw [← hw]; simp only [rowC, va_up]; (repeat' split) <;> first | omega | contradiction
  · have hpx := hpn p
    rw [w9] at hp
    rw [w4]
    rw [← hw]; simp only [rowC, va_up]; (repeat' split) <;> first | omega | contradiction
  · have hpx := hpn p
    rw [w9] at hp
    rw [← hw]; simp only [rowC, va_up]; (repeat' split) <;> first | omega | contradiction
  · have hpx := hpn p
    rw [w9] at hp
    rw [← hw]; simp only [rowC, va_up]; (repeat' split) <;> first | omega | contradiction
  · rw [w9] at hp hq
    have e : ∀ x, x < v 9 → w (150 + 3 * x) = v (150 + 3 * x) := fun x hx => by rw [← hw]; simp only [rowC, va_up, ↓reduceIte] <;> (repeat' split) <;> omega
    rw [e p hp, e q hq] at he; exact hpd p q (by omega) (by omega) he
  · have hcx := htc d
    rw [w4] at hd1
    rw [← hw]; simp only [rowC, va_up]; (repeat' split) <;> first | omega | contradiction
set_option maxHeartbeats 4000000 in
theorem okR_K {v : Nat → Nat} (h : okR v) {c r : Nat} (h55 : v 5 < 16) (hc : c < 10000) (hr : r < 8) : okR (rowK v c r) := by
  unfold okR fstR sndR cutR whrR at h
  obtain ⟨⟨h01, h02⟩, hl1, ⟨h21, h22⟩, h3, h44, h5, h9, hdo, hke, hpn, hpd, htc⟩ := h
  generalize hw : rowK v c r = w
  have w4 : w 4 = v 4 := by rw [← hw]; simp only [rowK, va_up, ↓reduceIte] <;> (repeat' split) <;> omega
  have w5 : w 5 = v 5 + 1 := by rw [← hw]; simp only [rowK, va_up, ↓reduceIte] <;> (repeat' split) <;> omega
  have w9 : w 9 = v 9 := by rw [← hw]; simp only [rowK, va_up, ↓reduceIte] <;> (repeat' split) <;> omega
  unfold okR fstR sndR cutR whrR
  refine ⟨⟨?_, ?_⟩, ?_, ⟨?_, ?_⟩, ?_, ?_, ?_, ?_, fun d hd => ⟨?_, ?_, ?_, ?_⟩, fun k hk => ⟨?_, ⟨?_, ?_⟩, ?_⟩, fun p hp => ⟨?_, ?_, ?_⟩, fun p q hp hq he => ?_, fun d hd1 hd2 => ?_⟩
  · rw [← hw]; simp only [rowK, va_up]; (repeat' split) <;> first | omega | contradiction
  · rw [← hw]; simp only [rowK, va_up]; (repeat' split) <;> first | omega | contradiction
  · rw [← hw]; simp only [rowK, va_up]; (repeat' split) <;> first | omega | contradiction
  · rw [← hw]; simp only [rowK, va_up]; (repeat' split) <;> first | omega | contradiction
  · rw [← hw]; simp only [rowK, va_up]; (repeat' split) <;> first | omega | contradiction
  · rw [← hw]; simp only [rowK, va_up]; (repeat' split) <;> first | omega | contradiction
  · rw [w4]; omega
  · rw [w5]; omega
  · rw [w9]; omega
  · have hdx := hdo d
    rw [w4] at hd
    rw [← hw]; simp only [rowK, va_up]; (repeat' split) <;> first | omega | contradiction
  · have hdx := hdo d
    rw [w4] at hd
    rw [← hw]; simp only [rowK, va_up]; (repeat' split) <;> first | omega | contradiction
  · have hdx := hdo d
    rw [w4] at hd
    rw [← hw]; simp only [rowK, va_up]; (repeat' split) <;> first | omega | contradiction
  · have hdx := hdo d
    rw [w4] at hd
    rw [← hw]; simp only [rowK, va_up]; (repeat' split) <;> first | omega | contradiction
  · have hkx := hke k
    rw [w5] at hk
    rw [← hw]; simp only [rowK, va_up]; (repeat' split) <;> first | omega | contradiction
  · have hkx := hke k
    rw [w5] at hk
    rw [← hw]; simp only [rowK, va_up]; (repeat' split) <;> first | omega | contradiction
  · have hkx := hke k
    rw [w5] at hk
    rw [← hw]; simp only [rowK, va_up]; (repeat' split) <;> first | omega | contradiction
  · have hkx := hke k
    rw [w5] at hk
    rw [← hw]; simp only [rowK, va_up]; (repeat' split) <;> first | omega | contradiction
  · have hpx := hpn p
    rw [w9] at hp
    rw [w4]
    rw [← hw]; simp only [rowK, va_up]; (repeat' split) <;> first | omega | contradiction
  · have hpx := hpn p
    rw [w9] at hp
    rw [← hw]; simp only [rowK, va_up]; (repeat' split) <;> first | omega | contradiction
  · have hpx := hpn p
    rw [w9] at hp
    rw [← hw]; simp only [rowK, va_up]; (repeat' split) <;> first | omega | contradiction
  · rw [w9] at hp hq
    have e : ∀ x, x < v 9 → w (150 + 3 * x) = v (150 + 3 * x) := fun x hx => by rw [← hw]; simp only [rowK, va_up, ↓reduceIte] <;> (repeat' split) <;> omega
    rw [e p hp, e q hq] at he; exact hpd p q (by omega) (by omega) he
  · have hcx := htc d
    rw [w4] at hd1
    rw [← hw]; simp only [rowK, va_up]; (repeat' split) <;> first | omega | contradiction
set_option maxHeartbeats 4000000 in
theorem okR_M {v : Nat → Nat} (h : okR v) {k0 : Nat} (hk0 : k0 < v 5) : okR (rowM v k0) := by
  unfold okR fstR sndR cutR whrR at h
  obtain ⟨⟨h01, h02⟩, hl1, ⟨h21, h22⟩, h3, h44, h5, h9, hdo, hke, hpn, hpd, htc⟩ := h
  generalize hw : rowM v k0 = w
  have w4 : w 4 = v 4 := by rw [← hw]; simp only [rowM, va_up, ↓reduceIte] <;> (repeat' split) <;> omega
  have w5 : w 5 = v 5 := by rw [← hw]; simp only [rowM, va_up, ↓reduceIte] <;> (repeat' split) <;> omega
  have w9 : w 9 = v 9 := by rw [← hw]; simp only [rowM, va_up, ↓reduceIte] <;> (repeat' split) <;> omega
  unfold okR fstR sndR cutR whrR
  refine ⟨⟨?_, ?_⟩, ?_, ⟨?_, ?_⟩, ?_, ?_, ?_, ?_, fun d hd => ⟨?_, ?_, ?_, ?_⟩, fun k hk => ⟨?_, ⟨?_, ?_⟩, ?_⟩, fun p hp => ⟨?_, ?_, ?_⟩, fun p q hp hq he => ?_, fun d hd1 hd2 => ?_⟩
  · rw [← hw]; simp only [rowM, va_up]; (repeat' split) <;> first | omega | contradiction
  · rw [← hw]; simp only [rowM, va_up]; (repeat' split) <;> first | omega | contradiction
  · rw [← hw]; simp only [rowM, va_up]; (repeat' split) <;> first | omega | contradiction
  · rw [← hw]; simp only [rowM, va_up]; (repeat' split) <;> first | omega | contradiction
  · rw [← hw]; simp only [rowM, va_up]; (repeat' split) <;> first | omega | contradiction
  · rw [← hw]; simp only [rowM, va_up]; (repeat' split) <;> first | omega | contradiction
  · rw [w4]; omega
  · rw [w5]; omega
  · rw [w9]; omega
  · have hdx := hdo d
    rw [w4] at hd
    rw [← hw]; simp only [rowM, va_up]; (repeat' split) <;> first | omega | contradiction
  · have hdx := hdo d
    rw [w4] at hd
    rw [← hw]; simp only [rowM, va_up]; (repeat' split) <;> first | omega | contradiction
  · have hdx := hdo d
    rw [w4] at hd
    rw [← hw]; simp only [rowM, va_up]; (repeat' split) <;> first | omega | contradiction
  · have hdx := hdo d
    rw [w4] at hd
    rw [← hw]; simp only [rowM, va_up]; (repeat' split) <;> first | omega | contradiction
  · have hkx := hke k
    rw [w5] at hk
    rw [← hw]; simp only [rowM, va_up]; (repeat' split) <;> first | omega | contradiction
  · have hkx := hke k
    rw [w5] at hk
    rw [← hw]; simp only [rowM, va_up]; (repeat' split) <;> first | omega | contradiction
  · have hkx := hke k
    rw [w5] at hk
    rw [← hw]; simp only [rowM, va_up]; (repeat' split) <;> first | omega | contradiction
  · have hkx := hke k
    rw [w5] at hk
    rw [← hw]; simp only [rowM, va_up]; (repeat' split) <;> first | omega | contradiction
  · have hpx := hpn p
    rw [w9] at hp
    rw [w4]
    rw [← hw]; simp only [rowM, va_up]; (repeat' split) <;> first | omega | contradiction
  · have hpx := hpn p
    rw [w9] at hp
    rw [← hw]; simp only [rowM, va_up]; (repeat' split) <;> first | omega | contradiction
  · have hpx := hpn p
    rw [w9] at hp
    rw [← hw]; simp only [rowM, va_up]; (repeat' split) <;> first | omega | contradiction
  · rw [w9] at hp hq
    have e : ∀ x, x < v 9 → w (150 + 3 * x) = v (150 + 3 * x) := fun x hx => by rw [← hw]; simp only [rowM, va_up, ↓reduceIte] <;> (repeat' split) <;> omega
    rw [e p hp, e q hq] at he; exact hpd p q (by omega) (by omega) he
  · have hcx := htc d
    rw [w4] at hd1
    rw [← hw]; simp only [rowM, va_up]; (repeat' split) <;> first | omega | contradiction
set_option maxHeartbeats 4000000 in
theorem okR_W {v : Nat → Nat} (h : okR v) {k0 b : Nat} (hk0 : k0 < v 5) (hb : b ≤ 9) : okR (va_up v (80 + 4 * k0 + 2) b) := by
  unfold okR fstR sndR cutR whrR at h
  obtain ⟨⟨h01, h02⟩, hl1, ⟨h21, h22⟩, h3, h44, h5, h9, hdo, hke, hpn, hpd, htc⟩ := h
  generalize hw : va_up v (80 + 4 * k0 + 2) b = w
  have w4 : w 4 = v 4 := by rw [← hw]; simp only [va_up, ↓reduceIte] <;> (repeat' split) <;> omega
  have w5 : w 5 = v 5 := by rw [← hw]; simp only [va_up, ↓reduceIte] <;> (repeat' split) <;> omega
  have w9 : w 9 = v 9 := by rw [← hw]; simp only [va_up, ↓reduceIte] <;> (repeat' split) <;> omega
  unfold okR fstR sndR cutR whrR
  refine ⟨⟨?_, ?_⟩, ?_, ⟨?_, ?_⟩, ?_, ?_, ?_, ?_, fun d hd => ⟨?_, ?_, ?_, ?_⟩, fun k hk => ⟨?_, ⟨?_, ?_⟩, ?_⟩, fun p hp => ⟨?_, ?_, ?_⟩, fun p q hp hq he => ?_, fun d hd1 hd2 => ?_⟩
  · rw [← hw]; simp only [va_up]; (repeat' split) <;> first | omega | contradiction
  · rw [← hw]; simp only [va_up]; (repeat' split) <;> first | omega | contradiction
  · rw [← hw]; simp only [va_up]; (repeat' split) <;> first | omega | contradiction
  · rw [← hw]; simp only [va_up]; (repeat' split) <;> first | omega | contradiction
  · rw [← hw]; simp only [va_up]; (repeat' split) <;> first | omega | contradiction
  · rw [← hw]; simp only [va_up]; (repeat' split) <;> first | omega | contradiction
  · rw [w4]; omega
  · rw [w5]; omega
  · rw [w9]; omega
  · have hdx := hdo d
    rw [w4] at hd
    rw [← hw]; simp only [va_up]; (repeat' split) <;> first | omega | contradiction
  · have hdx := hdo d
    rw [w4] at hd
    rw [← hw]; simp only [va_up]; (repeat' split) <;> first | omega | contradiction
  · have hdx := hdo d
    rw [w4] at hd
    rw [← hw]; simp only [va_up]; (repeat' split) <;> first | omega | contradiction
  · have hdx := hdo d
    rw [w4] at hd
    rw [← hw]; simp only [va_up]; (repeat' split) <;> first | omega | contradiction
  · have hkx := hke k
    rw [w5] at hk
    rw [← hw]; simp only [va_up]; (repeat' split) <;> first | omega | contradiction
  · have hkx := hke k
    rw [w5] at hk
    rw [← hw]; simp only [va_up]; (repeat' split) <;> first | omega | contradiction
  · have hkx := hke k
    rw [w5] at hk
    rw [← hw]; simp only [va_up]; (repeat' split) <;> first | omega | contradiction
  · have hkx := hke k
    rw [w5] at hk
    rw [← hw]; simp only [va_up]; (repeat' split) <;> first | omega | contradiction
  · have hpx := hpn p
    rw [w9] at hp
    rw [w4]
    rw [← hw]; simp only [va_up]; (repeat' split) <;> first | omega | contradiction
  · have hpx := hpn p
    rw [w9] at hp
    rw [← hw]; simp only [va_up]; (repeat' split) <;> first | omega | contradiction
  · have hpx := hpn p
    rw [w9] at hp
    rw [← hw]; simp only [va_up]; (repeat' split) <;> first | omega | contradiction
  · rw [w9] at hp hq
    have e : ∀ x, x < v 9 → w (150 + 3 * x) = v (150 + 3 * x) := fun x hx => by rw [← hw]; simp only [va_up, ↓reduceIte] <;> (repeat' split) <;> omega
    rw [e p hp, e q hq] at he; exact hpd p q (by omega) (by omega) he
  · have hcx := htc d
    rw [w4] at hd1
    rw [← hw]; simp only [va_up]; (repeat' split) <;> first | omega | contradiction
set_option maxHeartbeats 4000000 in
theorem okR_G {v : Nat → Nat} (h : okR v) {a b : Nat} (ha : a < 8) : okR (va_up (va_up v 3 a) 10 b) := by
  unfold okR fstR sndR cutR whrR at h
  obtain ⟨⟨h01, h02⟩, hl1, ⟨h21, h22⟩, h3, h44, h5, h9, hdo, hke, hpn, hpd, htc⟩ := h
  generalize hw : va_up (va_up v 3 a) 10 b = w
  have w4 : w 4 = v 4 := by rw [← hw]; simp only [va_up, ↓reduceIte] <;> (repeat' split) <;> omega
  have w5 : w 5 = v 5 := by rw [← hw]; simp only [va_up, ↓reduceIte] <;> (repeat' split) <;> omega
  have w9 : w 9 = v 9 := by rw [← hw]; simp only [va_up, ↓reduceIte] <;> (repeat' split) <;> omega
  unfold okR fstR sndR cutR whrR
  refine ⟨⟨?_, ?_⟩, ?_, ⟨?_, ?_⟩, ?_, ?_, ?_, ?_, fun d hd => ⟨?_, ?_, ?_, ?_⟩, fun k hk => ⟨?_, ⟨?_, ?_⟩, ?_⟩, fun p hp => ⟨?_, ?_, ?_⟩, fun p q hp hq he => ?_, fun d hd1 hd2 => ?_⟩
  · rw [← hw]; simp only [va_up]; (repeat' split) <;> first | omega | contradiction
  · rw [← hw]; simp only [va_up]; (repeat' split) <;> first | omega | contradiction
  · rw [← hw]; simp only [va_up]; (repeat' split) <;> first | omega | contradiction
  · rw [← hw]; simp only [va_up]; (repeat' split) <;> first | omega | contradiction
  · rw [← hw]; simp only [va_up]; (repeat' split) <;> first | omega | contradiction
  · rw [← hw]; simp only [va_up]; (repeat' split) <;> first | omega | contradiction
  · rw [w4]; omega
  · rw [w5]; omega
  · rw [w9]; omega
  · have hdx := hdo d
    rw [w4] at hd
    rw [← hw]; simp only [va_up]; (repeat' split) <;> first | omega | contradiction
  · have hdx := hdo d
    rw [w4] at hd
    rw [← hw]; simp only [va_up]; (repeat' split) <;> first | omega | contradiction
  · have hdx := hdo d
    rw [w4] at hd
    rw [← hw]; simp only [va_up]; (repeat' split) <;> first | omega | contradiction
  · have hdx := hdo d
    rw [w4] at hd
    rw [← hw]; simp only [va_up]; (repeat' split) <;> first | omega | contradiction
  · have hkx := hke k
    rw [w5] at hk
    rw [← hw]; simp only [va_up]; (repeat' split) <;> first | omega | contradiction
  · have hkx := hke k
    rw [w5] at hk
    rw [← hw]; simp only [va_up]; (repeat' split) <;> first | omega | contradiction
  · have hkx := hke k
    rw [w5] at hk
    rw [← hw]; simp only [va_up]; (repeat' split) <;> first | omega | contradiction
  · have hkx := hke k
    rw [w5] at hk
    rw [← hw]; simp only [va_up]; (repeat' split) <;> first | omega | contradiction
  · have hpx := hpn p
    rw [w9] at hp
    rw [w4]
    rw [← hw]; simp only [va_up]; (repeat' split) <;> first | omega | contradiction
  · have hpx := hpn p
    rw [w9] at hp
    rw [← hw]; simp only [va_up]; (repeat' split) <;> first | omega | contradiction
  · have hpx := hpn p
    rw [w9] at hp
    rw [← hw]; simp only [va_up]; (repeat' split) <;> first | omega | contradiction
  · rw [w9] at hp hq
    have e : ∀ x, x < v 9 → w (150 + 3 * x) = v (150 + 3 * x) := fun x hx => by rw [← hw]; simp only [va_up, ↓reduceIte] <;> (repeat' split) <;> omega
    rw [e p hp, e q hq] at he; exact hpd p q (by omega) (by omega) he
  · have hcx := htc d
    rw [w4] at hd1
    rw [← hw]; simp only [va_up]; (repeat' split) <;> first | omega | contradiction
set_option maxHeartbeats 4000000 in
theorem okR_P {v : Nat → Nat} (h : okR v) {d0 f s : Nat} (h99 : v 9 < 6) (hd0 : d0 < v 4) (hf : f < 10000) (hs : s < 10000) (hno : ∀ p, p < v 9 → ¬ v (150 + 3 * p) = d0) : okR (rowP v d0 f s) := by
  unfold okR fstR sndR cutR whrR at h
  obtain ⟨⟨h01, h02⟩, hl1, ⟨h21, h22⟩, h3, h44, h5, h9, hdo, hke, hpn, hpd, htc⟩ := h
  generalize hw : rowP v d0 f s = w
  have w4 : w 4 = v 4 := by rw [← hw]; simp only [rowP, va_up, ↓reduceIte] <;> (repeat' split) <;> omega
  have w5 : w 5 = v 5 := by rw [← hw]; simp only [rowP, va_up, ↓reduceIte] <;> (repeat' split) <;> omega
  have w9 : w 9 = v 9 + 1 := by rw [← hw]; simp only [rowP, va_up, ↓reduceIte] <;> (repeat' split) <;> omega
  unfold okR fstR sndR cutR whrR
  refine ⟨⟨?_, ?_⟩, ?_, ⟨?_, ?_⟩, ?_, ?_, ?_, ?_, fun d hd => ⟨?_, ?_, ?_, ?_⟩, fun k hk => ⟨?_, ⟨?_, ?_⟩, ?_⟩, fun p hp => ⟨?_, ?_, ?_⟩, fun p q hp hq he => ?_, fun d hd1 hd2 => ?_⟩
  · rw [← hw]; simp only [rowP, va_up]; (repeat' split) <;> first | omega | contradiction
  · rw [← hw]; simp only [rowP, va_up]; (repeat' split) <;> first | omega | contradiction
  · rw [← hw]; simp only [rowP, va_up]; (repeat' split) <;> first | omega | contradiction
  · rw [← hw]; simp only [rowP, va_up]; (repeat' split) <;> first | omega | contradiction
  · rw [← hw]; simp only [rowP, va_up]; (repeat' split) <;> first | omega | contradiction
  · rw [← hw]; simp only [rowP, va_up]; (repeat' split) <;> first | omega | contradiction
  · rw [w4]; omega
  · rw [w5]; omega
  · rw [w9]; omega
  · have hdx := hdo d
    rw [w4] at hd
    rw [← hw]; simp only [rowP, va_up]; (repeat' split) <;> first | omega | contradiction
  · have hdx := hdo d
    rw [w4] at hd
    rw [← hw]; simp only [rowP, va_up]; (repeat' split) <;> first | omega | contradiction
  · have hdx := hdo d
    rw [w4] at hd
    rw [← hw]; simp only [rowP, va_up]; (repeat' split) <;> first | omega | contradiction
  · have hdx := hdo d
    rw [w4] at hd
    rw [← hw]; simp only [rowP, va_up]; (repeat' split) <;> first | omega | contradiction
  · have hkx := hke k
    rw [w5] at hk
    rw [← hw]; simp only [rowP, va_up]; (repeat' split) <;> first | omega | contradiction
  · have hkx := hke k
    rw [w5] at hk
    rw [← hw]; simp only [rowP, va_up]; (repeat' split) <;> first | omega | contradiction
  · have hkx := hke k
    rw [w5] at hk
    rw [← hw]; simp only [rowP, va_up]; (repeat' split) <;> first | omega | contradiction
  · have hkx := hke k
    rw [w5] at hk
    rw [← hw]; simp only [rowP, va_up]; (repeat' split) <;> first | omega | contradiction
  · have hpx := hpn p
    rw [w9] at hp
    rw [w4]
    rw [← hw]; simp only [rowP, va_up]; (repeat' split) <;> first | omega | contradiction
  · have hpx := hpn p
    rw [w9] at hp
    rw [← hw]; simp only [rowP, va_up]; (repeat' split) <;> first | omega | contradiction
  · have hpx := hpn p
    rw [w9] at hp
    rw [← hw]; simp only [rowP, va_up]; (repeat' split) <;> first | omega | contradiction
  · rw [w9] at hp hq
    have e : ∀ x, x < v 9 → w (150 + 3 * x) = v (150 + 3 * x) := fun x hx => by rw [← hw]; simp only [rowP, va_up, ↓reduceIte] <;> (repeat' split) <;> omega
    have e2 : w (150 + 3 * v 9) = d0 := by rw [← hw]; unfold rowP; rw [va_up_off (by omega), va_up_off (by omega), va_up_off (by omega), va_up_at]
    by_cases p1 : p = v 9
    · by_cases q1 : q = v 9
      · omega
      · rw [p1, e2, e q (by omega)] at he; exact absurd he.symm (hno q (by omega))
    · by_cases q1 : q = v 9
      · rw [q1, e2, e p (by omega)] at he; exact absurd he (hno p (by omega))
      · rw [e p (by omega), e q (by omega)] at he; exact hpd p q (by omega) (by omega) he
  · have hcx := htc d
    rw [w4] at hd1
    rw [← hw]; simp only [rowP, va_up]; (repeat' split) <;> first | omega | contradiction
set_option maxHeartbeats 4000000 in
theorem okR_N {v : Nat → Nat} (h : okR v)  : okR (va_up v 9 0) := by
  unfold okR fstR sndR cutR whrR at h
  obtain ⟨⟨h01, h02⟩, hl1, ⟨h21, h22⟩, h3, h44, h5, h9, hdo, hke, hpn, hpd, htc⟩ := h
  generalize hw : va_up v 9 0 = w
  have w4 : w 4 = v 4 := by rw [← hw]; simp only [va_up, ↓reduceIte] <;> (repeat' split) <;> omega
  have w5 : w 5 = v 5 := by rw [← hw]; simp only [va_up, ↓reduceIte] <;> (repeat' split) <;> omega
  have w9 : w 9 = 0 := by rw [← hw]; simp only [va_up, ↓reduceIte] <;> (repeat' split) <;> omega
  unfold okR fstR sndR cutR whrR
  refine ⟨⟨?_, ?_⟩, ?_, ⟨?_, ?_⟩, ?_, ?_, ?_, ?_, fun d hd => ⟨?_, ?_, ?_, ?_⟩, fun k hk => ⟨?_, ⟨?_, ?_⟩, ?_⟩, fun p hp => ⟨?_, ?_, ?_⟩, fun p q hp hq he => ?_, fun d hd1 hd2 => ?_⟩
  · rw [← hw]; simp only [va_up]; (repeat' split) <;> first | omega | contradiction
  · rw [← hw]; simp only [va_up]; (repeat' split) <;> first | omega | contradiction
  · rw [← hw]; simp only [va_up]; (repeat' split) <;> first | omega | contradiction
  · rw [← hw]; simp only [va_up]; (repeat' split) <;> first | omega | contradiction
  · rw [← hw]; simp only [va_up]; (repeat' split) <;> first | omega | contradiction
  · rw [← hw]; simp only [va_up]; (repeat' split) <;> first | omega | contradiction
  · rw [w4]; omega
  · rw [w5]; omega
  · rw [w9]; omega
  · have hdx := hdo d
    rw [w4] at hd
    rw [← hw]; simp only [va_up]; (repeat' split) <;> first | omega | contradiction
  · have hdx := hdo d
    rw [w4] at hd
    rw [← hw]; simp only [va_up]; (repeat' split) <;> first | omega | contradiction
  · have hdx := hdo d
    rw [w4] at hd
    rw [← hw]; simp only [va_up]; (repeat' split) <;> first | omega | contradiction
  · have hdx := hdo d
    rw [w4] at hd
    rw [← hw]; simp only [va_up]; (repeat' split) <;> first | omega | contradiction
  · have hkx := hke k
    rw [w5] at hk
    rw [← hw]; simp only [va_up]; (repeat' split) <;> first | omega | contradiction
  · have hkx := hke k
    rw [w5] at hk
    rw [← hw]; simp only [va_up]; (repeat' split) <;> first | omega | contradiction
  · have hkx := hke k
    rw [w5] at hk
    rw [← hw]; simp only [va_up]; (repeat' split) <;> first | omega | contradiction
  · have hkx := hke k
    rw [w5] at hk
    rw [← hw]; simp only [va_up]; (repeat' split) <;> first | omega | contradiction
  · have hpx := hpn p
    rw [w9] at hp
    rw [w4]
    rw [← hw]; simp only [va_up]; (repeat' split) <;> first | omega | contradiction
  · have hpx := hpn p
    rw [w9] at hp
    rw [← hw]; simp only [va_up]; (repeat' split) <;> first | omega | contradiction
  · have hpx := hpn p
    rw [w9] at hp
    rw [← hw]; simp only [va_up]; (repeat' split) <;> first | omega | contradiction
  · rw [w9] at hp hq
    have e : ∀ x, x < 0 → w (150 + 3 * x) = v (150 + 3 * x) := fun x hx => by rw [← hw]; simp only [va_up, ↓reduceIte] <;> (repeat' split) <;> omega
    rw [e p hp, e q hq] at he; exact hpd p q (by omega) (by omega) he
  · have hcx := htc d
    rw [w4] at hd1
    rw [← hw]; simp only [va_up]; (repeat' split) <;> first | omega | contradiction
theorem plc_no {v : Nat → Nat} {d n : Nat} (h : plcF v d n < 0) : ∀ p, p < n → ¬ v (150 + 3 * p) = d := by
  induction n with
  | zero => intro p hp; exact absurd hp (Nat.not_lt_zero _)
  | succ n ih =>
    intro p hp
    simp only [plcF] at h
    split at h
    · omega
    · rename_i hn
      by_cases e : p = n
      · subst e; exact hn
      · exact ih h p (by omega)
abbrev okX (v : Nat → Nat) (X : Int × (Nat → Nat)) : Prop := okR X.2 ∧ X.2 7 ≤ v 7 + 1000
theorem okX.err {v : Nat → Nat} (h : okR v) (n : Int) : okX v (n, v) := ⟨h, Nat.le_add_right _ _⟩
theorem ok_set {v : Nat → Nat} (h : okR v) (s x : Int) : okX v (sSet v s x) := by
  unfold sSet
  by_cases hs : 0 ≤ s ∧ s ≤ 2
  · rw [if_pos hs]
    have key : ∀ n : Nat, n < 3 → okR (va_up v n x.toNat) → okX v (((v n : Nat) : Int), va_up v n x.toNat) := fun n hn hk => ⟨hk, by show va_up v n x.toNat 7 ≤ v 7 + 1000; rw [va_up_off (by omega)]; omega⟩
    rcases (show s = 0 ∨ s = 1 ∨ s = 2 by omega) with rfl | rfl | rfl
    · show okX v (if 1 ≤ x ∧ x ≤ 9 then (((v 0 : Nat) : Int), va_up v 0 x.toNat) else (-2, v))
      by_cases hx : 1 ≤ x ∧ x ≤ 9
      · rw [if_pos hx]; exact key 0 (by omega) (okR_S0 h (by omega))
      · rw [if_neg hx]; exact okX.err h _
    · show okX v (if 0 ≤ x ∧ x ≤ 50 then (((v 1 : Nat) : Int), va_up v 1 x.toNat) else (-2, v))
      by_cases hx : 0 ≤ x ∧ x ≤ 50
      · rw [if_pos hx]; exact key 1 (by omega) (okR_S1 h (by omega))
      · rw [if_neg hx]; exact okX.err h _
    · show okX v (if 40 ≤ x ∧ x ≤ 90 then (((v 2 : Nat) : Int), va_up v 2 x.toNat) else (-2, v))
      by_cases hx : 40 ≤ x ∧ x ≤ 90
      · rw [if_pos hx]; exact key 2 (by omega) (okR_S2 h (by omega))
      · rw [if_neg hx]; exact okX.err h _
  · rw [if_neg hs]; exact okX.err h _
theorem ok_brass {v : Nat → Nat} (h : okR v) (g : Int) : okX v (sBrass v g) := by
  unfold sBrass
  split
  · exact ⟨okR_B h _ _, by dsimp only; rw [va_up_at]; omega⟩
  · exact okX.err h _
theorem ok_door {v : Nat → Nat} (h : okR v) (a b f s : Int) : okX v (sDoor v a b f s) := by
  unfold sDoor
  split
  · split
    · split
      · exact okX.err h _
      · exact ⟨okR_D h (by omega) (by omega) (by omega) (by omega) (by omega), by dsimp only; unfold rowD; rw [va_up_off (by omega), va_up_at]; omega⟩
    · exact okX.err h _
  · exact okX.err h _
theorem givW_le2 (v : Nat → Nat) (d : Nat) : givW v d ≤ 44 := by
  unfold givW lockWt
  have := lockW_le (fstR v d) (sndR v d)
  omega
theorem ok_cut {v : Nat → Nat} (h : okR v) (d f s : Int) : okX v (sCut v d f s) := by
  unfold sCut
  split
  · split
    · split
      · exact okX.err h _
      · have hg := givW_le2 v d.toNat
        exact ⟨okR_C h (by omega) (by omega) (by omega), by dsimp only; unfold rowC; rw [va_up_off (by omega), va_up_off (by omega), va_up_off (by omega), va_up_at]; omega⟩
    · exact okX.err h _
  · exact okX.err h _
theorem ok_key {v : Nat → Nat} (h : okR v) (c r : Int) : okX v (sKey v c r) := by
  unfold sKey
  split
  · split
    · split
      · have hs := sumD_le c.toNat
        exact ⟨okR_K h (by omega) (by omega) (by omega), by dsimp only; unfold rowK; rw [va_up_off (by omega), va_up_at]; omega⟩
      · exact okX.err h _
    · exact okX.err h _
  · exact okX.err h _
theorem ok_melt {v : Nat → Nat} (h : okR v) (k : Int) : okX v (sMelt v k) := by
  unfold sMelt
  split
  · split
    · exact okX.err h _
    · have hk : keyWt v k.toNat ≤ 90 := by
        have h1 := h.2.2.2.2.2.2.2.2.1 k.toNat (by omega)
        unfold keyWt
        split <;> omega
      exact ⟨okR_M h (by omega), by dsimp only; unfold rowM; rw [va_up_off (by omega), va_up_at]; omega⟩
  · exact okX.err h _
theorem ok_move {v : Nat → Nat} (h : okR v) (k : Int) {a b : Nat} (hb : b ≤ 9) : okX v (sMove v k a b) := by
  unfold sMove
  split
  · split
    · exact ⟨okR_W h (by omega) hb, by dsimp only; rw [va_up_off (by omega)]; omega⟩
    · exact okX.err h _
  · exact okX.err h _
theorem ok_go {v : Nat → Nat} (h : okR v) (d : Int) : okX v (sGo v d) := by
  unfold sGo
  split
  · split
    · have hd := h.2.2.2.2.2.2.2.1 d.toNat (by omega)
      have hb := behR_rng (v := v) (d := d.toNat) (r := v 3) hd.1 hd.2.1
      exact ⟨okR_G h (by omega), by dsimp only; rw [va_up_off (by omega), va_up_off (by omega)]; omega⟩
    · exact okX.err h _
  · exact okX.err h _
theorem ok_plan {v : Nat → Nat} (h : okR v) (d f s : Int) : okX v (sPlan v d f s) := by
  unfold sPlan
  split
  · split
    · split
      · split
        · exact okX.err h _
        · rename_i hno
          have hn : plcF v d.toNat (v 9) < 0 := by unfold plcO at hno; omega
          exact ⟨okR_P h (by omega) (by omega) (by omega) (by omega) (plc_no hn), by dsimp only; unfold rowP; rw [va_up_off (by omega), va_up_off (by omega), va_up_off (by omega), va_up_off (by omega)]; omega⟩
      · exact okX.err h _
    · exact okX.err h _
  · exact okX.err h _
theorem ok_drop {v : Nat → Nat} (h : okR v) : okX v (sDrop v) := ⟨okR_N h, by show va_up v 9 0 7 ≤ v 7 + 1000; rw [va_up_off (by omega)]; omega⟩
def cpR (v : Nat → Nat) : Nat → (Nat → Nat)
  | 0 => v
  | k + 1 => rowC (cpR v k) (cpR v k (150 + 3 * (lnF v (dnF v k)).toNat)) (cpR v k (150 + 3 * (lnF v (dnF v k)).toNat + 1)) (cpR v k (150 + 3 * (lnF v (dnF v k)).toNat + 2))
theorem cp_succ {v : Nat → Nat} {k p : Nat} (h : lnF v (dnF v k) = ((p : Nat) : Int)) : cpR v (k + 1) = rowC (cpR v k) (cpR v k (150 + 3 * p)) (cpR v k (150 + 3 * p + 1)) (cpR v k (150 + 3 * p + 2)) := by
  rw [show cpR v (k + 1) = rowC (cpR v k) (cpR v k (150 + 3 * (lnF v (dnF v k)).toNat)) (cpR v k (150 + 3 * (lnF v (dnF v k)).toNat + 1)) (cpR v k (150 + 3 * (lnF v (dnF v k)).toNat + 2)) from rfl, h, Int.toNat_natCast]
theorem rowC_off {v : Nat → Nat} {d f s j : Nat} (h8 : ¬ j = 8) (h7 : ¬ j = 7) (hj : ∀ i, 2 ≤ i → i < 5 → ¬ j = 20 + 6 * d + i) : rowC v d f s j = v j := by
  unfold rowC
  rw [va_up_off (hj 4 (by omega) (by omega)), va_up_off (hj 3 (by omega) (by omega)), va_up_off (hj 2 (by omega) (by omega)), va_up_off h7, va_up_off h8]
theorem rowC_7 {v : Nat → Nat} {d f s : Nat} : rowC v d f s 7 = v 7 + givW v d - lockW f s := by
  unfold rowC
  rw [va_up_off (by omega), va_up_off (by omega), va_up_off (by omega), va_up_at]
theorem cp_inv (v : Nat → Nat) (h : okR v) (ho : 0 < oC v (v 9) 0) (k : Nat) : k ≤ v 9 → okR (cpR v k) ∧ ((cpR v k 7 : Nat) : Int) = bxA v (dnF v k) ∧ (∀ j, (j < 6 ∨ j = 9 ∨ 150 ≤ j) → cpR v k j = v j) ∧ (∀ p, p < v 9 → (dnF v k).testBit p = false → givW (cpR v k) (v (150 + 3 * p)) = givW v (v (150 + 3 * p))) ∧ cpR v k 7 ≤ v 7 + 44 * k := by
  induction k with
  | zero =>
    intro _
    refine ⟨h, ?_, fun _ _ => rfl, fun _ _ _ => rfl, Nat.le_refl _⟩
    show ((v 7 : Nat) : Int) = bxA v 0
    exact (bx_0 v).symm
  | succ k ih =>
    intro hk
    obtain ⟨i1, i2, i3, i4, i5⟩ := ih (by omega)
    obtain ⟨p, p1, p2, p3, p4, p5⟩ := ln_ok v ho k (by omega)
    have hpn := h.2.2.2.2.2.2.2.2.2.1 p p2
    have hpd := h.2.2.2.2.2.2.2.2.2.2.1
    have h4 := h.2.2.2.2.1
    have e0 := i3 (150 + 3 * p) (by omega)
    have e1 := i3 (150 + 3 * p + 1) (by omega)
    have e2 := i3 (150 + 3 * p + 2) (by omega)
    have e4 := i3 4 (by omega)
    rw [cp_succ p1, e0, e1, e2]
    have hg := i4 p p2 p3
    have hle := givW_le2 (cpR v k) (v (150 + 3 * p))
    unfold gpA at p4
    unfold plG at p4
    refine ⟨okR_C i1 (by omega) hpn.2.1 hpn.2.2, ?_, fun j hj => ?_, fun q q1 q2 => ?_, ?_⟩
    · rw [p5, bx_or p2 p3, rowC_7, hg]
      unfold plG
      omega
    · rw [rowC_off (by omega) (by omega) (fun i _ _ => by omega)]; exact i3 j hj
    · rw [p5, or_bit] at q2
      have hne : ¬ p = q := fun e => by rw [decide_eq_true e, Bool.or_true] at q2; exact Bool.noConfusion q2
      have q3 : (dnF v k).testBit q = false := by
        cases e : (dnF v k).testBit q with
        | false => rfl
        | true => rw [e, Bool.true_or] at q2; exact Bool.noConfusion q2
      have hdd : ¬ v (150 + 3 * q) = v (150 + 3 * p) := fun e => hne (hpd q p q1 p2 e).symm
      have hq4 := (h.2.2.2.2.2.2.2.2.2.1 q q1).1
      rw [← i4 q q1 q3]
      exact givW_cong (rowC_off (by omega) (by omega) (fun i _ _ => by omega)) (rowC_off (by omega) (by omega) (fun i _ _ => by omega)) (rowC_off (by omega) (by omega) (fun i _ _ => by omega))
    · rw [rowC_7]; omega
/-- one cut of the plan goes through -/
theorem cp_cut (v : Nat → Nat) (h : okR v) (ho : 0 < oC v (v 9) 0) {k p : Nat} (hk : k < v 9) (hp : lnF v (dnF v k) = ((p : Nat) : Int)) :
    p < v 9 ∧ cpR v k (150 + 3 * p) < cpR v k 4 ∧ cpR v k (150 + 3 * p + 1) < 10000 ∧ cpR v k (150 + 3 * p + 2) < 10000 ∧ lockW (cpR v k (150 + 3 * p + 1)) (cpR v k (150 + 3 * p + 2)) ≤ cpR v k 7 + givW (cpR v k) (cpR v k (150 + 3 * p)) ∧
    sCut (cpR v k) (cpR v k (150 + 3 * p) : Nat) (cpR v k (150 + 3 * p + 1) : Nat) (cpR v k (150 + 3 * p + 2) : Nat) = (((cpR v (k + 1) 7 : Nat) : Int), cpR v (k + 1)) := by
  obtain ⟨i1, i2, i3, i4, i5⟩ := cp_inv v h ho k (by omega)
  obtain ⟨p0, p1, p2, p3, p4, p5⟩ := ln_ok v ho k (by omega)
  have e : p0 = p := by rw [p1] at hp; omega
  subst e
  have hpn := h.2.2.2.2.2.2.2.2.2.1 p0 p2
  have e0 := i3 (150 + 3 * p0) (by omega)
  have e1 := i3 (150 + 3 * p0 + 1) (by omega)
  have e2 := i3 (150 + 3 * p0 + 2) (by omega)
  have e4 := i3 4 (by omega)
  have hg := i4 p0 p2 p3
  unfold gpA at p4
  unfold plG at p4
  have hlw : lockW (cpR v k (150 + 3 * p0 + 1)) (cpR v k (150 + 3 * p0 + 2)) ≤ cpR v k 7 + givW (cpR v k) (cpR v k (150 + 3 * p0)) := by rw [e0, e1, e2, hg]; omega
  refine ⟨p2, by omega, by omega, by omega, hlw, ?_⟩
  rw [cp_succ p1]
  unfold sCut
  simp only [Int.toNat_natCast]
  rw [if_pos (by omega), if_pos (by omega), if_neg (by omega), rowC_7]
def sCarryP (v : Nat → Nat) : Int × (Nat → Nat) := if v 9 = 0 ∨ oC v (v 9) 0 = 0 then (-5, v) else (((cpR v (v 9) 7 : Nat) : Int), va_up (cpR v (v 9)) 9 0)
theorem ok_carryP {v : Nat → Nat} (h : okR v) : okX v (sCarryP v) := by
  unfold sCarryP
  split
  · exact okX.err h _
  · obtain ⟨i1, _, _, _, i5⟩ := cp_inv v h (by omega) (v 9) (Nat.le_refl _)
    have h9 := h.2.2.2.2.2.2.1
    exact ⟨okR_N i1, by dsimp only; rw [va_up_off (by omega)]; omega⟩
