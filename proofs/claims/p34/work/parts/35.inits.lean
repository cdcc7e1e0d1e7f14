/-! ===== as in whole: inits ===== -/
theorem vw_cast {Ω : OmT} {Φ : PhT} {z z1 : Nat} {sh : Nat → Option Kd} {σ : Nat → Nat → Int32} {ρ : Nat → Nat → Option Nat} {a1 a2 b1 b2 pc : Nat} {ls : List (Nat × Value)} {st : List Value} (h : z = z1) (h1 : a1 = b1) (h2 : a2 = b2) (kk : Vw Ω Φ (z1, sh, σ, ρ) (b1, b2) pc ls st) : Vw Ω Φ (z, sh, σ, ρ) (a1, a2) pc ls st := by
  subst h h1 h2; exact kk
/-- cells below a are as they were -/
abbrev FrmQ (a : Nat) (sh : Nat → Option Kd) (σ : Nat → Nat → Int32) (ρ : Nat → Nat → Option Nat) (sh' : Nat → Option Kd) (σ' : Nat → Nat → Int32) (ρ' : Nat → Nat → Option Nat) : Prop := ∀ q, q < a → sh' q = sh q ∧ σ' q = σ q ∧ ρ' q = ρ q
theorem FrmQ.trans {a b : Nat} {sh : Nat → Option Kd} {σ : Nat → Nat → Int32} {ρ : Nat → Nat → Option Nat} {sh' : Nat → Option Kd} {σ' : Nat → Nat → Int32} {ρ' : Nat → Nat → Option Nat} {sh2 : Nat → Option Kd} {σ2 : Nat → Nat → Int32} {ρ2 : Nat → Nat → Option Nat} (h1 : FrmQ a sh σ ρ sh' σ' ρ') (h2 : FrmQ b sh' σ' ρ' sh2 σ2 ρ2) (hb : a ≤ b) : FrmQ a sh σ ρ sh2 σ2 ρ2 := fun q hq => by
  obtain ⟨x1, x2, x3⟩ := h1 q hq
  obtain ⟨y1, y2, y3⟩ := h2 q (by omega)
  exact ⟨y1.trans x1, y2.trans x2, y3.trans x3⟩
def rowI : Nat → Nat := fun j => if j = 0 then 5 else if j = 1 then 10 else if j = 2 then 60 else 0
theorem okR_I : okR rowI := by
  refine ⟨⟨by decide, by decide⟩, by decide, ⟨by decide, by decide⟩, by decide, by decide, by decide, by decide, fun d hd => ?_, fun k hk => ?_, fun p hp => ?_, fun p q hp => ?_, fun d _ hd => ?_⟩
  · exact absurd hd (by show ¬ d < 0; omega)
  · exact absurd hk (by show ¬ k < 0; omega)
  · exact absurd hp (by show ¬ p < 0; omega)
  · exact absurd hp (by show ¬ p < 0; omega)
  · show rowI (20 + 6 * d + 4) = 0
    unfold rowI
    rw [if_neg (by omega), if_neg (by omega), if_neg (by omega)]
/-- a new object's House before its doors and keys -/
def HB (sh : Nat → Option Kd) (σ : Nat → Nat → Int32) (ρ : Nat → Nat → Option Nat) (a : Nat) : Prop := (∀ q ∈ hshL, sh (a + q.1) = some q.2) ∧ (∀ q ∈ hrfL, ρ (a + q.1) q.2.1 = some (a + q.2.2)) ∧ (σ (a + 1) 0 = nI 5 ∧ σ (a + 1) 1 = nI 10 ∧ σ (a + 1) 2 = nI 60) ∧ (∀ k, 4 ≤ k → k ≤ 10 → σ a k = nI 0) ∧ σ (a + 4) 3 = nI 0
theorem HB.keep {sh : Nat → Option Kd} {σ : Nat → Nat → Int32} {ρ : Nat → Nat → Option Nat} {a : Nat} {sh' : Nat → Option Kd} {σ' : Nat → Nat → Int32} {ρ' : Nat → Nat → Option Nat} (H : HB sh σ ρ a) (h1 : ∀ q, q < a + 8 → sh' q = sh q ∧ σ' q = σ q) (h2 : ρ' a = ρ a ∧ ρ' (a + 4) = ρ (a + 4)) : HB sh' σ' ρ' a := by
  obtain ⟨a1, a2, a3, a4, a5⟩ := H
  refine ⟨fun q hq => ?_, fun q hq => ?_, ?_, ?_, ?_⟩
  · have h8 : q.1 < 8 := (List.all_eq_true.mp (show hshL.all (fun q => decide (q.1 < 8)) = true by decide) q hq) |> of_decide_eq_true
    rw [(h1 _ (by omega)).1]; exact a1 q hq
  · have h8 : q.1 = 0 ∨ q.1 = 4 := (List.all_eq_true.mp (show hrfL.all (fun q => decide (q.1 = 0 ∨ q.1 = 4)) = true by decide) q hq) |> of_decide_eq_true
    rcases h8 with e | e
    · rw [e, Nat.add_zero, h2.1]; have := a2 q hq; rw [e, Nat.add_zero] at this; exact this
    · rw [e, h2.2]; have := a2 q hq; rw [e] at this; exact this
  · rw [(h1 (a + 1) (by omega)).2]; exact a3
  · rw [(h1 a (by omega)).2]; exact a4
  · rw [(h1 (a + 4) (by omega)).2]; exact a5
theorem HB.done {sh : Nat → Option Kd} {σ : Nat → Nat → Int32} {ρ : Nat → Nat → Option Nat} {a : Nat} (H : HB sh σ ρ a) (hd : ∀ d, d < 10 → sh (a + 8 + d) = some (.inl 0) ∧ ρ (a + 2) d = some (a + 8 + d)) (hk : ∀ k, k < 16 → sh (a + 18 + k) = some (.inl 3) ∧ ρ (a + 3) k = some (a + 18 + k)) : HSh sh ρ a ∧ HV σ a rowI := by
  obtain ⟨a1, a2, ⟨a31, a32, a33⟩, a4, a5⟩ := H
  refine ⟨⟨a1, fun d h => (hd d h).1, fun k h => (hk k h).1, a2, fun d h => (hd d h).2, fun k h => (hk k h).2⟩, fun j hj => ?_, ⟨a4 4 (by omega) (by omega), a4 5 (by omega) (by omega), a4 6 (by omega) (by omega), a4 7 (by omega) (by omega), a4 8 (by omega) (by omega), a4 9 (by omega) (by omega), a4 10 (by omega) (by omega), a5⟩, fun d h => ?_, fun k h => ?_, fun p h => ?_⟩
  · rcases (show j = 0 ∨ j = 1 ∨ j = 2 by omega) with rfl | rfl | rfl
    · exact a31
    · exact a32
    · exact a33
  · exact absurd h (by show ¬ d < 0; omega)
  · exact absurd h (by show ¬ k < 0; omega)
  · exact absurd h (by show ¬ p < 0; omega)
abbrev rm_X0_init : Room := { frames := 1, cells := 0, slots := 0, locals := 20 }
abbrev rm_X3_init : Room := { frames := 1, cells := 0, slots := 0, locals := 20 }
abbrev rm_X5_init : Room := { frames := 1, cells := 0, slots := 0, locals := 20 }
abbrev rm_X7_init : Room := { frames := 1, cells := 3, slots := 18, locals := 20 }
abbrev rm_X4_init : Room := { frames := 1, cells := 3, slots := 24, locals := 20 }
abbrev rm_X10_init : Room := { frames := 1, cells := 4, slots := 4114, locals := 20 }
abbrev rm_X8_init : Room := { frames := 1, cells := 6, slots := 268, locals := 20 }
abbrev rm_X2_init : Room := { frames := 2, cells := 33, slots := 149, locals := 40 }
abbrev rm_X1_init : Room := { frames := 3, cells := 205, slots := 966, locals := 61 }
abbrev rm_X6_init : Room := { frames := 2, cells := 29, slots := 215, locals := 40 }
abbrev rm_X11_init : Room := { frames := 4, cells := 390, slots := 6255, locals := 82 }
set_option maxRecDepth 100000 in
theorem c_X0_init {Ω : OmT} {S : StT} {a : Nat} : CtV Ω yX0_init cX0_init 1 rm_X0_init [.ref a] S (fun u => u = S) := by
  refine CtV.enter (by decide) (Nat.le_of_ble_eq_true rfl) (fun Φ hc hi hR => ?_)
  show Vw Ω Φ S (0, 0) 0 [(0, .ref a)] []
  refine r_aload_n hc dX0_init_0 rfl ?_
  refine ob_X0_3 hc ⟨by decide, Nat.le_of_ble_eq_true rfl⟩ dX0_init_1 ?_
  exact hR _ rfl _ _ dX0_init_4
set_option maxRecDepth 100000 in
theorem c_X3_init {Ω : OmT} {S : StT} {a : Nat} : CtV Ω yX3_init cX3_init 1 rm_X3_init [.ref a] S (fun u => u = S) := by
  refine CtV.enter (by decide) (Nat.le_of_ble_eq_true rfl) (fun Φ hc hi hR => ?_)
  show Vw Ω Φ S (0, 0) 0 [(0, .ref a)] []
  refine r_aload_n hc dX3_init_0 rfl ?_
  refine ob_X3_1 hc ⟨by decide, Nat.le_of_ble_eq_true rfl⟩ dX3_init_1 ?_
  exact hR _ rfl _ _ dX3_init_4
set_option maxRecDepth 100000 in
theorem c_X5_init {Ω : OmT} {S : StT} {a : Nat} : CtV Ω yX5_init cX5_init 1 rm_X5_init [.ref a] S (fun u => u = S) := by
  refine CtV.enter (by decide) (Nat.le_of_ble_eq_true rfl) (fun Φ hc hi hR => ?_)
  show Vw Ω Φ S (0, 0) 0 [(0, .ref a)] []
  refine r_aload_n hc dX5_init_0 rfl ?_
  refine ob_X5_1 hc ⟨by decide, Nat.le_of_ble_eq_true rfl⟩ dX5_init_1 ?_
  exact hR _ rfl _ _ dX5_init_4
set_option maxRecDepth 100000 in
set_option maxHeartbeats 4000000 in
theorem c_X7_init {Ω : OmT} {z : Nat} {sh : Nat → Option Kd} {σ : Nat → Nat → Int32} {ρ : Nat → Nat → Option Nat} {a : Nat} (hz : z = a + 1) (hsa : sh a = some (.inl 7)) : CtV Ω yX7_init cX7_init 1 rm_X7_init [.ref a] (z, sh, σ, ρ) (fun u => ∃ (sh1 : Nat → Option Kd) (σ1 : Nat → Nat → Int32) (ρ1 : Nat → Nat → Option Nat), u = (a + 4, sh1, σ1, ρ1) ∧ (sh1 (a + 1) = some (.inr (0, 6)) ∧ sh1 (a + 2) = some (.inr (0, 6)) ∧ sh1 (a + 3) = some (.inr (0, 6))) ∧ (ρ1 a 0 = some (a + 1) ∧ ρ1 a 1 = some (a + 2) ∧ ρ1 a 2 = some (a + 3)) ∧ (∀ q, q ≤ a → sh1 q = sh q ∧ σ1 q = σ q) ∧ ∀ q, q < a → ρ1 q = ρ q) := by
  subst hz
  refine CtV.enter (by decide) (Nat.le_of_ble_eq_true rfl) (fun Φ hc hi hR => ?_)
  show Vw Ω Φ (a + 1, sh, σ, ρ) (0, 0) 0 [(0, .ref a)] []
  refine r_aload_n hc dX7_init_0 rfl ?_
  refine ob_X7_3 hc ⟨by decide, Nat.le_of_ble_eq_true rfl⟩ dX7_init_1 ?_
  refine r_aload_n hc dX7_init_4 rfl ?_
  refine r_bipush (v := nI 6) hc dX7_init_5 rfl ?_
  refine na_int (len := 6) hc rfl (by decide) ⟨Nat.le_of_ble_eq_true rfl, Nat.le_of_ble_eq_true rfl⟩ dX7_init_7 ?_
  show Vw Ω Φ (a + 2, va_up sh (a + 1) (some (.inr (0, 6))), va_up σ (a + 1) (fun _ => 0), va_up ρ (a + 1) (fun _ => none)) (1, 6) 9 [(0, .ref a)] [.ref (a + 1), .ref a]
  generalize gsh1 : va_up sh (a + 1) (some (.inr (0, 6))) = sh1
  generalize gσ2 : va_up σ (a + 1) (fun _ => 0) = σ2
  generalize gρ3 : va_up ρ (a + 1) (fun _ => none) = ρ3
  refine pf_X7_9 hc (hi rfl) (by rw [← gsh1, va_up_off (by omega)]; exact hsa) dX7_init_9 ?_
  generalize gρ4 : s2 ρ3 a 0 (some (a + 1)) = ρ4
  refine r_aload_n hc dX7_init_12 rfl ?_
  refine r_bipush (v := nI 6) hc dX7_init_13 rfl ?_
  refine na_int (len := 6) hc rfl (by decide) ⟨Nat.le_of_ble_eq_true rfl, Nat.le_of_ble_eq_true rfl⟩ dX7_init_15 ?_
  show Vw Ω Φ (a + 3, va_up sh1 (a + 2) (some (.inr (0, 6))), va_up σ2 (a + 2) (fun _ => 0), va_up ρ4 (a + 2) (fun _ => none)) (2, 12) 17 [(0, .ref a)] [.ref (a + 2), .ref a]
  generalize gsh5 : va_up sh1 (a + 2) (some (.inr (0, 6))) = sh5
  generalize gσ6 : va_up σ2 (a + 2) (fun _ => 0) = σ6
  generalize gρ7 : va_up ρ4 (a + 2) (fun _ => none) = ρ7
  refine pf_X7_15 hc (hi rfl) (by rw [← gsh5, va_up_off (by omega), ← gsh1, va_up_off (by omega)]; exact hsa) dX7_init_17 ?_
  generalize gρ8 : s2 ρ7 a 1 (some (a + 2)) = ρ8
  refine r_aload_n hc dX7_init_20 rfl ?_
  refine r_bipush (v := nI 6) hc dX7_init_21 rfl ?_
  refine na_int (len := 6) hc rfl (by decide) ⟨Nat.le_of_ble_eq_true rfl, Nat.le_of_ble_eq_true rfl⟩ dX7_init_23 ?_
  show Vw Ω Φ (a + 4, va_up sh5 (a + 3) (some (.inr (0, 6))), va_up σ6 (a + 3) (fun _ => 0), va_up ρ8 (a + 3) (fun _ => none)) (3, 18) 25 [(0, .ref a)] [.ref (a + 3), .ref a]
  generalize gsh9 : va_up sh5 (a + 3) (some (.inr (0, 6))) = sh9
  generalize gσ10 : va_up σ6 (a + 3) (fun _ => 0) = σ10
  generalize gρ11 : va_up ρ8 (a + 3) (fun _ => none) = ρ11
  refine pf_X7_18 hc (hi rfl) (by rw [← gsh9, va_up_off (by omega), ← gsh5, va_up_off (by omega), ← gsh1, va_up_off (by omega)]; exact hsa) dX7_init_25 ?_
  generalize gρ12 : s2 ρ11 a 2 (some (a + 3)) = ρ12
  exact hR _ ⟨_, _, _, rfl, ⟨(by rw [← gsh9, va_up_off (by omega), ← gsh5, va_up_off (by omega), ← gsh1, va_up_at]), (by rw [← gsh9, va_up_off (by omega), ← gsh5, va_up_at]), (by rw [← gsh9, va_up_at])⟩, ⟨(by rw [← gρ12, s2_nk (by omega), ← gρ11, va_up_off (by omega), ← gρ8, s2_nk (by omega), ← gρ7, va_up_off (by omega), ← gρ4, s2_same]), (by rw [← gρ12, s2_nk (by omega), ← gρ11, va_up_off (by omega), ← gρ8, s2_same]), (by rw [← gρ12, s2_same])⟩, (fun q hq => ⟨by rw [← gsh9, va_up_off (by omega), ← gsh5, va_up_off (by omega), ← gsh1, va_up_off (by omega)], by rw [← gσ10, va_up_off (by omega), ← gσ6, va_up_off (by omega), ← gσ2, va_up_off (by omega)]⟩), (fun q hq => by rw [← gρ12, s2_ne (by omega), ← gρ11, va_up_off (by omega), ← gρ8, s2_ne (by omega), ← gρ7, va_up_off (by omega), ← gρ4, s2_ne (by omega), ← gρ3, va_up_off (by omega)])⟩ _ _ dX7_init_28
set_option maxRecDepth 100000 in
set_option maxHeartbeats 4000000 in
theorem c_X4_init {Ω : OmT} {z : Nat} {sh : Nat → Option Kd} {σ : Nat → Nat → Int32} {ρ : Nat → Nat → Option Nat} {a : Nat} (hz : z = a + 1) (hsa : sh a = some (.inl 4)) : CtV Ω yX4_init cX4_init 1 rm_X4_init [.ref a] (z, sh, σ, ρ) (fun u => ∃ (sh1 : Nat → Option Kd) (σ1 : Nat → Nat → Int32) (ρ1 : Nat → Nat → Option Nat), u = (a + 4, sh1, σ1, ρ1) ∧ KSh sh1 ρ1 a ∧ FrmQ a sh σ ρ sh1 σ1 ρ1) := by
  subst hz
  refine CtV.enter (by decide) (Nat.le_of_ble_eq_true rfl) (fun Φ hc hi hR => ?_)
  show Vw Ω Φ (a + 1, sh, σ, ρ) (0, 0) 0 [(0, .ref a)] []
  refine r_aload_n hc dX4_init_0 rfl ?_
  refine ob_X4_3 hc ⟨by decide, Nat.le_of_ble_eq_true rfl⟩ dX4_init_1 ?_
  refine r_aload_n hc dX4_init_4 rfl ?_
  refine r_iconst (v := nI 4) hc dX4_init_5 rfl ?_
  refine na_int (len := 4) hc rfl (by decide) ⟨Nat.le_of_ble_eq_true rfl, Nat.le_of_ble_eq_true rfl⟩ dX4_init_6 ?_
  show Vw Ω Φ (a + 2, va_up sh (a + 1) (some (.inr (0, 4))), va_up σ (a + 1) (fun _ => 0), va_up ρ (a + 1) (fun _ => none)) (1, 4) 8 [(0, .ref a)] [.ref (a + 1), .ref a]
  generalize gsh1 : va_up sh (a + 1) (some (.inr (0, 4))) = sh1
  generalize gσ2 : va_up σ (a + 1) (fun _ => 0) = σ2
  generalize gρ3 : va_up ρ (a + 1) (fun _ => none) = ρ3
  refine pf_X4_9 hc (hi rfl) (by rw [← gsh1, va_up_off (by omega)]; exact hsa) dX4_init_8 ?_
  generalize gρ4 : s2 ρ3 a 0 (some (a + 1)) = ρ4
  refine r_aload_n hc dX4_init_11 rfl ?_
  refine r_bipush (v := nI 10) hc dX4_init_12 rfl ?_
  refine na_int (len := 10) hc rfl (by decide) ⟨Nat.le_of_ble_eq_true rfl, Nat.le_of_ble_eq_true rfl⟩ dX4_init_14 ?_
  show Vw Ω Φ (a + 3, va_up sh1 (a + 2) (some (.inr (0, 10))), va_up σ2 (a + 2) (fun _ => 0), va_up ρ4 (a + 2) (fun _ => none)) (2, 14) 16 [(0, .ref a)] [.ref (a + 2), .ref a]
  generalize gsh5 : va_up sh1 (a + 2) (some (.inr (0, 10))) = sh5
  generalize gσ6 : va_up σ2 (a + 2) (fun _ => 0) = σ6
  generalize gρ7 : va_up ρ4 (a + 2) (fun _ => none) = ρ7
  refine pf_X4_15 hc (hi rfl) (by rw [← gsh5, va_up_off (by omega), ← gsh1, va_up_off (by omega)]; exact hsa) dX4_init_16 ?_
  generalize gρ8 : s2 ρ7 a 1 (some (a + 2)) = ρ8
  refine r_aload_n hc dX4_init_19 rfl ?_
  refine r_bipush (v := nI 10) hc dX4_init_20 rfl ?_
  refine na_int (len := 10) hc rfl (by decide) ⟨Nat.le_of_ble_eq_true rfl, Nat.le_of_ble_eq_true rfl⟩ dX4_init_22 ?_
  show Vw Ω Φ (a + 4, va_up sh5 (a + 3) (some (.inr (0, 10))), va_up σ6 (a + 3) (fun _ => 0), va_up ρ8 (a + 3) (fun _ => none)) (3, 24) 24 [(0, .ref a)] [.ref (a + 3), .ref a]
  generalize gsh9 : va_up sh5 (a + 3) (some (.inr (0, 10))) = sh9
  generalize gσ10 : va_up σ6 (a + 3) (fun _ => 0) = σ10
  generalize gρ11 : va_up ρ8 (a + 3) (fun _ => none) = ρ11
  refine pf_X4_18 hc (hi rfl) (by rw [← gsh9, va_up_off (by omega), ← gsh5, va_up_off (by omega), ← gsh1, va_up_off (by omega)]; exact hsa) dX4_init_24 ?_
  generalize gρ12 : s2 ρ11 a 2 (some (a + 3)) = ρ12
  exact hR _ ⟨_, _, _, rfl, ⟨⟨(by rw [← gsh9, va_up_off (by omega), ← gsh5, va_up_off (by omega), ← gsh1, va_up_off (by omega)]; exact hsa), (by rw [← gsh9, va_up_off (by omega), ← gsh5, va_up_off (by omega), ← gsh1, va_up_at]), (by rw [← gsh9, va_up_off (by omega), ← gsh5, va_up_at]), (by rw [← gsh9, va_up_at])⟩, (by rw [← gρ12, s2_nk (by omega), ← gρ11, va_up_off (by omega), ← gρ8, s2_nk (by omega), ← gρ7, va_up_off (by omega), ← gρ4, s2_same]), (by rw [← gρ12, s2_nk (by omega), ← gρ11, va_up_off (by omega), ← gρ8, s2_same]), (by rw [← gρ12, s2_same])⟩, (fun q hq => ⟨by rw [← gsh9, va_up_off (by omega), ← gsh5, va_up_off (by omega), ← gsh1, va_up_off (by omega)], by rw [← gσ10, va_up_off (by omega), ← gσ6, va_up_off (by omega), ← gσ2, va_up_off (by omega)], by rw [← gρ12, s2_ne (by omega), ← gρ11, va_up_off (by omega), ← gρ8, s2_ne (by omega), ← gρ7, va_up_off (by omega), ← gρ4, s2_ne (by omega), ← gρ3, va_up_off (by omega)]⟩)⟩ _ _ dX4_init_27
set_option maxRecDepth 100000 in
set_option maxHeartbeats 4000000 in
theorem c_X10_init {Ω : OmT} {z : Nat} {sh : Nat → Option Kd} {σ : Nat → Nat → Int32} {ρ : Nat → Nat → Option Nat} {a : Nat} (hz : z = a + 1) (hsa : sh a = some (.inl 9)) : CtV Ω yX10_init cX10_init 1 rm_X10_init [.ref a] (z, sh, σ, ρ) (fun u => ∃ (sh1 : Nat → Option Kd) (σ1 : Nat → Nat → Int32) (ρ1 : Nat → Nat → Option Nat), u = (a + 5, sh1, σ1, ρ1) ∧ WSh sh1 ρ1 a ∧ FrmQ a sh σ ρ sh1 σ1 ρ1) := by
  subst hz
  refine CtV.enter (by decide) (Nat.le_of_ble_eq_true rfl) (fun Φ hc hi hR => ?_)
  show Vw Ω Φ (a + 1, sh, σ, ρ) (0, 0) 0 [(0, .ref a)] []
  refine r_aload_n hc dX10_init_0 rfl ?_
  refine ob_X10_3 hc ⟨by decide, Nat.le_of_ble_eq_true rfl⟩ dX10_init_1 ?_
  refine r_aload_n hc dX10_init_4 rfl ?_
  refine r_bipush (v := nI 10) hc dX10_init_5 rfl ?_
  refine na_int (len := 10) hc rfl (by decide) ⟨Nat.le_of_ble_eq_true rfl, Nat.le_of_ble_eq_true rfl⟩ dX10_init_7 ?_
  show Vw Ω Φ (a + 2, va_up sh (a + 1) (some (.inr (0, 10))), va_up σ (a + 1) (fun _ => 0), va_up ρ (a + 1) (fun _ => none)) (1, 10) 9 [(0, .ref a)] [.ref (a + 1), .ref a]
  generalize gsh1 : va_up sh (a + 1) (some (.inr (0, 10))) = sh1
  generalize gσ2 : va_up σ (a + 1) (fun _ => 0) = σ2
  generalize gρ3 : va_up ρ (a + 1) (fun _ => none) = ρ3
  refine pf_X10_9 hc (hi rfl) (by rw [← gsh1, va_up_off (by omega)]; exact hsa) dX10_init_9 ?_
  generalize gρ4 : s2 ρ3 a 0 (some (a + 1)) = ρ4
  refine r_aload_n hc dX10_init_12 rfl ?_
  refine r_bipush (v := nI 8) hc dX10_init_13 rfl ?_
  refine na_int (len := 8) hc rfl (by decide) ⟨Nat.le_of_ble_eq_true rfl, Nat.le_of_ble_eq_true rfl⟩ dX10_init_15 ?_
  show Vw Ω Φ (a + 3, va_up sh1 (a + 2) (some (.inr (0, 8))), va_up σ2 (a + 2) (fun _ => 0), va_up ρ4 (a + 2) (fun _ => none)) (2, 18) 17 [(0, .ref a)] [.ref (a + 2), .ref a]
  generalize gsh5 : va_up sh1 (a + 2) (some (.inr (0, 8))) = sh5
  generalize gσ6 : va_up σ2 (a + 2) (fun _ => 0) = σ6
  generalize gρ7 : va_up ρ4 (a + 2) (fun _ => none) = ρ7
  refine pf_X10_15 hc (hi rfl) (by rw [← gsh5, va_up_off (by omega), ← gsh1, va_up_off (by omega)]; exact hsa) dX10_init_17 ?_
  generalize gρ8 : s2 ρ7 a 1 (some (a + 2)) = ρ8
  refine r_aload_n hc dX10_init_20 rfl ?_
  refine r_sipush (v := nI 2048) hc dX10_init_21 rfl ?_
  refine na_int (len := 2048) hc rfl (by decide) ⟨Nat.le_of_ble_eq_true rfl, Nat.le_of_ble_eq_true rfl⟩ dX10_init_24 ?_
  show Vw Ω Φ (a + 4, va_up sh5 (a + 3) (some (.inr (0, 2048))), va_up σ6 (a + 3) (fun _ => 0), va_up ρ8 (a + 3) (fun _ => none)) (3, 2066) 26 [(0, .ref a)] [.ref (a + 3), .ref a]
  generalize gsh9 : va_up sh5 (a + 3) (some (.inr (0, 2048))) = sh9
  generalize gσ10 : va_up σ6 (a + 3) (fun _ => 0) = σ10
  generalize gρ11 : va_up ρ8 (a + 3) (fun _ => none) = ρ11
  refine pf_X10_18 hc (hi rfl) (by rw [← gsh9, va_up_off (by omega), ← gsh5, va_up_off (by omega), ← gsh1, va_up_off (by omega)]; exact hsa) dX10_init_26 ?_
  generalize gρ12 : s2 ρ11 a 2 (some (a + 3)) = ρ12
  refine r_aload_n hc dX10_init_29 rfl ?_
  refine r_sipush (v := nI 2048) hc dX10_init_30 rfl ?_
  refine na_boolean (len := 2048) hc rfl (by decide) ⟨Nat.le_of_ble_eq_true rfl, Nat.le_of_ble_eq_true rfl⟩ dX10_init_33 ?_
  show Vw Ω Φ (a + 5, va_up sh9 (a + 4) (some (.inr (1, 2048))), va_up σ10 (a + 4) (fun _ => 0), va_up ρ12 (a + 4) (fun _ => none)) (4, 4114) 35 [(0, .ref a)] [.ref (a + 4), .ref a]
  generalize gsh13 : va_up sh9 (a + 4) (some (.inr (1, 2048))) = sh13
  generalize gσ14 : va_up σ10 (a + 4) (fun _ => 0) = σ14
  generalize gρ15 : va_up ρ12 (a + 4) (fun _ => none) = ρ15
  refine pf_X10_21 hc (hi rfl) (by rw [← gsh13, va_up_off (by omega), ← gsh9, va_up_off (by omega), ← gsh5, va_up_off (by omega), ← gsh1, va_up_off (by omega)]; exact hsa) dX10_init_35 ?_
  generalize gρ16 : s2 ρ15 a 3 (some (a + 4)) = ρ16
  exact hR _ ⟨_, _, _, rfl, ⟨⟨(by rw [← gsh13, va_up_off (by omega), ← gsh9, va_up_off (by omega), ← gsh5, va_up_off (by omega), ← gsh1, va_up_off (by omega)]; exact hsa), (by rw [← gsh13, va_up_off (by omega), ← gsh9, va_up_off (by omega), ← gsh5, va_up_off (by omega), ← gsh1, va_up_at]), (by rw [← gsh13, va_up_off (by omega), ← gsh9, va_up_off (by omega), ← gsh5, va_up_at]), (by rw [← gsh13, va_up_off (by omega), ← gsh9, va_up_at]), (by rw [← gsh13, va_up_at])⟩, (by rw [← gρ16, s2_nk (by omega), ← gρ15, va_up_off (by omega), ← gρ12, s2_nk (by omega), ← gρ11, va_up_off (by omega), ← gρ8, s2_nk (by omega), ← gρ7, va_up_off (by omega), ← gρ4, s2_same]), (by rw [← gρ16, s2_nk (by omega), ← gρ15, va_up_off (by omega), ← gρ12, s2_nk (by omega), ← gρ11, va_up_off (by omega), ← gρ8, s2_same]), (by rw [← gρ16, s2_nk (by omega), ← gρ15, va_up_off (by omega), ← gρ12, s2_same]), (by rw [← gρ16, s2_same])⟩, (fun q hq => ⟨by rw [← gsh13, va_up_off (by omega), ← gsh9, va_up_off (by omega), ← gsh5, va_up_off (by omega), ← gsh1, va_up_off (by omega)], by rw [← gσ14, va_up_off (by omega), ← gσ10, va_up_off (by omega), ← gσ6, va_up_off (by omega), ← gσ2, va_up_off (by omega)], by rw [← gρ16, s2_ne (by omega), ← gρ15, va_up_off (by omega), ← gρ12, s2_ne (by omega), ← gρ11, va_up_off (by omega), ← gρ8, s2_ne (by omega), ← gρ7, va_up_off (by omega), ← gρ4, s2_ne (by omega), ← gρ3, va_up_off (by omega)]⟩)⟩ _ _ dX10_init_38
set_option maxRecDepth 100000 in
set_option maxHeartbeats 4000000 in
theorem c_X8_init {Ω : OmT} {z : Nat} {sh : Nat → Option Kd} {σ : Nat → Nat → Int32} {ρ : Nat → Nat → Option Nat} {a : Nat} (hz : z = a + 1) (hsa : sh a = some (.inl 8)) : CtV Ω yX8_init cX8_init 1 rm_X8_init [.ref a] (z, sh, σ, ρ) (fun u => ∃ (sh1 : Nat → Option Kd) (σ1 : Nat → Nat → Int32) (ρ1 : Nat → Nat → Option Nat), u = (a + 7, sh1, σ1, ρ1) ∧ PSh sh1 ρ1 a ∧ FrmQ a sh σ ρ sh1 σ1 ρ1) := by
  subst hz
  refine CtV.enter (by decide) (Nat.le_of_ble_eq_true rfl) (fun Φ hc hi hR => ?_)
  show Vw Ω Φ (a + 1, sh, σ, ρ) (0, 0) 0 [(0, .ref a)] []
  refine r_aload_n hc dX8_init_0 rfl ?_
  refine ob_X8_3 hc ⟨by decide, Nat.le_of_ble_eq_true rfl⟩ dX8_init_1 ?_
  refine r_aload_n hc dX8_init_4 rfl ?_
  refine r_bipush (v := nI 6) hc dX8_init_5 rfl ?_
  refine na_int (len := 6) hc rfl (by decide) ⟨Nat.le_of_ble_eq_true rfl, Nat.le_of_ble_eq_true rfl⟩ dX8_init_7 ?_
  show Vw Ω Φ (a + 2, va_up sh (a + 1) (some (.inr (0, 6))), va_up σ (a + 1) (fun _ => 0), va_up ρ (a + 1) (fun _ => none)) (1, 6) 9 [(0, .ref a)] [.ref (a + 1), .ref a]
  generalize gsh1 : va_up sh (a + 1) (some (.inr (0, 6))) = sh1
  generalize gσ2 : va_up σ (a + 1) (fun _ => 0) = σ2
  generalize gρ3 : va_up ρ (a + 1) (fun _ => none) = ρ3
  refine pf_X8_9 hc (hi rfl) (by rw [← gsh1, va_up_off (by omega)]; exact hsa) dX8_init_9 ?_
  generalize gρ4 : s2 ρ3 a 0 (some (a + 1)) = ρ4
  refine r_aload_n hc dX8_init_12 rfl ?_
  refine r_bipush (v := nI 6) hc dX8_init_13 rfl ?_
  refine na_int (len := 6) hc rfl (by decide) ⟨Nat.le_of_ble_eq_true rfl, Nat.le_of_ble_eq_true rfl⟩ dX8_init_15 ?_
  show Vw Ω Φ (a + 3, va_up sh1 (a + 2) (some (.inr (0, 6))), va_up σ2 (a + 2) (fun _ => 0), va_up ρ4 (a + 2) (fun _ => none)) (2, 12) 17 [(0, .ref a)] [.ref (a + 2), .ref a]
  generalize gsh5 : va_up sh1 (a + 2) (some (.inr (0, 6))) = sh5
  generalize gσ6 : va_up σ2 (a + 2) (fun _ => 0) = σ6
  generalize gρ7 : va_up ρ4 (a + 2) (fun _ => none) = ρ7
  refine pf_X8_15 hc (hi rfl) (by rw [← gsh5, va_up_off (by omega), ← gsh1, va_up_off (by omega)]; exact hsa) dX8_init_17 ?_
  generalize gρ8 : s2 ρ7 a 1 (some (a + 2)) = ρ8
  refine r_aload_n hc dX8_init_20 rfl ?_
  refine r_bipush (v := nI 64) hc dX8_init_21 rfl ?_
  refine na_int (len := 64) hc rfl (by decide) ⟨Nat.le_of_ble_eq_true rfl, Nat.le_of_ble_eq_true rfl⟩ dX8_init_23 ?_
  show Vw Ω Φ (a + 4, va_up sh5 (a + 3) (some (.inr (0, 64))), va_up σ6 (a + 3) (fun _ => 0), va_up ρ8 (a + 3) (fun _ => none)) (3, 76) 25 [(0, .ref a)] [.ref (a + 3), .ref a]
  generalize gsh9 : va_up sh5 (a + 3) (some (.inr (0, 64))) = sh9
  generalize gσ10 : va_up σ6 (a + 3) (fun _ => 0) = σ10
  generalize gρ11 : va_up ρ8 (a + 3) (fun _ => none) = ρ11
  refine pf_X8_18 hc (hi rfl) (by rw [← gsh9, va_up_off (by omega), ← gsh5, va_up_off (by omega), ← gsh1, va_up_off (by omega)]; exact hsa) dX8_init_25 ?_
  generalize gρ12 : s2 ρ11 a 2 (some (a + 3)) = ρ12
  refine r_aload_n hc dX8_init_28 rfl ?_
  refine r_bipush (v := nI 64) hc dX8_init_29 rfl ?_
  refine na_int (len := 64) hc rfl (by decide) ⟨Nat.le_of_ble_eq_true rfl, Nat.le_of_ble_eq_true rfl⟩ dX8_init_31 ?_
  show Vw Ω Φ (a + 5, va_up sh9 (a + 4) (some (.inr (0, 64))), va_up σ10 (a + 4) (fun _ => 0), va_up ρ12 (a + 4) (fun _ => none)) (4, 140) 33 [(0, .ref a)] [.ref (a + 4), .ref a]
  generalize gsh13 : va_up sh9 (a + 4) (some (.inr (0, 64))) = sh13
  generalize gσ14 : va_up σ10 (a + 4) (fun _ => 0) = σ14
  generalize gρ15 : va_up ρ12 (a + 4) (fun _ => none) = ρ15
  refine pf_X8_21 hc (hi rfl) (by rw [← gsh13, va_up_off (by omega), ← gsh9, va_up_off (by omega), ← gsh5, va_up_off (by omega), ← gsh1, va_up_off (by omega)]; exact hsa) dX8_init_33 ?_
  generalize gρ16 : s2 ρ15 a 3 (some (a + 4)) = ρ16
  refine r_aload_n hc dX8_init_36 rfl ?_
  refine r_bipush (v := nI 64) hc dX8_init_37 rfl ?_
  refine na_int (len := 64) hc rfl (by decide) ⟨Nat.le_of_ble_eq_true rfl, Nat.le_of_ble_eq_true rfl⟩ dX8_init_39 ?_
  show Vw Ω Φ (a + 6, va_up sh13 (a + 5) (some (.inr (0, 64))), va_up σ14 (a + 5) (fun _ => 0), va_up ρ16 (a + 5) (fun _ => none)) (5, 204) 41 [(0, .ref a)] [.ref (a + 5), .ref a]
  generalize gsh17 : va_up sh13 (a + 5) (some (.inr (0, 64))) = sh17
  generalize gσ18 : va_up σ14 (a + 5) (fun _ => 0) = σ18
  generalize gρ19 : va_up ρ16 (a + 5) (fun _ => none) = ρ19
  refine pf_X8_24 hc (hi rfl) (by rw [← gsh17, va_up_off (by omega), ← gsh13, va_up_off (by omega), ← gsh9, va_up_off (by omega), ← gsh5, va_up_off (by omega), ← gsh1, va_up_off (by omega)]; exact hsa) dX8_init_41 ?_
  generalize gρ20 : s2 ρ19 a 4 (some (a + 5)) = ρ20
  refine r_aload_n hc dX8_init_44 rfl ?_
  refine r_bipush (v := nI 64) hc dX8_init_45 rfl ?_
  refine na_int (len := 64) hc rfl (by decide) ⟨Nat.le_of_ble_eq_true rfl, Nat.le_of_ble_eq_true rfl⟩ dX8_init_47 ?_
  show Vw Ω Φ (a + 7, va_up sh17 (a + 6) (some (.inr (0, 64))), va_up σ18 (a + 6) (fun _ => 0), va_up ρ20 (a + 6) (fun _ => none)) (6, 268) 49 [(0, .ref a)] [.ref (a + 6), .ref a]
  generalize gsh21 : va_up sh17 (a + 6) (some (.inr (0, 64))) = sh21
  generalize gσ22 : va_up σ18 (a + 6) (fun _ => 0) = σ22
  generalize gρ23 : va_up ρ20 (a + 6) (fun _ => none) = ρ23
  refine pf_X8_27 hc (hi rfl) (by rw [← gsh21, va_up_off (by omega), ← gsh17, va_up_off (by omega), ← gsh13, va_up_off (by omega), ← gsh9, va_up_off (by omega), ← gsh5, va_up_off (by omega), ← gsh1, va_up_off (by omega)]; exact hsa) dX8_init_49 ?_
  generalize gρ24 : s2 ρ23 a 5 (some (a + 6)) = ρ24
  exact hR _ ⟨_, _, _, rfl, ⟨⟨(by rw [← gsh21, va_up_off (by omega), ← gsh17, va_up_off (by omega), ← gsh13, va_up_off (by omega), ← gsh9, va_up_off (by omega), ← gsh5, va_up_off (by omega), ← gsh1, va_up_off (by omega)]; exact hsa), (by rw [← gsh21, va_up_off (by omega), ← gsh17, va_up_off (by omega), ← gsh13, va_up_off (by omega), ← gsh9, va_up_off (by omega), ← gsh5, va_up_off (by omega), ← gsh1, va_up_at]), (by rw [← gsh21, va_up_off (by omega), ← gsh17, va_up_off (by omega), ← gsh13, va_up_off (by omega), ← gsh9, va_up_off (by omega), ← gsh5, va_up_at]), (by rw [← gsh21, va_up_off (by omega), ← gsh17, va_up_off (by omega), ← gsh13, va_up_off (by omega), ← gsh9, va_up_at]), (by rw [← gsh21, va_up_off (by omega), ← gsh17, va_up_off (by omega), ← gsh13, va_up_at]), (by rw [← gsh21, va_up_off (by omega), ← gsh17, va_up_at]), (by rw [← gsh21, va_up_at])⟩, (by rw [← gρ24, s2_nk (by omega), ← gρ23, va_up_off (by omega), ← gρ20, s2_nk (by omega), ← gρ19, va_up_off (by omega), ← gρ16, s2_nk (by omega), ← gρ15, va_up_off (by omega), ← gρ12, s2_nk (by omega), ← gρ11, va_up_off (by omega), ← gρ8, s2_nk (by omega), ← gρ7, va_up_off (by omega), ← gρ4, s2_same]), (by rw [← gρ24, s2_nk (by omega), ← gρ23, va_up_off (by omega), ← gρ20, s2_nk (by omega), ← gρ19, va_up_off (by omega), ← gρ16, s2_nk (by omega), ← gρ15, va_up_off (by omega), ← gρ12, s2_nk (by omega), ← gρ11, va_up_off (by omega), ← gρ8, s2_same]), (by rw [← gρ24, s2_nk (by omega), ← gρ23, va_up_off (by omega), ← gρ20, s2_nk (by omega), ← gρ19, va_up_off (by omega), ← gρ16, s2_nk (by omega), ← gρ15, va_up_off (by omega), ← gρ12, s2_same]), (by rw [← gρ24, s2_nk (by omega), ← gρ23, va_up_off (by omega), ← gρ20, s2_nk (by omega), ← gρ19, va_up_off (by omega), ← gρ16, s2_same]), (by rw [← gρ24, s2_nk (by omega), ← gρ23, va_up_off (by omega), ← gρ20, s2_same]), (by rw [← gρ24, s2_same])⟩, (fun q hq => ⟨by rw [← gsh21, va_up_off (by omega), ← gsh17, va_up_off (by omega), ← gsh13, va_up_off (by omega), ← gsh9, va_up_off (by omega), ← gsh5, va_up_off (by omega), ← gsh1, va_up_off (by omega)], by rw [← gσ22, va_up_off (by omega), ← gσ18, va_up_off (by omega), ← gσ14, va_up_off (by omega), ← gσ10, va_up_off (by omega), ← gσ6, va_up_off (by omega), ← gσ2, va_up_off (by omega)], by rw [← gρ24, s2_ne (by omega), ← gρ23, va_up_off (by omega), ← gρ20, s2_ne (by omega), ← gρ19, va_up_off (by omega), ← gρ16, s2_ne (by omega), ← gρ15, va_up_off (by omega), ← gρ12, s2_ne (by omega), ← gρ11, va_up_off (by omega), ← gρ8, s2_ne (by omega), ← gρ7, va_up_off (by omega), ← gρ4, s2_ne (by omega), ← gρ3, va_up_off (by omega)]⟩)⟩ _ _ dX8_init_52
theorem HBs {sh : Nat → Option Kd} {σ : Nat → Nat → Int32} {ρ : Nat → Nat → Option Nat} {a : Nat} (H : HB sh σ ρ a) (i : Nat) (k : Kd) (hi : hshL[i]? = some (i, k)) : sh (a + i) = some k := H.1 (i, k) (List.mem_of_getElem? hi)
theorem HBr {sh : Nat → Option Kd} {σ : Nat → Nat → Int32} {ρ : Nat → Nat → Option Nat} {a : Nat} (H : HB sh σ ρ a) (i k t : Nat) (hi : (i, k, t) ∈ hrfL) : ρ (a + i) k = some (a + t) := H.2.1 (i, k, t) hi
set_option maxRecDepth 100000 in
set_option maxHeartbeats 4000000 in
theorem c_X2_init {Ω : OmT} {z : Nat} {sh : Nat → Option Kd} {σ : Nat → Nat → Int32} {ρ : Nat → Nat → Option Nat} {a : Nat} (hz : z = a + 1) (hsa : sh a = some (.inl 2)) (hs00 : ∀ k, σ a k = 0) : CtV Ω yX2_init cX2_init 2 rm_X2_init [.ref a] (z, sh, σ, ρ) (fun u => ∃ (sh1 : Nat → Option Kd) (σ1 : Nat → Nat → Int32) (ρ1 : Nat → Nat → Option Nat), u = (a + 34, sh1, σ1, ρ1) ∧ HSh sh1 ρ1 a ∧ HV σ1 a rowI ∧ FrmQ a sh σ ρ sh1 σ1 ρ1) := by
  subst hz
  refine CtV.enter (by decide) (Nat.le_of_ble_eq_true rfl) (fun Φ hc hi hR => ?_)
  show Vw Ω Φ (a + 1, sh, σ, ρ) (0, 0) 0 [(0, .ref a)] []
  refine r_aload_n hc dX2_init_0 rfl ?_
  refine ob_X2_3 hc ⟨by decide, Nat.le_of_ble_eq_true rfl⟩ dX2_init_1 ?_
  refine r_aload_n hc dX2_init_4 rfl ?_
  refine r_iconst (v := nI 3) hc dX2_init_5 rfl ?_
  refine na_int (len := 3) hc rfl (by decide) ⟨Nat.le_of_ble_eq_true rfl, Nat.le_of_ble_eq_true rfl⟩ dX2_init_6 ?_
  show Vw Ω Φ (a + 2, va_up sh (a + 1) (some (.inr (0, 3))), va_up σ (a + 1) (fun _ => 0), va_up ρ (a + 1) (fun _ => none)) (1, 3) 8 [(0, .ref a)] [.ref (a + 1), .ref a]
  generalize gsh1 : va_up sh (a + 1) (some (.inr (0, 3))) = sh1
  generalize gσ2 : va_up σ (a + 1) (fun _ => 0) = σ2
  generalize gρ3 : va_up ρ (a + 1) (fun _ => none) = ρ3
  refine r_dup hc dX2_init_8 rfl ?_
  refine r_iconst (v := nI 0) hc dX2_init_9 rfl ?_
  refine r_iconst (v := nI 5) hc dX2_init_10 rfl ?_
  refine r_iast (j := 0) hc (by rw [← gsh1, va_up_at]) rfl (by omega) (by decide) dX2_init_11 ?_
  generalize gσ4 : s2 σ2 (a + 1) 0 (nI 5) = σ4
  refine r_dup hc dX2_init_12 rfl ?_
  refine r_iconst (v := nI 1) hc dX2_init_13 rfl ?_
  refine r_bipush (v := nI 10) hc dX2_init_14 rfl ?_
  refine r_iast (j := 1) hc (by rw [← gsh1, va_up_at]) rfl (by omega) (by decide) dX2_init_16 ?_
  generalize gσ5 : s2 σ4 (a + 1) 1 (nI 10) = σ5
  refine r_dup hc dX2_init_17 rfl ?_
  refine r_iconst (v := nI 2) hc dX2_init_18 rfl ?_
  refine r_bipush (v := nI 60) hc dX2_init_19 rfl ?_
  refine r_iast (j := 2) hc (by rw [← gsh1, va_up_at]) rfl (by omega) (by decide) dX2_init_21 ?_
  generalize gσ6 : s2 σ5 (a + 1) 2 (nI 60) = σ6
  refine pf_X2_9 hc (hi rfl) (by rw [← gsh1, va_up_off (by omega)]; exact hsa) dX2_init_22 ?_
  generalize gρ7 : s2 ρ3 a 0 (some (a + 1)) = ρ7
  refine r_aload_n hc dX2_init_25 rfl ?_
  refine r_bipush (v := nI 10) hc dX2_init_26 rfl ?_
  refine nq_X2_15 (len := 10) hc rfl (by decide) ⟨Nat.le_of_ble_eq_true rfl, Nat.le_of_ble_eq_true rfl⟩ dX2_init_28 ?_
  show Vw Ω Φ (a + 3, va_up sh1 (a + 2) (some (.inr (3, 10))), va_up σ6 (a + 2) (fun _ => 0), va_up ρ7 (a + 2) (fun _ => none)) (2, 13) 31 [(0, .ref a)] [.ref (a + 2), .ref a]
  generalize gsh8 : va_up sh1 (a + 2) (some (.inr (3, 10))) = sh8
  generalize gσ9 : va_up σ6 (a + 2) (fun _ => 0) = σ9
  generalize gρ10 : va_up ρ7 (a + 2) (fun _ => none) = ρ10
  refine pf_X2_17 hc (hi rfl) (by rw [← gsh8, va_up_off (by omega), ← gsh1, va_up_off (by omega)]; exact hsa) dX2_init_31 ?_
  generalize gρ11 : s2 ρ10 a 1 (some (a + 2)) = ρ11
  refine r_aload_n hc dX2_init_34 rfl ?_
  refine r_bipush (v := nI 16) hc dX2_init_35 rfl ?_
  refine nq_X2_21 (len := 16) hc rfl (by decide) ⟨Nat.le_of_ble_eq_true rfl, Nat.le_of_ble_eq_true rfl⟩ dX2_init_37 ?_
  show Vw Ω Φ (a + 4, va_up sh8 (a + 3) (some (.inr (5, 16))), va_up σ9 (a + 3) (fun _ => 0), va_up ρ11 (a + 3) (fun _ => none)) (3, 29) 40 [(0, .ref a)] [.ref (a + 3), .ref a]
  generalize gsh12 : va_up sh8 (a + 3) (some (.inr (5, 16))) = sh12
  generalize gσ13 : va_up σ9 (a + 3) (fun _ => 0) = σ13
  generalize gρ14 : va_up ρ11 (a + 3) (fun _ => none) = ρ14
  refine pf_X2_23 hc (hi rfl) (by rw [← gsh12, va_up_off (by omega), ← gsh8, va_up_off (by omega), ← gsh1, va_up_off (by omega)]; exact hsa) dX2_init_40 ?_
  generalize gρ15 : s2 ρ14 a 2 (some (a + 3)) = ρ15
  refine r_aload_n hc dX2_init_43 rfl ?_
  refine nw_X2_27 hc ⟨Nat.le_of_ble_eq_true rfl, Nat.le_of_ble_eq_true rfl⟩ dX2_init_44 ?_
  show Vw Ω Φ (a + 5, va_up sh12 (a + 4) (some (.inl 7)), va_up σ13 (a + 4) (fun _ => 0), va_up ρ15 (a + 4) (fun _ => none)) (4, 33) 47 [(0, .ref a)] [.ref (a + 4), .ref a]
  generalize gsh16 : va_up sh12 (a + 4) (some (.inl 7)) = sh16
  generalize gσ17 : va_up σ13 (a + 4) (fun _ => 0) = σ17
  generalize gρ18 : va_up ρ15 (a + 4) (fun _ => none) = ρ18
  refine r_dup hc dX2_init_47 rfl ?_
  refine cl_X2_29 (As := []) hc (c_X7_init rfl (by rw [← gsh16, va_up_at])) rfl ⟨by decide, by decide⟩ ⟨Nat.le_of_ble_eq_true rfl, Nat.le_of_ble_eq_true rfl⟩ rfl (Nat.le_of_ble_eq_true rfl) dX2_init_48 (fun u hu => ?_)
  obtain ⟨shp, σp, ρp, hu, ⟨p1, p2, p3⟩, ⟨p4, p5, p6⟩, p7, p8⟩ := hu
  rw [hu]
  show Vw Ω Φ (a + 8, shp, σp, ρp) (7, 51) 51 [(0, .ref a)] [.ref (a + 4), .ref a]
  refine pf_X2_30 hc (hi rfl) (by rw [(p7 _ (by omega)).1, ← gsh16, va_up_off (by omega), ← gsh12, va_up_off (by omega), ← gsh8, va_up_off (by omega), ← gsh1, va_up_off (by omega)]; exact hsa) dX2_init_51 ?_
  generalize gρ19 : s2 ρp a 3 (some (a + 4)) = ρ19
  refine r_iconst (v := nI 0) hc dX2_init_54 rfl ?_
  refine r_istore_n (ls' := [(1, .int (nI 0)), (0, .ref a)]) hc dX2_init_55 (by decide) rfl ?_
  have hB : HB shp σp ρ19 a := by
    refine ⟨?_, ?_, ⟨?_, ?_, ?_⟩, ?_, ?_⟩
    · intro q hq
      simp only [hshL, List.mem_cons, List.not_mem_nil, or_false] at hq
      rcases hq with rfl | rfl | rfl | rfl | rfl | rfl | rfl | rfl
      · show shp (a) = _; rw [(p7 _ (by omega)).1, ← gsh16, va_up_off (by omega), ← gsh12, va_up_off (by omega), ← gsh8, va_up_off (by omega), ← gsh1, va_up_off (by omega)]; exact hsa
      · show shp (a + 1) = _; rw [(p7 _ (by omega)).1, ← gsh16, va_up_off (by omega), ← gsh12, va_up_off (by omega), ← gsh8, va_up_off (by omega), ← gsh1, va_up_at]
      · show shp (a + 2) = _; rw [(p7 _ (by omega)).1, ← gsh16, va_up_off (by omega), ← gsh12, va_up_off (by omega), ← gsh8, va_up_at]
      · show shp (a + 3) = _; rw [(p7 _ (by omega)).1, ← gsh16, va_up_off (by omega), ← gsh12, va_up_at]
      · show shp (a + 4) = _; rw [(p7 _ (by omega)).1, ← gsh16, va_up_at]
      · exact p1
      · exact p2
      · exact p3
    · intro q hq
      simp only [hrfL, List.mem_cons, List.not_mem_nil, or_false] at hq
      rcases hq with rfl | rfl | rfl | rfl | rfl | rfl | rfl
      · show ρ19 a 0 = _; rw [← gρ19, s2_nk (by omega), p8 _ (by omega), ← gρ18, va_up_off (by omega), ← gρ15, s2_nk (by omega), ← gρ14, va_up_off (by omega), ← gρ11, s2_nk (by omega), ← gρ10, va_up_off (by omega), ← gρ7, s2_same]
      · show ρ19 a 1 = _; rw [← gρ19, s2_nk (by omega), p8 _ (by omega), ← gρ18, va_up_off (by omega), ← gρ15, s2_nk (by omega), ← gρ14, va_up_off (by omega), ← gρ11, s2_same]
      · show ρ19 a 2 = _; rw [← gρ19, s2_nk (by omega), p8 _ (by omega), ← gρ18, va_up_off (by omega), ← gρ15, s2_same]
      · show ρ19 a 3 = _; rw [← gρ19, s2_same]
      · show ρ19 (a + 4) 0 = _; rw [← gρ19, s2_ne (by omega)]; exact p4
      · show ρ19 (a + 4) 1 = _; rw [← gρ19, s2_ne (by omega)]; exact p5
      · show ρ19 (a + 4) 2 = _; rw [← gρ19, s2_ne (by omega)]; exact p6
    · rw [(p7 _ (by omega)).2, ← gσ17, va_up_off (by omega), ← gσ13, va_up_off (by omega), ← gσ9, va_up_off (by omega), ← gσ6, s2_nk (by omega), ← gσ5, s2_nk (by omega), ← gσ4, s2_same]
    · rw [(p7 _ (by omega)).2, ← gσ17, va_up_off (by omega), ← gσ13, va_up_off (by omega), ← gσ9, va_up_off (by omega), ← gσ6, s2_nk (by omega), ← gσ5, s2_same]
    · rw [(p7 _ (by omega)).2, ← gσ17, va_up_off (by omega), ← gσ13, va_up_off (by omega), ← gσ9, va_up_off (by omega), ← gσ6, s2_same]
    · intro k _ _; rw [(p7 _ (by omega)).2, ← gσ17, va_up_off (by omega), ← gσ13, va_up_off (by omega), ← gσ9, va_up_off (by omega), ← gσ6, s2_ne (by omega), ← gσ5, s2_ne (by omega), ← gσ4, s2_ne (by omega), ← gσ2, va_up_off (by omega)]; exact hs00 k
    · rw [(p7 _ (by omega)).2, ← gσ17, va_up_at]; rfl
  have hF : FrmQ a sh σ ρ shp σp ρ19 := fun q hq => ⟨by rw [(p7 _ (by omega)).1, ← gsh16, va_up_off (by omega), ← gsh12, va_up_off (by omega), ← gsh8, va_up_off (by omega), ← gsh1, va_up_off (by omega)], by rw [(p7 _ (by omega)).2, ← gσ17, va_up_off (by omega), ← gσ13, va_up_off (by omega), ← gσ9, va_up_off (by omega), ← gσ6, s2_ne (by omega), ← gσ5, s2_ne (by omega), ← gσ4, s2_ne (by omega), ← gσ2, va_up_off (by omega)], by rw [← gρ19, s2_ne (by omega), p8 _ (by omega), ← gρ18, va_up_off (by omega), ← gρ15, s2_ne (by omega), ← gρ14, va_up_off (by omega), ← gρ11, s2_ne (by omega), ← gρ10, va_up_off (by omega), ← gρ7, s2_ne (by omega), ← gρ3, va_up_off (by omega)]⟩
  clear gρ19 gρ18 gρ15 gρ14 gρ11 gρ10 gρ7 gρ3 gσ17 gσ13 gσ9 gσ6 gσ5 gσ4 gσ2 gsh16 gsh12 gsh8 gsh1
  have loop56 : ∀ (n56 : Nat) (sh2 : Nat → Option Kd) (σ2 : Nat → Nat → Int32) (ρ2 : Nat → Nat → Option Nat) (k : Nat), k ≤ 10 → (HB sh2 σ2 ρ2 a) → (FrmQ a sh σ ρ sh2 σ2 ρ2) → (∀ d, d < k → sh2 (a + 8 + d) = some (.inl 0) ∧ ρ2 (a + 2) d = some (a + 8 + d)) → 10 - k < n56 → Vw Ω Φ (a + 8 + k, sh2, σ2, ρ2) (7 + k, 51 + 5 * k) 56 [(0, .ref a), (1, .int (nI k))] [] := by
    intro n56; induction n56 with
    | zero => intro sh2 σ2 ρ2 k hk hB hF hD hm; exact absurd hm (Nat.not_lt_zero _)
    | succ n56 ih56 =>
      intro sh2 σ2 ρ2 k hk hB hF hD hm
      refine r_iload_n hc dX2_init_56 rfl ?_
      refine r_bipush (v := nI 10) hc dX2_init_57 rfl ?_
      refine r_icmp_ge (tgt := 81) hc dX2_init_59 (by decide) (le_NN (by omega) (by omega)) (fun c_59 => ?_) (fun c_59 => ?_)
      ·
        have ek : k = 10 := by omega
        subst ek
        show Vw Ω Φ (a + 18, sh2, σ2, ρ2) (17, 101) 81 [(0, .ref a), (1, .int (nI 10))] []
        refine r_iconst (v := nI 0) hc dX2_init_81 rfl ?_
        refine r_istore_n (ls' := [(1, .int (nI 0)), (0, .ref a)]) hc dX2_init_82 (by decide) rfl ?_
        have loop83 : ∀ (n83 : Nat) (sh2 : Nat → Option Kd) (σ2 : Nat → Nat → Int32) (ρ2 : Nat → Nat → Option Nat) (k : Nat), k ≤ 16 → (HB sh2 σ2 ρ2 a) → (FrmQ a sh σ ρ sh2 σ2 ρ2) → (∀ d, d < 10 → sh2 (a + 8 + d) = some (.inl 0) ∧ ρ2 (a + 2) d = some (a + 8 + d)) → (∀ d, d < k → sh2 (a + 18 + d) = some (.inl 3) ∧ ρ2 (a + 3) d = some (a + 18 + d)) → 16 - k < n83 → Vw Ω Φ (a + 18 + k, sh2, σ2, ρ2) (17 + k, 101 + 3 * k) 83 [(0, .ref a), (1, .int (nI k))] [] := by
          intro n83; induction n83 with
          | zero => intro sh2 σ2 ρ2 k hk hB hF hD hK hm; exact absurd hm (Nat.not_lt_zero _)
          | succ n83 ih83 =>
            intro sh2 σ2 ρ2 k hk hB hF hD hK hm
            refine r_iload_n hc dX2_init_83 rfl ?_
            refine r_bipush (v := nI 16) hc dX2_init_84 rfl ?_
            refine r_icmp_ge (tgt := 108) hc dX2_init_86 (by decide) (le_NN (by omega) (by omega)) (fun c_86 => ?_) (fun c_86 => ?_)
            ·
              have ek : k = 16 := by omega
              subst ek
              show Vw Ω Φ (a + 34, sh2, σ2, ρ2) (33, 149) 108 [(0, .ref a), (1, .int (nI 16))] []
              obtain ⟨r1, r2⟩ := hB.done hD hK
              exact hR _ ⟨_, _, _, rfl, r1, r2, hF⟩ _ _ dX2_init_108
            ·
              refine r_aload_n hc dX2_init_89 rfl ?_
              refine gf_X2_23 (q := a + 3) hc (HBs hB 0 (.inl 2) rfl) (HBr hB 0 2 3 (by decide)) dX2_init_90 ?_
              refine r_iload_n hc dX2_init_93 rfl ?_
              refine nw_X2_21 hc ⟨by show 17 + k + 1 ≤ 33; omega, by show 101 + 3 * k + 3 ≤ 149; omega⟩ dX2_init_94 ?_
              show Vw Ω Φ (a + 18 + k + 1, va_up sh2 (a + 18 + k) (some (.inl 3)), va_up σ2 (a + 18 + k) (fun _ => 0), va_up ρ2 (a + 18 + k) (fun _ => none)) (17 + k + 1, 101 + 3 * k + 3) 97 [(0, .ref a), (1, .int (nI k))] [.ref (a + 18 + k), .int (nI k), .ref (a + 3)]
              generalize gsh20 : va_up sh2 (a + 18 + k) (some (.inl 3)) = sh20
              generalize gσ21 : va_up σ2 (a + 18 + k) (fun _ => 0) = σ21
              generalize gρ22 : va_up ρ2 (a + 18 + k) (fun _ => none) = ρ22
              refine r_dup hc dX2_init_97 rfl ?_
              refine cl_X2_35 (As := []) hc (c_X3_init (S := (a + 18 + k + 1, sh20, σ21, ρ22))) rfl ⟨by decide, by decide⟩ ⟨by show 17 + k + 1 + 0 ≤ 33; omega, by show 101 + 3 * k + 3 + 0 ≤ 149; omega⟩ rfl (Nat.le_of_ble_eq_true rfl) dX2_init_98 (fun u hu => ?_)
              subst hu
              show Vw Ω Φ (a + 18 + k + 1, sh20, σ21, ρ22) (17 + k + 1, 101 + 3 * k + 3) 101 [(0, .ref a), (1, .int (nI k))] [.ref (a + 18 + k), .int (nI k), .ref (a + 3)]
              refine as_5 (j := k) hc (by rw [← gsh20, va_up_off (by omega)]; exact (HBs hB 3 (.inr (5, 16)) rfl)) rfl (by omega) (by decide) (by rw [← gsh20, va_up_at]) dX2_init_101 ?_
              generalize gρ23 : s2 ρ22 (a + 3) k (some (a + 18 + k)) = ρ23
              refine r_iinc (v := nI (k + 1)) (ls' := [(1, .int (nI (k + 1))), (0, .ref a)]) hc dX2_init_102 rfl (ad_NN _ 1) (by decide) rfl ?_
              refine r_goto (tgt := 83) hc dX2_init_105 (by decide) ?_
              refine vw_cast (z1 := a + 18 + (k + 1)) (b1 := 17 + (k + 1)) (b2 := 101 + 3 * (k + 1)) (by omega) (by omega) (by omega) ?_
              have hnew : ∀ d, d < k + 1 → sh20 (a + 18 + d) = some (.inl 3) ∧ ρ23 (a + 3) d = some (a + 18 + d) := fun d hd => by
                by_cases e : d = k
                · subst e; exact ⟨by rw [← gsh20, va_up_at], by rw [← gρ23, s2_same]⟩
                · obtain ⟨x1, x2⟩ := hK d (by omega)
                  exact ⟨by rw [← gsh20, va_up_off (by omega)]; exact x1, by rw [← gρ23, s2_nk (by omega), ← gρ22, va_up_off (by omega)]; exact x2⟩
              refine r_locp [1, 0] (ls' := [(0, .ref a), (1, .int (nI (k + 1)))]) rfl ?_
              exact ih83 sh20 σ21 ρ23 (k + 1) (by omega) (hB.keep (fun q hq => ⟨by rw [← gsh20, va_up_off (by omega)], by rw [← gσ21, va_up_off (by omega)]⟩) ⟨by rw [← gρ23, s2_ne (by omega), ← gρ22, va_up_off (by omega)], by rw [← gρ23, s2_ne (by omega), ← gρ22, va_up_off (by omega)]⟩) (hF.trans (b := a) (fun q hq => ⟨by rw [← gsh20, va_up_off (by omega)], by rw [← gσ21, va_up_off (by omega)], by rw [← gρ23, s2_ne (by omega), ← gρ22, va_up_off (by omega)]⟩) (Nat.le_refl _)) (fun d hd => by obtain ⟨x1, x2⟩ := hD d hd; exact ⟨by rw [← gsh20, va_up_off (by omega)]; exact x1, by rw [← gρ23, s2_ne (by omega), ← gρ22, va_up_off (by omega)]; exact x2⟩) hnew (by omega)
        refine r_locp [1, 0] (ls' := [(0, .ref a), (1, .int (nI 0))]) rfl ?_
        exact loop83 _ sh2 σ2 ρ2 0 (by omega) hB hF hD (fun d hd => absurd hd (Nat.not_lt_zero _)) (Nat.lt_succ_self _)
      ·
        refine r_aload_n hc dX2_init_62 rfl ?_
        refine gf_X2_17 (q := a + 2) hc (HBs hB 0 (.inl 2) rfl) (HBr hB 0 1 2 (by decide)) dX2_init_63 ?_
        refine r_iload_n hc dX2_init_66 rfl ?_
        refine nw_X2_15 hc ⟨by show 7 + k + 1 ≤ 33; omega, by show 51 + 5 * k + 5 ≤ 149; omega⟩ dX2_init_67 ?_
        show Vw Ω Φ (a + 8 + k + 1, va_up sh2 (a + 8 + k) (some (.inl 0)), va_up σ2 (a + 8 + k) (fun _ => 0), va_up ρ2 (a + 8 + k) (fun _ => none)) (7 + k + 1, 51 + 5 * k + 5) 70 [(0, .ref a), (1, .int (nI k))] [.ref (a + 8 + k), .int (nI k), .ref (a + 2)]
        generalize gsh24 : va_up sh2 (a + 8 + k) (some (.inl 0)) = sh24
        generalize gσ25 : va_up σ2 (a + 8 + k) (fun _ => 0) = σ25
        generalize gρ26 : va_up ρ2 (a + 8 + k) (fun _ => none) = ρ26
        refine r_dup hc dX2_init_70 rfl ?_
        refine cl_X2_34 (As := []) hc (c_X0_init (S := (a + 8 + k + 1, sh24, σ25, ρ26))) rfl ⟨by decide, by decide⟩ ⟨by show 7 + k + 1 + 0 ≤ 33; omega, by show 51 + 5 * k + 5 + 0 ≤ 149; omega⟩ rfl (Nat.le_of_ble_eq_true rfl) dX2_init_71 (fun u hu => ?_)
        subst hu
        show Vw Ω Φ (a + 8 + k + 1, sh24, σ25, ρ26) (7 + k + 1, 51 + 5 * k + 5) 74 [(0, .ref a), (1, .int (nI k))] [.ref (a + 8 + k), .int (nI k), .ref (a + 2)]
        refine as_3 (j := k) hc (by rw [← gsh24, va_up_off (by omega)]; exact (HBs hB 2 (.inr (3, 10)) rfl)) rfl (by omega) (by decide) (by rw [← gsh24, va_up_at]) dX2_init_74 ?_
        generalize gρ27 : s2 ρ26 (a + 2) k (some (a + 8 + k)) = ρ27
        refine r_iinc (v := nI (k + 1)) (ls' := [(1, .int (nI (k + 1))), (0, .ref a)]) hc dX2_init_75 rfl (ad_NN _ 1) (by decide) rfl ?_
        refine r_goto (tgt := 56) hc dX2_init_78 (by decide) ?_
        refine vw_cast (z1 := a + 8 + (k + 1)) (b1 := 7 + (k + 1)) (b2 := 51 + 5 * (k + 1)) (by omega) (by omega) (by omega) ?_
        have hnew : ∀ d, d < k + 1 → sh24 (a + 8 + d) = some (.inl 0) ∧ ρ27 (a + 2) d = some (a + 8 + d) := fun d hd => by
          by_cases e : d = k
          · subst e; exact ⟨by rw [← gsh24, va_up_at], by rw [← gρ27, s2_same]⟩
          · obtain ⟨x1, x2⟩ := hD d (by omega)
            exact ⟨by rw [← gsh24, va_up_off (by omega)]; exact x1, by rw [← gρ27, s2_nk (by omega), ← gρ26, va_up_off (by omega)]; exact x2⟩
        refine r_locp [1, 0] (ls' := [(0, .ref a), (1, .int (nI (k + 1)))]) rfl ?_
        exact ih56 sh24 σ25 ρ27 (k + 1) (by omega) (hB.keep (fun q hq => ⟨by rw [← gsh24, va_up_off (by omega)], by rw [← gσ25, va_up_off (by omega)]⟩) ⟨by rw [← gρ27, s2_ne (by omega), ← gρ26, va_up_off (by omega)], by rw [← gρ27, s2_ne (by omega), ← gρ26, va_up_off (by omega)]⟩) (hF.trans (b := a) (fun q hq => ⟨by rw [← gsh24, va_up_off (by omega)], by rw [← gσ25, va_up_off (by omega)], by rw [← gρ27, s2_ne (by omega), ← gρ26, va_up_off (by omega)]⟩) (Nat.le_refl _)) hnew (by omega)
  refine r_locp [1, 0] (ls' := [(0, .ref a), (1, .int (nI 0))]) rfl ?_
  exact loop56 _ shp σp ρ19 0 (by omega) hB hF (fun d hd => absurd hd (Nat.not_lt_zero _)) (Nat.lt_succ_self _)
theorem HSh.keep {sh sh' : Nat → Option Kd} {ρ ρ' : Nat → Nat → Option Nat} {h : Nat} (H : HSh sh ρ h) (hk : ∀ q, h ≤ q → q < h + 34 → sh' q = sh q ∧ ρ' q = ρ q) : HSh sh' ρ' h := by
  obtain ⟨a1, a2, a3, a4, a5, a6⟩ := H
  refine ⟨fun q hq => ?_, fun d hd => ?_, fun k hk2 => ?_, fun q hq => ?_, fun d hd => ?_, fun k hk2 => ?_⟩
  · have h8 : q.1 < 8 := (List.all_eq_true.mp (show hshL.all (fun q => decide (q.1 < 8)) = true by decide) q hq) |> of_decide_eq_true
    rw [(hk _ (by omega) (by omega)).1]; exact a1 q hq
  · rw [(hk _ (by omega) (by omega)).1]; exact a2 d hd
  · rw [(hk _ (by omega) (by omega)).1]; exact a3 k hk2
  · have h8 : q.1 < 8 := (List.all_eq_true.mp (show hrfL.all (fun q => decide (q.1 < 8)) = true by decide) q hq) |> of_decide_eq_true
    rw [(hk _ (by omega) (by omega)).2]; exact a4 q hq
  · rw [(hk _ (by omega) (by omega)).2]; exact a5 d hd
  · rw [(hk _ (by omega) (by omega)).2]; exact a6 k hk2
theorem HV.keepI {σ σ1 : Nat → Nat → Int32} {h : Nat} (H : HV σ h rowI) (hk : ∀ q, h ≤ q → q < h + 34 → σ1 q = σ q) : HV σ1 h rowI := H.keep hk (by decide) (by decide)
/-- the class's object, the places that never move -/
def CSh (sh : Nat → Option Kd) (ρ : Nat → Nat → Option Nat) (P : Nat) : Prop :=
  (sh P = some (.inl 10) ∧ ρ P 0 = some (P + 1) ∧ ρ P 2 = some (P + 69) ∧ ρ P 3 = some (P + 275) ∧ ρ P 4 = some (P + 276) ∧ ρ P 5 = some (P + 277) ∧ ρ P 6 = some (P + 307) ∧ ρ P 7 = some (P + 311) ∧ ρ P 8 = some (P + 316)) ∧
  (sh (P + 69) = some (.inl 1) ∧ sh (P + 70) = some (.inr (4, 6)) ∧ ρ (P + 69) 0 = some (P + 70)) ∧ (sh (P + 275) = some (.inr (4, 2)) ∧ sh (P + 276) = some (.inr (1, 2))) ∧
  HSh sh ρ (P + 1) ∧ HSh sh ρ (P + 35) ∧ (∀ d, d < 6 → HSh sh ρ (P + 71 + 34 * d)) ∧ PdSh sh ρ (P + 277) ∧ KSh sh ρ (P + 307) ∧ WSh sh ρ (P + 311) ∧ PSh sh ρ (P + 316)
theorem CSh.keep {sh sh' : Nat → Option Kd} {ρ ρ' : Nat → Nat → Option Nat} {P : Nat} (H : CSh sh ρ P) (h1 : ∀ q, P ≤ q → q < P + 323 → sh' q = sh q) (h2 : ∀ q, P ≤ q → q < P + 323 → q ≠ P → q ≠ P + 70 → q ≠ P + 275 → ρ' q = ρ q) (h3 : ∀ k, k ≠ 1 → ρ' P k = ρ P k) : CSh sh' ρ' P := by
  obtain ⟨⟨x0, x1, x2, x3, x4, x5, x6, x7, x8⟩, ⟨y1, y2, y3⟩, ⟨y4, y5⟩, z1, z2, z3, ⟨⟨p1, p2, p3⟩, p4, ⟨p5, p6⟩, p7⟩, ⟨⟨k1, k2, k3, k4⟩, k5, k6, k7⟩, ⟨⟨w1, w2, w3, w4, w5⟩, w6, w7, w8, w9⟩, ⟨⟨q1, q2, q3, q4, q5, q6, q7⟩, q8, q9, q10, q11, q12, q13⟩⟩ := H
  refine ⟨⟨?_, ?_, ?_, ?_, ?_, ?_, ?_, ?_, ?_⟩, ⟨?_, ?_, ?_⟩, ⟨?_, ?_⟩, ?_, ?_, ?_, ⟨⟨?_, ?_, ?_⟩, ?_, ⟨?_, ?_⟩, ?_⟩, ⟨⟨?_, ?_, ?_, ?_⟩, ?_, ?_, ?_⟩, ⟨⟨?_, ?_, ?_, ?_, ?_⟩, ?_, ?_, ?_, ?_⟩, ⟨⟨?_, ?_, ?_, ?_, ?_, ?_, ?_⟩, ?_, ?_, ?_, ?_, ?_, ?_⟩⟩
  · rw [h1 _ (by omega) (by omega)]; exact x0
  · rw [h3 _ (by decide)]; exact x1
  · rw [h3 _ (by decide)]; exact x2
  · rw [h3 _ (by decide)]; exact x3
  · rw [h3 _ (by decide)]; exact x4
  · rw [h3 _ (by decide)]; exact x5
  · rw [h3 _ (by decide)]; exact x6
  · rw [h3 _ (by decide)]; exact x7
  · rw [h3 _ (by decide)]; exact x8
  · rw [h1 _ (by omega) (by omega)]; exact y1
  · rw [h1 _ (by omega) (by omega)]; exact y2
  · rw [h2 _ (by omega) (by omega) (by omega) (by omega) (by omega)]; exact y3
  · rw [h1 _ (by omega) (by omega)]; exact y4
  · rw [h1 _ (by omega) (by omega)]; exact y5
  · exact z1.keep (fun q hq1 hq2 => ⟨h1 q (by omega) (by omega), h2 q (by omega) (by omega) (by omega) (by omega) (by omega)⟩)
  · exact z2.keep (fun q hq1 hq2 => ⟨h1 q (by omega) (by omega), h2 q (by omega) (by omega) (by omega) (by omega) (by omega)⟩)
  · exact fun d hd => (z3 d hd).keep (fun q hq1 hq2 => ⟨h1 q (by omega) (by omega), h2 q (by omega) (by omega) (by omega) (by omega) (by omega)⟩)
  · rw [h1 _ (by omega) (by omega)]; exact p1
  · rw [h1 _ (by omega) (by omega)]; exact p2
  · rw [h1 _ (by omega) (by omega)]; exact p3
  · intro i hi; rw [h1 _ (by omega) (by omega)]; exact p4 i hi
  · rw [h2 _ (by omega) (by omega) (by omega) (by omega) (by omega)]; exact p5
  · rw [h2 _ (by omega) (by omega) (by omega) (by omega) (by omega)]; exact p6
  · intro i hi; rw [h2 _ (by omega) (by omega) (by omega) (by omega) (by omega)]; exact p7 i hi
  · rw [h1 _ (by omega) (by omega)]; exact k1
  · rw [h1 _ (by omega) (by omega)]; exact k2
  · rw [h1 _ (by omega) (by omega)]; exact k3
  · rw [h1 _ (by omega) (by omega)]; exact k4
  · rw [h2 _ (by omega) (by omega) (by omega) (by omega) (by omega)]; exact k5
  · rw [h2 _ (by omega) (by omega) (by omega) (by omega) (by omega)]; exact k6
  · rw [h2 _ (by omega) (by omega) (by omega) (by omega) (by omega)]; exact k7
  · rw [h1 _ (by omega) (by omega)]; exact w1
  · rw [h1 _ (by omega) (by omega)]; exact w2
  · rw [h1 _ (by omega) (by omega)]; exact w3
  · rw [h1 _ (by omega) (by omega)]; exact w4
  · rw [h1 _ (by omega) (by omega)]; exact w5
  · rw [h2 _ (by omega) (by omega) (by omega) (by omega) (by omega)]; exact w6
  · rw [h2 _ (by omega) (by omega) (by omega) (by omega) (by omega)]; exact w7
  · rw [h2 _ (by omega) (by omega) (by omega) (by omega) (by omega)]; exact w8
  · rw [h2 _ (by omega) (by omega) (by omega) (by omega) (by omega)]; exact w9
  · rw [h1 _ (by omega) (by omega)]; exact q1
  · rw [h1 _ (by omega) (by omega)]; exact q2
  · rw [h1 _ (by omega) (by omega)]; exact q3
  · rw [h1 _ (by omega) (by omega)]; exact q4
  · rw [h1 _ (by omega) (by omega)]; exact q5
  · rw [h1 _ (by omega) (by omega)]; exact q6
  · rw [h1 _ (by omega) (by omega)]; exact q7
  · rw [h2 _ (by omega) (by omega) (by omega) (by omega) (by omega)]; exact q8
  · rw [h2 _ (by omega) (by omega) (by omega) (by omega) (by omega)]; exact q9
  · rw [h2 _ (by omega) (by omega) (by omega) (by omega) (by omega)]; exact q10
  · rw [h2 _ (by omega) (by omega) (by omega) (by omega) (by omega)]; exact q11
  · rw [h2 _ (by omega) (by omega) (by omega) (by omega) (by omega)]; exact q12
  · rw [h2 _ (by omega) (by omega) (by omega) (by omega) (by omega)]; exact q13
/-- History, as it is made -/
def H1Sh (sh : Nat → Option Kd) (ρ : Nat → Nat → Option Nat) (σ : Nat → Nat → Int32) (a : Nat) : Prop := (sh a = some (.inl 1) ∧ sh (a + 1) = some (.inr (4, 6)) ∧ ρ a 0 = some (a + 1)) ∧ ∀ d, d < 6 → HSh sh ρ (a + 2 + 34 * d) ∧ HV σ (a + 2 + 34 * d) rowI ∧ ρ (a + 1) d = some (a + 2 + 34 * d)
set_option maxRecDepth 100000 in
set_option maxHeartbeats 4000000 in
theorem c_X1_init {Ω : OmT} {z : Nat} {sh : Nat → Option Kd} {σ : Nat → Nat → Int32} {ρ : Nat → Nat → Option Nat} {a : Nat} (hz : z = a + 1) (hsa : sh a = some (.inl 1)) (hs00 : ∀ k, σ a k = 0) : CtV Ω yX1_init cX1_init 2 rm_X1_init [.ref a] (z, sh, σ, ρ) (fun u => ∃ (sh1 : Nat → Option Kd) (σ1 : Nat → Nat → Int32) (ρ1 : Nat → Nat → Option Nat), u = (a + 206, sh1, σ1, ρ1) ∧ H1Sh sh1 ρ1 σ1 a ∧ σ1 a 1 = nI 0 ∧ FrmQ a sh σ ρ sh1 σ1 ρ1) := by
  subst hz
  refine CtV.enter (by decide) (Nat.le_of_ble_eq_true rfl) (fun Φ hc hi hR => ?_)
  show Vw Ω Φ (a + 1, sh, σ, ρ) (0, 0) 0 [(0, .ref a)] []
  refine r_aload_n hc dX1_init_0 rfl ?_
  refine ob_X1_3 hc ⟨by decide, Nat.le_of_ble_eq_true rfl⟩ dX1_init_1 ?_
  refine r_aload_n hc dX1_init_4 rfl ?_
  refine r_bipush (v := nI 6) hc dX1_init_5 rfl ?_
  refine nq_X1_9 (len := 6) hc rfl (by decide) ⟨Nat.le_of_ble_eq_true rfl, Nat.le_of_ble_eq_true rfl⟩ dX1_init_7 ?_
  show Vw Ω Φ (a + 2, va_up sh (a + 1) (some (.inr (4, 6))), va_up σ (a + 1) (fun _ => 0), va_up ρ (a + 1) (fun _ => none)) (1, 6) 10 [(0, .ref a)] [.ref (a + 1), .ref a]
  generalize gsh1 : va_up sh (a + 1) (some (.inr (4, 6))) = sh1
  generalize gσ2 : va_up σ (a + 1) (fun _ => 0) = σ2
  generalize gρ3 : va_up ρ (a + 1) (fun _ => none) = ρ3
  refine pf_X1_11 hc (hi rfl) (by rw [← gsh1, va_up_off (by omega)]; exact hsa) dX1_init_10 ?_
  generalize gρ4 : s2 ρ3 a 0 (some (a + 1)) = ρ4
  refine r_iconst (v := nI 0) hc dX1_init_13 rfl ?_
  refine r_istore_n (ls' := [(1, .int (nI 0)), (0, .ref a)]) hc dX1_init_14 (by decide) rfl ?_
  have hA : (sh1 a = some (.inl 1) ∧ sh1 (a + 1) = some (.inr (4, 6))) ∧ ρ4 a 0 = some (a + 1) ∧ σ2 a 1 = nI 0 := ⟨⟨by rw [← gsh1, va_up_off (by omega)]; exact hsa, by rw [← gsh1, va_up_at]⟩, by rw [← gρ4, s2_same], by rw [← gσ2, va_up_off (by omega)]; exact hs00 1⟩
  have hF : FrmQ a sh σ ρ sh1 σ2 ρ4 := fun q hq => ⟨by rw [← gsh1, va_up_off (by omega)], by rw [← gσ2, va_up_off (by omega)], by rw [← gρ4, s2_ne (by omega), ← gρ3, va_up_off (by omega)]⟩
  have loop15 : ∀ (n15 : Nat) (sh2 : Nat → Option Kd) (σ2 : Nat → Nat → Int32) (ρ2 : Nat → Nat → Option Nat) (k : Nat), k ≤ 6 → ((sh2 a = some (.inl 1) ∧ sh2 (a + 1) = some (.inr (4, 6))) ∧ ρ2 a 0 = some (a + 1) ∧ σ2 a 1 = nI 0) → (FrmQ a sh σ ρ sh2 σ2 ρ2) → (∀ d, d < k → HSh sh2 ρ2 (a + 2 + 34 * d) ∧ HV σ2 (a + 2 + 34 * d) rowI ∧ ρ2 (a + 1) d = some (a + 2 + 34 * d)) → 6 - k < n15 → Vw Ω Φ (a + 2 + 34 * k, sh2, σ2, ρ2) (1 + 34 * k, 6 + 160 * k) 15 [(0, .ref a), (1, .int (nI k))] [] := by
    intro n15; induction n15 with
    | zero => intro sh2 σ2 ρ2 k hk hA hF hH hm; exact absurd hm (Nat.not_lt_zero _)
    | succ n15 ih15 =>
      intro sh2 σ2 ρ2 k hk hA hF hH hm
      refine r_iload_n hc dX1_init_15 rfl ?_
      refine r_bipush (v := nI 6) hc dX1_init_16 rfl ?_
      refine r_icmp_ge (tgt := 40) hc dX1_init_18 (by decide) (le_NN (by omega) (by omega)) (fun c_18 => ?_) (fun c_18 => ?_)
      ·
        have ek : k = 6 := by omega
        subst ek
        show Vw Ω Φ (a + 206, sh2, σ2, ρ2) (205, 966) 40 [(0, .ref a), (1, .int (nI 6))] []
        exact hR _ ⟨_, _, _, rfl, ⟨⟨hA.1.1, hA.1.2, hA.2.1⟩, hH⟩, hA.2.2, hF⟩ _ _ dX1_init_40
      ·
        refine r_aload_n hc dX1_init_21 rfl ?_
        refine gf_X1_11 (q := a + 1) hc hA.1.1 hA.2.1 dX1_init_22 ?_
        refine r_iload_n hc dX1_init_25 rfl ?_
        refine nw_X1_9 hc ⟨by show 1 + 34 * k + 1 ≤ 205; omega, by show 6 + 160 * k + 11 ≤ 966; omega⟩ dX1_init_26 ?_
        show Vw Ω Φ (a + 2 + 34 * k + 1, va_up sh2 (a + 2 + 34 * k) (some (.inl 2)), va_up σ2 (a + 2 + 34 * k) (fun _ => 0), va_up ρ2 (a + 2 + 34 * k) (fun _ => none)) (1 + 34 * k + 1, 6 + 160 * k + 11) 29 [(0, .ref a), (1, .int (nI k))] [.ref (a + 2 + 34 * k), .int (nI k), .ref (a + 1)]
        generalize gsh5 : va_up sh2 (a + 2 + 34 * k) (some (.inl 2)) = sh5
        generalize gσ6 : va_up σ2 (a + 2 + 34 * k) (fun _ => 0) = σ6
        generalize gρ7 : va_up ρ2 (a + 2 + 34 * k) (fun _ => none) = ρ7
        refine r_dup hc dX1_init_29 rfl ?_
        refine cl_X1_17 (As := []) hc (c_X2_init rfl (by rw [← gsh5, va_up_at]) (fun k => by rw [← gσ6, va_up_at])) rfl ⟨by decide, by decide⟩ ⟨by show 1 + 34 * k + 1 + 33 ≤ 205; omega, by show 6 + 160 * k + 11 + 149 ≤ 966; omega⟩ rfl (Nat.le_of_ble_eq_true rfl) dX1_init_30 (fun u hu => ?_)
        obtain ⟨shc8, σc8, ρc8, hu, hS8, hV8, hF8⟩ := hu
        rw [hu]
        show Vw Ω Φ (a + 2 + 34 * k + 34, shc8, σc8, ρc8) (1 + 34 * k + 34, 6 + 160 * k + 160) 33 [(0, .ref a), (1, .int (nI k))] [.ref (a + 2 + 34 * k), .int (nI k), .ref (a + 1)]
        refine as_4 (j := k) hc (by rw [(hF8 _ (by omega)).1, ← gsh5, va_up_off (by omega)]; exact hA.1.2) rfl (by omega) (by decide) (HS0 hS8) dX1_init_33 ?_
        generalize gρ9 : s2 ρc8 (a + 1) k (some (a + 2 + 34 * k)) = ρ9
        refine r_iinc (v := nI (k + 1)) (ls' := [(1, .int (nI (k + 1))), (0, .ref a)]) hc dX1_init_34 rfl (ad_NN _ 1) (by decide) rfl ?_
        refine r_goto (tgt := 15) hc dX1_init_37 (by decide) ?_
        refine vw_cast (z1 := a + 2 + 34 * (k + 1)) (b1 := 1 + 34 * (k + 1)) (b2 := 6 + 160 * (k + 1)) (by omega) (by omega) (by omega) ?_
        have hA2 : (shc8 a = some (.inl 1) ∧ shc8 (a + 1) = some (.inr (4, 6))) ∧ ρ9 a 0 = some (a + 1) ∧ σc8 a 1 = nI 0 := by
          exact ⟨⟨by rw [(hF8 _ (by omega)).1, ← gsh5, va_up_off (by omega)]; exact hA.1.1, by rw [(hF8 _ (by omega)).1, ← gsh5, va_up_off (by omega)]; exact hA.1.2⟩, by rw [← gρ9, s2_ne (by omega), (hF8 _ (by omega)).2.2, ← gρ7, va_up_off (by omega)]; exact hA.2.1, by rw [(hF8 _ (by omega)).2.1, ← gσ6, va_up_off (by omega)]; exact hA.2.2⟩
        have hF2 : FrmQ a sh σ ρ shc8 σc8 ρ9 := by
          exact hF.trans (b := a) (fun q hq => ⟨by rw [(hF8 _ (by omega)).1, ← gsh5, va_up_off (by omega)], by rw [(hF8 _ (by omega)).2.1, ← gσ6, va_up_off (by omega)], by rw [← gρ9, s2_ne (by omega), (hF8 _ (by omega)).2.2, ← gρ7, va_up_off (by omega)]⟩) (Nat.le_refl _)
        have hH2 : ∀ d, d < k + 1 → HSh shc8 ρ9 (a + 2 + 34 * d) ∧ HV σc8 (a + 2 + 34 * d) rowI ∧ ρ9 (a + 1) d = some (a + 2 + 34 * d) := by
          intro d hd
          by_cases e : d = k
          · subst e
            exact ⟨hS8.keep (fun q h1 h2 => ⟨rfl, by rw [← gρ9, s2_ne (by omega)]⟩), hV8, by rw [← gρ9, s2_same]⟩
          · obtain ⟨x1, x2, x3⟩ := hH d (by omega)
            exact ⟨x1.keep (fun q h1 h2 => ⟨by rw [(hF8 _ (by omega)).1, ← gsh5, va_up_off (by omega)], by rw [← gρ9, s2_ne (by omega), (hF8 _ (by omega)).2.2, ← gρ7, va_up_off (by omega)]⟩), x2.keepI (fun q h1 h2 => by rw [(hF8 _ (by omega)).2.1, ← gσ6, va_up_off (by omega)]), by rw [← gρ9, s2_nk (by omega), (hF8 _ (by omega)).2.2, ← gρ7, va_up_off (by omega)]; exact x3⟩
        refine r_locp [1, 0] (ls' := [(0, .ref a), (1, .int (nI (k + 1)))]) rfl ?_
        exact ih15 shc8 σc8 ρ9 (k + 1) (by omega) hA2 hF2 hH2 (by omega)
  refine r_locp [1, 0] (ls' := [(0, .ref a), (1, .int (nI 0))]) rfl ?_
  exact loop15 _ sh1 σ2 ρ4 0 (by omega) hA hF (fun d hd => absurd hd (Nat.not_lt_zero _)) (Nat.lt_succ_self _)
set_option maxRecDepth 100000 in
set_option maxHeartbeats 4000000 in
theorem c_X6_init {Ω : OmT} {z : Nat} {sh : Nat → Option Kd} {σ : Nat → Nat → Int32} {ρ : Nat → Nat → Option Nat} {a : Nat} (hz : z = a + 1) (hsa : sh a = some (.inl 6)) (hs00 : ∀ k, σ a k = 0) : CtV Ω yX6_init cX6_init 2 rm_X6_init [.ref a] (z, sh, σ, ρ) (fun u => ∃ (sh1 : Nat → Option Kd) (σ1 : Nat → Nat → Int32) (ρ1 : Nat → Nat → Option Nat), u = (a + 30, sh1, σ1, ρ1) ∧ PdSh sh1 ρ1 a ∧ σ1 a 1 = nI 0 ∧ FrmQ a sh σ ρ sh1 σ1 ρ1) := by
  subst hz
  refine CtV.enter (by decide) (Nat.le_of_ble_eq_true rfl) (fun Φ hc hi hR => ?_)
  show Vw Ω Φ (a + 1, sh, σ, ρ) (0, 0) 0 [(0, .ref a)] []
  refine r_aload_n hc dX6_init_0 rfl ?_
  refine ob_X6_3 hc ⟨by decide, Nat.le_of_ble_eq_true rfl⟩ dX6_init_1 ?_
  refine r_aload_n hc dX6_init_4 rfl ?_
  refine r_bipush (v := nI 80) hc dX6_init_5 rfl ?_
  refine na_char (len := 80) hc rfl (by decide) ⟨Nat.le_of_ble_eq_true rfl, Nat.le_of_ble_eq_true rfl⟩ dX6_init_7 ?_
  show Vw Ω Φ (a + 2, va_up sh (a + 1) (some (.inr (2, 80))), va_up σ (a + 1) (fun _ => 0), va_up ρ (a + 1) (fun _ => none)) (1, 80) 9 [(0, .ref a)] [.ref (a + 1), .ref a]
  generalize gsh1 : va_up sh (a + 1) (some (.inr (2, 80))) = sh1
  generalize gσ2 : va_up σ (a + 1) (fun _ => 0) = σ2
  generalize gρ3 : va_up ρ (a + 1) (fun _ => none) = ρ3
  refine pf_X6_9 hc (hi rfl) (by rw [← gsh1, va_up_off (by omega)]; exact hsa) dX6_init_9 ?_
  generalize gρ4 : s2 ρ3 a 0 (some (a + 1)) = ρ4
  refine r_aload_n hc dX6_init_12 rfl ?_
  refine r_bipush (v := nI 27) hc dX6_init_13 rfl ?_
  refine nq_X6_15 (len := 27) hc rfl (by decide) ⟨Nat.le_of_ble_eq_true rfl, Nat.le_of_ble_eq_true rfl⟩ dX6_init_15 ?_
  show Vw Ω Φ (a + 3, va_up sh1 (a + 2) (some (.inr (6, 27))), va_up σ2 (a + 2) (fun _ => 0), va_up ρ4 (a + 2) (fun _ => none)) (2, 107) 18 [(0, .ref a)] [.ref (a + 2), .ref a]
  generalize gsh5 : va_up sh1 (a + 2) (some (.inr (6, 27))) = sh5
  generalize gσ6 : va_up σ2 (a + 2) (fun _ => 0) = σ6
  generalize gρ7 : va_up ρ4 (a + 2) (fun _ => none) = ρ7
  refine pf_X6_17 hc (hi rfl) (by rw [← gsh5, va_up_off (by omega), ← gsh1, va_up_off (by omega)]; exact hsa) dX6_init_18 ?_
  generalize gρ8 : s2 ρ7 a 2 (some (a + 2)) = ρ8
  refine r_iconst (v := nI 0) hc dX6_init_21 rfl ?_
  refine r_istore_n (ls' := [(1, .int (nI 0)), (0, .ref a)]) hc dX6_init_22 (by decide) rfl ?_
  have hA : (sh5 a = some (.inl 6) ∧ sh5 (a + 1) = some (.inr (2, 80)) ∧ sh5 (a + 2) = some (.inr (6, 27))) ∧ (ρ8 a 0 = some (a + 1) ∧ ρ8 a 2 = some (a + 2)) ∧ σ6 a 1 = nI 0 := ⟨⟨by rw [← gsh5, va_up_off (by omega), ← gsh1, va_up_off (by omega)]; exact hsa, by rw [← gsh5, va_up_off (by omega), ← gsh1, va_up_at], by rw [← gsh5, va_up_at]⟩, ⟨by rw [← gρ8, s2_nk (by omega), ← gρ7, va_up_off (by omega), ← gρ4, s2_same], by rw [← gρ8, s2_same]⟩, by rw [← gσ6, va_up_off (by omega), ← gσ2, va_up_off (by omega)]; exact hs00 1⟩
  have hF : FrmQ a sh σ ρ sh5 σ6 ρ8 := fun q hq => ⟨by rw [← gsh5, va_up_off (by omega), ← gsh1, va_up_off (by omega)], by rw [← gσ6, va_up_off (by omega), ← gσ2, va_up_off (by omega)], by rw [← gρ8, s2_ne (by omega), ← gρ7, va_up_off (by omega), ← gρ4, s2_ne (by omega), ← gρ3, va_up_off (by omega)]⟩
  have loop23 : ∀ (n23 : Nat) (sh2 : Nat → Option Kd) (σ2 : Nat → Nat → Int32) (ρ2 : Nat → Nat → Option Nat) (k : Nat), k ≤ 27 → ((sh2 a = some (.inl 6) ∧ sh2 (a + 1) = some (.inr (2, 80)) ∧ sh2 (a + 2) = some (.inr (6, 27))) ∧ (ρ2 a 0 = some (a + 1) ∧ ρ2 a 2 = some (a + 2)) ∧ σ2 a 1 = nI 0) → (FrmQ a sh σ ρ sh2 σ2 ρ2) → (∀ d, d < k → sh2 (a + 3 + d) = some (.inl 5) ∧ ρ2 (a + 2) d = some (a + 3 + d)) → 27 - k < n23 → Vw Ω Φ (a + 3 + k, sh2, σ2, ρ2) (2 + k, 107 + 4 * k) 23 [(0, .ref a), (1, .int (nI k))] [] := by
    intro n23; induction n23 with
    | zero => intro sh2 σ2 ρ2 k hk hA hF hD hm; exact absurd hm (Nat.not_lt_zero _)
    | succ n23 ih23 =>
      intro sh2 σ2 ρ2 k hk hA hF hD hm
      refine r_iload_n hc dX6_init_23 rfl ?_
      refine r_bipush (v := nI 27) hc dX6_init_24 rfl ?_
      refine r_icmp_ge (tgt := 48) hc dX6_init_26 (by decide) (le_NN (by omega) (by omega)) (fun c_26 => ?_) (fun c_26 => ?_)
      ·
        have ek : k = 27 := by omega
        subst ek
        show Vw Ω Φ (a + 30, sh2, σ2, ρ2) (29, 215) 48 [(0, .ref a), (1, .int (nI 27))] []
        exact hR _ ⟨_, _, _, rfl, ⟨⟨hA.1.1, hA.1.2.1, hA.1.2.2⟩, fun i hi => (hD i hi).1, hA.2.1, fun i hi => (hD i hi).2⟩, hA.2.2, hF⟩ _ _ dX6_init_48
      ·
        refine r_aload_n hc dX6_init_29 rfl ?_
        refine gf_X6_17 (q := a + 2) hc hA.1.1 hA.2.1.2 dX6_init_30 ?_
        refine r_iload_n hc dX6_init_33 rfl ?_
        refine nw_X6_15 hc ⟨by show 2 + k + 1 ≤ 29; omega, by show 107 + 4 * k + 4 ≤ 215; omega⟩ dX6_init_34 ?_
        show Vw Ω Φ (a + 3 + k + 1, va_up sh2 (a + 3 + k) (some (.inl 5)), va_up σ2 (a + 3 + k) (fun _ => 0), va_up ρ2 (a + 3 + k) (fun _ => none)) (2 + k + 1, 107 + 4 * k + 4) 37 [(0, .ref a), (1, .int (nI k))] [.ref (a + 3 + k), .int (nI k), .ref (a + 2)]
        generalize gsh9 : va_up sh2 (a + 3 + k) (some (.inl 5)) = sh9
        generalize gσ10 : va_up σ2 (a + 3 + k) (fun _ => 0) = σ10
        generalize gρ11 : va_up ρ2 (a + 3 + k) (fun _ => none) = ρ11
        refine r_dup hc dX6_init_37 rfl ?_
        refine cl_X6_21 (As := []) hc (c_X5_init (S := (a + 3 + k + 1, sh9, σ10, ρ11))) rfl ⟨by decide, by decide⟩ ⟨by show 2 + k + 1 + 0 ≤ 29; omega, by show 107 + 4 * k + 4 + 0 ≤ 215; omega⟩ rfl (Nat.le_of_ble_eq_true rfl) dX6_init_38 (fun u hu => ?_)
        subst hu
        show Vw Ω Φ (a + 3 + k + 1, sh9, σ10, ρ11) (2 + k + 1, 107 + 4 * k + 4) 41 [(0, .ref a), (1, .int (nI k))] [.ref (a + 3 + k), .int (nI k), .ref (a + 2)]
        refine as_6 (j := k) hc (by rw [← gsh9, va_up_off (by omega)]; exact hA.1.2.2) rfl (by omega) (by decide) (by rw [← gsh9, va_up_at]) dX6_init_41 ?_
        generalize gρ13 : s2 ρ11 (a + 2) k (some (a + 3 + k)) = ρ13
        refine r_iinc (v := nI (k + 1)) (ls' := [(1, .int (nI (k + 1))), (0, .ref a)]) hc dX6_init_42 rfl (ad_NN _ 1) (by decide) rfl ?_
        refine r_goto (tgt := 23) hc dX6_init_45 (by decide) ?_
        refine vw_cast (z1 := a + 3 + (k + 1)) (b1 := 2 + (k + 1)) (b2 := 107 + 4 * (k + 1)) (by omega) (by omega) (by omega) ?_
        have hA2 : (sh9 a = some (.inl 6) ∧ sh9 (a + 1) = some (.inr (2, 80)) ∧ sh9 (a + 2) = some (.inr (6, 27))) ∧ (ρ13 a 0 = some (a + 1) ∧ ρ13 a 2 = some (a + 2)) ∧ σ10 a 1 = nI 0 := by
          exact ⟨⟨by rw [← gsh9, va_up_off (by omega)]; exact hA.1.1, by rw [← gsh9, va_up_off (by omega)]; exact hA.1.2.1, by rw [← gsh9, va_up_off (by omega)]; exact hA.1.2.2⟩, ⟨by rw [← gρ13, s2_ne (by omega), ← gρ11, va_up_off (by omega)]; exact hA.2.1.1, by rw [← gρ13, s2_ne (by omega), ← gρ11, va_up_off (by omega)]; exact hA.2.1.2⟩, by rw [← gσ10, va_up_off (by omega)]; exact hA.2.2⟩
        have hF2 : FrmQ a sh σ ρ sh9 σ10 ρ13 := by
          exact hF.trans (b := a) (fun q hq => ⟨by rw [← gsh9, va_up_off (by omega)], by rw [← gσ10, va_up_off (by omega)], by rw [← gρ13, s2_ne (by omega), ← gρ11, va_up_off (by omega)]⟩) (Nat.le_refl _)
        have hD2 : ∀ d, d < k + 1 → sh9 (a + 3 + d) = some (.inl 5) ∧ ρ13 (a + 2) d = some (a + 3 + d) := by
          intro d hd
          by_cases e : d = k
          · subst e; exact ⟨by rw [← gsh9, va_up_at], by rw [← gρ13, s2_same]⟩
          · obtain ⟨x1, x2⟩ := hD d (by omega)
            exact ⟨by rw [← gsh9, va_up_off (by omega)]; exact x1, by rw [← gρ13, s2_nk (by omega), ← gρ11, va_up_off (by omega)]; exact x2⟩
        refine r_locp [1, 0] (ls' := [(0, .ref a), (1, .int (nI (k + 1)))]) rfl ?_
        exact ih23 sh9 σ10 ρ13 (k + 1) (by omega) hA2 hF2 hD2 (by omega)
  refine r_locp [1, 0] (ls' := [(0, .ref a), (1, .int (nI 0))]) rfl ?_
  exact loop23 _ sh5 σ6 ρ8 0 (by omega) hA hF (fun d hd => absurd hd (Nat.not_lt_zero _)) (Nat.lt_succ_self _)
set_option maxRecDepth 100000 in
set_option maxHeartbeats 4000000 in
theorem c_X11_init {Ω : OmT} {z : Nat} {sh : Nat → Option Kd} {σ : Nat → Nat → Int32} {ρ : Nat → Nat → Option Nat} {a : Nat} (hz : z = a + 1) (hsa : sh a = some (.inl 10)) (hs00 : ∀ k, σ a k = 0) : CtV Ω yX11_init cX11_init 2 rm_X11_init [.ref a] (z, sh, σ, ρ) (fun u => ∃ (sh1 : Nat → Option Kd) (σ1 : Nat → Nat → Int32) (ρ1 : Nat → Nat → Option Nat), u = (a + 391, sh1, σ1, ρ1) ∧ CSh sh1 ρ1 a ∧ (HV σ1 (a + 1) rowI ∧ σ1 (a + 69) 1 = nI 0 ∧ (∀ k, σ1 (a + 276) k = 0) ∧ σ1 (a + 277) 1 = nI 0) ∧ (ρ1 a 1 = some (a + 35) ∧ ∀ d, d < 6 → ρ1 (a + 70) d = some (a + 71 + 34 * d)) ∧ (∀ d, d < 2 → HSh sh1 ρ1 (a + 323 + 34 * d) ∧ ρ1 (a + 275) d = some (a + 323 + 34 * d)) ∧ FrmQ a sh σ ρ sh1 σ1 ρ1) := by
  subst hz
  refine CtV.enter (by decide) (Nat.le_of_ble_eq_true rfl) (fun Φ hc hi hR => ?_)
  show Vw Ω Φ (a + 1, sh, σ, ρ) (0, 0) 0 [(0, .ref a)] []
  refine r_aload_n hc dX11_init_0 rfl ?_
  refine ob_X11_1 hc ⟨by decide, Nat.le_of_ble_eq_true rfl⟩ dX11_init_1 ?_
  refine r_aload_n hc dX11_init_4 rfl ?_
  refine nw_X11_7 hc ⟨Nat.le_of_ble_eq_true rfl, Nat.le_of_ble_eq_true rfl⟩ dX11_init_5 ?_
  show Vw Ω Φ (a + 2, va_up sh (a + 1) (some (.inl 2)), va_up σ (a + 1) (fun _ => 0), va_up ρ (a + 1) (fun _ => none)) (1, 11) 8 [(0, .ref a)] [.ref (a + 1), .ref a]
  generalize gsh1 : va_up sh (a + 1) (some (.inl 2)) = sh1
  generalize gσ2 : va_up σ (a + 1) (fun _ => 0) = σ2
  generalize gρ3 : va_up ρ (a + 1) (fun _ => none) = ρ3
  refine r_dup hc dX11_init_8 rfl ?_
  refine cl_X11_9 (As := []) hc (c_X2_init rfl (by rw [← gsh1, va_up_at]) (fun k => by rw [← gσ2, va_up_at])) rfl ⟨by decide, by decide⟩ ⟨Nat.le_of_ble_eq_true rfl, Nat.le_of_ble_eq_true rfl⟩ rfl (Nat.le_of_ble_eq_true rfl) dX11_init_9 (fun u hu => ?_)
  obtain ⟨shc4, σc4, ρc4, hu, hS4, hV4, hF4⟩ := hu
  rw [hu]
  show Vw Ω Φ (a + 35, shc4, σc4, ρc4) (34, 160) 12 [(0, .ref a)] [.ref (a + 1), .ref a]
  refine pf_X11_10 hc (hi rfl) (by rw [(hF4 _ (by omega)).1, ← gsh1, va_up_off (by omega)]; exact hsa) dX11_init_12 ?_
  generalize gρ5 : s2 ρc4 a 0 (some (a + 1)) = ρ5
  refine r_aload_n hc dX11_init_15 rfl ?_
  refine nw_X11_7 hc ⟨Nat.le_of_ble_eq_true rfl, Nat.le_of_ble_eq_true rfl⟩ dX11_init_16 ?_
  show Vw Ω Φ (a + 36, va_up shc4 (a + 35) (some (.inl 2)), va_up σc4 (a + 35) (fun _ => 0), va_up ρ5 (a + 35) (fun _ => none)) (35, 171) 19 [(0, .ref a)] [.ref (a + 35), .ref a]
  generalize gsh6 : va_up shc4 (a + 35) (some (.inl 2)) = sh6
  generalize gσ7 : va_up σc4 (a + 35) (fun _ => 0) = σ7
  generalize gρ8 : va_up ρ5 (a + 35) (fun _ => none) = ρ8
  refine r_dup hc dX11_init_19 rfl ?_
  refine cl_X11_9 (As := []) hc (c_X2_init rfl (by rw [← gsh6, va_up_at]) (fun k => by rw [← gσ7, va_up_at])) rfl ⟨by decide, by decide⟩ ⟨Nat.le_of_ble_eq_true rfl, Nat.le_of_ble_eq_true rfl⟩ rfl (Nat.le_of_ble_eq_true rfl) dX11_init_20 (fun u hu => ?_)
  obtain ⟨shc9, σc9, ρc9, hu, hS9, hV9, hF9⟩ := hu
  rw [hu]
  show Vw Ω Φ (a + 69, shc9, σc9, ρc9) (68, 320) 23 [(0, .ref a)] [.ref (a + 35), .ref a]
  refine pf_X11_16 hc (by rw [(hF9 _ (by omega)).1, ← gsh6, va_up_off (by omega), (hF4 _ (by omega)).1, ← gsh1, va_up_off (by omega)]; exact hsa) dX11_init_23 ?_
  generalize gρ10 : s2 ρc9 a 1 (some (a + 35)) = ρ10
  refine r_aload_n hc dX11_init_26 rfl ?_
  refine nw_X11_19 hc ⟨Nat.le_of_ble_eq_true rfl, Nat.le_of_ble_eq_true rfl⟩ dX11_init_27 ?_
  show Vw Ω Φ (a + 70, va_up shc9 (a + 69) (some (.inl 1)), va_up σc9 (a + 69) (fun _ => 0), va_up ρ10 (a + 69) (fun _ => none)) (69, 322) 30 [(0, .ref a)] [.ref (a + 69), .ref a]
  generalize gsh11 : va_up shc9 (a + 69) (some (.inl 1)) = sh11
  generalize gσ12 : va_up σc9 (a + 69) (fun _ => 0) = σ12
  generalize gρ13 : va_up ρ10 (a + 69) (fun _ => none) = ρ13
  refine r_dup hc dX11_init_30 rfl ?_
  refine cl_X11_21 (As := []) hc (c_X1_init rfl (by rw [← gsh11, va_up_at]) (fun k => by rw [← gσ12, va_up_at])) rfl ⟨by decide, by decide⟩ ⟨Nat.le_of_ble_eq_true rfl, Nat.le_of_ble_eq_true rfl⟩ rfl (Nat.le_of_ble_eq_true rfl) dX11_init_31 (fun u hu => ?_)
  obtain ⟨shc14, σc14, ρc14, hu, hS14, hV14, hF14⟩ := hu
  rw [hu]
  show Vw Ω Φ (a + 275, shc14, σc14, ρc14) (274, 1288) 34 [(0, .ref a)] [.ref (a + 69), .ref a]
  refine pf_X11_22 hc (hi rfl) (by rw [(hF14 _ (by omega)).1, ← gsh11, va_up_off (by omega), (hF9 _ (by omega)).1, ← gsh6, va_up_off (by omega), (hF4 _ (by omega)).1, ← gsh1, va_up_off (by omega)]; exact hsa) dX11_init_34 ?_
  generalize gρ15 : s2 ρc14 a 2 (some (a + 69)) = ρ15
  refine r_aload_n hc dX11_init_37 rfl ?_
  refine r_iconst (v := nI 2) hc dX11_init_38 rfl ?_
  refine nq_X11_7 (len := 2) hc rfl (by decide) ⟨Nat.le_of_ble_eq_true rfl, Nat.le_of_ble_eq_true rfl⟩ dX11_init_39 ?_
  show Vw Ω Φ (a + 276, va_up shc14 (a + 275) (some (.inr (4, 2))), va_up σc14 (a + 275) (fun _ => 0), va_up ρ15 (a + 275) (fun _ => none)) (275, 1290) 42 [(0, .ref a)] [.ref (a + 275), .ref a]
  generalize gsh16 : va_up shc14 (a + 275) (some (.inr (4, 2))) = sh16
  generalize gσ17 : va_up σc14 (a + 275) (fun _ => 0) = σ17
  generalize gρ18 : va_up ρ15 (a + 275) (fun _ => none) = ρ18
  refine pf_X11_26 hc (hi rfl) (by rw [← gsh16, va_up_off (by omega), (hF14 _ (by omega)).1, ← gsh11, va_up_off (by omega), (hF9 _ (by omega)).1, ← gsh6, va_up_off (by omega), (hF4 _ (by omega)).1, ← gsh1, va_up_off (by omega)]; exact hsa) dX11_init_42 ?_
  generalize gρ19 : s2 ρ18 a 3 (some (a + 275)) = ρ19
  refine r_aload_n hc dX11_init_45 rfl ?_
  refine r_iconst (v := nI 2) hc dX11_init_46 rfl ?_
  refine na_boolean (len := 2) hc rfl (by decide) ⟨Nat.le_of_ble_eq_true rfl, Nat.le_of_ble_eq_true rfl⟩ dX11_init_47 ?_
  show Vw Ω Φ (a + 277, va_up sh16 (a + 276) (some (.inr (1, 2))), va_up σ17 (a + 276) (fun _ => 0), va_up ρ19 (a + 276) (fun _ => none)) (276, 1292) 49 [(0, .ref a)] [.ref (a + 276), .ref a]
  generalize gsh20 : va_up sh16 (a + 276) (some (.inr (1, 2))) = sh20
  generalize gσ21 : va_up σ17 (a + 276) (fun _ => 0) = σ21
  generalize gρ22 : va_up ρ19 (a + 276) (fun _ => none) = ρ22
  refine pf_X11_30 hc (hi rfl) (by rw [← gsh20, va_up_off (by omega), ← gsh16, va_up_off (by omega), (hF14 _ (by omega)).1, ← gsh11, va_up_off (by omega), (hF9 _ (by omega)).1, ← gsh6, va_up_off (by omega), (hF4 _ (by omega)).1, ← gsh1, va_up_off (by omega)]; exact hsa) dX11_init_49 ?_
  generalize gρ23 : s2 ρ22 a 4 (some (a + 276)) = ρ23
  refine r_aload_n hc dX11_init_52 rfl ?_
  refine nw_X11_34 hc ⟨Nat.le_of_ble_eq_true rfl, Nat.le_of_ble_eq_true rfl⟩ dX11_init_53 ?_
  show Vw Ω Φ (a + 278, va_up sh20 (a + 277) (some (.inl 6)), va_up σ21 (a + 277) (fun _ => 0), va_up ρ23 (a + 277) (fun _ => none)) (277, 1297) 56 [(0, .ref a)] [.ref (a + 277), .ref a]
  generalize gsh24 : va_up sh20 (a + 277) (some (.inl 6)) = sh24
  generalize gσ25 : va_up σ21 (a + 277) (fun _ => 0) = σ25
  generalize gρ26 : va_up ρ23 (a + 277) (fun _ => none) = ρ26
  refine r_dup hc dX11_init_56 rfl ?_
  refine cl_X11_36 (As := []) hc (c_X6_init rfl (by rw [← gsh24, va_up_at]) (fun k => by rw [← gσ25, va_up_at])) rfl ⟨by decide, by decide⟩ ⟨Nat.le_of_ble_eq_true rfl, Nat.le_of_ble_eq_true rfl⟩ rfl (Nat.le_of_ble_eq_true rfl) dX11_init_57 (fun u hu => ?_)
  obtain ⟨shc27, σc27, ρc27, hu, hS27, hV27, hF27⟩ := hu
  rw [hu]
  show Vw Ω Φ (a + 307, shc27, σc27, ρc27) (306, 1512) 60 [(0, .ref a)] [.ref (a + 277), .ref a]
  refine pf_X11_37 hc (hi rfl) (by rw [(hF27 _ (by omega)).1, ← gsh24, va_up_off (by omega), ← gsh20, va_up_off (by omega), ← gsh16, va_up_off (by omega), (hF14 _ (by omega)).1, ← gsh11, va_up_off (by omega), (hF9 _ (by omega)).1, ← gsh6, va_up_off (by omega), (hF4 _ (by omega)).1, ← gsh1, va_up_off (by omega)]; exact hsa) dX11_init_60 ?_
  generalize gρ28 : s2 ρc27 a 5 (some (a + 277)) = ρ28
  refine r_aload_n hc dX11_init_63 rfl ?_
  refine nw_X11_41 hc ⟨Nat.le_of_ble_eq_true rfl, Nat.le_of_ble_eq_true rfl⟩ dX11_init_64 ?_
  show Vw Ω Φ (a + 308, va_up shc27 (a + 307) (some (.inl 4)), va_up σc27 (a + 307) (fun _ => 0), va_up ρ28 (a + 307) (fun _ => none)) (307, 1516) 67 [(0, .ref a)] [.ref (a + 307), .ref a]
  generalize gsh29 : va_up shc27 (a + 307) (some (.inl 4)) = sh29
  generalize gσ30 : va_up σc27 (a + 307) (fun _ => 0) = σ30
  generalize gρ31 : va_up ρ28 (a + 307) (fun _ => none) = ρ31
  refine r_dup hc dX11_init_67 rfl ?_
  refine cl_X11_43 (As := []) hc (c_X4_init rfl (by rw [← gsh29, va_up_at])) rfl ⟨by decide, by decide⟩ ⟨Nat.le_of_ble_eq_true rfl, Nat.le_of_ble_eq_true rfl⟩ rfl (Nat.le_of_ble_eq_true rfl) dX11_init_68 (fun u hu => ?_)
  obtain ⟨shc32, σc32, ρc32, hu, hS32, hF32⟩ := hu
  rw [hu]
  show Vw Ω Φ (a + 311, shc32, σc32, ρc32) (310, 1540) 71 [(0, .ref a)] [.ref (a + 307), .ref a]
  refine pf_X11_44 hc (hi rfl) (by rw [(hF32 _ (by omega)).1, ← gsh29, va_up_off (by omega), (hF27 _ (by omega)).1, ← gsh24, va_up_off (by omega), ← gsh20, va_up_off (by omega), ← gsh16, va_up_off (by omega), (hF14 _ (by omega)).1, ← gsh11, va_up_off (by omega), (hF9 _ (by omega)).1, ← gsh6, va_up_off (by omega), (hF4 _ (by omega)).1, ← gsh1, va_up_off (by omega)]; exact hsa) dX11_init_71 ?_
  generalize gρ33 : s2 ρc32 a 6 (some (a + 307)) = ρ33
  refine r_aload_n hc dX11_init_74 rfl ?_
  refine nw_X11_48 hc ⟨Nat.le_of_ble_eq_true rfl, Nat.le_of_ble_eq_true rfl⟩ dX11_init_75 ?_
  show Vw Ω Φ (a + 312, va_up shc32 (a + 311) (some (.inl 9)), va_up σc32 (a + 311) (fun _ => 0), va_up ρ33 (a + 311) (fun _ => none)) (311, 1546) 78 [(0, .ref a)] [.ref (a + 311), .ref a]
  generalize gsh34 : va_up shc32 (a + 311) (some (.inl 9)) = sh34
  generalize gσ35 : va_up σc32 (a + 311) (fun _ => 0) = σ35
  generalize gρ36 : va_up ρ33 (a + 311) (fun _ => none) = ρ36
  refine r_dup hc dX11_init_78 rfl ?_
  refine cl_X11_50 (As := []) hc (c_X10_init rfl (by rw [← gsh34, va_up_at])) rfl ⟨by decide, by decide⟩ ⟨Nat.le_of_ble_eq_true rfl, Nat.le_of_ble_eq_true rfl⟩ rfl (Nat.le_of_ble_eq_true rfl) dX11_init_79 (fun u hu => ?_)
  obtain ⟨shc37, σc37, ρc37, hu, hS37, hF37⟩ := hu
  rw [hu]
  show Vw Ω Φ (a + 316, shc37, σc37, ρc37) (315, 5660) 82 [(0, .ref a)] [.ref (a + 311), .ref a]
  refine pf_X11_51 hc (hi rfl) (by rw [(hF37 _ (by omega)).1, ← gsh34, va_up_off (by omega), (hF32 _ (by omega)).1, ← gsh29, va_up_off (by omega), (hF27 _ (by omega)).1, ← gsh24, va_up_off (by omega), ← gsh20, va_up_off (by omega), ← gsh16, va_up_off (by omega), (hF14 _ (by omega)).1, ← gsh11, va_up_off (by omega), (hF9 _ (by omega)).1, ← gsh6, va_up_off (by omega), (hF4 _ (by omega)).1, ← gsh1, va_up_off (by omega)]; exact hsa) dX11_init_82 ?_
  generalize gρ38 : s2 ρc37 a 7 (some (a + 311)) = ρ38
  refine r_aload_n hc dX11_init_85 rfl ?_
  refine nw_X11_55 hc ⟨Nat.le_of_ble_eq_true rfl, Nat.le_of_ble_eq_true rfl⟩ dX11_init_86 ?_
  show Vw Ω Φ (a + 317, va_up shc37 (a + 316) (some (.inl 8)), va_up σc37 (a + 316) (fun _ => 0), va_up ρ38 (a + 316) (fun _ => none)) (316, 5667) 89 [(0, .ref a)] [.ref (a + 316), .ref a]
  generalize gsh39 : va_up shc37 (a + 316) (some (.inl 8)) = sh39
  generalize gσ40 : va_up σc37 (a + 316) (fun _ => 0) = σ40
  generalize gρ41 : va_up ρ38 (a + 316) (fun _ => none) = ρ41
  refine r_dup hc dX11_init_89 rfl ?_
  refine cl_X11_57 (As := []) hc (c_X8_init rfl (by rw [← gsh39, va_up_at])) rfl ⟨by decide, by decide⟩ ⟨Nat.le_of_ble_eq_true rfl, Nat.le_of_ble_eq_true rfl⟩ rfl (Nat.le_of_ble_eq_true rfl) dX11_init_90 (fun u hu => ?_)
  obtain ⟨shc42, σc42, ρc42, hu, hS42, hF42⟩ := hu
  rw [hu]
  show Vw Ω Φ (a + 323, shc42, σc42, ρc42) (322, 5935) 93 [(0, .ref a)] [.ref (a + 316), .ref a]
  refine pf_X11_58 hc (hi rfl) (by rw [(hF42 _ (by omega)).1, ← gsh39, va_up_off (by omega), (hF37 _ (by omega)).1, ← gsh34, va_up_off (by omega), (hF32 _ (by omega)).1, ← gsh29, va_up_off (by omega), (hF27 _ (by omega)).1, ← gsh24, va_up_off (by omega), ← gsh20, va_up_off (by omega), ← gsh16, va_up_off (by omega), (hF14 _ (by omega)).1, ← gsh11, va_up_off (by omega), (hF9 _ (by omega)).1, ← gsh6, va_up_off (by omega), (hF4 _ (by omega)).1, ← gsh1, va_up_off (by omega)]; exact hsa) dX11_init_93 ?_
  generalize gρ43 : s2 ρc42 a 8 (some (a + 316)) = ρ43
  refine r_iconst (v := nI 0) hc dX11_init_96 rfl ?_
  refine r_istore_n (ls' := [(1, .int (nI 0)), (0, .ref a)]) hc dX11_init_97 (by decide) rfl ?_
  have hC : CSh shc42 ρ43 a := by
    refine ⟨⟨?_, ?_, ?_, ?_, ?_, ?_, ?_, ?_, ?_⟩, ⟨?_, ?_, ?_⟩, ⟨?_, ?_⟩, ?_, ?_, ?_, ?_, ?_, ?_, ?_⟩
    · rw [(hF42 _ (by omega)).1, ← gsh39, va_up_off (by omega), (hF37 _ (by omega)).1, ← gsh34, va_up_off (by omega), (hF32 _ (by omega)).1, ← gsh29, va_up_off (by omega), (hF27 _ (by omega)).1, ← gsh24, va_up_off (by omega), ← gsh20, va_up_off (by omega), ← gsh16, va_up_off (by omega), (hF14 _ (by omega)).1, ← gsh11, va_up_off (by omega), (hF9 _ (by omega)).1, ← gsh6, va_up_off (by omega), (hF4 _ (by omega)).1, ← gsh1, va_up_off (by omega)]; exact hsa
    · rw [← gρ43, s2_nk (by omega), (hF42 _ (by omega)).2.2, ← gρ41, va_up_off (by omega), ← gρ38, s2_nk (by omega), (hF37 _ (by omega)).2.2, ← gρ36, va_up_off (by omega), ← gρ33, s2_nk (by omega), (hF32 _ (by omega)).2.2, ← gρ31, va_up_off (by omega), ← gρ28, s2_nk (by omega), (hF27 _ (by omega)).2.2, ← gρ26, va_up_off (by omega), ← gρ23, s2_nk (by omega), ← gρ22, va_up_off (by omega), ← gρ19, s2_nk (by omega), ← gρ18, va_up_off (by omega), ← gρ15, s2_nk (by omega), (hF14 _ (by omega)).2.2, ← gρ13, va_up_off (by omega), ← gρ10, s2_nk (by omega), (hF9 _ (by omega)).2.2, ← gρ8, va_up_off (by omega), ← gρ5, s2_same]
    · rw [← gρ43, s2_nk (by omega), (hF42 _ (by omega)).2.2, ← gρ41, va_up_off (by omega), ← gρ38, s2_nk (by omega), (hF37 _ (by omega)).2.2, ← gρ36, va_up_off (by omega), ← gρ33, s2_nk (by omega), (hF32 _ (by omega)).2.2, ← gρ31, va_up_off (by omega), ← gρ28, s2_nk (by omega), (hF27 _ (by omega)).2.2, ← gρ26, va_up_off (by omega), ← gρ23, s2_nk (by omega), ← gρ22, va_up_off (by omega), ← gρ19, s2_nk (by omega), ← gρ18, va_up_off (by omega), ← gρ15, s2_same]
    · rw [← gρ43, s2_nk (by omega), (hF42 _ (by omega)).2.2, ← gρ41, va_up_off (by omega), ← gρ38, s2_nk (by omega), (hF37 _ (by omega)).2.2, ← gρ36, va_up_off (by omega), ← gρ33, s2_nk (by omega), (hF32 _ (by omega)).2.2, ← gρ31, va_up_off (by omega), ← gρ28, s2_nk (by omega), (hF27 _ (by omega)).2.2, ← gρ26, va_up_off (by omega), ← gρ23, s2_nk (by omega), ← gρ22, va_up_off (by omega), ← gρ19, s2_same]
    · rw [← gρ43, s2_nk (by omega), (hF42 _ (by omega)).2.2, ← gρ41, va_up_off (by omega), ← gρ38, s2_nk (by omega), (hF37 _ (by omega)).2.2, ← gρ36, va_up_off (by omega), ← gρ33, s2_nk (by omega), (hF32 _ (by omega)).2.2, ← gρ31, va_up_off (by omega), ← gρ28, s2_nk (by omega), (hF27 _ (by omega)).2.2, ← gρ26, va_up_off (by omega), ← gρ23, s2_same]
    · rw [← gρ43, s2_nk (by omega), (hF42 _ (by omega)).2.2, ← gρ41, va_up_off (by omega), ← gρ38, s2_nk (by omega), (hF37 _ (by omega)).2.2, ← gρ36, va_up_off (by omega), ← gρ33, s2_nk (by omega), (hF32 _ (by omega)).2.2, ← gρ31, va_up_off (by omega), ← gρ28, s2_same]
    · rw [← gρ43, s2_nk (by omega), (hF42 _ (by omega)).2.2, ← gρ41, va_up_off (by omega), ← gρ38, s2_nk (by omega), (hF37 _ (by omega)).2.2, ← gρ36, va_up_off (by omega), ← gρ33, s2_same]
    · rw [← gρ43, s2_nk (by omega), (hF42 _ (by omega)).2.2, ← gρ41, va_up_off (by omega), ← gρ38, s2_same]
    · rw [← gρ43, s2_same]
    · rw [(hF42 _ (by omega)).1, ← gsh39, va_up_off (by omega), (hF37 _ (by omega)).1, ← gsh34, va_up_off (by omega), (hF32 _ (by omega)).1, ← gsh29, va_up_off (by omega), (hF27 _ (by omega)).1, ← gsh24, va_up_off (by omega), ← gsh20, va_up_off (by omega), ← gsh16, va_up_off (by omega)]; exact hS14.1.1
    · rw [(hF42 _ (by omega)).1, ← gsh39, va_up_off (by omega), (hF37 _ (by omega)).1, ← gsh34, va_up_off (by omega), (hF32 _ (by omega)).1, ← gsh29, va_up_off (by omega), (hF27 _ (by omega)).1, ← gsh24, va_up_off (by omega), ← gsh20, va_up_off (by omega), ← gsh16, va_up_off (by omega)]; exact hS14.1.2.1
    · rw [← gρ43, s2_ne (by omega), (hF42 _ (by omega)).2.2, ← gρ41, va_up_off (by omega), ← gρ38, s2_ne (by omega), (hF37 _ (by omega)).2.2, ← gρ36, va_up_off (by omega), ← gρ33, s2_ne (by omega), (hF32 _ (by omega)).2.2, ← gρ31, va_up_off (by omega), ← gρ28, s2_ne (by omega), (hF27 _ (by omega)).2.2, ← gρ26, va_up_off (by omega), ← gρ23, s2_ne (by omega), ← gρ22, va_up_off (by omega), ← gρ19, s2_ne (by omega), ← gρ18, va_up_off (by omega), ← gρ15, s2_ne (by omega)]; exact hS14.1.2.2
    · rw [(hF42 _ (by omega)).1, ← gsh39, va_up_off (by omega), (hF37 _ (by omega)).1, ← gsh34, va_up_off (by omega), (hF32 _ (by omega)).1, ← gsh29, va_up_off (by omega), (hF27 _ (by omega)).1, ← gsh24, va_up_off (by omega), ← gsh20, va_up_off (by omega), ← gsh16, va_up_at]
    · rw [(hF42 _ (by omega)).1, ← gsh39, va_up_off (by omega), (hF37 _ (by omega)).1, ← gsh34, va_up_off (by omega), (hF32 _ (by omega)).1, ← gsh29, va_up_off (by omega), (hF27 _ (by omega)).1, ← gsh24, va_up_off (by omega), ← gsh20, va_up_at]
    · exact hS4.keep (fun q h1 h2 => ⟨by rw [(hF42 _ (by omega)).1, ← gsh39, va_up_off (by omega), (hF37 _ (by omega)).1, ← gsh34, va_up_off (by omega), (hF32 _ (by omega)).1, ← gsh29, va_up_off (by omega), (hF27 _ (by omega)).1, ← gsh24, va_up_off (by omega), ← gsh20, va_up_off (by omega), ← gsh16, va_up_off (by omega), (hF14 _ (by omega)).1, ← gsh11, va_up_off (by omega), (hF9 _ (by omega)).1, ← gsh6, va_up_off (by omega)], by rw [← gρ43, s2_ne (by omega), (hF42 _ (by omega)).2.2, ← gρ41, va_up_off (by omega), ← gρ38, s2_ne (by omega), (hF37 _ (by omega)).2.2, ← gρ36, va_up_off (by omega), ← gρ33, s2_ne (by omega), (hF32 _ (by omega)).2.2, ← gρ31, va_up_off (by omega), ← gρ28, s2_ne (by omega), (hF27 _ (by omega)).2.2, ← gρ26, va_up_off (by omega), ← gρ23, s2_ne (by omega), ← gρ22, va_up_off (by omega), ← gρ19, s2_ne (by omega), ← gρ18, va_up_off (by omega), ← gρ15, s2_ne (by omega), (hF14 _ (by omega)).2.2, ← gρ13, va_up_off (by omega), ← gρ10, s2_ne (by omega), (hF9 _ (by omega)).2.2, ← gρ8, va_up_off (by omega), ← gρ5, s2_ne (by omega)]⟩)
    · exact hS9.keep (fun q h1 h2 => ⟨by rw [(hF42 _ (by omega)).1, ← gsh39, va_up_off (by omega), (hF37 _ (by omega)).1, ← gsh34, va_up_off (by omega), (hF32 _ (by omega)).1, ← gsh29, va_up_off (by omega), (hF27 _ (by omega)).1, ← gsh24, va_up_off (by omega), ← gsh20, va_up_off (by omega), ← gsh16, va_up_off (by omega), (hF14 _ (by omega)).1, ← gsh11, va_up_off (by omega)], by rw [← gρ43, s2_ne (by omega), (hF42 _ (by omega)).2.2, ← gρ41, va_up_off (by omega), ← gρ38, s2_ne (by omega), (hF37 _ (by omega)).2.2, ← gρ36, va_up_off (by omega), ← gρ33, s2_ne (by omega), (hF32 _ (by omega)).2.2, ← gρ31, va_up_off (by omega), ← gρ28, s2_ne (by omega), (hF27 _ (by omega)).2.2, ← gρ26, va_up_off (by omega), ← gρ23, s2_ne (by omega), ← gρ22, va_up_off (by omega), ← gρ19, s2_ne (by omega), ← gρ18, va_up_off (by omega), ← gρ15, s2_ne (by omega), (hF14 _ (by omega)).2.2, ← gρ13, va_up_off (by omega), ← gρ10, s2_ne (by omega)]⟩)
    · intro d hd; exact (hS14.2 d hd).1.keep (fun q h1 h2 => ⟨by rw [(hF42 _ (by omega)).1, ← gsh39, va_up_off (by omega), (hF37 _ (by omega)).1, ← gsh34, va_up_off (by omega), (hF32 _ (by omega)).1, ← gsh29, va_up_off (by omega), (hF27 _ (by omega)).1, ← gsh24, va_up_off (by omega), ← gsh20, va_up_off (by omega), ← gsh16, va_up_off (by omega)], by rw [← gρ43, s2_ne (by omega), (hF42 _ (by omega)).2.2, ← gρ41, va_up_off (by omega), ← gρ38, s2_ne (by omega), (hF37 _ (by omega)).2.2, ← gρ36, va_up_off (by omega), ← gρ33, s2_ne (by omega), (hF32 _ (by omega)).2.2, ← gρ31, va_up_off (by omega), ← gρ28, s2_ne (by omega), (hF27 _ (by omega)).2.2, ← gρ26, va_up_off (by omega), ← gρ23, s2_ne (by omega), ← gρ22, va_up_off (by omega), ← gρ19, s2_ne (by omega), ← gρ18, va_up_off (by omega), ← gρ15, s2_ne (by omega)]⟩)
    · obtain ⟨⟨e0, e1, e2⟩, e3, ⟨f0, f1⟩, f2⟩ := hS27
      exact ⟨⟨by rw [(hF42 _ (by omega)).1, ← gsh39, va_up_off (by omega), (hF37 _ (by omega)).1, ← gsh34, va_up_off (by omega), (hF32 _ (by omega)).1, ← gsh29, va_up_off (by omega)]; exact e0, by rw [(hF42 _ (by omega)).1, ← gsh39, va_up_off (by omega), (hF37 _ (by omega)).1, ← gsh34, va_up_off (by omega), (hF32 _ (by omega)).1, ← gsh29, va_up_off (by omega)]; exact e1, by rw [(hF42 _ (by omega)).1, ← gsh39, va_up_off (by omega), (hF37 _ (by omega)).1, ← gsh34, va_up_off (by omega), (hF32 _ (by omega)).1, ← gsh29, va_up_off (by omega)]; exact e2⟩, fun i hi => by rw [(hF42 _ (by omega)).1, ← gsh39, va_up_off (by omega), (hF37 _ (by omega)).1, ← gsh34, va_up_off (by omega), (hF32 _ (by omega)).1, ← gsh29, va_up_off (by omega)]; exact e3 i hi, ⟨by rw [← gρ43, s2_ne (by omega), (hF42 _ (by omega)).2.2, ← gρ41, va_up_off (by omega), ← gρ38, s2_ne (by omega), (hF37 _ (by omega)).2.2, ← gρ36, va_up_off (by omega), ← gρ33, s2_ne (by omega), (hF32 _ (by omega)).2.2, ← gρ31, va_up_off (by omega), ← gρ28, s2_ne (by omega)]; exact f0, by rw [← gρ43, s2_ne (by omega), (hF42 _ (by omega)).2.2, ← gρ41, va_up_off (by omega), ← gρ38, s2_ne (by omega), (hF37 _ (by omega)).2.2, ← gρ36, va_up_off (by omega), ← gρ33, s2_ne (by omega), (hF32 _ (by omega)).2.2, ← gρ31, va_up_off (by omega), ← gρ28, s2_ne (by omega)]; exact f1⟩, fun i hi => by rw [← gρ43, s2_ne (by omega), (hF42 _ (by omega)).2.2, ← gρ41, va_up_off (by omega), ← gρ38, s2_ne (by omega), (hF37 _ (by omega)).2.2, ← gρ36, va_up_off (by omega), ← gρ33, s2_ne (by omega), (hF32 _ (by omega)).2.2, ← gρ31, va_up_off (by omega), ← gρ28, s2_ne (by omega)]; exact f2 i hi⟩
    · obtain ⟨⟨e0, e1, e2, e3⟩, f0, f1, f2⟩ := hS32
      exact ⟨⟨by rw [(hF42 _ (by omega)).1, ← gsh39, va_up_off (by omega), (hF37 _ (by omega)).1, ← gsh34, va_up_off (by omega)]; exact e0, by rw [(hF42 _ (by omega)).1, ← gsh39, va_up_off (by omega), (hF37 _ (by omega)).1, ← gsh34, va_up_off (by omega)]; exact e1, by rw [(hF42 _ (by omega)).1, ← gsh39, va_up_off (by omega), (hF37 _ (by omega)).1, ← gsh34, va_up_off (by omega)]; exact e2, by rw [(hF42 _ (by omega)).1, ← gsh39, va_up_off (by omega), (hF37 _ (by omega)).1, ← gsh34, va_up_off (by omega)]; exact e3⟩, by rw [← gρ43, s2_ne (by omega), (hF42 _ (by omega)).2.2, ← gρ41, va_up_off (by omega), ← gρ38, s2_ne (by omega), (hF37 _ (by omega)).2.2, ← gρ36, va_up_off (by omega), ← gρ33, s2_ne (by omega)]; exact f0, by rw [← gρ43, s2_ne (by omega), (hF42 _ (by omega)).2.2, ← gρ41, va_up_off (by omega), ← gρ38, s2_ne (by omega), (hF37 _ (by omega)).2.2, ← gρ36, va_up_off (by omega), ← gρ33, s2_ne (by omega)]; exact f1, by rw [← gρ43, s2_ne (by omega), (hF42 _ (by omega)).2.2, ← gρ41, va_up_off (by omega), ← gρ38, s2_ne (by omega), (hF37 _ (by omega)).2.2, ← gρ36, va_up_off (by omega), ← gρ33, s2_ne (by omega)]; exact f2⟩
    · obtain ⟨⟨e0, e1, e2, e3, e4⟩, f0, f1, f2, f3⟩ := hS37
      exact ⟨⟨by rw [(hF42 _ (by omega)).1, ← gsh39, va_up_off (by omega)]; exact e0, by rw [(hF42 _ (by omega)).1, ← gsh39, va_up_off (by omega)]; exact e1, by rw [(hF42 _ (by omega)).1, ← gsh39, va_up_off (by omega)]; exact e2, by rw [(hF42 _ (by omega)).1, ← gsh39, va_up_off (by omega)]; exact e3, by rw [(hF42 _ (by omega)).1, ← gsh39, va_up_off (by omega)]; exact e4⟩, by rw [← gρ43, s2_ne (by omega), (hF42 _ (by omega)).2.2, ← gρ41, va_up_off (by omega), ← gρ38, s2_ne (by omega)]; exact f0, by rw [← gρ43, s2_ne (by omega), (hF42 _ (by omega)).2.2, ← gρ41, va_up_off (by omega), ← gρ38, s2_ne (by omega)]; exact f1, by rw [← gρ43, s2_ne (by omega), (hF42 _ (by omega)).2.2, ← gρ41, va_up_off (by omega), ← gρ38, s2_ne (by omega)]; exact f2, by rw [← gρ43, s2_ne (by omega), (hF42 _ (by omega)).2.2, ← gρ41, va_up_off (by omega), ← gρ38, s2_ne (by omega)]; exact f3⟩
    · obtain ⟨⟨e0, e1, e2, e3, e4, e5, e6⟩, f0, f1, f2, f3, f4, f5⟩ := hS42
      exact ⟨⟨e0, e1, e2, e3, e4, e5, e6⟩, by rw [← gρ43, s2_ne (by omega)]; exact f0, by rw [← gρ43, s2_ne (by omega)]; exact f1, by rw [← gρ43, s2_ne (by omega)]; exact f2, by rw [← gρ43, s2_ne (by omega)]; exact f3, by rw [← gρ43, s2_ne (by omega)]; exact f4, by rw [← gρ43, s2_ne (by omega)]; exact f5⟩
  have hZ : HV σc42 (a + 1) rowI ∧ σc42 (a + 69) 1 = nI 0 ∧ (∀ k, σc42 (a + 276) k = 0) ∧ σc42 (a + 277) 1 = nI 0 := ⟨hV4.keepI (fun q h1 h2 => by rw [(hF42 _ (by omega)).2.1, ← gσ40, va_up_off (by omega), (hF37 _ (by omega)).2.1, ← gσ35, va_up_off (by omega), (hF32 _ (by omega)).2.1, ← gσ30, va_up_off (by omega), (hF27 _ (by omega)).2.1, ← gσ25, va_up_off (by omega), ← gσ21, va_up_off (by omega), ← gσ17, va_up_off (by omega), (hF14 _ (by omega)).2.1, ← gσ12, va_up_off (by omega), (hF9 _ (by omega)).2.1, ← gσ7, va_up_off (by omega)]), by rw [(hF42 _ (by omega)).2.1, ← gσ40, va_up_off (by omega), (hF37 _ (by omega)).2.1, ← gσ35, va_up_off (by omega), (hF32 _ (by omega)).2.1, ← gσ30, va_up_off (by omega), (hF27 _ (by omega)).2.1, ← gσ25, va_up_off (by omega), ← gσ21, va_up_off (by omega), ← gσ17, va_up_off (by omega)]; exact hV14, fun k => by rw [(hF42 _ (by omega)).2.1, ← gσ40, va_up_off (by omega), (hF37 _ (by omega)).2.1, ← gσ35, va_up_off (by omega), (hF32 _ (by omega)).2.1, ← gσ30, va_up_off (by omega), (hF27 _ (by omega)).2.1, ← gσ25, va_up_off (by omega), ← gσ21, va_up_at], by rw [(hF42 _ (by omega)).2.1, ← gσ40, va_up_off (by omega), (hF37 _ (by omega)).2.1, ← gσ35, va_up_off (by omega), (hF32 _ (by omega)).2.1, ← gσ30, va_up_off (by omega)]; exact hV27⟩
  have hD : ρ43 a 1 = some (a + 35) ∧ ∀ d, d < 6 → ρ43 (a + 70) d = some (a + 71 + 34 * d) := ⟨by rw [← gρ43, s2_nk (by omega), (hF42 _ (by omega)).2.2, ← gρ41, va_up_off (by omega), ← gρ38, s2_nk (by omega), (hF37 _ (by omega)).2.2, ← gρ36, va_up_off (by omega), ← gρ33, s2_nk (by omega), (hF32 _ (by omega)).2.2, ← gρ31, va_up_off (by omega), ← gρ28, s2_nk (by omega), (hF27 _ (by omega)).2.2, ← gρ26, va_up_off (by omega), ← gρ23, s2_nk (by omega), ← gρ22, va_up_off (by omega), ← gρ19, s2_nk (by omega), ← gρ18, va_up_off (by omega), ← gρ15, s2_nk (by omega), (hF14 _ (by omega)).2.2, ← gρ13, va_up_off (by omega), ← gρ10, s2_same], fun d hd => by rw [← gρ43, s2_ne (by omega), (hF42 _ (by omega)).2.2, ← gρ41, va_up_off (by omega), ← gρ38, s2_ne (by omega), (hF37 _ (by omega)).2.2, ← gρ36, va_up_off (by omega), ← gρ33, s2_ne (by omega), (hF32 _ (by omega)).2.2, ← gρ31, va_up_off (by omega), ← gρ28, s2_ne (by omega), (hF27 _ (by omega)).2.2, ← gρ26, va_up_off (by omega), ← gρ23, s2_ne (by omega), ← gρ22, va_up_off (by omega), ← gρ19, s2_ne (by omega), ← gρ18, va_up_off (by omega), ← gρ15, s2_ne (by omega)]; exact (hS14.2 d hd).2.2⟩
  have hF : FrmQ a sh σ ρ shc42 σc42 ρ43 := fun q hq => ⟨by rw [(hF42 _ (by omega)).1, ← gsh39, va_up_off (by omega), (hF37 _ (by omega)).1, ← gsh34, va_up_off (by omega), (hF32 _ (by omega)).1, ← gsh29, va_up_off (by omega), (hF27 _ (by omega)).1, ← gsh24, va_up_off (by omega), ← gsh20, va_up_off (by omega), ← gsh16, va_up_off (by omega), (hF14 _ (by omega)).1, ← gsh11, va_up_off (by omega), (hF9 _ (by omega)).1, ← gsh6, va_up_off (by omega), (hF4 _ (by omega)).1, ← gsh1, va_up_off (by omega)], by rw [(hF42 _ (by omega)).2.1, ← gσ40, va_up_off (by omega), (hF37 _ (by omega)).2.1, ← gσ35, va_up_off (by omega), (hF32 _ (by omega)).2.1, ← gσ30, va_up_off (by omega), (hF27 _ (by omega)).2.1, ← gσ25, va_up_off (by omega), ← gσ21, va_up_off (by omega), ← gσ17, va_up_off (by omega), (hF14 _ (by omega)).2.1, ← gσ12, va_up_off (by omega), (hF9 _ (by omega)).2.1, ← gσ7, va_up_off (by omega), (hF4 _ (by omega)).2.1, ← gσ2, va_up_off (by omega)], by rw [← gρ43, s2_ne (by omega), (hF42 _ (by omega)).2.2, ← gρ41, va_up_off (by omega), ← gρ38, s2_ne (by omega), (hF37 _ (by omega)).2.2, ← gρ36, va_up_off (by omega), ← gρ33, s2_ne (by omega), (hF32 _ (by omega)).2.2, ← gρ31, va_up_off (by omega), ← gρ28, s2_ne (by omega), (hF27 _ (by omega)).2.2, ← gρ26, va_up_off (by omega), ← gρ23, s2_ne (by omega), ← gρ22, va_up_off (by omega), ← gρ19, s2_ne (by omega), ← gρ18, va_up_off (by omega), ← gρ15, s2_ne (by omega), (hF14 _ (by omega)).2.2, ← gρ13, va_up_off (by omega), ← gρ10, s2_ne (by omega), (hF9 _ (by omega)).2.2, ← gρ8, va_up_off (by omega), ← gρ5, s2_ne (by omega), (hF4 _ (by omega)).2.2, ← gρ3, va_up_off (by omega)]⟩
  have loop98 : ∀ (n98 : Nat) (sh2 : Nat → Option Kd) (σ2 : Nat → Nat → Int32) (ρ2 : Nat → Nat → Option Nat) (k : Nat), k ≤ 2 → (CSh sh2 ρ2 a) → (HV σ2 (a + 1) rowI ∧ σ2 (a + 69) 1 = nI 0 ∧ (∀ k, σ2 (a + 276) k = 0) ∧ σ2 (a + 277) 1 = nI 0) → (ρ2 a 1 = some (a + 35) ∧ ∀ d, d < 6 → ρ2 (a + 70) d = some (a + 71 + 34 * d)) → (FrmQ a sh σ ρ sh2 σ2 ρ2) → (∀ d, d < k → HSh sh2 ρ2 (a + 323 + 34 * d) ∧ ρ2 (a + 275) d = some (a + 323 + 34 * d)) → 2 - k < n98 → Vw Ω Φ (a + 323 + 34 * k, sh2, σ2, ρ2) (322 + 34 * k, 5935 + 160 * k) 98 [(0, .ref a), (1, .int (nI k))] [] := by
    intro n98; induction n98 with
    | zero => intro sh2 σ2 ρ2 k hk hC hZ hD hF hL hm; exact absurd hm (Nat.not_lt_zero _)
    | succ n98 ih98 =>
      intro sh2 σ2 ρ2 k hk hC hZ hD hF hL hm
      refine r_iload_n hc dX11_init_98 rfl ?_
      refine r_iconst (v := nI 2) hc dX11_init_99 rfl ?_
      refine r_icmp_ge (tgt := 122) hc dX11_init_100 (by decide) (le_NN (by omega) (by omega)) (fun c_100 => ?_) (fun c_100 => ?_)
      ·
        have ek : k = 2 := by omega
        subst ek
        show Vw Ω Φ (a + 391, sh2, σ2, ρ2) (390, 6255) 122 [(0, .ref a), (1, .int (nI 2))] []
        exact hR _ ⟨_, _, _, rfl, hC, hZ, hD, hL, hF⟩ _ _ dX11_init_122
      ·
        refine r_aload_n hc dX11_init_103 rfl ?_
        refine gf_X11_26 (q := a + 275) hc hC.1.1 hC.1.2.2.2.1 dX11_init_104 ?_
        refine r_iload_n hc dX11_init_107 rfl ?_
        refine nw_X11_7 hc ⟨by show 322 + 34 * k + 1 ≤ 390; omega, by show 5935 + 160 * k + 11 ≤ 6255; omega⟩ dX11_init_108 ?_
        show Vw Ω Φ (a + 323 + 34 * k + 1, va_up sh2 (a + 323 + 34 * k) (some (.inl 2)), va_up σ2 (a + 323 + 34 * k) (fun _ => 0), va_up ρ2 (a + 323 + 34 * k) (fun _ => none)) (322 + 34 * k + 1, 5935 + 160 * k + 11) 111 [(0, .ref a), (1, .int (nI k))] [.ref (a + 323 + 34 * k), .int (nI k), .ref (a + 275)]
        generalize gsh44 : va_up sh2 (a + 323 + 34 * k) (some (.inl 2)) = sh44
        generalize gσ45 : va_up σ2 (a + 323 + 34 * k) (fun _ => 0) = σ45
        generalize gρ46 : va_up ρ2 (a + 323 + 34 * k) (fun _ => none) = ρ46
        refine r_dup hc dX11_init_111 rfl ?_
        refine cl_X11_9 (As := []) hc (c_X2_init rfl (by rw [← gsh44, va_up_at]) (fun k => by rw [← gσ45, va_up_at])) rfl ⟨by decide, by decide⟩ ⟨by show 322 + 34 * k + 1 + 33 ≤ 390; omega, by show 5935 + 160 * k + 11 + 149 ≤ 6255; omega⟩ rfl (Nat.le_of_ble_eq_true rfl) dX11_init_112 (fun u hu => ?_)
        obtain ⟨shc47, σc47, ρc47, hu, hS47, hV47, hF47⟩ := hu
        rw [hu]
        show Vw Ω Φ (a + 323 + 34 * k + 34, shc47, σc47, ρc47) (322 + 34 * k + 34, 5935 + 160 * k + 160) 115 [(0, .ref a), (1, .int (nI k))] [.ref (a + 323 + 34 * k), .int (nI k), .ref (a + 275)]
        refine as_4 (j := k) hc (by rw [(hF47 _ (by omega)).1, ← gsh44, va_up_off (by omega)]; exact hC.2.2.1.1) rfl (by omega) (by decide) (HS0 hS47) dX11_init_115 ?_
        generalize gρ48 : s2 ρc47 (a + 275) k (some (a + 323 + 34 * k)) = ρ48
        refine r_iinc (v := nI (k + 1)) (ls' := [(1, .int (nI (k + 1))), (0, .ref a)]) hc dX11_init_116 rfl (ad_NN _ 1) (by decide) rfl ?_
        refine r_goto (tgt := 98) hc dX11_init_119 (by decide) ?_
        refine vw_cast (z1 := a + 323 + 34 * (k + 1)) (b1 := 322 + 34 * (k + 1)) (b2 := 5935 + 160 * (k + 1)) (by omega) (by omega) (by omega) ?_
        have hC2 : CSh shc47 ρ48 a := by
          exact hC.keep (fun q h1 h2 => by rw [(hF47 _ (by omega)).1, ← gsh44, va_up_off (by omega)]) (fun q h1 h2 h3 h4 h5 => by rw [← gρ48, s2_ne (by omega), (hF47 _ (by omega)).2.2, ← gρ46, va_up_off (by omega)]) (fun k hk => by rw [← gρ48, s2_ne (by omega), (hF47 _ (by omega)).2.2, ← gρ46, va_up_off (by omega)])
        have hZ2 : HV σc47 (a + 1) rowI ∧ σc47 (a + 69) 1 = nI 0 ∧ (∀ k, σc47 (a + 276) k = 0) ∧ σc47 (a + 277) 1 = nI 0 := by
          exact ⟨hZ.1.keepI (fun q h1 h2 => by rw [(hF47 _ (by omega)).2.1, ← gσ45, va_up_off (by omega)]), by rw [(hF47 _ (by omega)).2.1, ← gσ45, va_up_off (by omega)]; exact hZ.2.1, fun k => by rw [(hF47 _ (by omega)).2.1, ← gσ45, va_up_off (by omega)]; exact hZ.2.2.1 k, by rw [(hF47 _ (by omega)).2.1, ← gσ45, va_up_off (by omega)]; exact hZ.2.2.2⟩
        have hD2 : ρ48 a 1 = some (a + 35) ∧ ∀ d, d < 6 → ρ48 (a + 70) d = some (a + 71 + 34 * d) := by
          exact ⟨by rw [← gρ48, s2_ne (by omega), (hF47 _ (by omega)).2.2, ← gρ46, va_up_off (by omega)]; exact hD.1, fun d hd => by rw [← gρ48, s2_ne (by omega), (hF47 _ (by omega)).2.2, ← gρ46, va_up_off (by omega)]; exact hD.2 d hd⟩
        have hF2 : FrmQ a sh σ ρ shc47 σc47 ρ48 := by
          exact hF.trans (b := a) (fun q hq => ⟨by rw [(hF47 _ (by omega)).1, ← gsh44, va_up_off (by omega)], by rw [(hF47 _ (by omega)).2.1, ← gσ45, va_up_off (by omega)], by rw [← gρ48, s2_ne (by omega), (hF47 _ (by omega)).2.2, ← gρ46, va_up_off (by omega)]⟩) (Nat.le_refl _)
        have hL2 : ∀ d, d < k + 1 → HSh shc47 ρ48 (a + 323 + 34 * d) ∧ ρ48 (a + 275) d = some (a + 323 + 34 * d) := by
          intro d hd
          by_cases e : d = k
          · subst e; exact ⟨hS47.keep (fun q h1 h2 => ⟨rfl, by rw [← gρ48, s2_ne (by omega)]⟩), by rw [← gρ48, s2_same]⟩
          · obtain ⟨x1, x2⟩ := hL d (by omega)
            exact ⟨x1.keep (fun q h1 h2 => ⟨by rw [(hF47 _ (by omega)).1, ← gsh44, va_up_off (by omega)], by rw [← gρ48, s2_ne (by omega), (hF47 _ (by omega)).2.2, ← gρ46, va_up_off (by omega)]⟩), by rw [← gρ48, s2_nk (by omega), (hF47 _ (by omega)).2.2, ← gρ46, va_up_off (by omega)]; exact x2⟩
        refine r_locp [1, 0] (ls' := [(0, .ref a), (1, .int (nI (k + 1)))]) rfl ?_
        exact ih98 shc47 σc47 ρ48 (k + 1) (by omega) hC2 hZ2 hD2 hF2 hL2 (by omega)
  refine r_locp [1, 0] (ls' := [(0, .ref a), (1, .int (nI 0))]) rfl ?_
  exact loop98 _ shc42 σc42 ρ43 0 (by omega) hC hZ hD hF (fun d hd => absurd hd (Nat.not_lt_zero _)) (Nat.lt_succ_self _)
