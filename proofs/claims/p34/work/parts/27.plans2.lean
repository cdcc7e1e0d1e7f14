/-! ===== as in whole: plans2 ===== -/
def PSh (sh : Nat → Option Kd) (ρ : Nat → Nat → Option Nat) (a : Nat) : Prop := (sh a = some (.inl 8) ∧ sh (a + 1) = some (.inr (0, 6)) ∧ sh (a + 2) = some (.inr (0, 6)) ∧ sh (a + 3) = some (.inr (0, 64)) ∧ sh (a + 4) = some (.inr (0, 64)) ∧ sh (a + 5) = some (.inr (0, 64)) ∧ sh (a + 6) = some (.inr (0, 64))) ∧ ρ a 0 = some (a + 1) ∧ ρ a 1 = some (a + 2) ∧ ρ a 2 = some (a + 3) ∧ ρ a 3 = some (a + 4) ∧ ρ a 4 = some (a + 5) ∧ ρ a 5 = some (a + 6)
def bkP (v : Nat → Nat) (p : Nat) : Nat := givW v (v (150 + 3 * p))
def ndP (v : Nat → Nat) (p : Nat) : Nat := lockW (v (150 + 3 * p + 1)) (v (150 + 3 * p + 2))
def PWk (τ : Nat → Nat → Int32) (a : Nat) (v : Nat → Nat) : Prop := τ a 6 = nI (v 9) ∧ rowAt τ (a + 1) (v 9) (bkP v) ∧ rowAt τ (a + 2) (v 9) (ndP v)
def PBx (τ : Nat → Nat → Int32) (a : Nat) (v : Nat → Nat) : Prop := ∀ D, D < 2 ^ v 9 → τ (a + 3) D = zI (bxA v D)
def PAn (τ : Nat → Nat → Int32) (a : Nat) (v : Nat → Nat) (k : Nat) : Prop := ∀ D, k ≤ D → D < 2 ^ v 9 → τ (a + 4) D = nI (oC v (rsF (v 9) D) D) ∧ τ (a + 5) D = nI (lC v (rsF (v 9) D) D) ∧ τ (a + 6) D = nI (mC v (rsF (v 9) D) D)
theorem PWk.keep {τ τ2 : Nat → Nat → Int32} {a : Nat} {v : Nat → Nat} (h : PWk τ a v) (e0 : τ2 a = τ a) (e1 : τ2 (a + 1) = τ (a + 1)) (e2 : τ2 (a + 2) = τ (a + 2)) : PWk τ2 a v := ⟨by rw [e0]; exact h.1, h.2.1.sig e1, h.2.2.sig e2⟩
theorem PBx.keep {τ τ2 : Nat → Nat → Int32} {a : Nat} {v : Nat → Nat} (h : PBx τ a v) (e : τ2 (a + 3) = τ (a + 3)) : PBx τ2 a v := fun D hD => by rw [e]; exact h D hD
def fO (v : Nat → Nat) (m D p : Nat) : Nat := if D.testBit p = true then 0 else if gpA v D p = 0 then oC v m (D ||| 2 ^ p) else 0
def fM (v : Nat → Nat) (m D p : Nat) : Nat := if D.testBit p = true then 1000000 else max (gpA v D p) (mC v m (D ||| 2 ^ p))
def fL (v : Nat → Nat) (m D p : Nat) : Nat := if D.testBit p = true then 0 else if gpA v D p = 0 then (if m = 0 then 2 ^ p else lC v m (D ||| 2 ^ p)) else 0
theorem givW_le (v : Nat → Nat) (d : Nat) : givW v d ≤ 44 := Nat.le_trans (Nat.sub_le _ _) (lockW_le _ _)
theorem bkP_le (v : Nat → Nat) (p : Nat) : bkP v p ≤ 44 := givW_le v _
theorem ndP_le (v : Nat → Nat) (p : Nat) : ndP v p ≤ 44 := lockW_le _ _
theorem plG_eq (v : Nat → Nat) (p : Nat) : plG v p = ((bkP v p : Nat) : Int) - ((ndP v p : Nat) : Int) := rfl
theorem gn_rng (v : Nat → Nat) (D n : Nat) : -(44 * (n : Int)) ≤ gnF v D n ∧ gnF v D n ≤ 44 * (n : Int) := by
  induction n with
  | zero => rw [gnF]; omega
  | succ n ih =>
    have h1 := bkP_le v n
    have h2 := ndP_le v n
    have h3 := plG_eq v n
    rw [gnF]
    split <;> omega
theorem bx_rng (v : Nat → Nat) (D : Nat) (h9 : v 9 ≤ 6) : -264 ≤ bxA v D ∧ bxA v D ≤ (v 7 : Int) + 264 := by
  have h := gn_rng v D (v 9)
  unfold bxA
  omega
theorem gp_le (v : Nat → Nat) (D p : Nat) (h9 : v 9 ≤ 6) : gpA v D p ≤ 1000 := by
  have h := bx_rng v D h9
  have h1 := bkP_le v p
  have h2 := ndP_le v p
  have h3 := plG_eq v p
  unfold gpA
  omega
theorem minN_le (f : Nat → Nat) (n : Nat) : minN f n ≤ 1000000 := by
  induction n with
  | zero => exact Nat.le_refl _
  | succ n ih => rw [minN]; omega
theorem mC_le (v : Nat → Nat) (m D : Nat) : mC v m D ≤ 1000000 := by
  cases m with
  | zero => rw [mC]; omega
  | succ m => exact minN_le _ _
theorem rs_full {n D : Nat} (hD : D < 2 ^ n) : rsF n D = 0 ↔ D = 2 ^ n - 1 := by
  constructor
  · intro h
    apply Nat.eq_of_testBit_eq
    intro i
    rw [Nat.testBit_two_pow_sub_one]
    by_cases hi : i < n
    · rw [decide_eq_true hi]
      cases e : D.testBit i with
      | true => rfl
      | false =>
        have := rs_or hi e
        omega
    · rw [decide_eq_false hi]
      cases e : D.testBit i with
      | false => rfl
      | true => exact absurd (testBit_lt hD e) hi
  · intro h
    subst h
    have key : ∀ m, m ≤ n → cntF (fun p => !(2 ^ n - 1).testBit p) m = 0 := by
      intro m
      induction m with
      | zero => intro _; rfl
      | succ m ih =>
        intro hm
        rw [cntF, ih (by omega), Nat.testBit_two_pow_sub_one, decide_eq_true (show m < n by omega)]; rfl
    exact key n (Nat.le_refl _)
theorem or_lt {n D p : Nat} (hD : D < 2 ^ n) (hp : p < n) : D ||| 2 ^ p < 2 ^ n := Nat.or_lt_two_pow hD (Nat.pow_lt_pow_right (by decide) hp)
theorem oC_le (v : Nat → Nat) (h9 : v 9 ≤ 6) (m : Nat) : ∀ D, oC v m D ≤ 6 ^ m := by
  induction m with
  | zero => intro D; exact Nat.le_refl _
  | succ m ih =>
    intro D
    rw [oC]
    have h1 : sumN (fun p => if D.testBit p = true then 0 else if gpA v D p = 0 then oC v m (D ||| 2 ^ p) else 0) (v 9) ≤ v 9 * 6 ^ m := by
      apply sumN_le
      intro k _
      split
      · exact Nat.zero_le _
      · split
        · exact ih _
        · exact Nat.zero_le _
    have h2 : v 9 * 6 ^ m ≤ 6 * 6 ^ m := Nat.mul_le_mul_right _ h9
    rw [Nat.pow_succ, Nat.mul_comm (6 ^ m) 6]; omega
theorem orN_lt {f : Nat → Nat} {n e : Nat} (h : ∀ k, k < n → f k < 2 ^ e) : orN f n < 2 ^ e := by
  induction n with
  | zero => exact Nat.two_pow_pos _
  | succ n ih => exact Nat.or_lt_two_pow (ih (fun k hk => h k (by omega))) (h n (by omega))
theorem lC_lt (v : Nat → Nat) (m : Nat) : ∀ D, lC v m D < 2 ^ v 9 := by
  induction m with
  | zero => intro D; exact Nat.two_pow_pos _
  | succ m ih =>
    intro D
    rw [lC]
    apply orN_lt
    intro k hk
    split
    · exact Nat.two_pow_pos _
    · split
      · split
        · exact Nat.pow_lt_pow_right (by decide) hk
        · exact ih _
      · exact Nat.two_pow_pos _
/-- one place of the first order, where there is one -/
theorem ln_ok (v : Nat → Nat) (ho : 0 < oC v (v 9) 0) (k : Nat) (hk : k < v 9) : ∃ p, lnF v (dnF v k) = ((p : Nat) : Int) ∧ p < v 9 ∧ (dnF v k).testBit p = false ∧ gpA v (dnF v k) p = 0 ∧ dnF v (k + 1) = dnF v k ||| 2 ^ p := by
  obtain ⟨h1, h2, _⟩ := first_all v ho k (by omega)
  have e : v 9 - k = (v 9 - (k + 1)) + 1 := by omega
  rw [e] at h1 h2
  obtain ⟨p, g1, g2, g3, g4, _⟩ := fs_step v (v 9 - (k + 1)) (dnF v k) h1 h2
  exact ⟨p, g1, g2, g3, g4, by rw [dnF, g1, Int.toNat_natCast]⟩
theorem dn_lt (v : Nat → Nat) (ho : 0 < oC v (v 9) 0) (k : Nat) : k ≤ v 9 → dnF v k < 2 ^ v 9 := by
  induction k with
  | zero => intro _; exact Nat.two_pow_pos _
  | succ k ih =>
    intro hk
    obtain ⟨p, _, g2, _, _, g5⟩ := ln_ok v ho k (by omega)
    rw [g5]; exact or_lt (ih (by omega)) g2
theorem mx_0Z {y : Int} (hy : -2147483648 ≤ y ∧ y < 2147483648) : (if nI 0 < zI y then zI y else nI 0) = nI y.toNat := by
  rw [mx_NZ (by omega) hy]; exact congrArg nI (by omega)
set_option maxRecDepth 100000 in
set_option maxHeartbeats 4000000 in
theorem c_X8_weigh {Ω : OmT} {z : Nat} {sh : Nat → Option Kd} {σ : Nat → Nat → Int32} {ρ : Nat → Nat → Option Nat} {a : Nat} (hK : PSh sh ρ a) {h : Nat} {v : Nat → Nat} (hH : HSh sh ρ h) (hV : HV σ h v) (hah : a + 7 ≤ h ∨ h + 34 ≤ a) (hok : okR v) {p : Nat} (hp : p < v 9) : CtV Ω yX8_weigh cX8_weigh 4 rm_X8_weigh [.ref a, .ref h, .int (nI p)] (z, sh, σ, ρ) (fun u => u = (z, sh, s2 (s2 σ (a + 1) p (nI (bkP v p))) (a + 2) p (nI (ndP v p)), ρ)) := by
  have hok1 := hok
  obtain ⟨⟨h01, h02⟩, hl1, ⟨h21, h22⟩, h3, h4, h5, h9, hdo, hke, hpn, hpd, htc⟩ := hok1
  have hdr : ∀ d, d < v 4 → v (20 + 6 * d + 2) < 10000 ∧ v (20 + 6 * d + 3) < 10000 := fun d hd => ⟨(hdo d hd).2.2.1, (hdo d hd).2.2.2⟩
  have hcu : ∀ k, k < v 5 → v (80 + 4 * k) < 10000 := fun k hk => (hke k hk).1
  have hwh : ∀ k, k < v 5 → v (80 + 4 * k + 2) ≤ 9 := fun k hk => (hke k hk).2.2
  have hky : ∀ k, k < v 5 → v (80 + 4 * k) < 10000 ∧ v (80 + 4 * k + 2) ≤ 9 ∧ 40 ≤ v (80 + 4 * k + 1) ∧ v (80 + 4 * k + 1) ≤ 90 := fun k hk => ⟨(hke k hk).1, (hke k hk).2.2, (hke k hk).2.1⟩
  have hpl : ∀ p, p < v 9 → v (150 + 3 * p) < 10 := fun p hp => by have := (hpn p hp).1; omega
  refine CtV.enter (by decide) (Nat.le_of_ble_eq_true rfl) (fun Φ hc hi hR => ?_)
  show Vw Ω Φ (z, sh, σ, ρ) (0, 0) 0 [(0, .ref a), (1, .ref h), (2, .int (nI p))] []
  have hpp := hpn p hp
  have hdk := hdr (v (150 + 3 * p)) hpp.1
  have hwl : lockWt v (v (150 + 3 * p)) ≤ 44 := lockW_le _ _
  refine r_aload_n hc dX8_weigh_0 rfl ?_
  refine gf_X8_58 (q := h + 2) hc (HS0 hH) (HR0 hH 1 2 (by decide)) dX8_weigh_1 ?_
  refine r_aload_n hc dX8_weigh_4 rfl ?_
  refine gf_X8_30 (q := h + 4) hc (HS0 hH) (HR0 hH 3 4 (by decide)) dX8_weigh_5 ?_
  refine gf_X8_62 (q := h + 5) hc (HSa hH 4 _ rfl) (HR4 hH 0 5 (by decide)) dX8_weigh_8 ?_
  refine r_iload_n hc dX8_weigh_11 rfl ?_
  refine r_iald (x := nI (v (150 + 3 * p))) (j := p) hc (HSa hH 5 _ rfl) rfl (by omega) (by decide) (HVp0 hV (by omega)) dX8_weigh_12 ?_
  refine al_3 (r := h + 8 + (v (150 + 3 * p))) (j := v (150 + 3 * p)) hc (HSa hH 2 _ rfl) rfl (by omega) (by decide) (HRd hH (by omega)) dX8_weigh_13 ?_
  refine cl_X8_64 (As := []) hc (show CtI Ω yX0_weight cX0_weight 1 .int rm_X0_weight [.ref (h + 8 + (v (150 + 3 * p)))] (z, sh, σ, ρ) (fun r u => r = nI (lockWt v (v (150 + 3 * p))) ∧ u = (z, sh, σ, ρ)) from c_X0_weight (f := v (20 + 6 * (v (150 + 3 * p)) + 2)) (s := v (20 + 6 * (v (150 + 3 * p)) + 3)) (HSd hH (by omega)) (HVd hV (by omega) 2 (by decide)) (HVd hV (by omega) 3 (by decide)) (by omega) (by omega)) (HSd hH (by omega)) rfl ⟨by decide, by decide⟩ ⟨rfl, rfl⟩ ⟨by decide, by decide⟩ rfl (Nat.le_of_ble_eq_true rfl) dX8_weigh_14 (fun r u hp => ?_)
  obtain ⟨rfl, hu⟩ := hp
  rw [hu]
  refine r_istore_n (ls' := [(3, .int (nI (lockWt v (v (150 + 3 * p))))), (0, .ref a), (1, .ref h), (2, .int (nI p))]) hc dX8_weigh_17 (by decide) rfl ?_
  refine r_aload_n hc dX8_weigh_18 rfl ?_
  refine gf_X8_9 (q := a + 1) hc hK.1.1 hK.2.1 dX8_weigh_19 ?_
  refine r_iload_n hc dX8_weigh_22 rfl ?_
  refine r_iload_n hc dX8_weigh_23 rfl ?_
  refine r_iload_n hc dX8_weigh_24 rfl ?_
  refine r_aload_n hc dX8_weigh_25 rfl ?_
  refine gf_X8_70 (q := h + 1) hc (HS0 hH) (HR0 hH 0 1 (by decide)) dX8_weigh_26 ?_
  refine r_iconst (v := nI 1) hc dX8_weigh_29 rfl ?_
  refine r_iald (x := nI (v 1)) (j := 1) hc (HSa hH 1 _ rfl) rfl (by omega) (by decide) (HVs hV (by omega)) dX8_weigh_30 ?_
  refine cl_X8_73 (As := [.int (nI (lockWt v (v (150 + 3 * p)))), .int (nI (v 1))]) hc (c_X9_lossOf (a := lockWt v (v (150 + 3 * p))) (b := v 1) (by omega) (by omega)) rfl ⟨by decide, by decide⟩ ⟨rfl, rfl⟩ ⟨by decide, by decide⟩ rfl (Nat.le_of_ble_eq_true rfl) dX8_weigh_31 (fun r u hp => ?_)
  obtain ⟨rfl, hu⟩ := hp
  rw [hu]
  refine r_isub (v := nI (givW v (v (150 + 3 * p)))) hc dX8_weigh_34 (sb_N _ _ (lossW_le (by omega) (by omega))) ?_
  refine r_iast (j := p) hc hK.1.2.1 rfl (by omega) (by decide) dX8_weigh_35 ?_
  generalize hσ1 : s2 σ (a + 1) p (nI (givW v (v (150 + 3 * p)))) = σ1
  have hV : HV σ1 h v := by rw [← hσ1]; exact hV.dead (by omega) (by omega) (by right; right; right; omega)
  refine r_aload_n hc dX8_weigh_36 rfl ?_
  refine gf_X8_15 (q := a + 2) hc hK.1.1 hK.2.2.1 dX8_weigh_37 ?_
  refine r_iload_n hc dX8_weigh_40 rfl ?_
  refine r_aload_n hc dX8_weigh_41 rfl ?_
  refine gf_X8_30 (q := h + 4) hc (HS0 hH) (HR0 hH 3 4 (by decide)) dX8_weigh_42 ?_
  refine gf_X8_79 (q := h + 6) hc (HSa hH 4 _ rfl) (HR4 hH 1 6 (by decide)) dX8_weigh_45 ?_
  refine r_iload_n hc dX8_weigh_48 rfl ?_
  refine r_iald (x := nI (v (150 + 3 * p + 1))) (j := p) hc (HSa hH 6 _ rfl) rfl (by omega) (by decide) (HVp1 hV (by omega)) dX8_weigh_49 ?_
  refine r_aload_n hc dX8_weigh_50 rfl ?_
  refine gf_X8_30 (q := h + 4) hc (HS0 hH) (HR0 hH 3 4 (by decide)) dX8_weigh_51 ?_
  refine gf_X8_82 (q := h + 7) hc (HSa hH 4 _ rfl) (HR4 hH 2 7 (by decide)) dX8_weigh_54 ?_
  refine r_iload_n hc dX8_weigh_57 rfl ?_
  refine r_iald (x := nI (v (150 + 3 * p + 2))) (j := p) hc (HSa hH 7 _ rfl) rfl (by omega) (by decide) (HVp2 hV (by omega)) dX8_weigh_58 ?_
  refine cl_X8_85 (As := [.int (nI (v (150 + 3 * p + 1))), .int (nI (v (150 + 3 * p + 2)))]) hc (c_X9_lockWeight (f := v (150 + 3 * p + 1)) (s := v (150 + 3 * p + 2)) (by omega) (by omega)) rfl ⟨by decide, by decide⟩ ⟨rfl, rfl⟩ ⟨by decide, by decide⟩ rfl (Nat.le_of_ble_eq_true rfl) dX8_weigh_59 (fun r u hp => ?_)
  obtain ⟨rfl, hu⟩ := hp
  rw [hu]
  refine r_iast (j := p) hc hK.1.2.2.1 rfl (by omega) (by decide) dX8_weigh_62 ?_
  generalize hσ2 : s2 σ1 (a + 2) p (nI (lockW (v (150 + 3 * p + 1)) (v (150 + 3 * p + 2)))) = σ2
  have hV : HV σ2 h v := by rw [← hσ2]; exact hV.dead (by omega) (by omega) (by right; right; right; omega)
  exact hR _ (by rw [← hσ2, ← hσ1]; rfl) _ _ dX8_weigh_63
set_option maxRecDepth 100000 in
set_option maxHeartbeats 4000000 in
theorem c_X8_gainOf {Ω : OmT} {z : Nat} {sh : Nat → Option Kd} {σ : Nat → Nat → Int32} {ρ : Nat → Nat → Option Nat} {a : Nat} (hK : PSh sh ρ a) {v : Nat → Nat} (h9 : v 9 ≤ 6) (hbx : v 7 ≤ 1000000000) (hW : PWk σ a v) {D : Nat} (hD : D < 2 ^ v 9) : CtI Ω yX8_gainOf cX8_gainOf 4 .int rm_X8_gainOf [.ref a, .int (nI D)] (z, sh, σ, ρ) (fun r u => r = zI (gnF v D (v 9)) ∧ u = (z, sh, σ, ρ)) := by
  have hWq := hW
  obtain ⟨hsz, hbk, hnd⟩ := hWq
  have h64 : 2 ^ v 9 ≤ 64 := (Nat.pow_le_pow_right (by decide) h9 : 2 ^ v 9 ≤ 2 ^ 6)
  have h1p : 1 ≤ 2 ^ v 9 := Nat.one_le_two_pow
  refine CtI.enter (by decide) (Nat.le_of_ble_eq_true rfl) (fun Φ hc hR => ?_)
  show Vw Ω Φ (z, sh, σ, ρ) (0, 0) 0 [(0, .ref a), (1, .int (nI D))] []
  refine r_iconst (v := nI 0) hc dX8_gainOf_0 rfl ?_
  refine r_istore_n (ls' := [(2, .int (nI 0)), (0, .ref a), (1, .int (nI D))]) hc dX8_gainOf_1 (by decide) rfl ?_
  refine r_iconst (v := nI 0) hc dX8_gainOf_2 rfl ?_
  refine r_istore_n (ls' := [(3, .int (nI 0)), (2, .int (nI 0)), (0, .ref a), (1, .int (nI D))]) hc dX8_gainOf_3 (by decide) rfl ?_
  have loop4 : ∀ (n4 : Nat) (x : Int) (k : Nat), (k ≤ v 9) → (x = gnF v D k) → (v 9 - k) < n4 → Vw Ω Φ (z, sh, σ, ρ) (0, 0) 4 [(0, .ref a), (1, .int (nI D)), (2, .int (zI x)), (3, .int (nI k))] [] := by
    intro n4
    induction n4 with
    | zero => intro x k hk hf hm; exact absurd hm (Nat.not_lt_zero _)
    | succ n4 ih4 =>
      intro x k hk hf hm4
      refine r_iload_n hc dX8_gainOf_4 rfl ?_
      refine r_aload_n hc dX8_gainOf_5 rfl ?_
      refine gf_X8_42 (x := nI (v 9)) hc hK.1.1 hsz dX8_gainOf_6 ?_
      refine r_icmp_ge (tgt := 42) hc dX8_gainOf_9 (by decide) (le_NN (by omega) (by omega)) (fun c_9 => ?_) (fun c_9 => ?_)
      ·
        refine r_iload_n hc dX8_gainOf_42 rfl ?_
        exact hR _ _ ⟨congrArg zI (by rw [hf, show k = v 9 by omega]), rfl⟩ rfl _ _ dX8_gainOf_43
      ·
        refine r_iload_n hc dX8_gainOf_12 rfl ?_
        refine r_iload_n hc dX8_gainOf_13 rfl ?_
        refine r_ishr (v := nI (D / 2 ^ k)) hc dX8_gainOf_14 (sr_NN _ _ (by omega) (by omega)) ?_
        refine r_iconst (v := nI 1) hc dX8_gainOf_15 rfl ?_
        refine r_iand (v := nI ((D / 2 ^ k) &&& 1)) hc dX8_gainOf_16 (an_NN _ _) ?_
        refine r_if_eq (tgt := 36) hc dX8_gainOf_17 (by decide) (e0_N (Nat.lt_of_le_of_lt Nat.and_le_right (by decide))) (fun c_17 => ?_) (fun c_17 => ?_)
        ·
          refine r_iinc (v := nI (k + 1)) (ls' := [(3, .int (nI (k + 1))), (0, .ref a), (1, .int (nI D)), (2, .int (zI x))]) hc dX8_gainOf_36 rfl (ad_NN _ 1) (by decide) rfl ?_
          refine r_goto (tgt := 4) hc dX8_gainOf_39 (by decide) ?_
          refine r_locp [1, 2, 3, 0] (ls' := [(0, .ref a), (1, .int (nI D)), (2, .int (zI x)), (3, .int (nI (k + 1)))]) rfl ?_
          exact ih4 x (k + 1) (by omega) (by rw [gnF, if_neg (fun q => (tb_0 D k).mpr q c_17), ← hf]; omega) (by omega)
        ·
          refine r_iload_n hc dX8_gainOf_20 rfl ?_
          refine r_aload_n hc dX8_gainOf_21 rfl ?_
          refine gf_X8_9 (q := a + 1) hc hK.1.1 hK.2.1 dX8_gainOf_22 ?_
          refine r_iload_n hc dX8_gainOf_25 rfl ?_
          refine r_iald (x := nI ((bkP v) k)) (j := k) hc hK.1.2.1 rfl (by omega) (by decide) (hbk _ (by omega)) dX8_gainOf_26 ?_
          refine r_aload_n hc dX8_gainOf_27 rfl ?_
          refine gf_X8_15 (q := a + 2) hc hK.1.1 hK.2.2.1 dX8_gainOf_28 ?_
          refine r_iload_n hc dX8_gainOf_31 rfl ?_
          refine r_iald (x := nI ((ndP v) k)) (j := k) hc hK.1.2.2.1 rfl (by omega) (by decide) (hnd _ (by omega)) dX8_gainOf_32 ?_
          refine r_isub (v := zI ((((bkP v) k : Nat) : Int) - (((ndP v) k : Nat) : Int))) hc dX8_gainOf_33 (sb_NN _ _) ?_
          refine r_iadd (v := zI (x + ((((bkP v) k : Nat) : Int) - (((ndP v) k : Nat) : Int)))) hc dX8_gainOf_34 (ad_ZZ _ _) ?_
          refine r_istore_n (ls' := [(2, .int (zI (x + ((((bkP v) k : Nat) : Int) - (((ndP v) k : Nat) : Int))))), (0, .ref a), (1, .int (nI D)), (3, .int (nI k))]) hc dX8_gainOf_35 (by decide) rfl ?_
          refine r_iinc (v := nI (k + 1)) (ls' := [(3, .int (nI (k + 1))), (2, .int (zI (x + ((((bkP v) k : Nat) : Int) - (((ndP v) k : Nat) : Int))))), (0, .ref a), (1, .int (nI D))]) hc dX8_gainOf_36 rfl (ad_NN _ 1) (by decide) rfl ?_
          refine r_goto (tgt := 4) hc dX8_gainOf_39 (by decide) ?_
          refine r_locp [2, 3, 1, 0] (ls' := [(0, .ref a), (1, .int (nI D)), (2, .int (zI (x + ((((bkP v) k : Nat) : Int) - (((ndP v) k : Nat) : Int))))), (3, .int (nI (k + 1)))]) rfl ?_
          exact ih4 (x + ((((bkP v) k : Nat) : Int) - (((ndP v) k : Nat) : Int))) (k + 1) (by omega) (by rw [gnF, if_pos ((tb_0 D k).mp c_17), ← hf]; rfl) (by omega)
  rw [nz 0]
  refine r_locp [2, 3, 1, 0] (ls' := [(0, .ref a), (1, .int (nI D)), (2, .int (zI (((0 : Nat) : Int)))), (3, .int (nI 0))]) rfl ?_
  exact loop4 _ 0 0 (by omega) rfl (Nat.lt_succ_self _)
set_option maxRecDepth 100000 in
set_option maxHeartbeats 4000000 in
theorem c_X8_missingFor {Ω : OmT} {z : Nat} {sh : Nat → Option Kd} {σ : Nat → Nat → Int32} {ρ : Nat → Nat → Option Nat} {a : Nat} (hK : PSh sh ρ a) {v : Nat → Nat} (h9 : v 9 ≤ 6) (hbx : v 7 ≤ 1000000000) (hW : PWk σ a v) (hB : PBx σ a v) {D p : Nat} (hD : D < 2 ^ v 9) (hp : p < v 9) : CtI Ω yX8_missingFor cX8_missingFor 3 .int rm_X8_missingFor [.ref a, .int (nI D), .int (nI p)] (z, sh, σ, ρ) (fun r u => r = nI (gpA v D p) ∧ u = (z, sh, σ, ρ)) := by
  have hWq := hW
  obtain ⟨hsz, hbk, hnd⟩ := hWq
  have h64 : 2 ^ v 9 ≤ 64 := (Nat.pow_le_pow_right (by decide) h9 : 2 ^ v 9 ≤ 2 ^ 6)
  have h1p : 1 ≤ 2 ^ v 9 := Nat.one_le_two_pow
  refine CtI.enter (by decide) (Nat.le_of_ble_eq_true rfl) (fun Φ hc hR => ?_)
  show Vw Ω Φ (z, sh, σ, ρ) (0, 0) 0 [(0, .ref a), (1, .int (nI D)), (2, .int (nI p))] []
  have hb1 := bx_rng v D h9
  have hb2 := bkP_le v p
  have hb3 := ndP_le v p
  have hg : (((ndP v p : Nat) : Int) - ((bkP v p : Nat) : Int) - bxA v D).toNat = gpA v D p := by unfold gpA; rw [plG_eq]; omega
  refine r_iconst (v := nI 0) hc dX8_missingFor_0 rfl ?_
  refine r_aload_n hc dX8_missingFor_1 rfl ?_
  refine gf_X8_15 (q := a + 2) hc hK.1.1 hK.2.2.1 dX8_missingFor_2 ?_
  refine r_iload_n hc dX8_missingFor_5 rfl ?_
  refine r_iald (x := nI ((ndP v) p)) (j := p) hc hK.1.2.2.1 rfl (by omega) (by decide) (hnd _ (by omega)) dX8_missingFor_6 ?_
  refine r_aload_n hc dX8_missingFor_7 rfl ?_
  refine gf_X8_9 (q := a + 1) hc hK.1.1 hK.2.1 dX8_missingFor_8 ?_
  refine r_iload_n hc dX8_missingFor_11 rfl ?_
  refine r_iald (x := nI ((bkP v) p)) (j := p) hc hK.1.2.1 rfl (by omega) (by decide) (hbk _ (by omega)) dX8_missingFor_12 ?_
  refine r_isub (v := zI ((((ndP v) p : Nat) : Int) - (((bkP v) p : Nat) : Int))) hc dX8_missingFor_13 (sb_NN _ _) ?_
  refine r_aload_n hc dX8_missingFor_14 rfl ?_
  refine gf_X8_18 (q := a + 3) hc hK.1.1 hK.2.2.2.1 dX8_missingFor_15 ?_
  refine r_iload_n hc dX8_missingFor_18 rfl ?_
  refine r_iald (x := zI (bxA v D)) (j := D) hc hK.1.2.2.2.1 rfl (by omega) (by decide) (hB _ (by omega)) dX8_missingFor_19 ?_
  refine r_isub (v := zI (((((ndP v) p : Nat) : Int) - (((bkP v) p : Nat) : Int)) - (bxA v D))) hc dX8_missingFor_20 (sb_ZZ _ _) ?_
  refine ma_X8_88 (v := nI (gpA v D p)) hc ⟨by decide, Nat.le_of_ble_eq_true rfl⟩ ⟨by decide, by decide⟩ dX8_missingFor_21 (by rw [← hg]; exact mx_0Z (by omega)) ?_
  exact hR _ _ ⟨rfl, rfl⟩ rfl _ _ dX8_missingFor_24
set_option maxRecDepth 100000 in
set_option maxHeartbeats 4000000 in
theorem c_X8_lookOn {Ω : OmT} {z : Nat} {sh : Nat → Option Kd} {σ : Nat → Nat → Int32} {ρ : Nat → Nat → Option Nat} {a : Nat} (hK : PSh sh ρ a) {v : Nat → Nat} (h9 : v 9 ≤ 6) (hbx : v 7 ≤ 1000000000) (hW : PWk σ a v) (hB : PBx σ a v) {X m : Nat} (hX : X < 2 ^ v 9) (hrs : rsF (v 9) X = m + 1) (hA : PAn σ a v (X + 1)) : CtV Ω yX8_lookOn cX8_lookOn 6 rm_X8_lookOn [.ref a, .int (nI X)] (z, sh, σ, ρ) (fun u => ∃ τ : Nat → Nat → Int32, u = (z, sh, τ, ρ) ∧ (τ (a + 4) X = nI (oC v (m + 1) X) ∧ τ (a + 5) X = nI (lC v (m + 1) X) ∧ τ (a + 6) X = nI (mC v (m + 1) X)) ∧ (∀ D, D ≠ X → τ (a + 4) D = σ (a + 4) D ∧ τ (a + 5) D = σ (a + 5) D ∧ τ (a + 6) D = σ (a + 6) D) ∧ ∀ q, q ≠ a + 4 → q ≠ a + 5 → q ≠ a + 6 → τ q = σ q) := by
  have hW0 := hW
  have hB0 := hB
  have hWq := hW
  obtain ⟨hsz, hbk, hnd⟩ := hWq
  have h64 : 2 ^ v 9 ≤ 64 := (Nat.pow_le_pow_right (by decide) h9 : 2 ^ v 9 ≤ 2 ^ 6)
  have h1p : 1 ≤ 2 ^ v 9 := Nat.one_le_two_pow
  refine CtV.enter (by decide) (Nat.le_of_ble_eq_true rfl) (fun Φ hc hi hR => ?_)
  show Vw Ω Φ (z, sh, σ, ρ) (0, 0) 0 [(0, .ref a), (1, .int (nI X))] []
  refine r_aload_n hc dX8_lookOn_0 rfl ?_
  refine gf_X8_21 (q := a + 4) hc hK.1.1 hK.2.2.2.2.1 dX8_lookOn_1 ?_
  refine r_iload_n hc dX8_lookOn_4 rfl ?_
  refine r_iconst (v := nI 0) hc dX8_lookOn_5 rfl ?_
  refine r_iast (j := X) hc hK.1.2.2.2.2.1 rfl (by omega) (by decide) dX8_lookOn_6 ?_
  generalize hσ1 : s2 σ (a + 4) X (nI 0) = σ1
  have hsz : σ1 a 6 = nI (v 9) := by rw [← hσ1]; exact s2_keep hsz (by omega)
  have hbk : rowAt σ1 (a + 1) (v 9) (bkP v) := by rw [← hσ1]; exact hbk.keep (by omega) _ _
  have hnd : rowAt σ1 (a + 2) (v 9) (ndP v) := by rw [← hσ1]; exact hnd.keep (by omega) _ _
  refine r_aload_n hc dX8_lookOn_7 rfl ?_
  refine gf_X8_24 (q := a + 5) hc hK.1.1 hK.2.2.2.2.2.1 dX8_lookOn_8 ?_
  refine r_iload_n hc dX8_lookOn_11 rfl ?_
  refine r_iconst (v := nI 0) hc dX8_lookOn_12 rfl ?_
  refine r_iast (j := X) hc hK.1.2.2.2.2.2.1 rfl (by omega) (by decide) dX8_lookOn_13 ?_
  generalize hσ2 : s2 σ1 (a + 5) X (nI 0) = σ2
  have hsz : σ2 a 6 = nI (v 9) := by rw [← hσ2]; exact s2_keep hsz (by omega)
  have hbk : rowAt σ2 (a + 1) (v 9) (bkP v) := by rw [← hσ2]; exact hbk.keep (by omega) _ _
  have hnd : rowAt σ2 (a + 2) (v 9) (ndP v) := by rw [← hσ2]; exact hnd.keep (by omega) _ _
  refine r_aload_n hc dX8_lookOn_14 rfl ?_
  refine gf_X8_27 (q := a + 6) hc hK.1.1 hK.2.2.2.2.2.2 dX8_lookOn_15 ?_
  refine r_iload_n hc dX8_lookOn_18 rfl ?_
  refine lk_X8_93 hc dX8_lookOn_19 ?_
  rw [show (1000000 : Int32) = nI 1000000 from rfl]
  refine r_iast (j := X) hc hK.1.2.2.2.2.2.2 rfl (by omega) (by decide) dX8_lookOn_21 ?_
  generalize hσ3 : s2 σ2 (a + 6) X (nI 1000000) = σ3
  have hsz : σ3 a 6 = nI (v 9) := by rw [← hσ3]; exact s2_keep hsz (by omega)
  have hbk : rowAt σ3 (a + 1) (v 9) (bkP v) := by rw [← hσ3]; exact hbk.keep (by omega) _ _
  have hnd : rowAt σ3 (a + 2) (v 9) (ndP v) := by rw [← hσ3]; exact hnd.keep (by omega) _ _
  refine r_iconst (v := nI 1) hc dX8_lookOn_22 rfl ?_
  refine r_aload_n hc dX8_lookOn_23 rfl ?_
  refine gf_X8_42 (x := nI (v 9)) hc hK.1.1 hsz dX8_lookOn_24 ?_
  refine r_ishl (v := nI (2 ^ (v 9))) hc dX8_lookOn_27 (sl_1 _ (by omega)) ?_
  refine r_iconst (v := nI 1) hc dX8_lookOn_28 rfl ?_
  refine r_isub (v := nI (2 ^ (v 9) - 1)) hc dX8_lookOn_29 (sb_N _ _ h1p) ?_
  refine r_istore_n (ls' := [(2, .int (nI (2 ^ (v 9) - 1))), (0, .ref a), (1, .int (nI X))]) hc dX8_lookOn_30 (by decide) rfl ?_
  refine r_iconst (v := nI 0) hc dX8_lookOn_31 rfl ?_
  refine r_istore_n (ls' := [(3, .int (nI 0)), (2, .int (nI (2 ^ (v 9) - 1))), (0, .ref a), (1, .int (nI X))]) hc dX8_lookOn_32 (by decide) rfl ?_
  have loop33 : ∀ (n33 : Nat) (τ : Nat → Nat → Int32) (k : Nat), (k ≤ v 9) → (τ (a + 4) X = nI (sumN (fO v m X) k)) → (τ (a + 5) X = nI (orN (fL v m X) k)) → (τ (a + 6) X = nI (minN (fM v m X) k)) → (∀ D, D ≠ X → τ (a + 4) D = σ (a + 4) D ∧ τ (a + 5) D = σ (a + 5) D ∧ τ (a + 6) D = σ (a + 6) D) → (∀ q, q ≠ a + 4 → q ≠ a + 5 → q ≠ a + 6 → τ q = σ q) → (v 9 - k) < n33 → Vw Ω Φ (z, sh, τ, ρ) (0, 0) 33 [(0, .ref a), (1, .int (nI X)), (2, .int (nI (2 ^ (v 9) - 1))), (3, .int (nI k))] [] := by
    intro n33
    induction n33 with
    | zero => intro τ k hk ho hl hm hot hfr hm; exact absurd hm (Nat.not_lt_zero _)
    | succ n33 ih33 =>
      intro τ k hk ho hl hm hot hfr hm33
      have hW : PWk τ a v := hW0.keep (hfr a (by omega) (by omega) (by omega)) (hfr _ (by omega) (by omega) (by omega)) (hfr _ (by omega) (by omega) (by omega))
      have hB : PBx τ a v := hB0.keep (hfr _ (by omega) (by omega) (by omega))
      have hW1 := hW
      obtain ⟨hsz, hbk, hnd⟩ := hW1
      refine r_iload_n hc dX8_lookOn_33 rfl ?_
      refine r_aload_n hc dX8_lookOn_34 rfl ?_
      refine gf_X8_42 (x := nI (v 9)) hc hK.1.1 hsz dX8_lookOn_35 ?_
      refine r_icmp_ge (tgt := 147) hc dX8_lookOn_38 (by decide) (le_NN (by omega) (by omega)) (fun c_38 => ?_) (fun c_38 => ?_)
      ·
        exact hR _ ⟨_, rfl, ⟨by rw [show k = v 9 by omega] at ho; exact ho, by rw [show k = v 9 by omega] at hl; exact hl, by rw [show k = v 9 by omega] at hm; exact hm⟩, hot, hfr⟩ _ _ dX8_lookOn_147
      ·
        refine r_iload_n hc dX8_lookOn_41 rfl ?_
        refine r_iconst (v := nI 1) hc dX8_lookOn_42 rfl ?_
        refine r_iload_n hc dX8_lookOn_43 rfl ?_
        refine r_ishl (v := nI (2 ^ k)) hc dX8_lookOn_44 (sl_1 _ (by omega)) ?_
        refine r_ior (v := nI (X ||| (2 ^ k))) hc dX8_lookOn_45 (or_NN _ _) ?_
        refine r_istore (ls' := [(4, .int (nI (X ||| (2 ^ k)))), (0, .ref a), (1, .int (nI X)), (2, .int (nI (2 ^ (v 9) - 1))), (3, .int (nI k))]) hc dX8_lookOn_46 (by decide) rfl ?_
        obtain ⟨nx, hnx⟩ : ∃ nx, nx = X ||| 2 ^ k := ⟨_, rfl⟩
        rw [← hnx]
        have hnl : nx < 2 ^ v 9 := by rw [hnx]; exact or_lt hX (by omega)
        refine r_iload hc dX8_lookOn_48 rfl ?_
        refine r_iload_n hc dX8_lookOn_50 rfl ?_
        refine r_icmp_ne (tgt := 57) hc dX8_lookOn_51 (by decide) (eq_NN (by omega) (by omega)) (fun c_51 => ?_) (fun c_51 => ?_)
        ·
          have hb2 : X.testBit k = false := by cases e : X.testBit k with | false => rfl | true => exact absurd (hnx.trans (or_same e)) c_51
          have hgt : X < nx := by rw [hnx]; exact or_gt hb2
          have hrn : rsF (v 9) nx = m := by have h7 := rs_or (n := v 9) (by omega) hb2; rw [← hnx] at h7; omega
          have hAn := hA nx (by omega) hnl
          rw [hrn] at hAn
          have hon : τ (a + 4) nx = nI (oC v m nx) := by rw [(hot nx (by omega)).1]; exact hAn.1
          have hln : τ (a + 5) nx = nI (lC v m nx) := by rw [(hot nx (by omega)).2.1]; exact hAn.2.1
          have hmn : τ (a + 6) nx = nI (mC v m nx) := by rw [(hot nx (by omega)).2.2]; exact hAn.2.2
          have hml := mC_le v m nx
          have hmi := minN_le (fM v m X) k
          refine r_aload_n hc dX8_lookOn_57 rfl ?_
          refine r_iload_n hc dX8_lookOn_58 rfl ?_
          refine r_iload_n hc dX8_lookOn_59 rfl ?_
          refine cl_X8_94 (As := [.int (nI X), .int (nI k)]) hc (c_X8_missingFor hK h9 hbx hW hB (D := X) (p := k) (by omega) (by omega)) hK.1.1 rfl ⟨by decide, by decide⟩ ⟨rfl, rfl⟩ ⟨by decide, by decide⟩ rfl (Nat.le_of_ble_eq_true rfl) dX8_lookOn_60 (fun r u hp => ?_)
          obtain ⟨rfl, hu⟩ := hp
          rw [hu]
          have hgl := gp_le v X k h9
          refine r_istore (ls' := [(5, .int (nI (gpA v X k))), (4, .int (nI nx)), (0, .ref a), (1, .int (nI X)), (2, .int (nI (2 ^ (v 9) - 1))), (3, .int (nI k))]) hc dX8_lookOn_63 (by decide) rfl ?_
          refine r_aload_n hc dX8_lookOn_65 rfl ?_
          refine gf_X8_27 (q := a + 6) hc hK.1.1 hK.2.2.2.2.2.2 dX8_lookOn_66 ?_
          refine r_iload_n hc dX8_lookOn_69 rfl ?_
          refine r_aload_n hc dX8_lookOn_70 rfl ?_
          refine gf_X8_27 (q := a + 6) hc hK.1.1 hK.2.2.2.2.2.2 dX8_lookOn_71 ?_
          refine r_iload_n hc dX8_lookOn_74 rfl ?_
          refine r_iald (x := nI (minN (fM v m X) k)) (j := X) hc hK.1.2.2.2.2.2.2 rfl (by omega) (by decide) hm dX8_lookOn_75 ?_
          refine r_iload hc dX8_lookOn_76 rfl ?_
          refine r_aload_n hc dX8_lookOn_78 rfl ?_
          refine gf_X8_27 (q := a + 6) hc hK.1.1 hK.2.2.2.2.2.2 dX8_lookOn_79 ?_
          refine r_iload hc dX8_lookOn_82 rfl ?_
          refine r_iald (x := nI (mC v m nx)) (j := nx) hc hK.1.2.2.2.2.2.2 rfl (by omega) (by decide) hmn dX8_lookOn_84 ?_
          refine ma_X8_88 (v := nI (max (gpA v X k) (mC v m nx))) hc ⟨by decide, Nat.le_of_ble_eq_true rfl⟩ ⟨by decide, by decide⟩ dX8_lookOn_85 (mx_NN (by omega) (by omega)) ?_
          refine ma_X8_97 (v := nI (min (minN (fM v m X) k) (max (gpA v X k) (mC v m nx)))) hc ⟨by decide, Nat.le_of_ble_eq_true rfl⟩ ⟨by decide, by decide⟩ dX8_lookOn_88 (mn_NN (by omega) (by omega)) ?_
          refine r_iast (j := X) hc hK.1.2.2.2.2.2.2 rfl (by omega) (by decide) dX8_lookOn_91 ?_
          generalize hσ4 : s2 τ (a + 6) X (nI (min (minN (fM v m X) k) (max (gpA v X k) (mC v m nx)))) = σ4
          have hsz : σ4 a 6 = nI (v 9) := by rw [← hσ4]; exact s2_keep hsz (by omega)
          have hbk : rowAt σ4 (a + 1) (v 9) (bkP v) := by rw [← hσ4]; exact hbk.keep (by omega) _ _
          have hnd : rowAt σ4 (a + 2) (v 9) (ndP v) := by rw [← hσ4]; exact hnd.keep (by omega) _ _
          have ho : σ4 (a + 4) X = nI (sumN (fO v m X) k) := by rw [← hσ4]; exact s2_keep ho (by omega)
          have hl : σ4 (a + 5) X = nI (orN (fL v m X) k) := by rw [← hσ4]; exact s2_keep hl (by omega)
          have hm : σ4 (a + 6) X = nI (min (minN (fM v m X) k) (max (gpA v X k) (mC v m nx))) := by rw [← hσ4]; exact s2_same _ _ _ _
          have hon : σ4 (a + 4) nx = nI (oC v m nx) := by rw [← hσ4]; exact s2_keep hon (by omega)
          have hln : σ4 (a + 5) nx = nI (lC v m nx) := by rw [← hσ4]; exact s2_keep hln (by omega)
          have hmn : σ4 (a + 6) nx = nI (mC v m nx) := by rw [← hσ4]; exact s2_keep hmn (by omega)
          refine r_iload hc dX8_lookOn_92 rfl ?_
          refine r_if_ne (tgt := 141) hc dX8_lookOn_94 (by decide) (e0_N (by omega)) (fun c_94 => ?_) (fun c_94 => ?_)
          ·
            refine r_iinc (v := nI (k + 1)) (ls' := [(3, .int (nI (k + 1))), (5, .int (nI (gpA v X k))), (4, .int (nI nx)), (0, .ref a), (1, .int (nI X)), (2, .int (nI (2 ^ (v 9) - 1)))]) hc dX8_lookOn_141 rfl (ad_NN _ 1) (by decide) rfl ?_
            refine r_goto (tgt := 33) hc dX8_lookOn_144 (by decide) ?_
            refine r_locp [3, 4, 5, 0] (ls' := [(0, .ref a), (1, .int (nI X)), (2, .int (nI (2 ^ (v 9) - 1))), (3, .int (nI (k + 1)))]) rfl ?_
            exact ih33 σ4 (k + 1) (by omega) (by rw [sumN, fO, if_neg (by rw [hb2]; decide), if_neg c_94]; exact ho) (by rw [orN, fL, if_neg (by rw [hb2]; decide), if_neg c_94, Nat.or_zero]; exact hl) (by rw [minN, fM, if_neg (by rw [hb2]; decide), ← hnx]; exact hm) (fun D hD => ⟨by rw [← hσ4, s2_na (by omega)]; exact (hot D hD).1, by rw [← hσ4, s2_na (by omega)]; exact (hot D hD).2.1, by rw [← hσ4, s2_nk hD]; exact (hot D hD).2.2⟩) (fun q q1 q2 q3 => by rw [← hσ4, s2_ne q3]; exact hfr q q1 q2 q3) (by omega)
          ·
            refine r_aload_n hc dX8_lookOn_97 rfl ?_
            refine gf_X8_21 (q := a + 4) hc hK.1.1 hK.2.2.2.2.1 dX8_lookOn_98 ?_
            refine r_iload_n hc dX8_lookOn_101 rfl ?_
            refine r_dup2 hc dX8_lookOn_102 rfl rfl ?_
            refine r_iald (x := nI (sumN (fO v m X) k)) (j := X) hc hK.1.2.2.2.2.1 rfl (by omega) (by decide) ho dX8_lookOn_103 ?_
            refine r_aload_n hc dX8_lookOn_104 rfl ?_
            refine gf_X8_21 (q := a + 4) hc hK.1.1 hK.2.2.2.2.1 dX8_lookOn_105 ?_
            refine r_iload hc dX8_lookOn_108 rfl ?_
            refine r_iald (x := nI (oC v m nx)) (j := nx) hc hK.1.2.2.2.2.1 rfl (by omega) (by decide) hon dX8_lookOn_110 ?_
            refine r_iadd (v := nI (sumN (fO v m X) k + (oC v m nx))) hc dX8_lookOn_111 (ad_NN _ _) ?_
            refine r_iast (j := X) hc hK.1.2.2.2.2.1 rfl (by omega) (by decide) dX8_lookOn_112 ?_
            generalize hσ5 : s2 σ4 (a + 4) X (nI (sumN (fO v m X) k + (oC v m nx))) = σ5
            have hsz : σ5 a 6 = nI (v 9) := by rw [← hσ5]; exact s2_keep hsz (by omega)
            have hbk : rowAt σ5 (a + 1) (v 9) (bkP v) := by rw [← hσ5]; exact hbk.keep (by omega) _ _
            have hnd : rowAt σ5 (a + 2) (v 9) (ndP v) := by rw [← hσ5]; exact hnd.keep (by omega) _ _
            have ho : σ5 (a + 4) X = nI (sumN (fO v m X) k + (oC v m nx)) := by rw [← hσ5]; exact s2_same _ _ _ _
            have hl : σ5 (a + 5) X = nI (orN (fL v m X) k) := by rw [← hσ5]; exact s2_keep hl (by omega)
            have hm : σ5 (a + 6) X = nI (min (minN (fM v m X) k) (max (gpA v X k) (mC v m nx))) := by rw [← hσ5]; exact s2_keep hm (by omega)
            have hon : σ5 (a + 4) nx = nI (oC v m nx) := by rw [← hσ5]; exact s2_keep hon (by omega)
            have hln : σ5 (a + 5) nx = nI (lC v m nx) := by rw [← hσ5]; exact s2_keep hln (by omega)
            have hmn : σ5 (a + 6) nx = nI (mC v m nx) := by rw [← hσ5]; exact s2_keep hmn (by omega)
            refine r_aload_n hc dX8_lookOn_113 rfl ?_
            refine gf_X8_24 (q := a + 5) hc hK.1.1 hK.2.2.2.2.2.1 dX8_lookOn_114 ?_
            refine r_iload_n hc dX8_lookOn_117 rfl ?_
            refine r_dup2 hc dX8_lookOn_118 rfl rfl ?_
            refine r_iald (x := nI (orN (fL v m X) k)) (j := X) hc hK.1.2.2.2.2.2.1 rfl (by omega) (by decide) hl dX8_lookOn_119 ?_
            refine r_iload hc dX8_lookOn_120 rfl ?_
            refine r_iload_n hc dX8_lookOn_122 rfl ?_
            refine r_icmp_ne (tgt := 132) hc dX8_lookOn_123 (by decide) (eq_NN (by omega) (by omega)) (fun c_123 => ?_) (fun c_123 => ?_)
            ·
              have hm0 : ¬ m = 0 := fun q => c_123 ((rs_full hnl).mp (by omega))
              refine r_aload_n hc dX8_lookOn_132 rfl ?_
              refine gf_X8_24 (q := a + 5) hc hK.1.1 hK.2.2.2.2.2.1 dX8_lookOn_133 ?_
              refine r_iload hc dX8_lookOn_136 rfl ?_
              refine r_iald (x := nI (lC v m nx)) (j := nx) hc hK.1.2.2.2.2.2.1 rfl (by omega) (by decide) hln dX8_lookOn_138 ?_
              refine r_ior (v := nI ((orN (fL v m X) k) ||| (lC v m nx))) hc dX8_lookOn_139 (or_NN _ _) ?_
              refine r_iast (j := X) hc hK.1.2.2.2.2.2.1 rfl (by omega) (by decide) dX8_lookOn_140 ?_
              generalize hσ6 : s2 σ5 (a + 5) X (nI ((orN (fL v m X) k) ||| (lC v m nx))) = σ6
              have hsz : σ6 a 6 = nI (v 9) := by rw [← hσ6]; exact s2_keep hsz (by omega)
              have hbk : rowAt σ6 (a + 1) (v 9) (bkP v) := by rw [← hσ6]; exact hbk.keep (by omega) _ _
              have hnd : rowAt σ6 (a + 2) (v 9) (ndP v) := by rw [← hσ6]; exact hnd.keep (by omega) _ _
              have ho : σ6 (a + 4) X = nI (sumN (fO v m X) k + (oC v m nx)) := by rw [← hσ6]; exact s2_keep ho (by omega)
              have hl : σ6 (a + 5) X = nI ((orN (fL v m X) k) ||| (lC v m nx)) := by rw [← hσ6]; exact s2_same _ _ _ _
              have hm : σ6 (a + 6) X = nI (min (minN (fM v m X) k) (max (gpA v X k) (mC v m nx))) := by rw [← hσ6]; exact s2_keep hm (by omega)
              have hon : σ6 (a + 4) nx = nI (oC v m nx) := by rw [← hσ6]; exact s2_keep hon (by omega)
              have hln : σ6 (a + 5) nx = nI (lC v m nx) := by rw [← hσ6]; exact s2_keep hln (by omega)
              have hmn : σ6 (a + 6) nx = nI (mC v m nx) := by rw [← hσ6]; exact s2_keep hmn (by omega)
              refine r_iinc (v := nI (k + 1)) (ls' := [(3, .int (nI (k + 1))), (5, .int (nI (gpA v X k))), (4, .int (nI nx)), (0, .ref a), (1, .int (nI X)), (2, .int (nI (2 ^ (v 9) - 1)))]) hc dX8_lookOn_141 rfl (ad_NN _ 1) (by decide) rfl ?_
              refine r_goto (tgt := 33) hc dX8_lookOn_144 (by decide) ?_
              refine r_locp [3, 4, 5, 0] (ls' := [(0, .ref a), (1, .int (nI X)), (2, .int (nI (2 ^ (v 9) - 1))), (3, .int (nI (k + 1)))]) rfl ?_
              exact ih33 σ6 (k + 1) (by omega) (by rw [sumN, fO, if_neg (by rw [hb2]; decide), if_pos c_94, ← hnx]; exact ho) (by rw [orN, fL, if_neg (by rw [hb2]; decide), if_pos c_94, if_neg hm0, ← hnx]; exact hl) (by rw [minN, fM, if_neg (by rw [hb2]; decide), ← hnx]; exact hm) (fun D hD => ⟨by rw [← hσ6, s2_na (by omega), ← hσ5, s2_nk hD, ← hσ4, s2_na (by omega)]; exact (hot D hD).1, by rw [← hσ6, s2_nk hD, ← hσ5, s2_na (by omega), ← hσ4, s2_na (by omega)]; exact (hot D hD).2.1, by rw [← hσ6, s2_na (by omega), ← hσ5, s2_na (by omega), ← hσ4, s2_nk hD]; exact (hot D hD).2.2⟩) (fun q q1 q2 q3 => by rw [← hσ6, s2_ne q2, ← hσ5, s2_ne q1, ← hσ4, s2_ne q3]; exact hfr q q1 q2 q3) (by omega)
            ·
              have hm0 : m = 0 := by have h7 := (rs_full hnl).mpr c_123; omega
              refine r_iconst (v := nI 1) hc dX8_lookOn_126 rfl ?_
              refine r_iload_n hc dX8_lookOn_127 rfl ?_
              refine r_ishl (v := nI (2 ^ k)) hc dX8_lookOn_128 (sl_1 _ (by omega)) ?_
              refine r_goto (tgt := 139) hc dX8_lookOn_129 (by decide) ?_
              refine r_ior (v := nI ((orN (fL v m X) k) ||| (2 ^ k))) hc dX8_lookOn_139 (or_NN _ _) ?_
              refine r_iast (j := X) hc hK.1.2.2.2.2.2.1 rfl (by omega) (by decide) dX8_lookOn_140 ?_
              generalize hσ7 : s2 σ5 (a + 5) X (nI ((orN (fL v m X) k) ||| (2 ^ k))) = σ7
              have hsz : σ7 a 6 = nI (v 9) := by rw [← hσ7]; exact s2_keep hsz (by omega)
              have hbk : rowAt σ7 (a + 1) (v 9) (bkP v) := by rw [← hσ7]; exact hbk.keep (by omega) _ _
              have hnd : rowAt σ7 (a + 2) (v 9) (ndP v) := by rw [← hσ7]; exact hnd.keep (by omega) _ _
              have ho : σ7 (a + 4) X = nI (sumN (fO v m X) k + (oC v m nx)) := by rw [← hσ7]; exact s2_keep ho (by omega)
              have hl : σ7 (a + 5) X = nI ((orN (fL v m X) k) ||| (2 ^ k)) := by rw [← hσ7]; exact s2_same _ _ _ _
              have hm : σ7 (a + 6) X = nI (min (minN (fM v m X) k) (max (gpA v X k) (mC v m nx))) := by rw [← hσ7]; exact s2_keep hm (by omega)
              have hon : σ7 (a + 4) nx = nI (oC v m nx) := by rw [← hσ7]; exact s2_keep hon (by omega)
              have hln : σ7 (a + 5) nx = nI (lC v m nx) := by rw [← hσ7]; exact s2_keep hln (by omega)
              have hmn : σ7 (a + 6) nx = nI (mC v m nx) := by rw [← hσ7]; exact s2_keep hmn (by omega)
              refine r_iinc (v := nI (k + 1)) (ls' := [(3, .int (nI (k + 1))), (5, .int (nI (gpA v X k))), (4, .int (nI nx)), (0, .ref a), (1, .int (nI X)), (2, .int (nI (2 ^ (v 9) - 1)))]) hc dX8_lookOn_141 rfl (ad_NN _ 1) (by decide) rfl ?_
              refine r_goto (tgt := 33) hc dX8_lookOn_144 (by decide) ?_
              refine r_locp [3, 4, 5, 0] (ls' := [(0, .ref a), (1, .int (nI X)), (2, .int (nI (2 ^ (v 9) - 1))), (3, .int (nI (k + 1)))]) rfl ?_
              exact ih33 σ7 (k + 1) (by omega) (by rw [sumN, fO, if_neg (by rw [hb2]; decide), if_pos c_94, ← hnx]; exact ho) (by rw [orN, fL, if_neg (by rw [hb2]; decide), if_pos c_94, if_pos hm0]; exact hl) (by rw [minN, fM, if_neg (by rw [hb2]; decide), ← hnx]; exact hm) (fun D hD => ⟨by rw [← hσ7, s2_na (by omega), ← hσ5, s2_nk hD, ← hσ4, s2_na (by omega)]; exact (hot D hD).1, by rw [← hσ7, s2_nk hD, ← hσ5, s2_na (by omega), ← hσ4, s2_na (by omega)]; exact (hot D hD).2.1, by rw [← hσ7, s2_na (by omega), ← hσ5, s2_na (by omega), ← hσ4, s2_nk hD]; exact (hot D hD).2.2⟩) (fun q q1 q2 q3 => by rw [← hσ7, s2_ne q2, ← hσ5, s2_ne q1, ← hσ4, s2_ne q3]; exact hfr q q1 q2 q3) (by omega)
        ·
          have hbt : X.testBit k = true := by cases e : X.testBit k with | true => rfl | false => exact absurd (hnx.symm.trans c_51) (or_ne e)
          refine r_goto (tgt := 141) hc dX8_lookOn_54 (by decide) ?_
          refine r_iinc (v := nI (k + 1)) (ls' := [(3, .int (nI (k + 1))), (4, .int (nI nx)), (0, .ref a), (1, .int (nI X)), (2, .int (nI (2 ^ (v 9) - 1)))]) hc dX8_lookOn_141 rfl (ad_NN _ 1) (by decide) rfl ?_
          refine r_goto (tgt := 33) hc dX8_lookOn_144 (by decide) ?_
          refine r_locp [2, 3, 4, 0] (ls' := [(0, .ref a), (1, .int (nI X)), (2, .int (nI (2 ^ (v 9) - 1))), (3, .int (nI (k + 1)))]) rfl ?_
          exact ih33 τ (k + 1) (by omega) (by rw [sumN, fO, if_pos hbt]; exact ho) (by rw [orN, fL, if_pos hbt, Nat.or_zero]; exact hl) (by rw [minN, fM, if_pos hbt, Nat.min_eq_left (minN_le _ _)]; exact hm) hot hfr (by omega)
  refine r_locp [2, 3, 1, 0] (ls' := [(0, .ref a), (1, .int (nI X)), (2, .int (nI (2 ^ (v 9) - 1))), (3, .int (nI 0))]) rfl ?_
  exact loop33 _ σ3 0 (by omega) (by rw [← hσ3, s2_na (by omega), ← hσ2, s2_na (by omega), ← hσ1, s2_same]; rfl) (by rw [← hσ3, s2_na (by omega), ← hσ2, s2_same]; rfl) (by rw [← hσ3, s2_same]; rfl) (fun D hD => ⟨by rw [← hσ3, s2_na (by omega), ← hσ2, s2_na (by omega), ← hσ1, s2_nk hD], by rw [← hσ3, s2_na (by omega), ← hσ2, s2_nk hD, ← hσ1, s2_na (by omega)], by rw [← hσ3, s2_nk hD, ← hσ2, s2_na (by omega), ← hσ1, s2_na (by omega)]⟩) (fun q q1 q2 q3 => by rw [← hσ3, s2_ne q3, ← hσ2, s2_ne q2, ← hσ1, s2_ne q1]) (Nat.lt_succ_self _)
set_option maxRecDepth 100000 in
set_option maxHeartbeats 4000000 in
theorem c_X8_leastNext {Ω : OmT} {z : Nat} {sh : Nat → Option Kd} {σ : Nat → Nat → Int32} {ρ : Nat → Nat → Option Nat} {a : Nat} (hK : PSh sh ρ a) {v : Nat → Nat} (h9 : v 9 ≤ 6) (hbx : v 7 ≤ 1000000000) (hW : PWk σ a v) (hB : PBx σ a v) (hA : PAn σ a v 0) {D : Nat} (hD : D < 2 ^ v 9) : CtI Ω yX8_leastNext cX8_leastNext 4 .int rm_X8_leastNext [.ref a, .int (nI D)] (z, sh, σ, ρ) (fun r u => r = zI (lnF v D) ∧ u = (z, sh, σ, ρ)) := by
  have hWq := hW
  obtain ⟨hsz, hbk, hnd⟩ := hWq
  have h64 : 2 ^ v 9 ≤ 64 := (Nat.pow_le_pow_right (by decide) h9 : 2 ^ v 9 ≤ 2 ^ 6)
  have h1p : 1 ≤ 2 ^ v 9 := Nat.one_le_two_pow
  refine CtI.enter (by decide) (Nat.le_of_ble_eq_true rfl) (fun Φ hc hR => ?_)
  show Vw Ω Φ (z, sh, σ, ρ) (0, 0) 0 [(0, .ref a), (1, .int (nI D))] []
  refine r_iconst (v := nI 0) hc dX8_leastNext_0 rfl ?_
  refine r_istore_n (ls' := [(2, .int (nI 0)), (0, .ref a), (1, .int (nI D))]) hc dX8_leastNext_1 (by decide) rfl ?_
  have loop2 : ∀ (n2 : Nat) (k : Nat), (k ≤ v 9) → (ffF (lnP v D) k = -6) → (v 9 - k) < n2 → Vw Ω Φ (z, sh, σ, ρ) (0, 0) 2 [(0, .ref a), (1, .int (nI D)), (2, .int (nI k))] [] := by
    intro n2
    induction n2 with
    | zero => intro k hk hf hm; exact absurd hm (Nat.not_lt_zero _)
    | succ n2 ih2 =>
      intro k hk hf hm2
      refine r_iload_n hc dX8_leastNext_2 rfl ?_
      refine r_aload_n hc dX8_leastNext_3 rfl ?_
      refine gf_X8_42 (x := nI (v 9)) hc hK.1.1 hsz dX8_leastNext_4 ?_
      refine r_icmp_ge (tgt := 47) hc dX8_leastNext_7 (by decide) (le_NN (by omega) (by omega)) (fun c_7 => ?_) (fun c_7 => ?_)
      ·
        refine r_bipush (v := zI (-6)) hc dX8_leastNext_47 rfl ?_
        exact hR _ _ ⟨by rw [show k = v 9 by omega] at hf; exact congrArg zI hf.symm, rfl⟩ rfl _ _ dX8_leastNext_49
      ·
        refine r_iload_n hc dX8_leastNext_10 rfl ?_
        refine r_iconst (v := nI 1) hc dX8_leastNext_11 rfl ?_
        refine r_iload_n hc dX8_leastNext_12 rfl ?_
        refine r_ishl (v := nI (2 ^ k)) hc dX8_leastNext_13 (sl_1 _ (by omega)) ?_
        refine r_ior (v := nI (D ||| (2 ^ k))) hc dX8_leastNext_14 (or_NN _ _) ?_
        refine r_istore_n (ls' := [(3, .int (nI (D ||| (2 ^ k)))), (0, .ref a), (1, .int (nI D)), (2, .int (nI k))]) hc dX8_leastNext_15 (by decide) rfl ?_
        obtain ⟨nx, hnx⟩ : ∃ nx, nx = D ||| 2 ^ k := ⟨_, rfl⟩
        rw [← hnx]
        have hnl : nx < 2 ^ v 9 := by rw [hnx]; exact or_lt hD (by omega)
        have hAn := (hA nx (Nat.zero_le _) hnl).1
        have hob : oC v (rsF (v 9) nx) nx ≤ 6 ^ rsF (v 9) nx := oC_le v h9 _ _
        have hrb : rsF (v 9) nx ≤ 6 := Nat.le_trans (cntF_le _ _) h9
        have hoc : oC v (rsF (v 9) nx) nx ≤ 6 ^ 6 := Nat.le_trans hob (Nat.pow_le_pow_right (by decide) hrb)
        refine r_iload_n hc dX8_leastNext_16 rfl ?_
        refine r_iload_n hc dX8_leastNext_17 rfl ?_
        refine r_icmp_eq (tgt := 41) hc dX8_leastNext_18 (by decide) (eq_NN (by omega) (by omega)) (fun c_18 => ?_) (fun c_18 => ?_)
        ·
          refine r_iinc (v := nI (k + 1)) (ls' := [(2, .int (nI (k + 1))), (3, .int (nI nx)), (0, .ref a), (1, .int (nI D))]) hc dX8_leastNext_41 rfl (ad_NN _ 1) (by decide) rfl ?_
          refine r_goto (tgt := 2) hc dX8_leastNext_44 (by decide) ?_
          refine r_locp [2, 3, 0] (ls' := [(0, .ref a), (1, .int (nI D)), (2, .int (nI (k + 1)))]) rfl ?_
          exact ih2 (k + 1) (by omega) (by rw [ffF, if_pos hf, if_neg (fun q => by have h7 := (lnP_iff.mp q).1; exact or_ne h7 (hnx.symm.trans c_18))]) (by omega)
        ·
          refine r_aload_n hc dX8_leastNext_21 rfl ?_
          refine r_iload_n hc dX8_leastNext_22 rfl ?_
          refine r_iload_n hc dX8_leastNext_23 rfl ?_
          refine cl_X8_94 (As := [.int (nI D), .int (nI k)]) hc (c_X8_missingFor hK h9 hbx hW hB (D := D) (p := k) (by omega) (by omega)) hK.1.1 rfl ⟨by decide, by decide⟩ ⟨rfl, rfl⟩ ⟨by decide, by decide⟩ rfl (Nat.le_of_ble_eq_true rfl) dX8_leastNext_24 (fun r u hp => ?_)
          obtain ⟨rfl, hu⟩ := hp
          rw [hu]
          have hgl := gp_le v D k h9
          refine r_if_ne (tgt := 41) hc dX8_leastNext_27 (by decide) (e0_N (by omega)) (fun c_27 => ?_) (fun c_27 => ?_)
          ·
            refine r_iinc (v := nI (k + 1)) (ls' := [(2, .int (nI (k + 1))), (3, .int (nI nx)), (0, .ref a), (1, .int (nI D))]) hc dX8_leastNext_41 rfl (ad_NN _ 1) (by decide) rfl ?_
            refine r_goto (tgt := 2) hc dX8_leastNext_44 (by decide) ?_
            refine r_locp [2, 3, 0] (ls' := [(0, .ref a), (1, .int (nI D)), (2, .int (nI (k + 1)))]) rfl ?_
            exact ih2 (k + 1) (by omega) (by rw [ffF, if_pos hf, if_neg (fun q => by have h7 := (lnP_iff.mp q).2.1; omega)]) (by omega)
          ·
            refine r_aload_n hc dX8_leastNext_30 rfl ?_
            refine gf_X8_21 (q := a + 4) hc hK.1.1 hK.2.2.2.2.1 dX8_leastNext_31 ?_
            refine r_iload_n hc dX8_leastNext_34 rfl ?_
            refine r_iald (x := nI (oC v (rsF (v 9) nx) nx)) (j := nx) hc hK.1.2.2.2.2.1 rfl (by omega) (by decide) hAn dX8_leastNext_35 ?_
            refine r_if_le (tgt := 41) hc dX8_leastNext_36 (by decide) (le0_N (by omega)) (fun c_36 => ?_) (fun c_36 => ?_)
            ·
              refine r_iinc (v := nI (k + 1)) (ls' := [(2, .int (nI (k + 1))), (3, .int (nI nx)), (0, .ref a), (1, .int (nI D))]) hc dX8_leastNext_41 rfl (ad_NN _ 1) (by decide) rfl ?_
              refine r_goto (tgt := 2) hc dX8_leastNext_44 (by decide) ?_
              refine r_locp [2, 3, 0] (ls' := [(0, .ref a), (1, .int (nI D)), (2, .int (nI (k + 1)))]) rfl ?_
              exact ih2 (k + 1) (by omega) (by rw [ffF, if_pos hf, if_neg (fun q => by have h7 := (lnP_iff.mp q).2.2; rw [← hnx] at h7; omega)]) (by omega)
            ·
              refine r_iload_n hc dX8_leastNext_39 rfl ?_
              have hbt : D.testBit k = false := by cases e : D.testBit k with | false => rfl | true => exact absurd (hnx.trans (or_same e)) c_18
              have hok : lnP v D k = true := lnP_iff.mpr ⟨hbt, c_27, by rw [← hnx]; omega⟩
              have h1 : ffF (lnP v D) (k + 1) = (k : Int) := by rw [ffF, if_pos hf, if_pos hok]
              have h2 := ffF_stay (lnP v D) (k + 1) (v 9 - (k + 1)) (by rw [h1]; omega)
              rw [show k + 1 + (v 9 - (k + 1)) = v 9 by omega, h1] at h2
              exact hR _ _ ⟨by rw [nz]; exact congrArg zI h2.symm, rfl⟩ rfl _ _ dX8_leastNext_40
  refine r_locp [1, 2, 0] (ls' := [(0, .ref a), (1, .int (nI D)), (2, .int (nI 0))]) rfl ?_
  exact loop2 _ 0 (by omega) rfl (Nat.lt_succ_self _)
set_option maxRecDepth 100000 in
set_option maxHeartbeats 4000000 in
theorem c_X8_firstOrderAt {Ω : OmT} {z : Nat} {sh : Nat → Option Kd} {σ : Nat → Nat → Int32} {ρ : Nat → Nat → Option Nat} {a : Nat} (hK : PSh sh ρ a) {v : Nat → Nat} (h9 : v 9 ≤ 6) (hbx : v 7 ≤ 1000000000) (hW : PWk σ a v) (hB : PBx σ a v) (hA : PAn σ a v 0) {w : Nat} (hw : w < 6) : CtI Ω yX8_firstOrderAt cX8_firstOrderAt 5 .int rm_X8_firstOrderAt [.ref a, .int (nI w)] (z, sh, σ, ρ) (fun r u => r = zI (if w < v 9 ∧ 0 < oC v (v 9) 0 then lnF v (dnF v w) else -6) ∧ u = (z, sh, σ, ρ)) := by
  have hWq := hW
  obtain ⟨hsz, hbk, hnd⟩ := hWq
  have h64 : 2 ^ v 9 ≤ 64 := (Nat.pow_le_pow_right (by decide) h9 : 2 ^ v 9 ≤ 2 ^ 6)
  have h1p : 1 ≤ 2 ^ v 9 := Nat.one_le_two_pow
  have hA0 := hA 0 (Nat.le_refl 0) (Nat.two_pow_pos _)
  rw [rs_0] at hA0
  obtain ⟨ho0, hl0, hm0⟩ := hA0
  have hob : oC v (v 9) 0 ≤ 6 ^ v 9 := oC_le v h9 _ _
  have hoc : oC v (v 9) 0 ≤ 6 ^ 6 := Nat.le_trans hob (Nat.pow_le_pow_right (by decide) h9)
  refine CtI.enter (by decide) (Nat.le_of_ble_eq_true rfl) (fun Φ hc hR => ?_)
  show Vw Ω Φ (z, sh, σ, ρ) (0, 0) 0 [(0, .ref a), (1, .int (nI w))] []
  refine r_iload_n hc dX8_firstOrderAt_0 rfl ?_
  refine r_if_lt (tgt := 21) hc dX8_firstOrderAt_1 (by decide) (l0_N (by omega)) (fun c_1 => ?_) (fun c_1 => ?_)
  ·
    exact c_1.elim
  ·
    refine r_iload_n hc dX8_firstOrderAt_4 rfl ?_
    refine r_aload_n hc dX8_firstOrderAt_5 rfl ?_
    refine gf_X8_42 (x := nI (v 9)) hc hK.1.1 hsz dX8_firstOrderAt_6 ?_
    refine r_icmp_ge (tgt := 21) hc dX8_firstOrderAt_9 (by decide) (le_NN (by omega) (by omega)) (fun c_9 => ?_) (fun c_9 => ?_)
    ·
      refine r_bipush (v := zI (-6)) hc dX8_firstOrderAt_21 rfl ?_
      exact hR _ _ ⟨(by refine congrArg zI ?_; rw [if_neg (fun q => by have := q.1; omega)]), rfl⟩ rfl _ _ dX8_firstOrderAt_23
    ·
      refine r_aload_n hc dX8_firstOrderAt_12 rfl ?_
      refine gf_X8_21 (q := a + 4) hc hK.1.1 hK.2.2.2.2.1 dX8_firstOrderAt_13 ?_
      refine r_iconst (v := nI 0) hc dX8_firstOrderAt_16 rfl ?_
      refine r_iald (x := nI (oC v (v 9) 0)) (j := 0) hc hK.1.2.2.2.2.1 rfl (by omega) (by decide) ho0 dX8_firstOrderAt_17 ?_
      refine r_if_ne (tgt := 24) hc dX8_firstOrderAt_18 (by decide) (e0_N (by omega)) (fun c_18 => ?_) (fun c_18 => ?_)
      ·
        refine r_iconst (v := nI 0) hc dX8_firstOrderAt_24 rfl ?_
        refine r_istore_n (ls' := [(2, .int (nI 0)), (0, .ref a), (1, .int (nI w))]) hc dX8_firstOrderAt_25 (by decide) rfl ?_
        refine r_bipush (v := zI (-6)) hc dX8_firstOrderAt_26 rfl ?_
        refine r_istore_n (ls' := [(3, .int (zI (-6))), (2, .int (nI 0)), (0, .ref a), (1, .int (nI w))]) hc dX8_firstOrderAt_28 (by decide) rfl ?_
        refine r_iconst (v := nI 0) hc dX8_firstOrderAt_29 rfl ?_
        refine r_istore (ls' := [(4, .int (nI 0)), (3, .int (zI (-6))), (2, .int (nI 0)), (0, .ref a), (1, .int (nI w))]) hc dX8_firstOrderAt_30 (by decide) rfl ?_
        have loop32 : ∀ (n32 : Nat) (k : Nat) (c : Int), (k ≤ w + 1) → (0 < k → c = lnF v (dnF v (k - 1))) → (w + 1 - k) < n32 → Vw Ω Φ (z, sh, σ, ρ) (0, 0) 32 [(0, .ref a), (1, .int (nI w)), (2, .int (nI (dnF v k))), (3, .int (zI c)), (4, .int (nI k))] [] := by
          intro n32
          induction n32 with
          | zero => intro k c hk hc2 hm; exact absurd hm (Nat.not_lt_zero _)
          | succ n32 ih32 =>
            intro k c hk hc2 hm32
            refine r_iload hc dX8_firstOrderAt_32 rfl ?_
            refine r_iload_n hc dX8_firstOrderAt_34 rfl ?_
            refine r_icmp_gt (tgt := 65) hc dX8_firstOrderAt_35 (by decide) (lt_NN (by omega) (by omega)) (fun c_35 => ?_) (fun c_35 => ?_)
            ·
              refine r_iload_n hc dX8_firstOrderAt_65 rfl ?_
              exact hR _ _ ⟨(by refine congrArg zI ?_; rw [if_pos ⟨by omega, by omega⟩, hc2 (by omega), show k - 1 = w by omega]), rfl⟩ rfl _ _ dX8_firstOrderAt_66
            ·
              refine r_aload_n hc dX8_firstOrderAt_38 rfl ?_
              refine r_iload_n hc dX8_firstOrderAt_39 rfl ?_
              obtain ⟨p, g1, g2, g3, g4, g5⟩ := ln_ok v (by omega) k (by omega)
              refine cl_X8_100 (As := [.int (nI (dnF v k))]) hc (c_X8_leastNext hK h9 hbx hW hB hA (D := dnF v k) (dn_lt v (by omega) k (by omega))) hK.1.1 rfl ⟨by decide, by decide⟩ ⟨rfl, rfl⟩ ⟨by decide, by decide⟩ rfl (Nat.le_of_ble_eq_true rfl) dX8_firstOrderAt_40 (fun r u hp => ?_)
              obtain ⟨rfl, hu⟩ := hp
              rw [hu]
              rw [zn g1]
              refine r_istore_n (ls' := [(3, .int (nI p)), (0, .ref a), (1, .int (nI w)), (2, .int (nI (dnF v k))), (4, .int (nI k))]) hc dX8_firstOrderAt_43 (by decide) rfl ?_
              refine r_iload_n hc dX8_firstOrderAt_44 rfl ?_
              refine r_bipush (v := zI (-6)) hc dX8_firstOrderAt_45 rfl ?_
              refine r_icmp_ne (tgt := 53) hc dX8_firstOrderAt_47 (by decide) (eq_NZ (by omega) (by omega)) (fun c_47 => ?_) (fun c_47 => ?_)
              ·
                refine r_iload_n hc dX8_firstOrderAt_53 rfl ?_
                refine r_iconst (v := nI 1) hc dX8_firstOrderAt_54 rfl ?_
                refine r_iload_n hc dX8_firstOrderAt_55 rfl ?_
                refine r_ishl (v := nI (2 ^ p)) hc dX8_firstOrderAt_56 (sl_1 _ (by omega)) ?_
                refine r_ior (v := nI ((dnF v k) ||| (2 ^ p))) hc dX8_firstOrderAt_57 (or_NN _ _) ?_
                refine r_istore_n (ls' := [(2, .int (nI ((dnF v k) ||| (2 ^ p)))), (3, .int (nI p)), (0, .ref a), (1, .int (nI w)), (4, .int (nI k))]) hc dX8_firstOrderAt_58 (by decide) rfl ?_
                rw [show dnF v k ||| 2 ^ p = dnF v (k + 1) from g5.symm]
                refine r_iinc (v := nI (k + 1)) (ls' := [(4, .int (nI (k + 1))), (2, .int (nI (dnF v (k + 1)))), (3, .int (nI p)), (0, .ref a), (1, .int (nI w))]) hc dX8_firstOrderAt_59 rfl (ad_NN _ 1) (by decide) rfl ?_
                refine r_goto (tgt := 32) hc dX8_firstOrderAt_62 (by decide) ?_
                rw [nz p]
                refine r_locp [3, 4, 1, 2, 0] (ls' := [(0, .ref a), (1, .int (nI w)), (2, .int (nI (dnF v (k + 1)))), (3, .int (zI (((p : Nat) : Int)))), (4, .int (nI (k + 1)))]) rfl ?_
                exact ih32 (k + 1) (((p : Nat) : Int)) (by omega) (fun _ => by rw [Nat.add_sub_cancel, g1]) (by omega)
              ·
                refine r_bipush (v := zI (-6)) hc dX8_firstOrderAt_50 rfl ?_
                exact absurd c_47 (by omega)
        refine r_locp [3, 4, 2, 1, 0] (ls' := [(0, .ref a), (1, .int (nI w)), (2, .int (nI 0)), (3, .int (zI (-6))), (4, .int (nI 0))]) rfl ?_
        exact loop32 _ 0 (-6) (by omega) (fun q => absurd q (Nat.lt_irrefl 0)) (Nat.lt_succ_self _)
      ·
        refine r_bipush (v := zI (-6)) hc dX8_firstOrderAt_21 rfl ?_
        exact hR _ _ ⟨(by refine congrArg zI ?_; rw [if_neg (fun q => by have := q.2; omega)]), rfl⟩ rfl _ _ dX8_firstOrderAt_23
set_option maxRecDepth 100000 in
set_option maxHeartbeats 4000000 in
theorem c_X8_howManyOrders {Ω : OmT} {z : Nat} {sh : Nat → Option Kd} {σ : Nat → Nat → Int32} {ρ : Nat → Nat → Option Nat} {a : Nat} (hK : PSh sh ρ a) {v : Nat → Nat} (h9 : v 9 ≤ 6) (hW : PWk σ a v) (hB : PBx σ a v) (hA : PAn σ a v 0)  : CtI Ω yX8_howManyOrders cX8_howManyOrders 1 .int rm_X8_howManyOrders [.ref a] (z, sh, σ, ρ) (fun r u => r = nI (oC v (v 9) 0) ∧ u = (z, sh, σ, ρ)) := by
  have hA0 := hA 0 (Nat.le_refl 0) (Nat.two_pow_pos _)
  rw [rs_0] at hA0
  obtain ⟨ho0, hl0, hm0⟩ := hA0
  have hob : oC v (v 9) 0 ≤ 6 ^ v 9 := oC_le v h9 _ _
  have hoc : oC v (v 9) 0 ≤ 6 ^ 6 := Nat.le_trans hob (Nat.pow_le_pow_right (by decide) h9)
  refine CtI.enter (by decide) (Nat.le_of_ble_eq_true rfl) (fun Φ hc hR => ?_)
  show Vw Ω Φ (z, sh, σ, ρ) (0, 0) 0 [(0, .ref a)] []
  refine r_aload_n hc dX8_howManyOrders_0 rfl ?_
  refine gf_X8_21 (q := a + 4) hc hK.1.1 hK.2.2.2.2.1 dX8_howManyOrders_1 ?_
  refine r_iconst (v := nI 0) hc dX8_howManyOrders_4 rfl ?_
  refine r_iald (x := nI (oC v (v 9) 0)) (j := 0) hc hK.1.2.2.2.2.1 rfl (by omega) (by decide) ho0 dX8_howManyOrders_5 ?_
  exact hR _ _ ⟨rfl, rfl⟩ rfl _ _ dX8_howManyOrders_6
set_option maxRecDepth 100000 in
set_option maxHeartbeats 4000000 in
theorem c_X8_leastBrass {Ω : OmT} {z : Nat} {sh : Nat → Option Kd} {σ : Nat → Nat → Int32} {ρ : Nat → Nat → Option Nat} {a : Nat} (hK : PSh sh ρ a) {v : Nat → Nat} (h9 : v 9 ≤ 6) (hW : PWk σ a v) (hB : PBx σ a v) (hA : PAn σ a v 0)  : CtI Ω yX8_leastBrass cX8_leastBrass 1 .int rm_X8_leastBrass [.ref a] (z, sh, σ, ρ) (fun r u => r = nI (mC v (v 9) 0) ∧ u = (z, sh, σ, ρ)) := by
  have hA0 := hA 0 (Nat.le_refl 0) (Nat.two_pow_pos _)
  rw [rs_0] at hA0
  obtain ⟨ho0, hl0, hm0⟩ := hA0
  have hob : oC v (v 9) 0 ≤ 6 ^ v 9 := oC_le v h9 _ _
  have hoc : oC v (v 9) 0 ≤ 6 ^ 6 := Nat.le_trans hob (Nat.pow_le_pow_right (by decide) h9)
  refine CtI.enter (by decide) (Nat.le_of_ble_eq_true rfl) (fun Φ hc hR => ?_)
  show Vw Ω Φ (z, sh, σ, ρ) (0, 0) 0 [(0, .ref a)] []
  refine r_aload_n hc dX8_leastBrass_0 rfl ?_
  refine gf_X8_27 (q := a + 6) hc hK.1.1 hK.2.2.2.2.2.2 dX8_leastBrass_1 ?_
  refine r_iconst (v := nI 0) hc dX8_leastBrass_4 rfl ?_
  refine r_iald (x := nI (mC v (v 9) 0)) (j := 0) hc hK.1.2.2.2.2.2.2 rfl (by omega) (by decide) hm0 dX8_leastBrass_5 ?_
  exact hR _ _ ⟨rfl, rfl⟩ rfl _ _ dX8_leastBrass_6
set_option maxRecDepth 100000 in
set_option maxHeartbeats 4000000 in
theorem c_X8_onlyLast {Ω : OmT} {z : Nat} {sh : Nat → Option Kd} {σ : Nat → Nat → Int32} {ρ : Nat → Nat → Option Nat} {a : Nat} (hK : PSh sh ρ a) {v : Nat → Nat} (h9 : v 9 ≤ 6) (hW : PWk σ a v) (hB : PBx σ a v) (hA : PAn σ a v 0)  : CtI Ω yX8_onlyLast cX8_onlyLast 2 .int rm_X8_onlyLast [.ref a] (z, sh, σ, ρ) (fun r u => r = zI (ffF (fun k => decide (lC v (v 9) 0 = 2 ^ k)) (v 9)) ∧ u = (z, sh, σ, ρ)) := by
  have hWq := hW
  obtain ⟨hsz, hbk, hnd⟩ := hWq
  have h64 : 2 ^ v 9 ≤ 64 := (Nat.pow_le_pow_right (by decide) h9 : 2 ^ v 9 ≤ 2 ^ 6)
  have h1p : 1 ≤ 2 ^ v 9 := Nat.one_le_two_pow
  have hA0 := hA 0 (Nat.le_refl 0) (Nat.two_pow_pos _)
  rw [rs_0] at hA0
  obtain ⟨ho0, hl0, hm0⟩ := hA0
  have hob : oC v (v 9) 0 ≤ 6 ^ v 9 := oC_le v h9 _ _
  have hoc : oC v (v 9) 0 ≤ 6 ^ 6 := Nat.le_trans hob (Nat.pow_le_pow_right (by decide) h9)
  have hll := lC_lt v (v 9) 0
  refine CtI.enter (by decide) (Nat.le_of_ble_eq_true rfl) (fun Φ hc hR => ?_)
  show Vw Ω Φ (z, sh, σ, ρ) (0, 0) 0 [(0, .ref a)] []
  refine r_iconst (v := nI 0) hc dX8_onlyLast_0 rfl ?_
  refine r_istore_n (ls' := [(1, .int (nI 0)), (0, .ref a)]) hc dX8_onlyLast_1 (by decide) rfl ?_
  have loop2 : ∀ (n2 : Nat) (k : Nat), (k ≤ v 9) → (ffF (fun k => decide (lC v (v 9) 0 = 2 ^ k)) k = -6) → (v 9 - k) < n2 → Vw Ω Φ (z, sh, σ, ρ) (0, 0) 2 [(0, .ref a), (1, .int (nI k))] [] := by
    intro n2
    induction n2 with
    | zero => intro k hk hf hm; exact absurd hm (Nat.not_lt_zero _)
    | succ n2 ih2 =>
      intro k hk hf hm2
      refine r_iload_n hc dX8_onlyLast_2 rfl ?_
      refine r_aload_n hc dX8_onlyLast_3 rfl ?_
      refine gf_X8_42 (x := nI (v 9)) hc hK.1.1 hsz dX8_onlyLast_4 ?_
      refine r_icmp_ge (tgt := 30) hc dX8_onlyLast_7 (by decide) (le_NN (by omega) (by omega)) (fun c_7 => ?_) (fun c_7 => ?_)
      ·
        refine r_bipush (v := zI (-6)) hc dX8_onlyLast_30 rfl ?_
        exact hR _ _ ⟨(by rw [show k = v 9 by omega] at hf; exact congrArg zI hf.symm), rfl⟩ rfl _ _ dX8_onlyLast_32
      ·
        have hpk : 2 ^ k < 2 ^ v 9 := Nat.pow_lt_pow_right (by decide) (by omega)
        refine r_aload_n hc dX8_onlyLast_10 rfl ?_
        refine gf_X8_24 (q := a + 5) hc hK.1.1 hK.2.2.2.2.2.1 dX8_onlyLast_11 ?_
        refine r_iconst (v := nI 0) hc dX8_onlyLast_14 rfl ?_
        refine r_iald (x := nI (lC v (v 9) 0)) (j := 0) hc hK.1.2.2.2.2.2.1 rfl (by omega) (by decide) hl0 dX8_onlyLast_15 ?_
        refine r_iconst (v := nI 1) hc dX8_onlyLast_16 rfl ?_
        refine r_iload_n hc dX8_onlyLast_17 rfl ?_
        refine r_ishl (v := nI (2 ^ k)) hc dX8_onlyLast_18 (sl_1 _ (by omega)) ?_
        refine r_icmp_ne (tgt := 24) hc dX8_onlyLast_19 (by decide) (eq_NN (by omega) (by omega)) (fun c_19 => ?_) (fun c_19 => ?_)
        ·
          refine r_iinc (v := nI (k + 1)) (ls' := [(1, .int (nI (k + 1))), (0, .ref a)]) hc dX8_onlyLast_24 rfl (ad_NN _ 1) (by decide) rfl ?_
          refine r_goto (tgt := 2) hc dX8_onlyLast_27 (by decide) ?_
          refine r_locp [1, 0] (ls' := [(0, .ref a), (1, .int (nI (k + 1)))]) rfl ?_
          exact ih2 (k + 1) (by omega) (by rw [ffF, if_pos hf, if_neg (by rw [decide_eq_false c_19]; decide)]) (by omega)
        ·
          refine r_iload_n hc dX8_onlyLast_22 rfl ?_
          exact hR _ _ ⟨(by rw [nz]; refine congrArg zI ?_; have h1 : ffF (fun k => decide (lC v (v 9) 0 = 2 ^ k)) (k + 1) = (k : Int) := (by rw [ffF, if_pos hf, if_pos (decide_eq_true c_19)]); have h2 := ffF_stay (fun k => decide (lC v (v 9) 0 = 2 ^ k)) (k + 1) (v 9 - (k + 1)) (by rw [h1]; omega); rw [show k + 1 + (v 9 - (k + 1)) = v 9 by omega, h1] at h2; exact h2.symm), rfl⟩ rfl _ _ dX8_onlyLast_23
  refine r_locp [1, 0] (ls' := [(0, .ref a), (1, .int (nI 0))]) rfl ?_
  exact loop2 _ 0 (by omega) rfl (Nat.lt_succ_self _)
set_option maxRecDepth 100000 in
set_option maxHeartbeats 4000000 in
theorem c_X8_work {Ω : OmT} {z : Nat} {sh : Nat → Option Kd} {σ : Nat → Nat → Int32} {ρ : Nat → Nat → Option Nat} {a : Nat} (hK : PSh sh ρ a) {h : Nat} {v : Nat → Nat} (hH : HSh sh ρ h) (hV : HV σ h v) (hah : a + 7 ≤ h ∨ h + 34 ≤ a) (hok : okR v) (hbx : v 7 ≤ 1000000000) : CtV Ω yX8_work cX8_work 4 rm_X8_work [.ref a, .ref h] (z, sh, σ, ρ) (fun u => ∃ τ : Nat → Nat → Int32, u = (z, sh, τ, ρ) ∧ PWk τ a v ∧ PBx τ a v ∧ PAn τ a v 0 ∧ ∀ q, (q < a ∨ a + 7 ≤ q) → τ q = σ q) := by
  have hok1 := hok
  obtain ⟨⟨h01, h02⟩, hl1, ⟨h21, h22⟩, h3, h4, h5, h9, hdo, hke, hpn, hpd, htc⟩ := hok1
  have hdr : ∀ d, d < v 4 → v (20 + 6 * d + 2) < 10000 ∧ v (20 + 6 * d + 3) < 10000 := fun d hd => ⟨(hdo d hd).2.2.1, (hdo d hd).2.2.2⟩
  have hcu : ∀ k, k < v 5 → v (80 + 4 * k) < 10000 := fun k hk => (hke k hk).1
  have hwh : ∀ k, k < v 5 → v (80 + 4 * k + 2) ≤ 9 := fun k hk => (hke k hk).2.2
  have hky : ∀ k, k < v 5 → v (80 + 4 * k) < 10000 ∧ v (80 + 4 * k + 2) ≤ 9 ∧ 40 ≤ v (80 + 4 * k + 1) ∧ v (80 + 4 * k + 1) ≤ 90 := fun k hk => ⟨(hke k hk).1, (hke k hk).2.2, (hke k hk).2.1⟩
  have hpl : ∀ p, p < v 9 → v (150 + 3 * p) < 10 := fun p hp => by have := (hpn p hp).1; omega
  have hV0 := hV
  have h64 : 2 ^ v 9 ≤ 64 := (Nat.pow_le_pow_right (by decide) h9 : 2 ^ v 9 ≤ 2 ^ 6)
  have h1p : 1 ≤ 2 ^ v 9 := Nat.one_le_two_pow
  refine CtV.enter (by decide) (Nat.le_of_ble_eq_true rfl) (fun Φ hc hi hR => ?_)
  show Vw Ω Φ (z, sh, σ, ρ) (0, 0) 0 [(0, .ref a), (1, .ref h)] []
  refine r_aload_n hc dX8_work_0 rfl ?_
  refine r_aload_n hc dX8_work_1 rfl ?_
  refine gf_X8_30 (q := h + 4) hc (HS0 hH) (HR0 hH 3 4 (by decide)) dX8_work_2 ?_
  refine gf_X8_36 (x := nI (v 9)) hc (HSa hH 4 _ rfl) (HVp hV) dX8_work_5 ?_
  refine pf_X8_42 hc hK.1.1 dX8_work_8 ?_
  generalize hσ1 : s2 σ a 6 (nI (v 9)) = σ1
  have hV : HV σ1 h v := by rw [← hσ1]; exact hV.dead (by omega) (by omega) (by right; right; right; omega)
  refine r_iconst (v := nI 0) hc dX8_work_11 rfl ?_
  refine r_istore_n (ls' := [(2, .int (nI 0)), (0, .ref a), (1, .ref h)]) hc dX8_work_12 (by decide) rfl ?_
  have loop13 : ∀ (n13 : Nat) (τ : Nat → Nat → Int32) (k : Nat), (k ≤ v 9) → (rowAt τ (a + 1) k (bkP v)) → (rowAt τ (a + 2) k (ndP v)) → (τ a 6 = nI (v 9)) → (∀ q, (q < a ∨ a + 7 ≤ q) → τ q = σ q) → (v 9 - k) < n13 → Vw Ω Φ (z, sh, τ, ρ) (0, 0) 13 [(0, .ref a), (1, .ref h), (2, .int (nI k))] [] := by
    intro n13
    induction n13 with
    | zero => intro τ k hk hbk hnd hsz hfr hm; exact absurd hm (Nat.not_lt_zero _)
    | succ n13 ih13 =>
      intro τ k hk hbk hnd hsz hfr hm13
      have hV : HV τ h v := hV0.keep (fun q q1 q2 => hfr q (by omega)) h4 h5
      refine r_iload_n hc dX8_work_13 rfl ?_
      refine r_aload_n hc dX8_work_14 rfl ?_
      refine gf_X8_42 (x := nI (v 9)) hc hK.1.1 hsz dX8_work_15 ?_
      refine r_icmp_ge (tgt := 33) hc dX8_work_18 (by decide) (le_NN (by omega) (by omega)) (fun c_18 => ?_) (fun c_18 => ?_)
      ·
        refine r_iconst (v := nI 1) hc dX8_work_33 rfl ?_
        refine r_aload_n hc dX8_work_34 rfl ?_
        refine gf_X8_42 (x := nI (v 9)) hc hK.1.1 hsz dX8_work_35 ?_
        refine r_ishl (v := nI (2 ^ (v 9))) hc dX8_work_38 (sl_1 _ (by omega)) ?_
        refine r_iconst (v := nI 1) hc dX8_work_39 rfl ?_
        refine r_isub (v := nI (2 ^ (v 9) - 1)) hc dX8_work_40 (sb_N _ _ h1p) ?_
        refine r_istore_n (ls' := [(2, .int (nI (2 ^ (v 9) - 1))), (0, .ref a), (1, .ref h)]) hc dX8_work_41 (by decide) rfl ?_
        refine r_iconst (v := nI 0) hc dX8_work_42 rfl ?_
        refine r_istore_n (ls' := [(3, .int (nI 0)), (2, .int (nI (2 ^ (v 9) - 1))), (0, .ref a), (1, .ref h)]) hc dX8_work_43 (by decide) rfl ?_
        have loop44 : ∀ (n44 : Nat) (τ : Nat → Nat → Int32) (k : Nat), (k ≤ 2 ^ v 9) → (∀ D, D < k → τ (a + 3) D = zI (bxA v D)) → (PWk τ a v) → (∀ q, (q < a ∨ a + 7 ≤ q) → τ q = σ q) → (2 ^ v 9 - k) < n44 → Vw Ω Φ (z, sh, τ, ρ) (0, 0) 44 [(0, .ref a), (1, .ref h), (2, .int (nI (2 ^ (v 9) - 1))), (3, .int (nI k))] [] := by
          intro n44
          induction n44 with
          | zero => intro τ k hk hbxs hW hfr hm; exact absurd hm (Nat.not_lt_zero _)
          | succ n44 ih44 =>
            intro τ k hk hbxs hW hfr hm44
            have hV : HV τ h v := hV0.keep (fun q q1 q2 => hfr q (by omega)) h4 h5
            refine r_iload_n hc dX8_work_44 rfl ?_
            refine r_iload_n hc dX8_work_45 rfl ?_
            refine r_icmp_gt (tgt := 71) hc dX8_work_46 (by decide) (lt_NN (by omega) (by omega)) (fun c_46 => ?_) (fun c_46 => ?_)
            ·
              refine r_aload_n hc dX8_work_71 rfl ?_
              refine gf_X8_21 (q := a + 4) hc hK.1.1 hK.2.2.2.2.1 dX8_work_72 ?_
              refine r_iload_n hc dX8_work_75 rfl ?_
              refine r_iconst (v := nI 1) hc dX8_work_76 rfl ?_
              refine r_iast (j := 2 ^ (v 9) - 1) hc hK.1.2.2.2.2.1 rfl (by omega) (by decide) dX8_work_77 ?_
              generalize hσ2 : s2 τ (a + 4) (2 ^ (v 9) - 1) (nI 1) = σ2
              have hV : HV σ2 h v := by rw [← hσ2]; exact hV.dead (by omega) (by omega) (by right; right; right; omega)
              refine r_aload_n hc dX8_work_78 rfl ?_
              refine gf_X8_24 (q := a + 5) hc hK.1.1 hK.2.2.2.2.2.1 dX8_work_79 ?_
              refine r_iload_n hc dX8_work_82 rfl ?_
              refine r_iconst (v := nI 0) hc dX8_work_83 rfl ?_
              refine r_iast (j := 2 ^ (v 9) - 1) hc hK.1.2.2.2.2.2.1 rfl (by omega) (by decide) dX8_work_84 ?_
              generalize hσ3 : s2 σ2 (a + 5) (2 ^ (v 9) - 1) (nI 0) = σ3
              have hV : HV σ3 h v := by rw [← hσ3]; exact hV.dead (by omega) (by omega) (by right; right; right; omega)
              refine r_aload_n hc dX8_work_85 rfl ?_
              refine gf_X8_27 (q := a + 6) hc hK.1.1 hK.2.2.2.2.2.2 dX8_work_86 ?_
              refine r_iload_n hc dX8_work_89 rfl ?_
              refine r_iconst (v := nI 0) hc dX8_work_90 rfl ?_
              refine r_iast (j := 2 ^ (v 9) - 1) hc hK.1.2.2.2.2.2.2 rfl (by omega) (by decide) dX8_work_91 ?_
              generalize hσ4 : s2 σ3 (a + 6) (2 ^ (v 9) - 1) (nI 0) = σ4
              have hV : HV σ4 h v := by rw [← hσ4]; exact hV.dead (by omega) (by omega) (by right; right; right; omega)
              refine r_iload_n hc dX8_work_92 rfl ?_
              refine r_iconst (v := nI 1) hc dX8_work_93 rfl ?_
              refine r_isub (v := zI (((2 ^ v 9 - 1 : Nat) : Int) - 1)) hc dX8_work_94 (sb_NN _ _) ?_
              refine r_istore_n (ls' := [(3, .int (zI (((2 ^ v 9 - 1 : Nat) : Int) - 1))), (0, .ref a), (1, .ref h), (2, .int (nI (2 ^ (v 9) - 1)))]) hc dX8_work_95 (by decide) rfl ?_
              have loop96 : ∀ (n96 : Nat) (τ : Nat → Nat → Int32) (j : Nat), (j ≤ 2 ^ v 9 - 1) → (PWk τ a v) → (PBx τ a v) → (PAn τ a v j) → (∀ q, (q < a ∨ a + 7 ≤ q) → τ q = σ q) → (j) < n96 → Vw Ω Φ (z, sh, τ, ρ) (0, 0) 96 [(0, .ref a), (1, .ref h), (2, .int (nI (2 ^ (v 9) - 1))), (3, .int (zI (((j : Nat) : Int) - 1)))] [] := by
                intro n96
                induction n96 with
                | zero => intro τ j hj hW hB hA hfr hm; exact absurd hm (Nat.not_lt_zero _)
                | succ n96 ih96 =>
                  intro τ j hj hW hB hA hfr hm96
                  refine r_iload_n hc dX8_work_96 rfl ?_
                  refine r_if_lt (tgt := 111) hc dX8_work_97 (by decide) (l0_Z (by omega)) (fun c_97 => ?_) (fun c_97 => ?_)
                  ·
                    exact hR _ ⟨_, rfl, hW, hB, by rw [show j = 0 by omega] at hA; exact hA, hfr⟩ _ _ dX8_work_111
                  ·
                    rw [zn (show ((j : Nat) : Int) - 1 = ((j - 1 : Nat) : Int) by omega)]
                    refine r_aload_n hc dX8_work_100 rfl ?_
                    refine r_iload_n hc dX8_work_101 rfl ?_
                    have hr7 := rs_full (n := v 9) (D := j - 1) (by omega)
                    have hr8 : ¬ rsF (v 9) (j - 1) = 0 := fun q => by have := hr7.mp q; omega
                    have hrs : rsF (v 9) (j - 1) = (rsF (v 9) (j - 1) - 1) + 1 := by omega
                    refine cl_X8_54 (As := [.int (nI (j - 1))]) hc (c_X8_lookOn hK h9 hbx hW hB (X := j - 1) (m := rsF (v 9) (j - 1) - 1) (by omega) hrs (by rw [show j - 1 + 1 = j by omega]; exact hA)) hK.1.1 rfl ⟨by decide, by decide⟩ ⟨rfl, rfl⟩ ⟨by decide, by decide⟩ rfl (Nat.le_of_ble_eq_true rfl) dX8_work_102 (fun u hp => ?_)
                    obtain ⟨τ2, hu, ht, hot, hfr2⟩ := hp
                    rw [hu]
                    rw [← hrs] at ht
                    have hA2 : PAn τ2 a v (j - 1) := fun D h1 h2 => by
                      by_cases e : D = j - 1
                      · subst e; exact ht
                      · have h7 := hot D e
                        rw [h7.1, h7.2.1, h7.2.2]; exact hA D (by omega) h2
                    have hW2 : PWk τ2 a v := hW.keep (hfr2 _ (by omega) (by omega) (by omega)) (hfr2 _ (by omega) (by omega) (by omega)) (hfr2 _ (by omega) (by omega) (by omega))
                    have hB2 : PBx τ2 a v := hB.keep (hfr2 _ (by omega) (by omega) (by omega))
                    have hfr : ∀ q, (q < a ∨ a + 7 ≤ q) → τ2 q = σ q := fun q hq => by rw [hfr2 q (by omega) (by omega) (by omega)]; exact hfr q hq
                    refine r_iinc (v := zI (((j - 1 : Nat) : Int) - 1)) (ls' := [(3, .int (zI (((j - 1 : Nat) : Int) - 1))), (0, .ref a), (1, .ref h), (2, .int (nI (2 ^ (v 9) - 1)))]) hc dX8_work_105 rfl (by rw [show Int32.ofInt (-1) = zI (-1) from rfl, ad_NZ]; rfl) (by decide) rfl ?_
                    refine r_goto (tgt := 96) hc dX8_work_108 (by decide) ?_
                    refine r_locp [1, 2, 3, 0] (ls' := [(0, .ref a), (1, .ref h), (2, .int (nI (2 ^ (v 9) - 1))), (3, .int (zI (((j - 1 : Nat) : Int) - 1)))]) rfl ?_
                    exact ih96 τ2 (j - 1) (by omega) hW2 hB2 hA2 hfr (by omega)
              refine r_locp [1, 2, 3, 0] (ls' := [(0, .ref a), (1, .ref h), (2, .int (nI (2 ^ (v 9) - 1))), (3, .int (zI (((2 ^ v 9 - 1 : Nat) : Int) - 1)))]) rfl ?_
              exact loop96 _ σ4 (2 ^ v 9 - 1) (by omega) (by rw [← hσ4, ← hσ3, ← hσ2]; exact ((hW.keep (s2_ne (by omega)) (s2_ne (by omega)) (s2_ne (by omega))).keep (s2_ne (by omega)) (s2_ne (by omega)) (s2_ne (by omega))).keep (s2_ne (by omega)) (s2_ne (by omega)) (s2_ne (by omega))) (fun D hD => by rw [← hσ4, s2_na (by omega), ← hσ3, s2_na (by omega), ← hσ2, s2_na (by omega)]; exact hbxs D (by omega)) (fun D h1 h2 => by
                have e : D = 2 ^ v 9 - 1 := by omega
                subst e
                rw [(rs_full h2).mpr rfl]
                exact ⟨by rw [← hσ4, s2_na (by omega), ← hσ3, s2_na (by omega), ← hσ2, s2_same]; rfl, by rw [← hσ4, s2_na (by omega), ← hσ3, s2_same]; rfl, by rw [← hσ4, s2_same]; rfl⟩) (fun q hq => by rw [← hσ4, s2_ne (show q ≠ a + 6 by omega), ← hσ3, s2_ne (show q ≠ a + 5 by omega), ← hσ2, s2_ne (show q ≠ a + 4 by omega)]; exact hfr q hq) (Nat.lt_succ_self _)
            ·
              refine r_aload_n hc dX8_work_49 rfl ?_
              refine gf_X8_18 (q := a + 3) hc hK.1.1 hK.2.2.2.1 dX8_work_50 ?_
              refine r_iload_n hc dX8_work_53 rfl ?_
              refine r_aload_n hc dX8_work_54 rfl ?_
              refine gf_X8_47 (x := nI (v 7)) hc (HS0 hH) (HV8 hV) dX8_work_55 ?_
              refine r_aload_n hc dX8_work_58 rfl ?_
              refine r_iload_n hc dX8_work_59 rfl ?_
              refine cl_X8_50 (As := [.int (nI k)]) hc (c_X8_gainOf hK h9 hbx hW (D := k) (by omega)) hK.1.1 rfl ⟨by decide, by decide⟩ ⟨rfl, rfl⟩ ⟨by decide, by decide⟩ rfl (Nat.le_of_ble_eq_true rfl) dX8_work_60 (fun r u hp => ?_)
              obtain ⟨rfl, hu⟩ := hp
              rw [hu]
              have hgr := gn_rng v k (v 9)
              refine r_iadd (v := zI (((v 7 : Nat) : Int) + (gnF v k (v 9)))) hc dX8_work_63 (ad_NZ _ _) ?_
              refine r_iast (j := k) hc hK.1.2.2.2.1 rfl (by omega) (by decide) dX8_work_64 ?_
              generalize hσ5 : s2 τ (a + 3) k (zI (((v 7 : Nat) : Int) + (gnF v k (v 9)))) = σ5
              have hV : HV σ5 h v := by rw [← hσ5]; exact hV.dead (by omega) (by omega) (by right; right; right; omega)
              refine r_iinc (v := nI (k + 1)) (ls' := [(3, .int (nI (k + 1))), (0, .ref a), (1, .ref h), (2, .int (nI (2 ^ (v 9) - 1)))]) hc dX8_work_65 rfl (ad_NN _ 1) (by decide) rfl ?_
              refine r_goto (tgt := 44) hc dX8_work_68 (by decide) ?_
              refine r_locp [1, 2, 3, 0] (ls' := [(0, .ref a), (1, .ref h), (2, .int (nI (2 ^ (v 9) - 1))), (3, .int (nI (k + 1)))]) rfl ?_
              exact ih44 σ5 (k + 1) (by omega) (fun D hD => by
                rw [← hσ5]
                by_cases e : D = k
                · subst e; rw [s2_same]; rfl
                · rw [s2_nk e]; exact hbxs D (by omega)) (by rw [← hσ5]; exact hW.keep (s2_ne (by omega)) (s2_ne (by omega)) (s2_ne (by omega))) (fun q hq => by rw [← hσ5, s2_ne (show q ≠ a + 3 by omega)]; exact hfr q hq) (by omega)
        refine r_locp [2, 3, 1, 0] (ls' := [(0, .ref a), (1, .ref h), (2, .int (nI (2 ^ (v 9) - 1))), (3, .int (nI 0))]) rfl ?_
        exact loop44 _ τ 0 (by omega) (fun D hD => absurd hD (Nat.not_lt_zero _)) ⟨hsz, by rw [show k = v 9 by omega] at hbk; exact hbk, by rw [show k = v 9 by omega] at hnd; exact hnd⟩ hfr (Nat.lt_succ_self _)
      ·
        refine r_aload_n hc dX8_work_21 rfl ?_
        refine r_aload_n hc dX8_work_22 rfl ?_
        refine r_iload_n hc dX8_work_23 rfl ?_
        refine cl_X8_43 (As := [.ref h, .int (nI k)]) hc (c_X8_weigh hK hH hV hah hok (p := k) (by omega)) hK.1.1 rfl ⟨by decide, by decide⟩ ⟨rfl, rfl⟩ ⟨by decide, by decide⟩ rfl (Nat.le_of_ble_eq_true rfl) dX8_work_24 (fun u hp => ?_)
        rw [hp]
        generalize hσA : s2 τ (a + 1) k (nI (bkP v k)) = σA
        generalize hσB : s2 σA (a + 2) k (nI (ndP v k)) = σB
        have hsz : σB a 6 = nI (v 9) := by rw [← hσB, s2_na (by omega), ← hσA, s2_na (by omega)]; exact hsz
        refine r_iinc (v := nI (k + 1)) (ls' := [(2, .int (nI (k + 1))), (0, .ref a), (1, .ref h)]) hc dX8_work_27 rfl (ad_NN _ 1) (by decide) rfl ?_
        refine r_goto (tgt := 13) hc dX8_work_30 (by decide) ?_
        refine r_locp [1, 2, 0] (ls' := [(0, .ref a), (1, .ref h), (2, .int (nI (k + 1)))]) rfl ?_
        exact ih13 σB (k + 1) (by omega) (by rw [← hσB]; refine rowAt.sig ?_ (s2_ne (by omega)); rw [← hσA]; exact hbk.ext1 _ rfl) (by rw [← hσB]; refine rowAt.ext1 ?_ _ rfl; rw [← hσA]; exact hnd.sig (s2_ne (by omega))) hsz (fun q hq => by rw [← hσB, s2_ne (show q ≠ a + 2 by omega), ← hσA, s2_ne (show q ≠ a + 1 by omega)]; exact hfr q hq) (by omega)
  refine r_locp [1, 2, 0] (ls' := [(0, .ref a), (1, .ref h), (2, .int (nI 0))]) rfl ?_
  exact loop13 _ σ1 0 (by omega) rowAt.zero rowAt.zero (by rw [← hσ1]; exact s2_same _ _ _ _) (fun q hq => by rw [← hσ1, s2_ne (show q ≠ a by omega)]) (Nat.lt_succ_self _)
