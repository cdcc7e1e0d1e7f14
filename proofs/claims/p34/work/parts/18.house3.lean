/-! ===== as in whole: house3 ===== -/
set_option maxRecDepth 100000 in
set_option maxHeartbeats 4000000 in
theorem c_X0_copyFrom {Ω : OmT} {z : Nat} {sh : Nat → Option Kd} {σ : Nat → Nat → Int32} {ρ : Nat → Nat → Option Nat} {a b x0 x1 x2 x3 x4 : Nat} (hsa : sh a = some (.inl 0)) (hsb : sh b = some (.inl 0)) (hab : a ≠ b) (hb0 : σ b 0 = nI x0) (hb1 : σ b 1 = nI x1) (hb2 : σ b 2 = nI x2) (hb3 : σ b 3 = nI x3) (hb4 : σ b 4 = nI x4) : CtV Ω yX0_copyFrom cX0_copyFrom 2 rm_X0_copyFrom [.ref a, .ref b] (z, sh, σ, ρ) (fun u => u = (z, sh, s2 (s2 (s2 (s2 (s2 σ a 0 (nI x0)) a 1 (nI x1)) a 2 (nI x2)) a 3 (nI x3)) a 4 (nI x4), ρ)) := by
  refine CtV.enter (by decide) (Nat.le_of_ble_eq_true rfl) (fun Φ hc hi hR => ?_)
  show Vw Ω Φ (z, sh, σ, ρ) (0, 0) 0 [(0, .ref a), (1, .ref b)] []
  refine r_aload_n hc dX0_copyFrom_0 rfl ?_
  refine r_aload_n hc dX0_copyFrom_1 rfl ?_
  refine gf_X0_9 (x := nI x0) hc hsb hb0 dX0_copyFrom_2 ?_
  refine pf_X0_9 hc hsa dX0_copyFrom_5 ?_
  generalize hσ1 : s2 σ a 0 (nI x0) = σ1
  have hb0 : σ1 b 0 = nI x0 := by rw [← hσ1]; exact s2_keep hb0 (by omega)
  have hb1 : σ1 b 1 = nI x1 := by rw [← hσ1]; exact s2_keep hb1 (by omega)
  have hb2 : σ1 b 2 = nI x2 := by rw [← hσ1]; exact s2_keep hb2 (by omega)
  have hb3 : σ1 b 3 = nI x3 := by rw [← hσ1]; exact s2_keep hb3 (by omega)
  have hb4 : σ1 b 4 = nI x4 := by rw [← hσ1]; exact s2_keep hb4 (by omega)
  refine r_aload_n hc dX0_copyFrom_8 rfl ?_
  refine r_aload_n hc dX0_copyFrom_9 rfl ?_
  refine gf_X0_15 (x := nI x1) hc hsb hb1 dX0_copyFrom_10 ?_
  refine pf_X0_15 hc hsa dX0_copyFrom_13 ?_
  generalize hσ2 : s2 σ1 a 1 (nI x1) = σ2
  have hb0 : σ2 b 0 = nI x0 := by rw [← hσ2]; exact s2_keep hb0 (by omega)
  have hb1 : σ2 b 1 = nI x1 := by rw [← hσ2]; exact s2_keep hb1 (by omega)
  have hb2 : σ2 b 2 = nI x2 := by rw [← hσ2]; exact s2_keep hb2 (by omega)
  have hb3 : σ2 b 3 = nI x3 := by rw [← hσ2]; exact s2_keep hb3 (by omega)
  have hb4 : σ2 b 4 = nI x4 := by rw [← hσ2]; exact s2_keep hb4 (by omega)
  refine r_aload_n hc dX0_copyFrom_16 rfl ?_
  refine r_aload_n hc dX0_copyFrom_17 rfl ?_
  refine gf_X0_18 (x := nI x2) hc hsb hb2 dX0_copyFrom_18 ?_
  refine pf_X0_18 hc hsa dX0_copyFrom_21 ?_
  generalize hσ3 : s2 σ2 a 2 (nI x2) = σ3
  have hb0 : σ3 b 0 = nI x0 := by rw [← hσ3]; exact s2_keep hb0 (by omega)
  have hb1 : σ3 b 1 = nI x1 := by rw [← hσ3]; exact s2_keep hb1 (by omega)
  have hb2 : σ3 b 2 = nI x2 := by rw [← hσ3]; exact s2_keep hb2 (by omega)
  have hb3 : σ3 b 3 = nI x3 := by rw [← hσ3]; exact s2_keep hb3 (by omega)
  have hb4 : σ3 b 4 = nI x4 := by rw [← hσ3]; exact s2_keep hb4 (by omega)
  refine r_aload_n hc dX0_copyFrom_24 rfl ?_
  refine r_aload_n hc dX0_copyFrom_25 rfl ?_
  refine gf_X0_21 (x := nI x3) hc hsb hb3 dX0_copyFrom_26 ?_
  refine pf_X0_21 hc hsa dX0_copyFrom_29 ?_
  generalize hσ4 : s2 σ3 a 3 (nI x3) = σ4
  have hb0 : σ4 b 0 = nI x0 := by rw [← hσ4]; exact s2_keep hb0 (by omega)
  have hb1 : σ4 b 1 = nI x1 := by rw [← hσ4]; exact s2_keep hb1 (by omega)
  have hb2 : σ4 b 2 = nI x2 := by rw [← hσ4]; exact s2_keep hb2 (by omega)
  have hb3 : σ4 b 3 = nI x3 := by rw [← hσ4]; exact s2_keep hb3 (by omega)
  have hb4 : σ4 b 4 = nI x4 := by rw [← hσ4]; exact s2_keep hb4 (by omega)
  refine r_aload_n hc dX0_copyFrom_32 rfl ?_
  refine r_aload_n hc dX0_copyFrom_33 rfl ?_
  refine gf_X0_24 (x := nI x4) hc hsb hb4 dX0_copyFrom_34 ?_
  refine pf_X0_24 hc hsa dX0_copyFrom_37 ?_
  generalize hσ5 : s2 σ4 a 4 (nI x4) = σ5
  have hb0 : σ5 b 0 = nI x0 := by rw [← hσ5]; exact s2_keep hb0 (by omega)
  have hb1 : σ5 b 1 = nI x1 := by rw [← hσ5]; exact s2_keep hb1 (by omega)
  have hb2 : σ5 b 2 = nI x2 := by rw [← hσ5]; exact s2_keep hb2 (by omega)
  have hb3 : σ5 b 3 = nI x3 := by rw [← hσ5]; exact s2_keep hb3 (by omega)
  have hb4 : σ5 b 4 = nI x4 := by rw [← hσ5]; exact s2_keep hb4 (by omega)
  exact hR _ (by rw [← hσ5, ← hσ4, ← hσ3, ← hσ2, ← hσ1]) _ _ dX0_copyFrom_40
set_option maxRecDepth 100000 in
set_option maxHeartbeats 4000000 in
theorem c_X3_copyFrom {Ω : OmT} {z : Nat} {sh : Nat → Option Kd} {σ : Nat → Nat → Int32} {ρ : Nat → Nat → Option Nat} {a b x0 x1 x2 : Nat} (hsa : sh a = some (.inl 3)) (hsb : sh b = some (.inl 3)) (hab : a ≠ b) (hb0 : σ b 0 = nI x0) (hb1 : σ b 1 = nI x1) (hb2 : σ b 2 = nI x2) : CtV Ω yX3_copyFrom cX3_copyFrom 2 rm_X3_copyFrom [.ref a, .ref b] (z, sh, σ, ρ) (fun u => u = (z, sh, s2 (s2 (s2 σ a 0 (nI x0)) a 1 (nI x1)) a 2 (nI x2), ρ)) := by
  refine CtV.enter (by decide) (Nat.le_of_ble_eq_true rfl) (fun Φ hc hi hR => ?_)
  show Vw Ω Φ (z, sh, σ, ρ) (0, 0) 0 [(0, .ref a), (1, .ref b)] []
  refine r_aload_n hc dX3_copyFrom_0 rfl ?_
  refine r_aload_n hc dX3_copyFrom_1 rfl ?_
  refine gf_X3_7 (x := nI x0) hc hsb hb0 dX3_copyFrom_2 ?_
  refine pf_X3_7 hc hsa dX3_copyFrom_5 ?_
  generalize hσ1 : s2 σ a 0 (nI x0) = σ1
  have hb0 : σ1 b 0 = nI x0 := by rw [← hσ1]; exact s2_keep hb0 (by omega)
  have hb1 : σ1 b 1 = nI x1 := by rw [← hσ1]; exact s2_keep hb1 (by omega)
  have hb2 : σ1 b 2 = nI x2 := by rw [← hσ1]; exact s2_keep hb2 (by omega)
  refine r_aload_n hc dX3_copyFrom_8 rfl ?_
  refine r_aload_n hc dX3_copyFrom_9 rfl ?_
  refine gf_X3_13 (x := nI x1) hc hsb hb1 dX3_copyFrom_10 ?_
  refine pf_X3_13 hc hsa dX3_copyFrom_13 ?_
  generalize hσ2 : s2 σ1 a 1 (nI x1) = σ2
  have hb0 : σ2 b 0 = nI x0 := by rw [← hσ2]; exact s2_keep hb0 (by omega)
  have hb1 : σ2 b 1 = nI x1 := by rw [← hσ2]; exact s2_keep hb1 (by omega)
  have hb2 : σ2 b 2 = nI x2 := by rw [← hσ2]; exact s2_keep hb2 (by omega)
  refine r_aload_n hc dX3_copyFrom_16 rfl ?_
  refine r_aload_n hc dX3_copyFrom_17 rfl ?_
  refine gf_X3_16 (x := nI x2) hc hsb hb2 dX3_copyFrom_18 ?_
  refine pf_X3_16 hc hsa dX3_copyFrom_21 ?_
  generalize hσ3 : s2 σ2 a 2 (nI x2) = σ3
  have hb0 : σ3 b 0 = nI x0 := by rw [← hσ3]; exact s2_keep hb0 (by omega)
  have hb1 : σ3 b 1 = nI x1 := by rw [← hσ3]; exact s2_keep hb1 (by omega)
  have hb2 : σ3 b 2 = nI x2 := by rw [← hσ3]; exact s2_keep hb2 (by omega)
  exact hR _ (by rw [← hσ3, ← hσ2, ← hσ1]) _ _ dX3_copyFrom_24
set_option maxRecDepth 100000 in
set_option maxHeartbeats 4000000 in
theorem c_X7_copyFrom {Ω : OmT} {z : Nat} {sh : Nat → Option Kd} {σ : Nat → Nat → Int32} {ρ : Nat → Nat → Option Nat} {h g : Nat} {v : Nat → Nat} (hH : HSh sh ρ h) (gH : HSh sh ρ g) (hgh : g + 34 ≤ h ∨ h + 34 ≤ g) (hG0 : HV σ g v) (hok : okR v) : CtV Ω yX7_copyFrom cX7_copyFrom 3 rm_X7_copyFrom [.ref (h + 4), .ref (g + 4)] (z, sh, σ, ρ) (fun u => ∃ τ : Nat → Nat → Int32, u = (z, sh, τ, ρ) ∧ (∀ q, q < v 9 → τ (h + 5) q = nI (v (150 + 3 * q)) ∧ τ (h + 6) q = nI (v (150 + 3 * q + 1)) ∧ τ (h + 7) q = nI (v (150 + 3 * q + 2))) ∧ τ (h + 4) 3 = nI (v 9) ∧ ∀ q, (q < h + 4 ∨ h + 8 ≤ q) → τ q = σ q) := by
  have hok1 := hok
  obtain ⟨⟨h01, h02⟩, hl1, ⟨h21, h22⟩, h3, h4, h5, h9, hdo, hke, hpn, hpd, htc⟩ := hok1
  have hdr : ∀ d, d < v 4 → v (20 + 6 * d + 2) < 10000 ∧ v (20 + 6 * d + 3) < 10000 := fun d hd => ⟨(hdo d hd).2.2.1, (hdo d hd).2.2.2⟩
  have hcu : ∀ k, k < v 5 → v (80 + 4 * k) < 10000 := fun k hk => (hke k hk).1
  have hwh : ∀ k, k < v 5 → v (80 + 4 * k + 2) ≤ 9 := fun k hk => (hke k hk).2.2
  have hky : ∀ k, k < v 5 → v (80 + 4 * k) < 10000 ∧ v (80 + 4 * k + 2) ≤ 9 ∧ 40 ≤ v (80 + 4 * k + 1) ∧ v (80 + 4 * k + 1) ≤ 90 := fun k hk => ⟨(hke k hk).1, (hke k hk).2.2, (hke k hk).2.1⟩
  have hpl : ∀ p, p < v 9 → v (150 + 3 * p) < 10 := fun p hp => by have := (hpn p hp).1; omega
  refine CtV.enter (by decide) (Nat.le_of_ble_eq_true rfl) (fun Φ hc hi hR => ?_)
  show Vw Ω Φ (z, sh, σ, ρ) (0, 0) 0 [(0, .ref (h + 4)), (1, .ref (g + 4))] []
  refine r_iconst (v := nI 0) hc dX7_copyFrom_0 rfl ?_
  refine r_istore_n (ls' := [(2, .int (nI 0)), (0, .ref (h + 4)), (1, .ref (g + 4))]) hc dX7_copyFrom_1 (by decide) rfl ?_
  have loop2 : ∀ (n2 : Nat) (τ : Nat → Nat → Int32) (k : Nat), (k ≤ v 9) → (PPR τ σ h v k) → (v 9 - k) < n2 → Vw Ω Φ (z, sh, τ, ρ) (0, 0) 2 [(0, .ref (h + 4)), (1, .ref (g + 4)), (2, .int (nI k))] [] := by
    intro n2
    induction n2 with
    | zero => intro τ k hk hp hm; exact absurd hm (Nat.not_lt_zero _)
    | succ n2 ih2 =>
      intro τ k hk hp hm2
      have hG : HV τ g v := hG0.keep (fun q q1 q2 => hp.2 q (by omega)) h4 h5
      refine r_iload_n hc dX7_copyFrom_2 rfl ?_
      refine r_aload_n hc dX7_copyFrom_3 rfl ?_
      refine gf_X7_21 (x := nI (v 9)) hc (HSa gH 4 _ rfl) (HVp hG) dX7_copyFrom_4 ?_
      refine r_icmp_ge (tgt := 52) hc dX7_copyFrom_7 (by decide) (le_NN (by omega) (by omega)) (fun c_7 => ?_) (fun c_7 => ?_)
      ·
        refine r_aload_n hc dX7_copyFrom_52 rfl ?_
        refine r_aload_n hc dX7_copyFrom_53 rfl ?_
        refine gf_X7_21 (x := nI (v 9)) hc (HSa gH 4 _ rfl) (HVp hG) dX7_copyFrom_54 ?_
        refine pf_X7_21 hc (HSa hH 4 _ rfl) dX7_copyFrom_57 ?_
        generalize hσ1 : s2 τ (h + 4) 3 (nI (v 9)) = σ1
        have hG : HV σ1 g v := by rw [← hσ1]; exact hG.dead (by omega) (by omega) (by right; right; right; omega)
        have ek : k = v 9 := by omega
        refine hR _ ⟨_, rfl, fun q hq => ?_, by rw [← hσ1]; exact s2_same _ _ _ _, fun q hq => ?_⟩ _ _ dX7_copyFrom_60
        · rw [← hσ1, s2_na (by omega), s2_na (by omega), s2_na (by omega)]; exact hp.1 q (by omega)
        · rw [← hσ1, s2_ne (by omega)]; exact hp.2 q hq
      ·
        refine r_aload_n hc dX7_copyFrom_10 rfl ?_
        refine gf_X7_9 (q := h + 5) hc (HSa hH 4 _ rfl) (HR4 hH 0 5 (by decide)) dX7_copyFrom_11 ?_
        refine r_iload_n hc dX7_copyFrom_14 rfl ?_
        refine r_aload_n hc dX7_copyFrom_15 rfl ?_
        refine gf_X7_9 (q := g + 5) hc (HSa gH 4 _ rfl) (HR4 gH 0 5 (by decide)) dX7_copyFrom_16 ?_
        refine r_iload_n hc dX7_copyFrom_19 rfl ?_
        refine r_iald (x := nI (v (150 + 3 * k))) (j := k) hc (HSa gH 5 _ rfl) rfl (by omega) (by decide) (HVp0 hG (by omega)) dX7_copyFrom_20 ?_
        refine r_iast (j := k) hc (HSa hH 5 _ rfl) rfl (by omega) (by decide) dX7_copyFrom_21 ?_
        generalize hσ2 : s2 τ (h + 5) k (nI (v (150 + 3 * k))) = σ2
        have hG : HV σ2 g v := by rw [← hσ2]; exact hG.dead (by omega) (by omega) (by right; right; right; omega)
        refine r_aload_n hc dX7_copyFrom_22 rfl ?_
        refine gf_X7_15 (q := h + 6) hc (HSa hH 4 _ rfl) (HR4 hH 1 6 (by decide)) dX7_copyFrom_23 ?_
        refine r_iload_n hc dX7_copyFrom_26 rfl ?_
        refine r_aload_n hc dX7_copyFrom_27 rfl ?_
        refine gf_X7_15 (q := g + 6) hc (HSa gH 4 _ rfl) (HR4 gH 1 6 (by decide)) dX7_copyFrom_28 ?_
        refine r_iload_n hc dX7_copyFrom_31 rfl ?_
        refine r_iald (x := nI (v (150 + 3 * k + 1))) (j := k) hc (HSa gH 6 _ rfl) rfl (by omega) (by decide) (HVp1 hG (by omega)) dX7_copyFrom_32 ?_
        refine r_iast (j := k) hc (HSa hH 6 _ rfl) rfl (by omega) (by decide) dX7_copyFrom_33 ?_
        generalize hσ3 : s2 σ2 (h + 6) k (nI (v (150 + 3 * k + 1))) = σ3
        have hG : HV σ3 g v := by rw [← hσ3]; exact hG.dead (by omega) (by omega) (by right; right; right; omega)
        refine r_aload_n hc dX7_copyFrom_34 rfl ?_
        refine gf_X7_18 (q := h + 7) hc (HSa hH 4 _ rfl) (HR4 hH 2 7 (by decide)) dX7_copyFrom_35 ?_
        refine r_iload_n hc dX7_copyFrom_38 rfl ?_
        refine r_aload_n hc dX7_copyFrom_39 rfl ?_
        refine gf_X7_18 (q := g + 7) hc (HSa gH 4 _ rfl) (HR4 gH 2 7 (by decide)) dX7_copyFrom_40 ?_
        refine r_iload_n hc dX7_copyFrom_43 rfl ?_
        refine r_iald (x := nI (v (150 + 3 * k + 2))) (j := k) hc (HSa gH 7 _ rfl) rfl (by omega) (by decide) (HVp2 hG (by omega)) dX7_copyFrom_44 ?_
        refine r_iast (j := k) hc (HSa hH 7 _ rfl) rfl (by omega) (by decide) dX7_copyFrom_45 ?_
        generalize hσ4 : s2 σ3 (h + 7) k (nI (v (150 + 3 * k + 2))) = σ4
        have hG : HV σ4 g v := by rw [← hσ4]; exact hG.dead (by omega) (by omega) (by right; right; right; omega)
        refine r_iinc (v := nI (k + 1)) (ls' := [(2, .int (nI (k + 1))), (0, .ref (h + 4)), (1, .ref (g + 4))]) hc dX7_copyFrom_46 rfl (ad_NN _ 1) (by decide) rfl ?_
        refine r_goto (tgt := 2) hc dX7_copyFrom_49 (by decide) ?_
        refine r_locp [1, 2, 0] (ls' := [(0, .ref (h + 4)), (1, .ref (g + 4)), (2, .int (nI (k + 1)))]) rfl ?_
        exact ih2 σ4 (k + 1) (by omega) (by rw [← hσ4, ← hσ3, ← hσ2]; exact hp.step) (by omega)
  refine r_locp [1, 2, 0] (ls' := [(0, .ref (h + 4)), (1, .ref (g + 4)), (2, .int (nI 0))]) rfl ?_
  exact loop2 _ σ 0 (by omega) PPR.zero (Nat.lt_succ_self _)
set_option maxRecDepth 100000 in
set_option maxHeartbeats 4000000 in
theorem c_X2_copyFrom {Ω : OmT} {z : Nat} {sh : Nat → Option Kd} {σ : Nat → Nat → Int32} {ρ : Nat → Nat → Option Nat} {h g : Nat} {v : Nat → Nat} (hH : HSh sh ρ h) (gH : HSh sh ρ g) (hgh : g + 34 ≤ h ∨ h + 34 ≤ g) (hG0 : HV σ g v) (hok : okR v) : CtV Ω yX2_copyFrom cX2_copyFrom 3 rm_X2_copyFrom [.ref h, .ref g] (z, sh, σ, ρ) (fun u => ∃ τ : Nat → Nat → Int32, u = (z, sh, τ, ρ) ∧ HV τ h v ∧ ∀ q, (q < h ∨ h + 34 ≤ q) → τ q = σ q) := by
  have hok1 := hok
  obtain ⟨⟨h01, h02⟩, hl1, ⟨h21, h22⟩, h3, h4, h5, h9, hdo, hke, hpn, hpd, htc⟩ := hok1
  have hdr : ∀ d, d < v 4 → v (20 + 6 * d + 2) < 10000 ∧ v (20 + 6 * d + 3) < 10000 := fun d hd => ⟨(hdo d hd).2.2.1, (hdo d hd).2.2.2⟩
  have hcu : ∀ k, k < v 5 → v (80 + 4 * k) < 10000 := fun k hk => (hke k hk).1
  have hwh : ∀ k, k < v 5 → v (80 + 4 * k + 2) ≤ 9 := fun k hk => (hke k hk).2.2
  have hky : ∀ k, k < v 5 → v (80 + 4 * k) < 10000 ∧ v (80 + 4 * k + 2) ≤ 9 ∧ 40 ≤ v (80 + 4 * k + 1) ∧ v (80 + 4 * k + 1) ≤ 90 := fun k hk => ⟨(hke k hk).1, (hke k hk).2.2, (hke k hk).2.1⟩
  have hpl : ∀ p, p < v 9 → v (150 + 3 * p) < 10 := fun p hp => by have := (hpn p hp).1; omega
  refine CtV.enter (by decide) (Nat.le_of_ble_eq_true rfl) (fun Φ hc hi hR => ?_)
  show Vw Ω Φ (z, sh, σ, ρ) (0, 0) 0 [(0, .ref h), (1, .ref g)] []
  refine r_iconst (v := nI 0) hc dX2_copyFrom_0 rfl ?_
  refine r_istore_n (ls' := [(2, .int (nI 0)), (0, .ref h), (1, .ref g)]) hc dX2_copyFrom_1 (by decide) rfl ?_
  have loop2 : ∀ (n2 : Nat) (τ : Nat → Nat → Int32) (k : Nat), (k ≤ 3) → (CPY τ σ h v k 0 0 0) → (3 - k) < n2 → Vw Ω Φ (z, sh, τ, ρ) (0, 0) 2 [(0, .ref h), (1, .ref g), (2, .int (nI k))] [] := by
    intro n2
    induction n2 with
    | zero => intro τ k hk hp hm; exact absurd hm (Nat.not_lt_zero _)
    | succ n2 ih2 =>
      intro τ k hk hp hm2
      have hG : HV τ g v := hG0.keep (fun q q1 q2 => hp.2.2.2.2 q (by omega)) h4 h5
      refine r_iload_n hc dX2_copyFrom_2 rfl ?_
      refine r_iconst (v := nI 2) hc dX2_copyFrom_3 rfl ?_
      refine r_icmp_gt (tgt := 25) hc dX2_copyFrom_4 (by decide) (lt_NN (by omega) (by omega)) (fun c_4 => ?_) (fun c_4 => ?_)
      ·
        refine r_iconst (v := nI 0) hc dX2_copyFrom_25 rfl ?_
        refine r_istore_n (ls' := [(2, .int (nI 0)), (0, .ref h), (1, .ref g)]) hc dX2_copyFrom_26 (by decide) rfl ?_
        have loop27 : ∀ (n27 : Nat) (τ : Nat → Nat → Int32) (k : Nat), (k ≤ v 4) → (CPY τ σ h v 3 k 0 0) → (v 4 - k) < n27 → Vw Ω Φ (z, sh, τ, ρ) (0, 0) 27 [(0, .ref h), (1, .ref g), (2, .int (nI k))] [] := by
          intro n27
          induction n27 with
          | zero => intro τ k hk hp hm; exact absurd hm (Nat.not_lt_zero _)
          | succ n27 ih27 =>
            intro τ k hk hp hm27
            have hG : HV τ g v := hG0.keep (fun q q1 q2 => hp.2.2.2.2 q (by omega)) h4 h5
            refine r_iload_n hc dX2_copyFrom_27 rfl ?_
            refine r_aload_n hc dX2_copyFrom_28 rfl ?_
            refine gf_X2_36 (x := nI (v 4)) hc (HS0 gH) (HV4 hG) dX2_copyFrom_29 ?_
            refine r_icmp_ge (tgt := 56) hc dX2_copyFrom_32 (by decide) (le_NN (by omega) (by omega)) (fun c_32 => ?_) (fun c_32 => ?_)
            ·
              refine r_iconst (v := nI 0) hc dX2_copyFrom_56 rfl ?_
              refine r_istore_n (ls' := [(2, .int (nI 0)), (0, .ref h), (1, .ref g)]) hc dX2_copyFrom_57 (by decide) rfl ?_
              have loop58 : ∀ (n58 : Nat) (τ : Nat → Nat → Int32) (k : Nat), (k ≤ v 5) → (CPY τ σ h v 3 (v 4) k 0) → (v 5 - k) < n58 → Vw Ω Φ (z, sh, τ, ρ) (0, 0) 58 [(0, .ref h), (1, .ref g), (2, .int (nI k))] [] := by
                intro n58
                induction n58 with
                | zero => intro τ k hk hp hm; exact absurd hm (Nat.not_lt_zero _)
                | succ n58 ih58 =>
                  intro τ k hk hp hm58
                  have hG : HV τ g v := hG0.keep (fun q q1 q2 => hp.2.2.2.2 q (by omega)) h4 h5
                  refine r_iload_n hc dX2_copyFrom_58 rfl ?_
                  refine r_aload_n hc dX2_copyFrom_59 rfl ?_
                  refine gf_X2_44 (x := nI (v 5)) hc (HS0 gH) (HV5 hG) dX2_copyFrom_60 ?_
                  refine r_icmp_ge (tgt := 87) hc dX2_copyFrom_63 (by decide) (le_NN (by omega) (by omega)) (fun c_63 => ?_) (fun c_63 => ?_)
                  ·
                    refine r_aload_n hc dX2_copyFrom_87 rfl ?_
                    refine gf_X2_30 (q := h + 4) hc (HS0 hH) (HR0 hH 3 4 (by decide)) dX2_copyFrom_88 ?_
                    refine r_aload_n hc dX2_copyFrom_91 rfl ?_
                    refine gf_X2_30 (q := g + 4) hc (HS0 gH) (HR0 gH 3 4 (by decide)) dX2_copyFrom_92 ?_
                    have hgp : HV τ g v := hG0.keep (fun q q1 q2 => hp.2.2.2.2 q (by omega)) h4 h5
                    refine cl_X2_50 (As := [.ref (g + 4)]) hc (c_X7_copyFrom hH gH hgh hgp hok) (HSa hH 4 _ rfl) rfl ⟨by decide, by decide⟩ ⟨rfl, rfl⟩ ⟨by decide, by decide⟩ rfl (Nat.le_of_ble_eq_true rfl) dX2_copyFrom_95 (fun u hp1 => ?_)
                    obtain ⟨τ2, hu, hq1, hq2, hq3⟩ := hp1
                    subst hu
                    rw [show k = v 5 by omega] at hp
                    have hp2 : CPY τ2 σ h v 3 (v 4) (v 5) (v 9) := hp.plan h4 h5 hq1 hq3
                    have hG : HV τ2 g v := hG0.keep (fun q q1 q2 => hp2.2.2.2.2 q (by omega)) h4 h5
                    refine r_aload_n hc dX2_copyFrom_98 rfl ?_
                    refine r_aload_n hc dX2_copyFrom_99 rfl ?_
                    refine gf_X2_36 (x := nI (v 4)) hc (HS0 gH) (HV4 hG) dX2_copyFrom_100 ?_
                    refine pf_X2_36 hc (HS0 hH) dX2_copyFrom_103 ?_
                    generalize hσ1 : s2 τ2 h 4 (nI (v 4)) = σ1
                    have hG : HV σ1 g v := by rw [← hσ1]; exact hG.dead (by omega) (by omega) (by right; right; right; omega)
                    refine r_aload_n hc dX2_copyFrom_106 rfl ?_
                    refine r_aload_n hc dX2_copyFrom_107 rfl ?_
                    refine gf_X2_44 (x := nI (v 5)) hc (HS0 gH) (HV5 hG) dX2_copyFrom_108 ?_
                    refine pf_X2_44 hc (HS0 hH) dX2_copyFrom_111 ?_
                    generalize hσ2 : s2 σ1 h 5 (nI (v 5)) = σ2
                    have hG : HV σ2 g v := by rw [← hσ2]; exact hG.dead (by omega) (by omega) (by right; right; right; omega)
                    refine r_aload_n hc dX2_copyFrom_114 rfl ?_
                    refine r_aload_n hc dX2_copyFrom_115 rfl ?_
                    refine gf_X2_53 (x := nI (v 3)) hc (HS0 gH) (HV6 hG) dX2_copyFrom_116 ?_
                    refine pf_X2_53 hc (HS0 hH) dX2_copyFrom_119 ?_
                    generalize hσ3 : s2 σ2 h 6 (nI (v 3)) = σ3
                    have hG : HV σ3 g v := by rw [← hσ3]; exact hG.dead (by omega) (by omega) (by right; right; right; omega)
                    refine r_aload_n hc dX2_copyFrom_122 rfl ?_
                    refine r_aload_n hc dX2_copyFrom_123 rfl ?_
                    refine gf_X2_56 (x := nI (v 10)) hc (HS0 gH) (HV7 hG) dX2_copyFrom_124 ?_
                    refine pf_X2_56 hc (HS0 hH) dX2_copyFrom_127 ?_
                    generalize hσ4 : s2 σ3 h 7 (nI (v 10)) = σ4
                    have hG : HV σ4 g v := by rw [← hσ4]; exact hG.dead (by omega) (by omega) (by right; right; right; omega)
                    refine r_aload_n hc dX2_copyFrom_130 rfl ?_
                    refine r_aload_n hc dX2_copyFrom_131 rfl ?_
                    refine gf_X2_59 (x := nI (v 7)) hc (HS0 gH) (HV8 hG) dX2_copyFrom_132 ?_
                    refine pf_X2_59 hc (HS0 hH) dX2_copyFrom_135 ?_
                    generalize hσ5 : s2 σ4 h 8 (nI (v 7)) = σ5
                    have hG : HV σ5 g v := by rw [← hσ5]; exact hG.dead (by omega) (by omega) (by right; right; right; omega)
                    refine r_aload_n hc dX2_copyFrom_138 rfl ?_
                    refine r_aload_n hc dX2_copyFrom_139 rfl ?_
                    refine gf_X2_62 (x := nI (v 6)) hc (HS0 gH) (HV9 hG) dX2_copyFrom_140 ?_
                    refine pf_X2_62 hc (HS0 hH) dX2_copyFrom_143 ?_
                    generalize hσ6 : s2 σ5 h 9 (nI (v 6)) = σ6
                    have hG : HV σ6 g v := by rw [← hσ6]; exact hG.dead (by omega) (by omega) (by right; right; right; omega)
                    refine r_aload_n hc dX2_copyFrom_146 rfl ?_
                    refine r_aload_n hc dX2_copyFrom_147 rfl ?_
                    refine gf_X2_65 (x := nI (v 8)) hc (HS0 gH) (HV10 hG) dX2_copyFrom_148 ?_
                    refine pf_X2_65 hc (HS0 hH) dX2_copyFrom_151 ?_
                    generalize hσ7 : s2 σ6 h 10 (nI (v 8)) = σ7
                    have hG : HV σ7 g v := by rw [← hσ7]; exact hG.dead (by omega) (by omega) (by right; right; right; omega)
                    have hdn := hp2.done h4 h5 hq2
                    refine hR _ ⟨_, rfl, by rw [← hσ7, ← hσ6, ← hσ5, ← hσ4, ← hσ3, ← hσ2, ← hσ1]; exact hdn, fun q hq => ?_⟩ _ _ dX2_copyFrom_154
                    rw [← hσ7, s2_ne (show q ≠ h by omega), ← hσ6, s2_ne (show q ≠ h by omega), ← hσ5, s2_ne (show q ≠ h by omega), ← hσ4, s2_ne (show q ≠ h by omega), ← hσ3, s2_ne (show q ≠ h by omega), ← hσ2, s2_ne (show q ≠ h by omega), ← hσ1, s2_ne (show q ≠ h by omega)]; exact hp2.2.2.2.2 q hq
                  ·
                    refine r_aload_n hc dX2_copyFrom_66 rfl ?_
                    refine gf_X2_23 (q := h + 3) hc (HS0 hH) (HR0 hH 2 3 (by decide)) dX2_copyFrom_67 ?_
                    refine r_iload_n hc dX2_copyFrom_70 rfl ?_
                    refine al_5 (r := h + 18 + k) (j := k) hc (HSa hH 3 _ rfl) rfl (by omega) (by decide) (HRk hH (by omega)) dX2_copyFrom_71 ?_
                    refine r_aload_n hc dX2_copyFrom_72 rfl ?_
                    refine gf_X2_23 (q := g + 3) hc (HS0 gH) (HR0 gH 2 3 (by decide)) dX2_copyFrom_73 ?_
                    refine r_iload_n hc dX2_copyFrom_76 rfl ?_
                    refine al_5 (r := g + 18 + k) (j := k) hc (HSa gH 3 _ rfl) rfl (by omega) (by decide) (HRk gH (by omega)) dX2_copyFrom_77 ?_
                    refine cl_X2_47 (As := [.ref (g + 18 + k)]) hc (c_X3_copyFrom (HSk hH (by omega)) (HSk gH (by omega)) (by omega) (HVk0 hG (by omega)) (HVk1 hG (by omega)) (HVk2 hG (by omega))) (HSk hH (by omega)) rfl ⟨by decide, by decide⟩ ⟨rfl, rfl⟩ ⟨by decide, by decide⟩ rfl (Nat.le_of_ble_eq_true rfl) dX2_copyFrom_78 (fun u hp1 => ?_)
                    subst hp1
                    refine r_iinc (v := nI (k + 1)) (ls' := [(2, .int (nI (k + 1))), (0, .ref h), (1, .ref g)]) hc dX2_copyFrom_81 rfl (ad_NN _ 1) (by decide) rfl ?_
                    refine r_goto (tgt := 58) hc dX2_copyFrom_84 (by decide) ?_
                    refine r_locp [1, 2, 0] (ls' := [(0, .ref h), (1, .ref g), (2, .int (nI (k + 1)))]) rfl ?_
                    exact ih58 ((s2 (s2 (s2 τ (h + 18 + k) 0 (nI (v (80 + 4 * k)))) (h + 18 + k) 1 (nI (keyWt v k))) (h + 18 + k) 2 (nI (v (80 + 4 * k + 2))))) (k + 1) (by omega) ((hp.key (by omega)).resolve_right (by omega)) (by omega)
              refine r_locp [1, 2, 0] (ls' := [(0, .ref h), (1, .ref g), (2, .int (nI 0))]) rfl ?_
              exact loop58 _ τ 0 (by omega) (by rw [show v 4 = k by omega]; exact hp) (Nat.lt_succ_self _)
            ·
              refine r_aload_n hc dX2_copyFrom_35 rfl ?_
              refine gf_X2_17 (q := h + 2) hc (HS0 hH) (HR0 hH 1 2 (by decide)) dX2_copyFrom_36 ?_
              refine r_iload_n hc dX2_copyFrom_39 rfl ?_
              refine al_3 (r := h + 8 + k) (j := k) hc (HSa hH 2 _ rfl) rfl (by omega) (by decide) (HRd hH (by omega)) dX2_copyFrom_40 ?_
              refine r_aload_n hc dX2_copyFrom_41 rfl ?_
              refine gf_X2_17 (q := g + 2) hc (HS0 gH) (HR0 gH 1 2 (by decide)) dX2_copyFrom_42 ?_
              refine r_iload_n hc dX2_copyFrom_45 rfl ?_
              refine al_3 (r := g + 8 + k) (j := k) hc (HSa gH 2 _ rfl) rfl (by omega) (by decide) (HRd gH (by omega)) dX2_copyFrom_46 ?_
              refine cl_X2_40 (As := [.ref (g + 8 + k)]) hc (c_X0_copyFrom (HSd hH (by omega)) (HSd gH (by omega)) (by omega) (HVd hG (by omega) 0 (by decide)) (HVd hG (by omega) 1 (by decide)) (HVd hG (by omega) 2 (by decide)) (HVd hG (by omega) 3 (by decide)) (HVd hG (by omega) 4 (by decide))) (HSd hH (by omega)) rfl ⟨by decide, by decide⟩ ⟨rfl, rfl⟩ ⟨by decide, by decide⟩ rfl (Nat.le_of_ble_eq_true rfl) dX2_copyFrom_47 (fun u hp1 => ?_)
              subst hp1
              refine r_iinc (v := nI (k + 1)) (ls' := [(2, .int (nI (k + 1))), (0, .ref h), (1, .ref g)]) hc dX2_copyFrom_50 rfl (ad_NN _ 1) (by decide) rfl ?_
              refine r_goto (tgt := 27) hc dX2_copyFrom_53 (by decide) ?_
              refine r_locp [1, 2, 0] (ls' := [(0, .ref h), (1, .ref g), (2, .int (nI (k + 1)))]) rfl ?_
              exact ih27 ((s2 (s2 (s2 (s2 (s2 τ (h + 8 + k) 0 (nI (v (20 + 6 * k)))) (h + 8 + k) 1 (nI (v (20 + 6 * k + 1)))) (h + 8 + k) 2 (nI (v (20 + 6 * k + 2)))) (h + 8 + k) 3 (nI (v (20 + 6 * k + 3)))) (h + 8 + k) 4 (nI (v (20 + 6 * k + 4))))) (k + 1) (by omega) (hp.door.resolve_right (by omega)) (by omega)
        refine r_locp [1, 2, 0] (ls' := [(0, .ref h), (1, .ref g), (2, .int (nI 0))]) rfl ?_
        exact loop27 _ τ 0 (by omega) (by rw [show 3 = k by omega]; exact hp) (Nat.lt_succ_self _)
      ·
        refine r_aload_n hc dX2_copyFrom_7 rfl ?_
        refine gf_X2_9 (q := h + 1) hc (HS0 hH) (HR0 hH 0 1 (by decide)) dX2_copyFrom_8 ?_
        refine r_iload_n hc dX2_copyFrom_11 rfl ?_
        refine r_aload_n hc dX2_copyFrom_12 rfl ?_
        refine gf_X2_9 (q := g + 1) hc (HS0 gH) (HR0 gH 0 1 (by decide)) dX2_copyFrom_13 ?_
        refine r_iload_n hc dX2_copyFrom_16 rfl ?_
        refine r_iald (x := nI (v k)) (j := k) hc (HSa gH 1 _ rfl) rfl (by omega) (by decide) (HVs hG (by omega)) dX2_copyFrom_17 ?_
        refine r_iast (j := k) hc (HSa hH 1 _ rfl) rfl (by omega) (by decide) dX2_copyFrom_18 ?_
        generalize hσ8 : s2 τ (h + 1) k (nI (v k)) = σ8
        have hG : HV σ8 g v := by rw [← hσ8]; exact hG.dead (by omega) (by omega) (by right; right; right; omega)
        refine r_iinc (v := nI (k + 1)) (ls' := [(2, .int (nI (k + 1))), (0, .ref h), (1, .ref g)]) hc dX2_copyFrom_19 rfl (ad_NN _ 1) (by decide) rfl ?_
        refine r_goto (tgt := 2) hc dX2_copyFrom_22 (by decide) ?_
        refine r_locp [1, 2, 0] (ls' := [(0, .ref h), (1, .ref g), (2, .int (nI (k + 1)))]) rfl ?_
        exact ih2 σ8 (k + 1) (by omega) (by rw [← hσ8]; exact hp.set) (by omega)
  refine r_locp [1, 2, 0] (ls' := [(0, .ref h), (1, .ref g), (2, .int (nI 0))]) rfl ?_
  exact loop2 _ σ 0 (by omega) CPY.zero (Nat.lt_succ_self _)
