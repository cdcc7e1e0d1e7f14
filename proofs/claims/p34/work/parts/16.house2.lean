/-! ===== as in whole: house2 ===== -/
theorem HV.incDx {σ : Nat → Nat → Int32} {h : Nat} {v : Nat → Nat} (H : HV σ h v) {D a b f s : Nat} (hD : v 4 = D) (h0 : σ (h + 8 + D) 0 = nI a) (h1 : σ (h + 8 + D) 1 = nI b) (h2 : σ (h + 8 + D) 2 = nI f) (h3 : σ (h + 8 + D) 3 = nI s) (ht : σ (h + 8 + D) 4 = nI (v (20 + 6 * D + 4))) (h4 : v 4 < 10) (h5 : v 5 ≤ 16) (h9 : v 9 ≤ 6) :
    HV (s2 σ h 4 (nI (D + 1))) h (va_up (va_up (va_up (va_up (va_up v (20 + 6 * D) a) (20 + 6 * D + 1) b) (20 + 6 * D + 2) f) (20 + 6 * D + 3) s) 4 (D + 1)) := by
  subst hD; exact H.incD h0 h1 h2 h3 ht h4 h5 h9
theorem HV.incKx {σ : Nat → Nat → Int32} {h : Nat} {v : Nat → Nat} (H : HV σ h v) {K c b p : Nat} (hK : v 5 = K) (h0 : σ (h + 18 + K) 0 = nI c) (h1 : σ (h + 18 + K) 1 = nI (b - sumD c)) (h2 : σ (h + 18 + K) 2 = nI p) (hp9 : p ≠ 9) (h4 : v 4 ≤ 10) (h5 : v 5 < 16) (h9 : v 9 ≤ 6) :
    HV (s2 σ h 5 (nI (K + 1))) h (va_up (va_up (va_up (va_up v (80 + 4 * K) c) (80 + 4 * K + 1) b) (80 + 4 * K + 2) p) 5 (K + 1)) := by
  subst hK; exact H.incK h0 h1 h2 hp9 h4 h5 h9
theorem HV.incPx {σ : Nat → Nat → Int32} {h : Nat} {v : Nat → Nat} (H : HV σ h v) {D d f s : Nat} (hD : v 9 = D) (h0 : σ (h + 5) D = nI d) (h1 : σ (h + 6) D = nI f) (h2 : σ (h + 7) D = nI s) (h4 : v 4 ≤ 10) (h5 : v 5 ≤ 16) (h9 : v 9 < 6) :
    HV (s2 σ (h + 4) 3 (nI (D + 1))) h (va_up (va_up (va_up (va_up v (150 + 3 * D) d) (150 + 3 * D + 1) f) (150 + 3 * D + 2) s) 9 (D + 1)) := by
  subst hD; exact H.incP h0 h1 h2 h4 h5 h9
/-- what a change of the House at h answers and leaves -/
abbrev HPost (z : Nat) (sh : Nat → Option Kd) (σ : Nat → Nat → Int32) (ρ : Nat → Nat → Option Nat) (h : Nat) (X : Int × (Nat → Nat)) : Int32 → StT → Prop := fun r u => ∃ σ1 : Nat → Nat → Int32, u = (z, sh, σ1, ρ) ∧ r = zI X.1 ∧ HV σ1 h X.2 ∧ ∀ q, (q < h ∨ h + 34 ≤ q) → σ1 q = σ q
theorem behR_rng {v : Nat → Nat} {d r : Nat} (h1 : v (20 + 6 * d) < 8) (h2 : v (20 + 6 * d + 1) < 8) : (behR v d r = -6 ∨ 0 ≤ behR v d r) ∧ behR v d r < 8 := by
  unfold behR
  split
  · omega
  · split <;> omega
theorem plcF_or (v : Nat → Nat) (d n : Nat) : plcF v d n = -6 ∨ 0 ≤ plcF v d n := by
  induction n with
  | zero => exact Or.inl rfl
  | succ n ih => simp only [plcF]; split <;> omega
/-- a carried key opens the door -/
theorem go_iff {v : Nat → Nat} {d : Nat} : opnBy v d (keysAt v 8) = true ↔ ¬ keysFor v d &&& keysAt v 8 = 0 := by
  unfold opnBy
  rw [anyF_iff]
  constructor
  · rintro ⟨k, h1, h2⟩ h3
    have h4 : (keysFor v d &&& keysAt v 8).testBit k = false := by rw [h3]; exact Nat.zero_testBit k
    simp only [Bool.and_eq_true, keysAt, bitsF_test, decide_eq_true_eq] at h2
    simp [Nat.testBit_and, keysFor, keysAt, bitsF_test, h1, h2.1.2, h2.2] at h4
  · intro h
    have h2 : ∃ k, (keysFor v d &&& keysAt v 8).testBit k = true := by
      apply Classical.byContradiction
      intro q
      apply h
      apply Nat.eq_of_testBit_eq
      intro k
      rw [Nat.zero_testBit]
      cases e : (keysFor v d &&& keysAt v 8).testBit k
      · rfl
      · exact absurd ⟨k, e⟩ q
    obtain ⟨k, hk⟩ := h2
    simp only [Nat.testBit_and, keysFor, keysAt, bitsF_test, Bool.and_eq_true, decide_eq_true_eq] at hk
    exact ⟨k, hk.1.1, by simp only [keysAt, bitsF_test, Bool.and_eq_true, decide_eq_true_eq]; exact ⟨hk.2, hk.1.2.2⟩⟩
set_option maxRecDepth 100000 in
set_option maxHeartbeats 4000000 in
theorem c_X2_bringBrass {Ω : OmT} {z : Nat} {sh : Nat → Option Kd} {σ : Nat → Nat → Int32} {ρ : Nat → Nat → Option Nat} {h : Nat} {v : Nat → Nat} (hH : HSh sh ρ h) (hV : HV σ h v) (hok : okR v) (hbx : v 7 ≤ 1000000000) {g : Int} (hg0 : -2147483648 ≤ g ∧ g < 2147483648) : CtI Ω yX2_bringBrass cX2_bringBrass 2 .int rm_X2_bringBrass [.ref h, .int (zI g)] (z, sh, σ, ρ) (HPost z sh σ ρ h (sBrass v g)) := by
  have hok1 := hok
  obtain ⟨⟨h01, h02⟩, hl1, ⟨h21, h22⟩, h3, h4, h5, h9, hdo, hke, hpn, hpd, htc⟩ := hok1
  have hdr : ∀ d, d < v 4 → v (20 + 6 * d + 2) < 10000 ∧ v (20 + 6 * d + 3) < 10000 := fun d hd => ⟨(hdo d hd).2.2.1, (hdo d hd).2.2.2⟩
  have hcu : ∀ k, k < v 5 → v (80 + 4 * k) < 10000 := fun k hk => (hke k hk).1
  have hwh : ∀ k, k < v 5 → v (80 + 4 * k + 2) ≤ 9 := fun k hk => (hke k hk).2.2
  have hky : ∀ k, k < v 5 → v (80 + 4 * k) < 10000 ∧ v (80 + 4 * k + 2) ≤ 9 ∧ 40 ≤ v (80 + 4 * k + 1) ∧ v (80 + 4 * k + 1) ≤ 90 := fun k hk => ⟨(hke k hk).1, (hke k hk).2.2, (hke k hk).2.1⟩
  have hpl : ∀ p, p < v 9 → v (150 + 3 * p) < 10 := fun p hp => by have := (hpn p hp).1; omega
  refine CtI.enter (by decide) (Nat.le_of_ble_eq_true rfl) (fun Φ hc hR => ?_)
  show Vw Ω Φ (z, sh, σ, ρ) (0, 0) 0 [(0, .ref h), (1, .int (zI g))] []
  refine r_iload_n hc dX2_bringBrass_0 rfl ?_
  refine r_iconst (v := nI 1) hc dX2_bringBrass_1 rfl ?_
  refine r_icmp_lt (tgt := 12) hc dX2_bringBrass_2 (by decide) (lt_ZN (by omega) (by omega)) (fun c_2 => ?_) (fun c_2 => ?_)
  ·
    refine r_bipush (v := zI (-2)) hc dX2_bringBrass_12 rfl ?_
    have hE : sBrass v g = (-2, v) := by unfold sBrass; (try simp only [Int.toNat_natCast]); rw [if_neg (by omega)]
    exact hR _ _ ⟨_, rfl, by rw [hE], by rw [hE]; exact hV, (fun _ _ => rfl)⟩ rfl _ _ dX2_bringBrass_14
  ·
    refine r_iload_n hc dX2_bringBrass_5 rfl ?_
    refine r_sipush (v := nI 1000) hc dX2_bringBrass_6 rfl ?_
    refine r_icmp_le (tgt := 15) hc dX2_bringBrass_9 (by decide) (le_ZN (by omega) (by omega)) (fun c_9 => ?_) (fun c_9 => ?_)
    ·
      obtain ⟨G, rfl⟩ := Int.eq_ofNat_of_zero_le (show 0 ≤ g by omega)
      rw [← nz G]
      refine r_aload_n hc dX2_bringBrass_15 rfl ?_
      refine r_dup hc dX2_bringBrass_16 rfl ?_
      refine gf_X2_62 (x := nI (v 6)) hc (HS0 hH) (HV9 hV) dX2_bringBrass_17 ?_
      refine r_iload_n hc dX2_bringBrass_20 rfl ?_
      refine r_iadd (v := nI (v 6 + G)) hc dX2_bringBrass_21 (ad_NN _ _) ?_
      refine pf_X2_62 hc (HS0 hH) dX2_bringBrass_22 ?_
      generalize hσ1 : s2 σ h 9 (nI (v 6 + G)) = σ1
      have hV : HV σ1 h (va_up v 6 (v 6 + G)) := by rw [← hσ1]; exact hV.sca 9 6 _ (by decide) (by omega) (by omega) (by omega)
      refine r_aload_n hc dX2_bringBrass_25 rfl ?_
      refine r_dup hc dX2_bringBrass_26 rfl ?_
      refine gf_X2_59 (x := nI (v 7)) hc (HS0 hH) ((HV8 hV).trans (congrArg nI (by rw [va_up_off (by omega)]))) dX2_bringBrass_27 ?_
      refine r_iload_n hc dX2_bringBrass_30 rfl ?_
      refine r_iadd (v := nI (v 7 + G)) hc dX2_bringBrass_31 (ad_NN _ _) ?_
      refine pf_X2_59 hc (HS0 hH) dX2_bringBrass_32 ?_
      generalize hσ2 : s2 σ1 h 8 (nI (v 7 + G)) = σ2
      have hV : HV σ2 h (va_up (va_up v 6 (v 6 + G)) 7 (v 7 + G)) := by rw [← hσ2]; exact hV.sca 8 7 _ (by decide) (by rw [va_up_off (by omega)]; omega) (by rw [va_up_off (by omega)]; omega) (by rw [va_up_off (by omega)]; omega)
      refine r_aload_n hc dX2_bringBrass_35 rfl ?_
      refine gf_X2_59 (x := nI (v 7 + G)) hc (HS0 hH) ((HV8 hV).trans (congrArg nI (by rw [va_up_at]))) dX2_bringBrass_36 ?_
      have hE : sBrass v (G : Int) = (((v 7 + G : Nat) : Int), va_up (va_up v 6 (v 6 + G)) 7 (v 7 + G)) := by unfold sBrass; (try simp only [Int.toNat_natCast]); rw [if_pos (by omega)]
      exact hR _ _ ⟨_, rfl, by rw [hE]; exact nz _, by rw [hE]; exact hV, (fun q hq => by rw [← hσ2, s2_ne (show q ≠ h by omega), ← hσ1, s2_ne (show q ≠ h by omega)])⟩ rfl _ _ dX2_bringBrass_39
    ·
      refine r_bipush (v := zI (-2)) hc dX2_bringBrass_12 rfl ?_
      have hE : sBrass v g = (-2, v) := by unfold sBrass; (try simp only [Int.toNat_natCast]); rw [if_neg (by omega)]
      exact hR _ _ ⟨_, rfl, by rw [hE], by rw [hE]; exact hV, (fun _ _ => rfl)⟩ rfl _ _ dX2_bringBrass_14
set_option maxRecDepth 100000 in
set_option maxHeartbeats 4000000 in
theorem c_X2_emptyPlan {Ω : OmT} {z : Nat} {sh : Nat → Option Kd} {σ : Nat → Nat → Int32} {ρ : Nat → Nat → Option Nat} {h : Nat} {v : Nat → Nat} (hH : HSh sh ρ h) (hV : HV σ h v) (hok : okR v) (hbx : v 7 ≤ 1000000000)  : CtI Ω yX2_emptyPlan cX2_emptyPlan 2 .int rm_X2_emptyPlan [.ref h] (z, sh, σ, ρ) (HPost z sh σ ρ h (sDrop v)) := by
  have hok1 := hok
  obtain ⟨⟨h01, h02⟩, hl1, ⟨h21, h22⟩, h3, h4, h5, h9, hdo, hke, hpn, hpd, htc⟩ := hok1
  have hdr : ∀ d, d < v 4 → v (20 + 6 * d + 2) < 10000 ∧ v (20 + 6 * d + 3) < 10000 := fun d hd => ⟨(hdo d hd).2.2.1, (hdo d hd).2.2.2⟩
  have hcu : ∀ k, k < v 5 → v (80 + 4 * k) < 10000 := fun k hk => (hke k hk).1
  have hwh : ∀ k, k < v 5 → v (80 + 4 * k + 2) ≤ 9 := fun k hk => (hke k hk).2.2
  have hky : ∀ k, k < v 5 → v (80 + 4 * k) < 10000 ∧ v (80 + 4 * k + 2) ≤ 9 ∧ 40 ≤ v (80 + 4 * k + 1) ∧ v (80 + 4 * k + 1) ≤ 90 := fun k hk => ⟨(hke k hk).1, (hke k hk).2.2, (hke k hk).2.1⟩
  have hpl : ∀ p, p < v 9 → v (150 + 3 * p) < 10 := fun p hp => by have := (hpn p hp).1; omega
  refine CtI.enter (by decide) (Nat.le_of_ble_eq_true rfl) (fun Φ hc hR => ?_)
  show Vw Ω Φ (z, sh, σ, ρ) (0, 0) 0 [(0, .ref h)] []
  refine r_aload_n hc dX2_emptyPlan_0 rfl ?_
  refine gf_X2_30 (q := h + 4) hc (HS0 hH) (HR0 hH 3 4 (by decide)) dX2_emptyPlan_1 ?_
  refine gf_X2_142 (x := nI (v 9)) hc (HSa hH 4 _ rfl) (HVp hV) dX2_emptyPlan_4 ?_
  refine r_istore_n (ls' := [(1, .int (nI (v 9))), (0, .ref h)]) hc dX2_emptyPlan_7 (by decide) rfl ?_
  refine r_aload_n hc dX2_emptyPlan_8 rfl ?_
  refine gf_X2_30 (q := h + 4) hc (HS0 hH) (HR0 hH 3 4 (by decide)) dX2_emptyPlan_9 ?_
  refine r_iconst (v := nI 0) hc dX2_emptyPlan_12 rfl ?_
  refine pf_X2_142 hc (HSa hH 4 _ rfl) dX2_emptyPlan_13 ?_
  generalize hσ1 : s2 σ (h + 4) 3 (nI 0) = σ1
  have hV : HV σ1 h (va_up v 9 0) := by rw [← hσ1]; exact hV.plan0 (by omega) (by omega)
  refine r_iload_n hc dX2_emptyPlan_16 rfl ?_
  exact hR _ _ ⟨_, rfl, nz _, hV, (fun q hq => by rw [← hσ1, s2_ne (show q ≠ h + 4 by omega)])⟩ rfl _ _ dX2_emptyPlan_17
set_option maxRecDepth 100000 in
set_option maxHeartbeats 4000000 in
theorem c_X0_build {Ω : OmT} {S : StT} {a x0 x1 x2 x3 : Nat} (hsh : S.2.1 a = some (.inl 0)) : CtV Ω yX0_build cX0_build 5 rm_X0_build [.ref a, .int (nI x0), .int (nI x1), .int (nI x2), .int (nI x3)] S (fun u => u = (S.1, S.2.1, s2 (s2 (s2 (s2 (s2 S.2.2.1 a 0 (nI x0)) a 1 (nI x1)) a 2 (nI x2)) a 3 (nI x3)) a 4 (nI 0), S.2.2.2)) := by
  obtain ⟨z, sh, σ, ρ⟩ := S
  refine CtV.enter (by decide) (Nat.le_of_ble_eq_true rfl) (fun Φ hc hi hR => ?_)
  show Vw Ω Φ (z, sh, σ, ρ) (0, 0) 0 [(0, .ref a), (1, .int (nI x0)), (2, .int (nI x1)), (3, .int (nI x2)), (4, .int (nI x3))] []
  refine r_aload_n hc dX0_build_0 rfl ?_
  refine r_iload_n hc dX0_build_1 rfl ?_
  refine pf_X0_9 hc hsh dX0_build_2 ?_
  refine r_aload_n hc dX0_build_5 rfl ?_
  refine r_iload_n hc dX0_build_6 rfl ?_
  refine pf_X0_15 hc hsh dX0_build_7 ?_
  refine r_aload_n hc dX0_build_10 rfl ?_
  refine r_iload_n hc dX0_build_11 rfl ?_
  refine pf_X0_18 hc hsh dX0_build_12 ?_
  refine r_aload_n hc dX0_build_15 rfl ?_
  refine r_iload hc dX0_build_16 rfl ?_
  refine pf_X0_21 hc hsh dX0_build_18 ?_
  refine r_aload_n hc dX0_build_21 rfl ?_
  refine r_iconst (v := nI 0) hc dX0_build_22 rfl ?_
  refine pf_X0_24 hc hsh dX0_build_23 ?_
  exact hR _ rfl _ _ dX0_build_26
set_option maxRecDepth 100000 in
set_option maxHeartbeats 4000000 in
theorem c_X2_makeDoor {Ω : OmT} {z : Nat} {sh : Nat → Option Kd} {σ : Nat → Nat → Int32} {ρ : Nat → Nat → Option Nat} {h : Nat} {v : Nat → Nat} (hH : HSh sh ρ h) (hV : HV σ h v) (hok : okR v) (hbx : v 7 ≤ 1000000000) {a b f s : Int} (ha0 : -2147483648 ≤ a ∧ a < 2147483648) (hb0 : -2147483648 ≤ b ∧ b < 2147483648) (hf0 : -2147483648 ≤ f ∧ f < 2147483648) (hs0 : -2147483648 ≤ s ∧ s < 2147483648) : CtI Ω yX2_makeDoor cX2_makeDoor 6 .int rm_X2_makeDoor [.ref h, .int (zI a), .int (zI b), .int (zI f), .int (zI s)] (z, sh, σ, ρ) (HPost z sh σ ρ h (sDoor v a b f s)) := by
  have hok1 := hok
  obtain ⟨⟨h01, h02⟩, hl1, ⟨h21, h22⟩, h3, h4, h5, h9, hdo, hke, hpn, hpd, htc⟩ := hok1
  have hdr : ∀ d, d < v 4 → v (20 + 6 * d + 2) < 10000 ∧ v (20 + 6 * d + 3) < 10000 := fun d hd => ⟨(hdo d hd).2.2.1, (hdo d hd).2.2.2⟩
  have hcu : ∀ k, k < v 5 → v (80 + 4 * k) < 10000 := fun k hk => (hke k hk).1
  have hwh : ∀ k, k < v 5 → v (80 + 4 * k + 2) ≤ 9 := fun k hk => (hke k hk).2.2
  have hky : ∀ k, k < v 5 → v (80 + 4 * k) < 10000 ∧ v (80 + 4 * k + 2) ≤ 9 ∧ 40 ≤ v (80 + 4 * k + 1) ∧ v (80 + 4 * k + 1) ≤ 90 := fun k hk => ⟨(hke k hk).1, (hke k hk).2.2, (hke k hk).2.1⟩
  have hpl : ∀ p, p < v 9 → v (150 + 3 * p) < 10 := fun p hp => by have := (hpn p hp).1; omega
  refine CtI.enter (by decide) (Nat.le_of_ble_eq_true rfl) (fun Φ hc hR => ?_)
  show Vw Ω Φ (z, sh, σ, ρ) (0, 0) 0 [(0, .ref h), (1, .int (zI a)), (2, .int (zI b)), (3, .int (zI f)), (4, .int (zI s))] []
  refine r_iload_n hc dX2_makeDoor_0 rfl ?_
  refine cl_X2_74 (As := [.int (zI a)]) hc (c_X2_isRoom (x := a) (by omega)) rfl ⟨by decide, by decide⟩ ⟨rfl, rfl⟩ ⟨by decide, by decide⟩ rfl (Nat.le_of_ble_eq_true rfl) dX2_makeDoor_1 (fun r u hp => ?_)
  obtain ⟨rfl, hu⟩ := hp
  rw [hu]
  refine r_if_eq (tgt := 19) hc dX2_makeDoor_4 (by decide) (bI_0 _) (fun c_4 => ?_) (fun c_4 => ?_)
  ·
    have c_4 := of_decide_eq_false c_4
    refine r_bipush (v := zI (-2)) hc dX2_makeDoor_19 rfl ?_
    have hE : sDoor v a b f s = (-2, v) := by unfold sDoor; (try simp only [Int.toNat_natCast]); rw [if_neg (by omega)]
    exact hR _ _ ⟨_, rfl, by rw [hE], by rw [hE]; exact hV, (fun _ _ => rfl)⟩ rfl _ _ dX2_makeDoor_21
  ·
    have c_4 := bnf c_4
    have c_4 := of_decide_eq_true c_4
    refine r_iload_n hc dX2_makeDoor_7 rfl ?_
    refine cl_X2_74 (As := [.int (zI b)]) hc (c_X2_isRoom (x := b) (by omega)) rfl ⟨by decide, by decide⟩ ⟨rfl, rfl⟩ ⟨by decide, by decide⟩ rfl (Nat.le_of_ble_eq_true rfl) dX2_makeDoor_8 (fun r u hp => ?_)
    obtain ⟨rfl, hu⟩ := hp
    rw [hu]
    refine r_if_eq (tgt := 19) hc dX2_makeDoor_11 (by decide) (bI_0 _) (fun c_11 => ?_) (fun c_11 => ?_)
    ·
      have c_11 := of_decide_eq_false c_11
      refine r_bipush (v := zI (-2)) hc dX2_makeDoor_19 rfl ?_
      have hE : sDoor v a b f s = (-2, v) := by unfold sDoor; (try simp only [Int.toNat_natCast]); rw [if_neg (by omega)]
      exact hR _ _ ⟨_, rfl, by rw [hE], by rw [hE]; exact hV, (fun _ _ => rfl)⟩ rfl _ _ dX2_makeDoor_21
    ·
      have c_11 := bnf c_11
      have c_11 := of_decide_eq_true c_11
      refine r_iload_n hc dX2_makeDoor_14 rfl ?_
      refine r_iload_n hc dX2_makeDoor_15 rfl ?_
      refine r_icmp_ne (tgt := 22) hc dX2_makeDoor_16 (by decide) (eq_ZZ (by omega) (by omega)) (fun c_16 => ?_) (fun c_16 => ?_)
      ·
        refine r_iload_n hc dX2_makeDoor_22 rfl ?_
        refine cl_X2_78 (As := [.int (zI f)]) hc (c_X9_isRow (x := f) (by omega)) rfl ⟨by decide, by decide⟩ ⟨rfl, rfl⟩ ⟨by decide, by decide⟩ rfl (Nat.le_of_ble_eq_true rfl) dX2_makeDoor_23 (fun r u hp => ?_)
        obtain ⟨rfl, hu⟩ := hp
        rw [hu]
        refine r_if_eq (tgt := 37) hc dX2_makeDoor_26 (by decide) (bI_0 _) (fun c_26 => ?_) (fun c_26 => ?_)
        ·
          have c_26 := of_decide_eq_false c_26
          refine r_bipush (v := zI (-2)) hc dX2_makeDoor_37 rfl ?_
          have hE : sDoor v a b f s = (-2, v) := by unfold sDoor; (try simp only [Int.toNat_natCast]); rw [if_neg (by omega)]
          exact hR _ _ ⟨_, rfl, by rw [hE], by rw [hE]; exact hV, (fun _ _ => rfl)⟩ rfl _ _ dX2_makeDoor_39
        ·
          have c_26 := bnf c_26
          have c_26 := of_decide_eq_true c_26
          refine r_iload hc dX2_makeDoor_29 rfl ?_
          refine cl_X2_78 (As := [.int (zI s)]) hc (c_X9_isRow (x := s) (by omega)) rfl ⟨by decide, by decide⟩ ⟨rfl, rfl⟩ ⟨by decide, by decide⟩ rfl (Nat.le_of_ble_eq_true rfl) dX2_makeDoor_31 (fun r u hp => ?_)
          obtain ⟨rfl, hu⟩ := hp
          rw [hu]
          refine r_if_ne (tgt := 40) hc dX2_makeDoor_34 (by decide) (bI_0 _) (fun c_34 => ?_) (fun c_34 => ?_)
          ·
            have c_34 := bnf c_34
            have c_34 := of_decide_eq_true c_34
            obtain ⟨A, rfl⟩ := Int.eq_ofNat_of_zero_le (show 0 ≤ a by omega)
            rw [← nz A]
            obtain ⟨B, rfl⟩ := Int.eq_ofNat_of_zero_le (show 0 ≤ b by omega)
            rw [← nz B]
            obtain ⟨F, rfl⟩ := Int.eq_ofNat_of_zero_le (show 0 ≤ f by omega)
            rw [← nz F]
            obtain ⟨S, rfl⟩ := Int.eq_ofNat_of_zero_le (show 0 ≤ s by omega)
            rw [← nz S]
            have hlw := lockW_le F S
            refine r_aload_n hc dX2_makeDoor_40 rfl ?_
            refine gf_X2_36 (x := nI (v 4)) hc (HS0 hH) (HV4 hV) dX2_makeDoor_41 ?_
            refine r_bipush (v := nI 10) hc dX2_makeDoor_44 rfl ?_
            refine r_icmp_lt (tgt := 52) hc dX2_makeDoor_46 (by decide) (lt_NN (by omega) (by omega)) (fun c_46 => ?_) (fun c_46 => ?_)
            ·
              refine r_iload_n hc dX2_makeDoor_52 rfl ?_
              refine r_iload hc dX2_makeDoor_53 rfl ?_
              refine cl_X2_83 (As := [.int (nI F), .int (nI S)]) hc (c_X9_lockWeight (f := F) (s := S) (by omega) (by omega)) rfl ⟨by decide, by decide⟩ ⟨rfl, rfl⟩ ⟨by decide, by decide⟩ rfl (Nat.le_of_ble_eq_true rfl) dX2_makeDoor_55 (fun r u hp => ?_)
              obtain ⟨rfl, hu⟩ := hp
              rw [hu]
              refine r_istore (ls' := [(5, .int (nI (lockW F S))), (0, .ref h), (1, .int (nI A)), (2, .int (nI B)), (3, .int (nI F)), (4, .int (nI S))]) hc dX2_makeDoor_58 (by decide) rfl ?_
              refine r_iload hc dX2_makeDoor_60 rfl ?_
              refine r_aload_n hc dX2_makeDoor_62 rfl ?_
              refine gf_X2_59 (x := nI (v 7)) hc (HS0 hH) (HV8 hV) dX2_makeDoor_63 ?_
              refine r_icmp_le (tgt := 72) hc dX2_makeDoor_66 (by decide) (le_NN (by omega) (by omega)) (fun c_66 => ?_) (fun c_66 => ?_)
              ·
                refine r_aload_n hc dX2_makeDoor_72 rfl ?_
                refine r_dup hc dX2_makeDoor_73 rfl ?_
                refine gf_X2_59 (x := nI (v 7)) hc (HS0 hH) (HV8 hV) dX2_makeDoor_74 ?_
                refine r_iload hc dX2_makeDoor_77 rfl ?_
                refine r_isub (v := nI (v 7 - (lockW F S))) hc dX2_makeDoor_79 (sb_N _ _ (by omega)) ?_
                refine pf_X2_59 hc (HS0 hH) dX2_makeDoor_80 ?_
                generalize hσ1 : s2 σ h 8 (nI (v 7 - (lockW F S))) = σ1
                have hV : HV σ1 h (va_up v 7 (v 7 - (lockW F S))) := by rw [← hσ1]; exact hV.sca 8 7 _ (by decide) (by omega) (by omega) (by omega)
                refine r_aload_n hc dX2_makeDoor_83 rfl ?_
                refine gf_X2_17 (q := h + 2) hc (HS0 hH) (HR0 hH 1 2 (by decide)) dX2_makeDoor_84 ?_
                refine r_aload_n hc dX2_makeDoor_87 rfl ?_
                refine gf_X2_36 (x := nI (v 4)) hc (HS0 hH) ((HV4 hV).trans (congrArg nI (by rw [va_up_off (by omega)]))) dX2_makeDoor_88 ?_
                refine al_3 (r := h + 8 + (v 4)) (j := v 4) hc (HSa hH 2 _ rfl) rfl (by omega) (by decide) (HRd hH (by omega)) dX2_makeDoor_91 ?_
                refine r_iload_n hc dX2_makeDoor_92 rfl ?_
                refine r_iload_n hc dX2_makeDoor_93 rfl ?_
                refine r_iload_n hc dX2_makeDoor_94 rfl ?_
                refine r_iload hc dX2_makeDoor_95 rfl ?_
                refine cl_X2_87 (As := [.int (nI A), .int (nI B), .int (nI F), .int (nI S)]) hc (c_X0_build (a := h + 8 + (v 4)) (S := (z, sh, σ1, ρ)) (HSd hH (by omega))) (HSd hH (by omega)) rfl ⟨by decide, by decide⟩ ⟨rfl, rfl⟩ ⟨by decide, by decide⟩ rfl (Nat.le_of_ble_eq_true rfl) dX2_makeDoor_97 (fun u hp => ?_)
                subst hp
                generalize hσ2 : s2 σ1 (h + 8 + (v 4)) 0 (nI A) = σ2
                have gσ2 : σ2 (h + 8 + (v 4)) 0 = nI A := by rw [← hσ2]; exact s2_same _ _ _ _
                have hV : HV σ2 h (va_up v 7 (v 7 - (lockW F S))) := by rw [← hσ2]; exact hV.dead (by rw [va_up_off (by omega)]; omega) (by rw [va_up_off (by omega)]; omega) (Or.inl ⟨_, by rw [va_up_off (by omega)]; omega, by omega, rfl⟩)
                generalize hσ3 : s2 σ2 (h + 8 + (v 4)) 1 (nI B) = σ3
                have gσ3 : σ3 (h + 8 + (v 4)) 1 = nI B := by rw [← hσ3]; exact s2_same _ _ _ _
                have hV : HV σ3 h (va_up v 7 (v 7 - (lockW F S))) := by rw [← hσ3]; exact hV.dead (by rw [va_up_off (by omega)]; omega) (by rw [va_up_off (by omega)]; omega) (Or.inl ⟨_, by rw [va_up_off (by omega)]; omega, by omega, rfl⟩)
                have gσ2 : σ3 (h + 8 + (v 4)) 0 = nI A := by rw [← hσ3]; exact s2_keep gσ2 (by omega)
                generalize hσ4 : s2 σ3 (h + 8 + (v 4)) 2 (nI F) = σ4
                have gσ4 : σ4 (h + 8 + (v 4)) 2 = nI F := by rw [← hσ4]; exact s2_same _ _ _ _
                have hV : HV σ4 h (va_up v 7 (v 7 - (lockW F S))) := by rw [← hσ4]; exact hV.dead (by rw [va_up_off (by omega)]; omega) (by rw [va_up_off (by omega)]; omega) (Or.inl ⟨_, by rw [va_up_off (by omega)]; omega, by omega, rfl⟩)
                have gσ2 : σ4 (h + 8 + (v 4)) 0 = nI A := by rw [← hσ4]; exact s2_keep gσ2 (by omega)
                have gσ3 : σ4 (h + 8 + (v 4)) 1 = nI B := by rw [← hσ4]; exact s2_keep gσ3 (by omega)
                generalize hσ5 : s2 σ4 (h + 8 + (v 4)) 3 (nI S) = σ5
                have gσ5 : σ5 (h + 8 + (v 4)) 3 = nI S := by rw [← hσ5]; exact s2_same _ _ _ _
                have hV : HV σ5 h (va_up v 7 (v 7 - (lockW F S))) := by rw [← hσ5]; exact hV.dead (by rw [va_up_off (by omega)]; omega) (by rw [va_up_off (by omega)]; omega) (Or.inl ⟨_, by rw [va_up_off (by omega)]; omega, by omega, rfl⟩)
                have gσ2 : σ5 (h + 8 + (v 4)) 0 = nI A := by rw [← hσ5]; exact s2_keep gσ2 (by omega)
                have gσ3 : σ5 (h + 8 + (v 4)) 1 = nI B := by rw [← hσ5]; exact s2_keep gσ3 (by omega)
                have gσ4 : σ5 (h + 8 + (v 4)) 2 = nI F := by rw [← hσ5]; exact s2_keep gσ4 (by omega)
                generalize hσ6 : s2 σ5 (h + 8 + (v 4)) 4 (nI 0) = σ6
                have gσ6 : σ6 (h + 8 + (v 4)) 4 = nI 0 := by rw [← hσ6]; exact s2_same _ _ _ _
                have hV : HV σ6 h (va_up v 7 (v 7 - (lockW F S))) := by rw [← hσ6]; exact hV.dead (by rw [va_up_off (by omega)]; omega) (by rw [va_up_off (by omega)]; omega) (Or.inl ⟨_, by rw [va_up_off (by omega)]; omega, by omega, rfl⟩)
                have gσ2 : σ6 (h + 8 + (v 4)) 0 = nI A := by rw [← hσ6]; exact s2_keep gσ2 (by omega)
                have gσ3 : σ6 (h + 8 + (v 4)) 1 = nI B := by rw [← hσ6]; exact s2_keep gσ3 (by omega)
                have gσ4 : σ6 (h + 8 + (v 4)) 2 = nI F := by rw [← hσ6]; exact s2_keep gσ4 (by omega)
                have gσ5 : σ6 (h + 8 + (v 4)) 3 = nI S := by rw [← hσ6]; exact s2_keep gσ5 (by omega)
                refine r_aload_n hc dX2_makeDoor_100 rfl ?_
                refine r_dup hc dX2_makeDoor_101 rfl ?_
                refine gf_X2_36 (x := nI (v 4)) hc (HS0 hH) ((HV4 hV).trans (congrArg nI (by rw [va_up_off (by omega)]))) dX2_makeDoor_102 ?_
                refine r_iconst (v := nI 1) hc dX2_makeDoor_105 rfl ?_
                refine r_iadd (v := nI (v 4 + 1)) hc dX2_makeDoor_106 (ad_NN _ _) ?_
                refine pf_X2_36 hc (HS0 hH) dX2_makeDoor_107 ?_
                generalize hσ7 : s2 σ6 h 4 (nI (v 4 + 1)) = σ7
                have hV : HV σ7 h (va_up (va_up (va_up (va_up (va_up (va_up v 7 (v 7 - (lockW F S))) (20 + 6 * (v 4)) A) (20 + 6 * (v 4) + 1) B) (20 + 6 * (v 4) + 2) F) (20 + 6 * (v 4) + 3) S) 4 (v 4 + 1)) := by rw [← hσ7]; exact HV.incDx hV (by rw [va_up_off (by omega)]) gσ2 gσ3 gσ4 gσ5 (gσ6.trans (congrArg nI (by rw [va_up_off (by omega)]; exact (htc _ (by omega) (by omega)).symm))) (by rw [va_up_off (by omega)]; omega) (by rw [va_up_off (by omega)]; omega) (by rw [va_up_off (by omega)]; omega)
                have gσ2 : σ7 (h + 8 + (v 4)) 0 = nI A := by rw [← hσ7]; exact s2_keep gσ2 (by omega)
                have gσ3 : σ7 (h + 8 + (v 4)) 1 = nI B := by rw [← hσ7]; exact s2_keep gσ3 (by omega)
                have gσ4 : σ7 (h + 8 + (v 4)) 2 = nI F := by rw [← hσ7]; exact s2_keep gσ4 (by omega)
                have gσ5 : σ7 (h + 8 + (v 4)) 3 = nI S := by rw [← hσ7]; exact s2_keep gσ5 (by omega)
                have gσ6 : σ7 (h + 8 + (v 4)) 4 = nI 0 := by rw [← hσ7]; exact s2_keep gσ6 (by omega)
                refine r_aload_n hc dX2_makeDoor_110 rfl ?_
                refine gf_X2_36 (x := nI (v 4 + 1)) hc (HS0 hH) ((HV4 hV).trans (congrArg nI (by rw [va_up_at]))) dX2_makeDoor_111 ?_
                refine r_iconst (v := nI 1) hc dX2_makeDoor_114 rfl ?_
                refine r_isub (v := nI (v 4)) hc dX2_makeDoor_115 (sb_N _ _ (by omega)) ?_
                have hE : sDoor v (A : Int) (B : Int) (F : Int) (S : Int) = (((v 4 : Nat) : Int), rowD v A B F S) := by unfold sDoor; (try simp only [Int.toNat_natCast]); rw [if_pos (by omega), if_pos (by omega), if_neg (by omega)]
                exact hR _ _ ⟨_, rfl, by rw [hE]; exact nz _, by rw [hE]; exact hV.ext (fun j => by unfold rowD; simp only [va_up]; (repeat' split) <;> first | rfl | omega), (fun q hq => by rw [← hσ7, s2_ne (show q ≠ h by omega), ← hσ6, s2_ne (show q ≠ h + 8 + (v 4) by omega), ← hσ5, s2_ne (show q ≠ h + 8 + (v 4) by omega), ← hσ4, s2_ne (show q ≠ h + 8 + (v 4) by omega), ← hσ3, s2_ne (show q ≠ h + 8 + (v 4) by omega), ← hσ2, s2_ne (show q ≠ h + 8 + (v 4) by omega), ← hσ1, s2_ne (show q ≠ h by omega)])⟩ rfl _ _ dX2_makeDoor_116
              ·
                refine r_bipush (v := zI (-5)) hc dX2_makeDoor_69 rfl ?_
                have hE : sDoor v (A : Int) (B : Int) (F : Int) (S : Int) = (-5, v) := by unfold sDoor; (try simp only [Int.toNat_natCast]); rw [if_pos (by omega), if_pos (by omega), if_pos (by omega)]
                exact hR _ _ ⟨_, rfl, by rw [hE], by rw [hE]; exact hV, (fun _ _ => rfl)⟩ rfl _ _ dX2_makeDoor_71
            ·
              refine r_bipush (v := zI (-4)) hc dX2_makeDoor_49 rfl ?_
              have hE : sDoor v (A : Int) (B : Int) (F : Int) (S : Int) = (-4, v) := by unfold sDoor; (try simp only [Int.toNat_natCast]); rw [if_pos (by omega), if_neg (by omega)]
              exact hR _ _ ⟨_, rfl, by rw [hE], by rw [hE]; exact hV, (fun _ _ => rfl)⟩ rfl _ _ dX2_makeDoor_51
          ·
            have c_34 := of_decide_eq_false c_34
            refine r_bipush (v := zI (-2)) hc dX2_makeDoor_37 rfl ?_
            have hE : sDoor v a b f s = (-2, v) := by unfold sDoor; (try simp only [Int.toNat_natCast]); rw [if_neg (by omega)]
            exact hR _ _ ⟨_, rfl, by rw [hE], by rw [hE]; exact hV, (fun _ _ => rfl)⟩ rfl _ _ dX2_makeDoor_39
      ·
        refine r_bipush (v := zI (-2)) hc dX2_makeDoor_19 rfl ?_
        have hE : sDoor v a b f s = (-2, v) := by unfold sDoor; (try simp only [Int.toNat_natCast]); rw [if_neg (by omega)]
        exact hR _ _ ⟨_, rfl, by rw [hE], by rw [hE]; exact hV, (fun _ _ => rfl)⟩ rfl _ _ dX2_makeDoor_21
set_option maxRecDepth 100000 in
set_option maxHeartbeats 4000000 in
theorem c_X2_cutAnew {Ω : OmT} {z : Nat} {sh : Nat → Option Kd} {σ : Nat → Nat → Int32} {ρ : Nat → Nat → Option Nat} {h : Nat} {v : Nat → Nat} (hH : HSh sh ρ h) (hV : HV σ h v) (hok : okR v) (hbx : v 7 ≤ 1000000000) {d f s : Int} (hd0 : -2147483648 ≤ d ∧ d < 2147483648) (hf0 : -2147483648 ≤ f ∧ f < 2147483648) (hs0 : -2147483648 ≤ s ∧ s < 2147483648) : CtI Ω yX2_cutAnew cX2_cutAnew 7 .int rm_X2_cutAnew [.ref h, .int (zI d), .int (zI f), .int (zI s)] (z, sh, σ, ρ) (HPost z sh σ ρ h (sCut v d f s)) := by
  have hok1 := hok
  obtain ⟨⟨h01, h02⟩, hl1, ⟨h21, h22⟩, h3, h4, h5, h9, hdo, hke, hpn, hpd, htc⟩ := hok1
  have hdr : ∀ d, d < v 4 → v (20 + 6 * d + 2) < 10000 ∧ v (20 + 6 * d + 3) < 10000 := fun d hd => ⟨(hdo d hd).2.2.1, (hdo d hd).2.2.2⟩
  have hcu : ∀ k, k < v 5 → v (80 + 4 * k) < 10000 := fun k hk => (hke k hk).1
  have hwh : ∀ k, k < v 5 → v (80 + 4 * k + 2) ≤ 9 := fun k hk => (hke k hk).2.2
  have hky : ∀ k, k < v 5 → v (80 + 4 * k) < 10000 ∧ v (80 + 4 * k + 2) ≤ 9 ∧ 40 ≤ v (80 + 4 * k + 1) ∧ v (80 + 4 * k + 1) ≤ 90 := fun k hk => ⟨(hke k hk).1, (hke k hk).2.2, (hke k hk).2.1⟩
  have hpl : ∀ p, p < v 9 → v (150 + 3 * p) < 10 := fun p hp => by have := (hpn p hp).1; omega
  refine CtI.enter (by decide) (Nat.le_of_ble_eq_true rfl) (fun Φ hc hR => ?_)
  show Vw Ω Φ (z, sh, σ, ρ) (0, 0) 0 [(0, .ref h), (1, .int (zI d)), (2, .int (zI f)), (3, .int (zI s))] []
  refine r_aload_n hc dX2_cutAnew_0 rfl ?_
  refine r_iload_n hc dX2_cutAnew_1 rfl ?_
  refine cl_X2_91 (As := [.int (zI d)]) hc (c_X2_hasDoor hH hV (x := d) (by omega) (by omega)) (HS0 hH) rfl ⟨by decide, by decide⟩ ⟨rfl, rfl⟩ ⟨by decide, by decide⟩ rfl (Nat.le_of_ble_eq_true rfl) dX2_cutAnew_2 (fun r u hp => ?_)
  obtain ⟨rfl, hu⟩ := hp
  rw [hu]
  refine r_if_ne (tgt := 10) hc dX2_cutAnew_5 (by decide) (bI_0 _) (fun c_5 => ?_) (fun c_5 => ?_)
  ·
    have c_5 := bnf c_5
    have c_5 := of_decide_eq_true c_5
    refine r_iload_n hc dX2_cutAnew_10 rfl ?_
    refine cl_X2_78 (As := [.int (zI f)]) hc (c_X9_isRow (x := f) (by omega)) rfl ⟨by decide, by decide⟩ ⟨rfl, rfl⟩ ⟨by decide, by decide⟩ rfl (Nat.le_of_ble_eq_true rfl) dX2_cutAnew_11 (fun r u hp => ?_)
    obtain ⟨rfl, hu⟩ := hp
    rw [hu]
    refine r_if_eq (tgt := 24) hc dX2_cutAnew_14 (by decide) (bI_0 _) (fun c_14 => ?_) (fun c_14 => ?_)
    ·
      have c_14 := of_decide_eq_false c_14
      refine r_bipush (v := zI (-2)) hc dX2_cutAnew_24 rfl ?_
      have hE : sCut v d f s = (-2, v) := by unfold sCut; (try simp only [Int.toNat_natCast]); rw [if_pos (by omega), if_neg (by omega)]
      exact hR _ _ ⟨_, rfl, by rw [hE], by rw [hE]; exact hV, (fun _ _ => rfl)⟩ rfl _ _ dX2_cutAnew_26
    ·
      have c_14 := bnf c_14
      have c_14 := of_decide_eq_true c_14
      refine r_iload_n hc dX2_cutAnew_17 rfl ?_
      refine cl_X2_78 (As := [.int (zI s)]) hc (c_X9_isRow (x := s) (by omega)) rfl ⟨by decide, by decide⟩ ⟨rfl, rfl⟩ ⟨by decide, by decide⟩ rfl (Nat.le_of_ble_eq_true rfl) dX2_cutAnew_18 (fun r u hp => ?_)
      obtain ⟨rfl, hu⟩ := hp
      rw [hu]
      refine r_if_ne (tgt := 27) hc dX2_cutAnew_21 (by decide) (bI_0 _) (fun c_21 => ?_) (fun c_21 => ?_)
      ·
        have c_21 := bnf c_21
        have c_21 := of_decide_eq_true c_21
        obtain ⟨D, rfl⟩ := Int.eq_ofNat_of_zero_le (show 0 ≤ d by omega)
        rw [← nz D]
        obtain ⟨F, rfl⟩ := Int.eq_ofNat_of_zero_le (show 0 ≤ f by omega)
        rw [← nz F]
        obtain ⟨S, rfl⟩ := Int.eq_ofNat_of_zero_le (show 0 ≤ s by omega)
        rw [← nz S]
        have hlw := lockW_le F S
        have hlwt : lockWt v D ≤ 44 := lockW_le _ _
        have hll : lossW (lockWt v D) (v 1) ≤ lockWt v D := lossW_le (by omega) (by omega)
        have hdd := hdr D (by omega)
        refine r_aload_n hc dX2_cutAnew_27 rfl ?_
        refine gf_X2_17 (q := h + 2) hc (HS0 hH) (HR0 hH 1 2 (by decide)) dX2_cutAnew_28 ?_
        refine r_iload_n hc dX2_cutAnew_31 rfl ?_
        refine al_3 (r := h + 8 + D) (j := D) hc (HSa hH 2 _ rfl) rfl (by omega) (by decide) (HRd hH (by omega)) dX2_cutAnew_32 ?_
        refine r_astore (ls' := [(4, .ref (h + 8 + D)), (0, .ref h), (1, .int (nI D)), (2, .int (nI F)), (3, .int (nI S))]) hc dX2_cutAnew_33 (by decide) rfl ?_
        refine r_aload hc dX2_cutAnew_35 rfl ?_
        refine cl_X2_94 (As := []) hc (show CtI Ω yX0_weight cX0_weight 1 .int rm_X0_weight [.ref (h + 8 + D)] (z, sh, σ, ρ) (fun r u => r = nI (lockWt v D) ∧ u = (z, sh, σ, ρ)) from c_X0_weight (f := v (20 + 6 * D + 2)) (s := v (20 + 6 * D + 3)) (HSd hH (by omega)) (HVd hV (by omega) 2 (by decide)) (HVd hV (by omega) 3 (by decide)) (by omega) (by omega)) (HSd hH (by omega)) rfl ⟨by decide, by decide⟩ ⟨rfl, rfl⟩ ⟨by decide, by decide⟩ rfl (Nat.le_of_ble_eq_true rfl) dX2_cutAnew_37 (fun r u hp => ?_)
        obtain ⟨rfl, hu⟩ := hp
        rw [hu]
        refine r_aload_n hc dX2_cutAnew_40 rfl ?_
        refine gf_X2_9 (q := h + 1) hc (HS0 hH) (HR0 hH 0 1 (by decide)) dX2_cutAnew_41 ?_
        refine r_iconst (v := nI 1) hc dX2_cutAnew_44 rfl ?_
        refine r_iald (x := nI (v 1)) (j := 1) hc (HSa hH 1 _ rfl) rfl (by omega) (by decide) (HVs hV (by omega)) dX2_cutAnew_45 ?_
        refine cl_X2_98 (As := [.int (nI (lockWt v D)), .int (nI (v 1))]) hc (c_X9_lossOf (a := lockWt v D) (b := v 1) (by omega) (by omega)) rfl ⟨by decide, by decide⟩ ⟨rfl, rfl⟩ ⟨by decide, by decide⟩ rfl (Nat.le_of_ble_eq_true rfl) dX2_cutAnew_46 (fun r u hp => ?_)
        obtain ⟨rfl, hu⟩ := hp
        rw [hu]
        refine r_istore (ls' := [(5, .int (nI (lossW (lockWt v D) (v 1)))), (4, .ref (h + 8 + D)), (0, .ref h), (1, .int (nI D)), (2, .int (nI F)), (3, .int (nI S))]) hc dX2_cutAnew_49 (by decide) rfl ?_
        refine r_aload_n hc dX2_cutAnew_51 rfl ?_
        refine gf_X2_59 (x := nI (v 7)) hc (HS0 hH) (HV8 hV) dX2_cutAnew_52 ?_
        refine r_aload hc dX2_cutAnew_55 rfl ?_
        refine cl_X2_94 (As := []) hc (show CtI Ω yX0_weight cX0_weight 1 .int rm_X0_weight [.ref (h + 8 + D)] (z, sh, σ, ρ) (fun r u => r = nI (lockWt v D) ∧ u = (z, sh, σ, ρ)) from c_X0_weight (f := v (20 + 6 * D + 2)) (s := v (20 + 6 * D + 3)) (HSd hH (by omega)) (HVd hV (by omega) 2 (by decide)) (HVd hV (by omega) 3 (by decide)) (by omega) (by omega)) (HSd hH (by omega)) rfl ⟨by decide, by decide⟩ ⟨rfl, rfl⟩ ⟨by decide, by decide⟩ rfl (Nat.le_of_ble_eq_true rfl) dX2_cutAnew_57 (fun r u hp => ?_)
        obtain ⟨rfl, hu⟩ := hp
        rw [hu]
        refine r_iadd (v := nI (v 7 + (lockWt v D))) hc dX2_cutAnew_60 (ad_NN _ _) ?_
        refine r_iload hc dX2_cutAnew_61 rfl ?_
        refine r_isub (v := nI (v 7 + (lockWt v D) - (lossW (lockWt v D) (v 1)))) hc dX2_cutAnew_63 (sb_N _ _ (by omega)) ?_
        refine r_iload_n hc dX2_cutAnew_64 rfl ?_
        refine r_iload_n hc dX2_cutAnew_65 rfl ?_
        refine cl_X2_83 (As := [.int (nI F), .int (nI S)]) hc (c_X9_lockWeight (f := F) (s := S) (by omega) (by omega)) rfl ⟨by decide, by decide⟩ ⟨rfl, rfl⟩ ⟨by decide, by decide⟩ rfl (Nat.le_of_ble_eq_true rfl) dX2_cutAnew_66 (fun r u hp => ?_)
        obtain ⟨rfl, hu⟩ := hp
        rw [hu]
        refine r_isub (v := zI (((v 7 + (lockWt v D) - (lossW (lockWt v D) (v 1)) : Nat) : Int) - ((lockW F S : Nat) : Int))) hc dX2_cutAnew_69 (sb_NN _ _) ?_
        refine r_istore (ls' := [(6, .int (zI (((v 7 + (lockWt v D) - (lossW (lockWt v D) (v 1)) : Nat) : Int) - ((lockW F S : Nat) : Int)))), (5, .int (nI (lossW (lockWt v D) (v 1)))), (4, .ref (h + 8 + D)), (0, .ref h), (1, .int (nI D)), (2, .int (nI F)), (3, .int (nI S))]) hc dX2_cutAnew_70 (by decide) rfl ?_
        refine r_iload hc dX2_cutAnew_72 rfl ?_
        refine r_if_ge (tgt := 80) hc dX2_cutAnew_74 (by decide) (ge0_Z (by omega)) (fun c_74 => ?_) (fun c_74 => ?_)
        ·
          rw [zn (show ((v 7 + (lockWt v D) - (lossW (lockWt v D) (v 1)) : Nat) : Int) - ((lockW F S : Nat) : Int) = ((v 7 + givW v D - lockW F S : Nat) : Int) by unfold givW; omega)]
          refine r_aload_n hc dX2_cutAnew_80 rfl ?_
          refine r_iload hc dX2_cutAnew_81 rfl ?_
          refine pf_X2_59 hc (HS0 hH) dX2_cutAnew_83 ?_
          generalize hσ1 : s2 σ h 8 (nI (v 7 + givW v D - lockW F S)) = σ1
          have hV : HV σ1 h (va_up v 7 (v 7 + givW v D - lockW F S)) := by rw [← hσ1]; exact hV.sca 8 7 _ (by decide) (by omega) (by omega) (by omega)
          refine r_aload_n hc dX2_cutAnew_86 rfl ?_
          refine r_dup hc dX2_cutAnew_87 rfl ?_
          refine gf_X2_65 (x := nI (v 8)) hc (HS0 hH) ((HV10 hV).trans (congrArg nI (by rw [va_up_off (by omega)]))) dX2_cutAnew_88 ?_
          refine r_iload hc dX2_cutAnew_91 rfl ?_
          refine r_iadd (v := nI (v 8 + (lossW (lockWt v D) (v 1)))) hc dX2_cutAnew_93 (ad_NN _ _) ?_
          refine pf_X2_65 hc (HS0 hH) dX2_cutAnew_94 ?_
          generalize hσ2 : s2 σ1 h 10 (nI (v 8 + (lossW (lockWt v D) (v 1)))) = σ2
          have hV : HV σ2 h (va_up (va_up v 7 (v 7 + givW v D - lockW F S)) 8 (v 8 + (lossW (lockWt v D) (v 1)))) := by rw [← hσ2]; exact hV.sca 10 8 _ (by decide) (by rw [va_up_off (by omega)]; omega) (by rw [va_up_off (by omega)]; omega) (by rw [va_up_off (by omega)]; omega)
          refine r_aload hc dX2_cutAnew_97 rfl ?_
          refine r_iload_n hc dX2_cutAnew_99 rfl ?_
          refine pf_X2_101 hc (HSd hH (by omega)) dX2_cutAnew_100 ?_
          generalize hσ3 : s2 σ2 (h + 8 + D) 2 (nI F) = σ3
          have hV : HV σ3 h (va_up (va_up (va_up v 7 (v 7 + givW v D - lockW F S)) 8 (v 8 + (lossW (lockWt v D) (v 1)))) (20 + 6 * D + 2) F) := by rw [← hσ3]; exact hV.door D 2 _ (by rw [va_up_off (by omega), va_up_off (by omega)]; omega) (by decide) (by rw [va_up_off (by omega), va_up_off (by omega)]; omega) (by rw [va_up_off (by omega), va_up_off (by omega)]; omega) (by rw [va_up_off (by omega), va_up_off (by omega)]; omega)
          refine r_aload hc dX2_cutAnew_103 rfl ?_
          refine r_iload_n hc dX2_cutAnew_105 rfl ?_
          refine pf_X2_104 hc (HSd hH (by omega)) dX2_cutAnew_106 ?_
          generalize hσ4 : s2 σ3 (h + 8 + D) 3 (nI S) = σ4
          have hV : HV σ4 h (va_up (va_up (va_up (va_up v 7 (v 7 + givW v D - lockW F S)) 8 (v 8 + (lossW (lockWt v D) (v 1)))) (20 + 6 * D + 2) F) (20 + 6 * D + 3) S) := by rw [← hσ4]; exact hV.door D 3 _ (by rw [va_up_off (by omega), va_up_off (by omega), va_up_off (by omega)]; omega) (by decide) (by rw [va_up_off (by omega), va_up_off (by omega), va_up_off (by omega)]; omega) (by rw [va_up_off (by omega), va_up_off (by omega), va_up_off (by omega)]; omega) (by rw [va_up_off (by omega), va_up_off (by omega), va_up_off (by omega)]; omega)
          refine r_aload hc dX2_cutAnew_109 rfl ?_
          refine r_dup hc dX2_cutAnew_111 rfl ?_
          refine gf_X2_107 (x := nI (v (20 + 6 * D + 4))) hc (HSd hH (by omega)) ((HVd hV (by rw [va_up_off (by omega), va_up_off (by omega), va_up_off (by omega), va_up_off (by omega)]; omega) 4 (by decide)).trans (congrArg nI (by rw [va_up_off (by omega), va_up_off (by omega), va_up_off (by omega), va_up_off (by omega)]))) dX2_cutAnew_112 ?_
          refine r_iconst (v := nI 1) hc dX2_cutAnew_115 rfl ?_
          refine r_iadd (v := nI (v (20 + 6 * D + 4) + 1)) hc dX2_cutAnew_116 (ad_NN _ _) ?_
          refine pf_X2_107 hc (HSd hH (by omega)) dX2_cutAnew_117 ?_
          generalize hσ5 : s2 σ4 (h + 8 + D) 4 (nI (v (20 + 6 * D + 4) + 1)) = σ5
          have hV : HV σ5 h (va_up (va_up (va_up (va_up (va_up v 7 (v 7 + givW v D - lockW F S)) 8 (v 8 + (lossW (lockWt v D) (v 1)))) (20 + 6 * D + 2) F) (20 + 6 * D + 3) S) (20 + 6 * D + 4) (v (20 + 6 * D + 4) + 1)) := by rw [← hσ5]; exact hV.door D 4 _ (by rw [va_up_off (by omega), va_up_off (by omega), va_up_off (by omega), va_up_off (by omega)]; omega) (by decide) (by rw [va_up_off (by omega), va_up_off (by omega), va_up_off (by omega), va_up_off (by omega)]; omega) (by rw [va_up_off (by omega), va_up_off (by omega), va_up_off (by omega), va_up_off (by omega)]; omega) (by rw [va_up_off (by omega), va_up_off (by omega), va_up_off (by omega), va_up_off (by omega)]; omega)
          refine r_aload_n hc dX2_cutAnew_120 rfl ?_
          refine gf_X2_59 (x := nI (v 7 + givW v D - lockW F S)) hc (HS0 hH) ((HV8 hV).trans (congrArg nI (by rw [va_up_off (by omega), va_up_off (by omega), va_up_off (by omega), va_up_off (by omega), va_up_at]))) dX2_cutAnew_121 ?_
          have hE : sCut v (D : Int) (F : Int) (S : Int) = (((v 7 + givW v D - lockW F S : Nat) : Int), rowC v D F S) := by unfold sCut; (try simp only [Int.toNat_natCast]); rw [if_pos (by omega), if_pos (by omega), if_neg (by unfold givW; omega)]
          exact hR _ _ ⟨_, rfl, by rw [hE]; exact nz _, by rw [hE]; exact hV.ext (fun j => by unfold rowC; simp only [va_up]; (repeat' split) <;> first | rfl | omega), (fun q hq => by rw [← hσ5, s2_ne (show q ≠ h + 8 + D by omega), ← hσ4, s2_ne (show q ≠ h + 8 + D by omega), ← hσ3, s2_ne (show q ≠ h + 8 + D by omega), ← hσ2, s2_ne (show q ≠ h by omega), ← hσ1, s2_ne (show q ≠ h by omega)])⟩ rfl _ _ dX2_cutAnew_124
        ·
          refine r_bipush (v := zI (-5)) hc dX2_cutAnew_77 rfl ?_
          have hE : sCut v (D : Int) (F : Int) (S : Int) = (-5, v) := by unfold sCut; (try simp only [Int.toNat_natCast]); rw [if_pos (by omega), if_pos (by omega), if_pos (by unfold givW; omega)]
          exact hR _ _ ⟨_, rfl, by rw [hE], by rw [hE]; exact hV, (fun _ _ => rfl)⟩ rfl _ _ dX2_cutAnew_79
      ·
        have c_21 := of_decide_eq_false c_21
        refine r_bipush (v := zI (-2)) hc dX2_cutAnew_24 rfl ?_
        have hE : sCut v d f s = (-2, v) := by unfold sCut; (try simp only [Int.toNat_natCast]); rw [if_pos (by omega), if_neg (by omega)]
        exact hR _ _ ⟨_, rfl, by rw [hE], by rw [hE]; exact hV, (fun _ _ => rfl)⟩ rfl _ _ dX2_cutAnew_26
  ·
    have c_5 := of_decide_eq_false c_5
    refine r_iconst (v := zI (-1)) hc dX2_cutAnew_8 rfl ?_
    have hE : sCut v d f s = (-1, v) := by unfold sCut; (try simp only [Int.toNat_natCast]); rw [if_neg (by omega)]
    exact hR _ _ ⟨_, rfl, by rw [hE], by rw [hE]; exact hV, (fun _ _ => rfl)⟩ rfl _ _ dX2_cutAnew_9
set_option maxRecDepth 100000 in
set_option maxHeartbeats 4000000 in
theorem c_X2_makeKey {Ω : OmT} {z : Nat} {sh : Nat → Option Kd} {σ : Nat → Nat → Int32} {ρ : Nat → Nat → Option Nat} {h : Nat} {v : Nat → Nat} (hH : HSh sh ρ h) (hV : HV σ h v) (hok : okR v) (hbx : v 7 ≤ 1000000000) {c r : Int} (hc0 : -2147483648 ≤ c ∧ c < 2147483648) (hr0 : -2147483648 ≤ r ∧ r < 2147483648) : CtI Ω yX2_makeKey cX2_makeKey 5 .int rm_X2_makeKey [.ref h, .int (zI c), .int (zI r)] (z, sh, σ, ρ) (HPost z sh σ ρ h (sKey v c r)) := by
  have hok1 := hok
  obtain ⟨⟨h01, h02⟩, hl1, ⟨h21, h22⟩, h3, h4, h5, h9, hdo, hke, hpn, hpd, htc⟩ := hok1
  have hdr : ∀ d, d < v 4 → v (20 + 6 * d + 2) < 10000 ∧ v (20 + 6 * d + 3) < 10000 := fun d hd => ⟨(hdo d hd).2.2.1, (hdo d hd).2.2.2⟩
  have hcu : ∀ k, k < v 5 → v (80 + 4 * k) < 10000 := fun k hk => (hke k hk).1
  have hwh : ∀ k, k < v 5 → v (80 + 4 * k + 2) ≤ 9 := fun k hk => (hke k hk).2.2
  have hky : ∀ k, k < v 5 → v (80 + 4 * k) < 10000 ∧ v (80 + 4 * k + 2) ≤ 9 ∧ 40 ≤ v (80 + 4 * k + 1) ∧ v (80 + 4 * k + 1) ≤ 90 := fun k hk => ⟨(hke k hk).1, (hke k hk).2.2, (hke k hk).2.1⟩
  have hpl : ∀ p, p < v 9 → v (150 + 3 * p) < 10 := fun p hp => by have := (hpn p hp).1; omega
  refine CtI.enter (by decide) (Nat.le_of_ble_eq_true rfl) (fun Φ hc hR => ?_)
  show Vw Ω Φ (z, sh, σ, ρ) (0, 0) 0 [(0, .ref h), (1, .int (zI c)), (2, .int (zI r))] []
  refine r_iload_n hc dX2_makeKey_0 rfl ?_
  refine cl_X2_78 (As := [.int (zI c)]) hc (c_X9_isRow (x := c) (by omega)) rfl ⟨by decide, by decide⟩ ⟨rfl, rfl⟩ ⟨by decide, by decide⟩ rfl (Nat.le_of_ble_eq_true rfl) dX2_makeKey_1 (fun r u hp => ?_)
  obtain ⟨rfl, hu⟩ := hp
  rw [hu]
  refine r_if_eq (tgt := 14) hc dX2_makeKey_4 (by decide) (bI_0 _) (fun c_4 => ?_) (fun c_4 => ?_)
  ·
    have c_4 := of_decide_eq_false c_4
    refine r_bipush (v := zI (-2)) hc dX2_makeKey_14 rfl ?_
    have hE : sKey v c r = (-2, v) := by unfold sKey; (try simp only [Int.toNat_natCast]); rw [if_neg (by omega)]
    exact hR _ _ ⟨_, rfl, by rw [hE], by rw [hE]; exact hV, (fun _ _ => rfl)⟩ rfl _ _ dX2_makeKey_16
  ·
    have c_4 := bnf c_4
    have c_4 := of_decide_eq_true c_4
    refine r_iload_n hc dX2_makeKey_7 rfl ?_
    refine cl_X2_74 (As := [.int (zI r)]) hc (c_X2_isRoom (x := r) (by omega)) rfl ⟨by decide, by decide⟩ ⟨rfl, rfl⟩ ⟨by decide, by decide⟩ rfl (Nat.le_of_ble_eq_true rfl) dX2_makeKey_8 (fun r u hp => ?_)
    obtain ⟨rfl, hu⟩ := hp
    rw [hu]
    refine r_if_ne (tgt := 17) hc dX2_makeKey_11 (by decide) (bI_0 _) (fun c_11 => ?_) (fun c_11 => ?_)
    ·
      have c_11 := bnf c_11
      have c_11 := of_decide_eq_true c_11
      obtain ⟨C, rfl⟩ := Int.eq_ofNat_of_zero_le (show 0 ≤ c by omega)
      rw [← nz C]
      obtain ⟨R, rfl⟩ := Int.eq_ofNat_of_zero_le (show 0 ≤ r by omega)
      rw [← nz R]
      have hsd := sumD_le C
      refine r_aload_n hc dX2_makeKey_17 rfl ?_
      refine gf_X2_44 (x := nI (v 5)) hc (HS0 hH) (HV5 hV) dX2_makeKey_18 ?_
      refine r_bipush (v := nI 16) hc dX2_makeKey_21 rfl ?_
      refine r_icmp_lt (tgt := 29) hc dX2_makeKey_23 (by decide) (lt_NN (by omega) (by omega)) (fun c_23 => ?_) (fun c_23 => ?_)
      ·
        refine r_iload_n hc dX2_makeKey_29 rfl ?_
        refine r_aload_n hc dX2_makeKey_30 rfl ?_
        refine gf_X2_9 (q := h + 1) hc (HS0 hH) (HR0 hH 0 1 (by decide)) dX2_makeKey_31 ?_
        refine r_iconst (v := nI 0) hc dX2_makeKey_34 rfl ?_
        refine r_iald (x := nI (v 0)) (j := 0) hc (HSa hH 1 _ rfl) rfl (by omega) (by decide) (HVs hV (by omega)) dX2_makeKey_35 ?_
        refine cl_X2_110 (As := [.int (nI C), .int (nI (v 0))]) hc (c_X9_canBeKey (c := C) (b := v 0) (by omega) (by omega)) rfl ⟨by decide, by decide⟩ ⟨rfl, rfl⟩ ⟨by decide, by decide⟩ rfl (Nat.le_of_ble_eq_true rfl) dX2_makeKey_36 (fun r u hp => ?_)
        obtain ⟨rfl, hu⟩ := hp
        rw [hu]
        refine r_if_ne (tgt := 45) hc dX2_makeKey_39 (by decide) (bI_0 _) (fun c_39 => ?_) (fun c_39 => ?_)
        ·
          have c_39 := bnf c_39
          refine r_iload_n hc dX2_makeKey_45 rfl ?_
          refine cl_X2_114 (As := [.int (nI C)]) hc (c_X9_sumOfDepths (c := C) (by omega)) rfl ⟨by decide, by decide⟩ ⟨rfl, rfl⟩ ⟨by decide, by decide⟩ rfl (Nat.le_of_ble_eq_true rfl) dX2_makeKey_46 (fun r u hp => ?_)
          obtain ⟨rfl, hu⟩ := hp
          rw [hu]
          refine r_istore_n (ls' := [(3, .int (nI (sumD C))), (0, .ref h), (1, .int (nI C)), (2, .int (nI R))]) hc dX2_makeKey_49 (by decide) rfl ?_
          refine r_aload_n hc dX2_makeKey_50 rfl ?_
          refine gf_X2_23 (q := h + 3) hc (HS0 hH) (HR0 hH 2 3 (by decide)) dX2_makeKey_51 ?_
          refine r_aload_n hc dX2_makeKey_54 rfl ?_
          refine gf_X2_44 (x := nI (v 5)) hc (HS0 hH) (HV5 hV) dX2_makeKey_55 ?_
          refine al_5 (r := h + 18 + (v 5)) (j := v 5) hc (HSa hH 3 _ rfl) rfl (by omega) (by decide) (HRk hH (by omega)) dX2_makeKey_58 ?_
          refine r_astore (ls' := [(4, .ref (h + 18 + (v 5))), (3, .int (nI (sumD C))), (0, .ref h), (1, .int (nI C)), (2, .int (nI R))]) hc dX2_makeKey_59 (by decide) rfl ?_
          refine r_aload hc dX2_makeKey_61 rfl ?_
          refine r_iload_n hc dX2_makeKey_63 rfl ?_
          refine pf_X2_118 hc (HSk hH (by omega)) dX2_makeKey_64 ?_
          generalize hσ1 : s2 σ (h + 18 + (v 5)) 0 (nI C) = σ1
          have gσ1 : σ1 (h + 18 + (v 5)) 0 = nI C := by rw [← hσ1]; exact s2_same _ _ _ _
          have hV : HV σ1 h v := by rw [← hσ1]; exact hV.dead (by omega) (by omega) (Or.inr (Or.inl ⟨_, by omega, by omega, rfl⟩))
          refine r_aload hc dX2_makeKey_67 rfl ?_
          refine r_aload_n hc dX2_makeKey_69 rfl ?_
          refine gf_X2_9 (q := h + 1) hc (HS0 hH) (HR0 hH 0 1 (by decide)) dX2_makeKey_70 ?_
          refine r_iconst (v := nI 2) hc dX2_makeKey_73 rfl ?_
          refine r_iald (x := nI (v 2)) (j := 2) hc (HSa hH 1 _ rfl) rfl (by omega) (by decide) (HVs hV (by omega)) dX2_makeKey_74 ?_
          refine r_iload_n hc dX2_makeKey_75 rfl ?_
          refine r_isub (v := nI (v 2 - sumD C)) hc dX2_makeKey_76 (sb_N _ _ (by omega)) ?_
          refine pf_X2_121 hc (HSk hH (by omega)) dX2_makeKey_77 ?_
          generalize hσ2 : s2 σ1 (h + 18 + (v 5)) 1 (nI (v 2 - sumD C)) = σ2
          have gσ2 : σ2 (h + 18 + (v 5)) 1 = nI (v 2 - sumD C) := by rw [← hσ2]; exact s2_same _ _ _ _
          have hV : HV σ2 h v := by rw [← hσ2]; exact hV.dead (by omega) (by omega) (Or.inr (Or.inl ⟨_, by omega, by omega, rfl⟩))
          have gσ1 : σ2 (h + 18 + (v 5)) 0 = nI C := by rw [← hσ2]; exact s2_keep gσ1 (by omega)
          refine r_aload hc dX2_makeKey_80 rfl ?_
          refine r_iload_n hc dX2_makeKey_82 rfl ?_
          refine pf_X2_123 hc (HSk hH (by omega)) dX2_makeKey_83 ?_
          generalize hσ3 : s2 σ2 (h + 18 + (v 5)) 2 (nI R) = σ3
          have gσ3 : σ3 (h + 18 + (v 5)) 2 = nI R := by rw [← hσ3]; exact s2_same _ _ _ _
          have hV : HV σ3 h v := by rw [← hσ3]; exact hV.dead (by omega) (by omega) (Or.inr (Or.inl ⟨_, by omega, by omega, rfl⟩))
          have gσ1 : σ3 (h + 18 + (v 5)) 0 = nI C := by rw [← hσ3]; exact s2_keep gσ1 (by omega)
          have gσ2 : σ3 (h + 18 + (v 5)) 1 = nI (v 2 - sumD C) := by rw [← hσ3]; exact s2_keep gσ2 (by omega)
          refine r_aload_n hc dX2_makeKey_86 rfl ?_
          refine r_dup hc dX2_makeKey_87 rfl ?_
          refine gf_X2_62 (x := nI (v 6)) hc (HS0 hH) (HV9 hV) dX2_makeKey_88 ?_
          refine r_aload_n hc dX2_makeKey_91 rfl ?_
          refine gf_X2_9 (q := h + 1) hc (HS0 hH) (HR0 hH 0 1 (by decide)) dX2_makeKey_92 ?_
          refine r_iconst (v := nI 2) hc dX2_makeKey_95 rfl ?_
          refine r_iald (x := nI (v 2)) (j := 2) hc (HSa hH 1 _ rfl) rfl (by omega) (by decide) (HVs hV (by omega)) dX2_makeKey_96 ?_
          refine r_iadd (v := nI (v 6 + (v 2))) hc dX2_makeKey_97 (ad_NN _ _) ?_
          refine pf_X2_62 hc (HS0 hH) dX2_makeKey_98 ?_
          generalize hσ4 : s2 σ3 h 9 (nI (v 6 + (v 2))) = σ4
          have hV : HV σ4 h (va_up v 6 (v 6 + (v 2))) := by rw [← hσ4]; exact hV.sca 9 6 _ (by decide) (by omega) (by omega) (by omega)
          have gσ1 : σ4 (h + 18 + (v 5)) 0 = nI C := by rw [← hσ4]; exact s2_keep gσ1 (by omega)
          have gσ2 : σ4 (h + 18 + (v 5)) 1 = nI (v 2 - sumD C) := by rw [← hσ4]; exact s2_keep gσ2 (by omega)
          have gσ3 : σ4 (h + 18 + (v 5)) 2 = nI R := by rw [← hσ4]; exact s2_keep gσ3 (by omega)
          refine r_aload_n hc dX2_makeKey_101 rfl ?_
          refine r_dup hc dX2_makeKey_102 rfl ?_
          refine gf_X2_59 (x := nI (v 7)) hc (HS0 hH) ((HV8 hV).trans (congrArg nI (by rw [va_up_off (by omega)]))) dX2_makeKey_103 ?_
          refine r_iload_n hc dX2_makeKey_106 rfl ?_
          refine r_iadd (v := nI (v 7 + (sumD C))) hc dX2_makeKey_107 (ad_NN _ _) ?_
          refine pf_X2_59 hc (HS0 hH) dX2_makeKey_108 ?_
          generalize hσ5 : s2 σ4 h 8 (nI (v 7 + (sumD C))) = σ5
          have hV : HV σ5 h (va_up (va_up v 6 (v 6 + (v 2))) 7 (v 7 + (sumD C))) := by rw [← hσ5]; exact hV.sca 8 7 _ (by decide) (by rw [va_up_off (by omega)]; omega) (by rw [va_up_off (by omega)]; omega) (by rw [va_up_off (by omega)]; omega)
          have gσ1 : σ5 (h + 18 + (v 5)) 0 = nI C := by rw [← hσ5]; exact s2_keep gσ1 (by omega)
          have gσ2 : σ5 (h + 18 + (v 5)) 1 = nI (v 2 - sumD C) := by rw [← hσ5]; exact s2_keep gσ2 (by omega)
          have gσ3 : σ5 (h + 18 + (v 5)) 2 = nI R := by rw [← hσ5]; exact s2_keep gσ3 (by omega)
          refine r_aload_n hc dX2_makeKey_111 rfl ?_
          refine r_dup hc dX2_makeKey_112 rfl ?_
          refine gf_X2_44 (x := nI (v 5)) hc (HS0 hH) ((HV5 hV).trans (congrArg nI (by rw [va_up_off (by omega), va_up_off (by omega)]))) dX2_makeKey_113 ?_
          refine r_iconst (v := nI 1) hc dX2_makeKey_116 rfl ?_
          refine r_iadd (v := nI (v 5 + 1)) hc dX2_makeKey_117 (ad_NN _ _) ?_
          refine pf_X2_44 hc (HS0 hH) dX2_makeKey_118 ?_
          generalize hσ6 : s2 σ5 h 5 (nI (v 5 + 1)) = σ6
          have hV : HV σ6 h (va_up (va_up (va_up (va_up (va_up (va_up v 6 (v 6 + (v 2))) 7 (v 7 + (sumD C))) (80 + 4 * (v 5)) C) (80 + 4 * (v 5) + 1) (v 2)) (80 + 4 * (v 5) + 2) R) 5 (v 5 + 1)) := by rw [← hσ6]; exact HV.incKx hV (by rw [va_up_off (by omega), va_up_off (by omega)]) gσ1 gσ2 gσ3 (by omega) (by rw [va_up_off (by omega), va_up_off (by omega)]; omega) (by rw [va_up_off (by omega), va_up_off (by omega)]; omega) (by rw [va_up_off (by omega), va_up_off (by omega)]; omega)
          have gσ1 : σ6 (h + 18 + (v 5)) 0 = nI C := by rw [← hσ6]; exact s2_keep gσ1 (by omega)
          have gσ2 : σ6 (h + 18 + (v 5)) 1 = nI (v 2 - sumD C) := by rw [← hσ6]; exact s2_keep gσ2 (by omega)
          have gσ3 : σ6 (h + 18 + (v 5)) 2 = nI R := by rw [← hσ6]; exact s2_keep gσ3 (by omega)
          refine r_aload_n hc dX2_makeKey_121 rfl ?_
          refine gf_X2_44 (x := nI (v 5 + 1)) hc (HS0 hH) ((HV5 hV).trans (congrArg nI (by rw [va_up_at]))) dX2_makeKey_122 ?_
          refine r_iconst (v := nI 1) hc dX2_makeKey_125 rfl ?_
          refine r_isub (v := nI (v 5)) hc dX2_makeKey_126 (sb_N _ _ (by omega)) ?_
          have hE : sKey v (C : Int) (R : Int) = (((v 5 : Nat) : Int), rowK v C R) := by unfold sKey; (try simp only [Int.toNat_natCast]); rw [if_pos (by omega), if_pos (by omega), if_pos c_39]
          exact hR _ _ ⟨_, rfl, by rw [hE]; exact nz _, by rw [hE]; exact hV.ext (fun j => by unfold rowK; simp only [va_up]; (repeat' split) <;> first | rfl | omega), (fun q hq => by rw [← hσ6, s2_ne (show q ≠ h by omega), ← hσ5, s2_ne (show q ≠ h by omega), ← hσ4, s2_ne (show q ≠ h by omega), ← hσ3, s2_ne (show q ≠ h + 18 + (v 5) by omega), ← hσ2, s2_ne (show q ≠ h + 18 + (v 5) by omega), ← hσ1, s2_ne (show q ≠ h + 18 + (v 5) by omega)])⟩ rfl _ _ dX2_makeKey_127
        ·
          refine r_bipush (v := zI (-5)) hc dX2_makeKey_42 rfl ?_
          have hE : sKey v (C : Int) (R : Int) = (-5, v) := by unfold sKey; (try simp only [Int.toNat_natCast]); rw [if_pos (by omega), if_pos (by omega), if_neg (by rw [c_39]; decide)]
          exact hR _ _ ⟨_, rfl, by rw [hE], by rw [hE]; exact hV, (fun _ _ => rfl)⟩ rfl _ _ dX2_makeKey_44
      ·
        refine r_bipush (v := zI (-4)) hc dX2_makeKey_26 rfl ?_
        have hE : sKey v (C : Int) (R : Int) = (-4, v) := by unfold sKey; (try simp only [Int.toNat_natCast]); rw [if_pos (by omega), if_neg (by omega)]
        exact hR _ _ ⟨_, rfl, by rw [hE], by rw [hE]; exact hV, (fun _ _ => rfl)⟩ rfl _ _ dX2_makeKey_28
    ·
      have c_11 := of_decide_eq_false c_11
      refine r_bipush (v := zI (-2)) hc dX2_makeKey_14 rfl ?_
      have hE : sKey v c r = (-2, v) := by unfold sKey; (try simp only [Int.toNat_natCast]); rw [if_neg (by omega)]
      exact hR _ _ ⟨_, rfl, by rw [hE], by rw [hE]; exact hV, (fun _ _ => rfl)⟩ rfl _ _ dX2_makeKey_16
set_option maxRecDepth 100000 in
set_option maxHeartbeats 4000000 in
theorem c_X2_meltKey {Ω : OmT} {z : Nat} {sh : Nat → Option Kd} {σ : Nat → Nat → Int32} {ρ : Nat → Nat → Option Nat} {h : Nat} {v : Nat → Nat} (hH : HSh sh ρ h) (hV : HV σ h v) (hok : okR v) (hbx : v 7 ≤ 1000000000) {k : Int} (hk0 : -2147483648 ≤ k ∧ k < 2147483648) : CtI Ω yX2_meltKey cX2_meltKey 4 .int rm_X2_meltKey [.ref h, .int (zI k)] (z, sh, σ, ρ) (HPost z sh σ ρ h (sMelt v k)) := by
  have hok1 := hok
  obtain ⟨⟨h01, h02⟩, hl1, ⟨h21, h22⟩, h3, h4, h5, h9, hdo, hke, hpn, hpd, htc⟩ := hok1
  have hdr : ∀ d, d < v 4 → v (20 + 6 * d + 2) < 10000 ∧ v (20 + 6 * d + 3) < 10000 := fun d hd => ⟨(hdo d hd).2.2.1, (hdo d hd).2.2.2⟩
  have hcu : ∀ k, k < v 5 → v (80 + 4 * k) < 10000 := fun k hk => (hke k hk).1
  have hwh : ∀ k, k < v 5 → v (80 + 4 * k + 2) ≤ 9 := fun k hk => (hke k hk).2.2
  have hky : ∀ k, k < v 5 → v (80 + 4 * k) < 10000 ∧ v (80 + 4 * k + 2) ≤ 9 ∧ 40 ≤ v (80 + 4 * k + 1) ∧ v (80 + 4 * k + 1) ≤ 90 := fun k hk => ⟨(hke k hk).1, (hke k hk).2.2, (hke k hk).2.1⟩
  have hpl : ∀ p, p < v 9 → v (150 + 3 * p) < 10 := fun p hp => by have := (hpn p hp).1; omega
  refine CtI.enter (by decide) (Nat.le_of_ble_eq_true rfl) (fun Φ hc hR => ?_)
  show Vw Ω Φ (z, sh, σ, ρ) (0, 0) 0 [(0, .ref h), (1, .int (zI k))] []
  refine r_aload_n hc dX2_meltKey_0 rfl ?_
  refine r_iload_n hc dX2_meltKey_1 rfl ?_
  refine cl_X2_126 (As := [.int (zI k)]) hc (c_X2_hasKey hH hV (x := k) (by omega) (by omega)) (HS0 hH) rfl ⟨by decide, by decide⟩ ⟨rfl, rfl⟩ ⟨by decide, by decide⟩ rfl (Nat.le_of_ble_eq_true rfl) dX2_meltKey_2 (fun r u hp => ?_)
  obtain ⟨rfl, hu⟩ := hp
  rw [hu]
  refine r_if_ne (tgt := 10) hc dX2_meltKey_5 (by decide) (bI_0 _) (fun c_5 => ?_) (fun c_5 => ?_)
  ·
    have c_5 := bnf c_5
    have c_5 := of_decide_eq_true c_5
    obtain ⟨K, rfl⟩ := Int.eq_ofNat_of_zero_le (show 0 ≤ k by omega)
    rw [← nz K]
    have hkk := hke K (by omega)
    have hwk := hwh K (by omega)
    have hkw : keyWt v K ≤ 90 := by unfold keyWt; split <;> omega
    have hll : lossW (keyWt v K) (v 1) ≤ keyWt v K := lossW_le (by omega) (by omega)
    refine r_aload_n hc dX2_meltKey_10 rfl ?_
    refine gf_X2_23 (q := h + 3) hc (HS0 hH) (HR0 hH 2 3 (by decide)) dX2_meltKey_11 ?_
    refine r_iload_n hc dX2_meltKey_14 rfl ?_
    refine al_5 (r := h + 18 + K) (j := K) hc (HSa hH 3 _ rfl) rfl (by omega) (by decide) (HRk hH (by omega)) dX2_meltKey_15 ?_
    refine r_astore_n (ls' := [(2, .ref (h + 18 + K)), (0, .ref h), (1, .int (nI K))]) hc dX2_meltKey_16 (by decide) rfl ?_
    refine r_aload_n hc dX2_meltKey_17 rfl ?_
    refine gf_X2_123 (x := nI (v (80 + 4 * K + 2))) hc (HSk hH (by omega)) (HVk2 hV (by omega)) dX2_meltKey_18 ?_
    refine r_bipush (v := nI 9) hc dX2_meltKey_21 rfl ?_
    refine r_icmp_ne (tgt := 29) hc dX2_meltKey_23 (by decide) (eq_NN (by omega) (by omega)) (fun c_23 => ?_) (fun c_23 => ?_)
    ·
      refine r_aload_n hc dX2_meltKey_29 rfl ?_
      refine gf_X2_121 (x := nI (keyWt v K)) hc (HSk hH (by omega)) (HVk1 hV (by omega)) dX2_meltKey_30 ?_
      refine r_aload_n hc dX2_meltKey_33 rfl ?_
      refine gf_X2_9 (q := h + 1) hc (HS0 hH) (HR0 hH 0 1 (by decide)) dX2_meltKey_34 ?_
      refine r_iconst (v := nI 1) hc dX2_meltKey_37 rfl ?_
      refine r_iald (x := nI (v 1)) (j := 1) hc (HSa hH 1 _ rfl) rfl (by omega) (by decide) (HVs hV (by omega)) dX2_meltKey_38 ?_
      refine cl_X2_98 (As := [.int (nI (keyWt v K)), .int (nI (v 1))]) hc (c_X9_lossOf (a := keyWt v K) (b := v 1) (by omega) (by omega)) rfl ⟨by decide, by decide⟩ ⟨rfl, rfl⟩ ⟨by decide, by decide⟩ rfl (Nat.le_of_ble_eq_true rfl) dX2_meltKey_39 (fun r u hp => ?_)
      obtain ⟨rfl, hu⟩ := hp
      rw [hu]
      refine r_istore_n (ls' := [(3, .int (nI (lossW (keyWt v K) (v 1)))), (2, .ref (h + 18 + K)), (0, .ref h), (1, .int (nI K))]) hc dX2_meltKey_42 (by decide) rfl ?_
      refine r_aload_n hc dX2_meltKey_43 rfl ?_
      refine r_dup hc dX2_meltKey_44 rfl ?_
      refine gf_X2_65 (x := nI (v 8)) hc (HS0 hH) (HV10 hV) dX2_meltKey_45 ?_
      refine r_iload_n hc dX2_meltKey_48 rfl ?_
      refine r_iadd (v := nI (v 8 + (lossW (keyWt v K) (v 1)))) hc dX2_meltKey_49 (ad_NN _ _) ?_
      refine pf_X2_65 hc (HS0 hH) dX2_meltKey_50 ?_
      generalize hσ1 : s2 σ h 10 (nI (v 8 + (lossW (keyWt v K) (v 1)))) = σ1
      have hV : HV σ1 h (va_up v 8 (v 8 + (lossW (keyWt v K) (v 1)))) := by rw [← hσ1]; exact hV.sca 10 8 _ (by decide) (by omega) (by omega) (by omega)
      refine r_aload_n hc dX2_meltKey_53 rfl ?_
      refine r_dup hc dX2_meltKey_54 rfl ?_
      refine gf_X2_59 (x := nI (v 7)) hc (HS0 hH) ((HV8 hV).trans (congrArg nI (by rw [va_up_off (by omega)]))) dX2_meltKey_55 ?_
      refine r_aload_n hc dX2_meltKey_58 rfl ?_
      refine gf_X2_121 (x := nI (keyWt v K)) hc (HSk hH (by omega)) ((HVk1 hV (by rw [va_up_off (by omega)]; omega)).trans (congrArg nI (keyWt_cong (by rw [va_up_off (by omega)]) (by rw [va_up_off (by omega)]) (by rw [va_up_off (by omega)])))) dX2_meltKey_59 ?_
      refine r_iload_n hc dX2_meltKey_62 rfl ?_
      refine r_isub (v := nI (keyWt v K - lossW (keyWt v K) (v 1))) hc dX2_meltKey_63 (sb_N _ _ (by omega)) ?_
      refine r_iadd (v := nI (v 7 + (keyWt v K - lossW (keyWt v K) (v 1)))) hc dX2_meltKey_64 (ad_NN _ _) ?_
      refine pf_X2_59 hc (HS0 hH) dX2_meltKey_65 ?_
      generalize hσ2 : s2 σ1 h 8 (nI (v 7 + (keyWt v K - lossW (keyWt v K) (v 1)))) = σ2
      have hV : HV σ2 h (va_up (va_up v 8 (v 8 + (lossW (keyWt v K) (v 1)))) 7 (v 7 + (keyWt v K - lossW (keyWt v K) (v 1)))) := by rw [← hσ2]; exact hV.sca 8 7 _ (by decide) (by rw [va_up_off (by omega)]; omega) (by rw [va_up_off (by omega)]; omega) (by rw [va_up_off (by omega)]; omega)
      refine r_aload_n hc dX2_meltKey_68 rfl ?_
      refine r_iconst (v := nI 0) hc dX2_meltKey_69 rfl ?_
      refine pf_X2_121 hc (HSk hH (by omega)) dX2_meltKey_70 ?_
      generalize hσ3 : s2 σ2 (h + 18 + K) 1 (nI 0) = σ3
      refine r_aload_n hc dX2_meltKey_73 rfl ?_
      refine r_bipush (v := nI 9) hc dX2_meltKey_74 rfl ?_
      refine pf_X2_123 hc (HSk hH (by omega)) dX2_meltKey_76 ?_
      generalize hσ4 : s2 σ3 (h + 18 + K) 2 (nI 9) = σ4
      have hV : HV σ4 h (va_up (va_up (va_up v 8 (v 8 + (lossW (keyWt v K) (v 1)))) 7 (v 7 + (keyWt v K - lossW (keyWt v K) (v 1)))) (80 + 4 * K + 2) 9) := by rw [← hσ4, ← hσ3]; exact hV.melt K (by rw [va_up_off (by omega), va_up_off (by omega)]; omega) (by rw [va_up_off (by omega), va_up_off (by omega)]; omega) (by rw [va_up_off (by omega), va_up_off (by omega)]; omega) (by rw [va_up_off (by omega), va_up_off (by omega)]; omega)
      refine r_aload_n hc dX2_meltKey_79 rfl ?_
      refine gf_X2_59 (x := nI (v 7 + (keyWt v K - lossW (keyWt v K) (v 1)))) hc (HS0 hH) ((HV8 hV).trans (congrArg nI (by rw [va_up_off (by omega), va_up_at]))) dX2_meltKey_80 ?_
      have hE : sMelt v (K : Int) = (((v 7 + (keyWt v K - lossW (keyWt v K) (v 1)) : Nat) : Int), rowM v K) := by unfold sMelt; (try simp only [Int.toNat_natCast]); rw [if_pos (by omega), if_neg c_23]
      exact hR _ _ ⟨_, rfl, by rw [hE]; exact nz _, by rw [hE]; exact hV, (fun q hq => by rw [← hσ4, s2_ne (show q ≠ h + 18 + K by omega), ← hσ3, s2_ne (show q ≠ h + 18 + K by omega), ← hσ2, s2_ne (show q ≠ h by omega), ← hσ1, s2_ne (show q ≠ h by omega)])⟩ rfl _ _ dX2_meltKey_83
    ·
      refine r_bipush (v := zI (-5)) hc dX2_meltKey_26 rfl ?_
      have hE : sMelt v (K : Int) = (-5, v) := by unfold sMelt; (try simp only [Int.toNat_natCast]); rw [if_pos (by omega), if_pos c_23]
      exact hR _ _ ⟨_, rfl, by rw [hE], by rw [hE]; exact hV, (fun _ _ => rfl)⟩ rfl _ _ dX2_meltKey_28
  ·
    have c_5 := of_decide_eq_false c_5
    refine r_iconst (v := zI (-1)) hc dX2_meltKey_8 rfl ?_
    have hE : sMelt v k = (-1, v) := by unfold sMelt; (try simp only [Int.toNat_natCast]); rw [if_neg (by omega)]
    exact hR _ _ ⟨_, rfl, by rw [hE], by rw [hE]; exact hV, (fun _ _ => rfl)⟩ rfl _ _ dX2_meltKey_9
set_option maxRecDepth 100000 in
set_option maxHeartbeats 4000000 in
theorem c_X2_moveKey {Ω : OmT} {z : Nat} {sh : Nat → Option Kd} {σ : Nat → Nat → Int32} {ρ : Nat → Nat → Option Nat} {h : Nat} {v : Nat → Nat} (hH : HSh sh ρ h) (hV : HV σ h v) (hok : okR v) (hbx : v 7 ≤ 1000000000) {k : Int} {a b : Nat} (hk0 : -2147483648 ≤ k ∧ k < 2147483648) (ha0 : a ≤ 8) (hb0 : b ≤ 8) : CtI Ω yX2_moveKey cX2_moveKey 4 .int rm_X2_moveKey [.ref h, .int (zI k), .int (nI a), .int (nI b)] (z, sh, σ, ρ) (HPost z sh σ ρ h (sMove v k a b)) := by
  have hok1 := hok
  obtain ⟨⟨h01, h02⟩, hl1, ⟨h21, h22⟩, h3, h4, h5, h9, hdo, hke, hpn, hpd, htc⟩ := hok1
  have hdr : ∀ d, d < v 4 → v (20 + 6 * d + 2) < 10000 ∧ v (20 + 6 * d + 3) < 10000 := fun d hd => ⟨(hdo d hd).2.2.1, (hdo d hd).2.2.2⟩
  have hcu : ∀ k, k < v 5 → v (80 + 4 * k) < 10000 := fun k hk => (hke k hk).1
  have hwh : ∀ k, k < v 5 → v (80 + 4 * k + 2) ≤ 9 := fun k hk => (hke k hk).2.2
  have hky : ∀ k, k < v 5 → v (80 + 4 * k) < 10000 ∧ v (80 + 4 * k + 2) ≤ 9 ∧ 40 ≤ v (80 + 4 * k + 1) ∧ v (80 + 4 * k + 1) ≤ 90 := fun k hk => ⟨(hke k hk).1, (hke k hk).2.2, (hke k hk).2.1⟩
  have hpl : ∀ p, p < v 9 → v (150 + 3 * p) < 10 := fun p hp => by have := (hpn p hp).1; omega
  refine CtI.enter (by decide) (Nat.le_of_ble_eq_true rfl) (fun Φ hc hR => ?_)
  show Vw Ω Φ (z, sh, σ, ρ) (0, 0) 0 [(0, .ref h), (1, .int (zI k)), (2, .int (nI a)), (3, .int (nI b))] []
  refine r_aload_n hc dX2_moveKey_0 rfl ?_
  refine r_iload_n hc dX2_moveKey_1 rfl ?_
  refine cl_X2_126 (As := [.int (zI k)]) hc (c_X2_hasKey hH hV (x := k) (by omega) (by omega)) (HS0 hH) rfl ⟨by decide, by decide⟩ ⟨rfl, rfl⟩ ⟨by decide, by decide⟩ rfl (Nat.le_of_ble_eq_true rfl) dX2_moveKey_2 (fun r u hp => ?_)
  obtain ⟨rfl, hu⟩ := hp
  rw [hu]
  refine r_if_ne (tgt := 10) hc dX2_moveKey_5 (by decide) (bI_0 _) (fun c_5 => ?_) (fun c_5 => ?_)
  ·
    have c_5 := bnf c_5
    have c_5 := of_decide_eq_true c_5
    obtain ⟨K, rfl⟩ := Int.eq_ofNat_of_zero_le (show 0 ≤ k by omega)
    rw [← nz K]
    have hwk := hwh K (by omega)
    refine r_aload_n hc dX2_moveKey_10 rfl ?_
    refine gf_X2_23 (q := h + 3) hc (HS0 hH) (HR0 hH 2 3 (by decide)) dX2_moveKey_11 ?_
    refine r_iload_n hc dX2_moveKey_14 rfl ?_
    refine al_5 (r := h + 18 + K) (j := K) hc (HSa hH 3 _ rfl) rfl (by omega) (by decide) (HRk hH (by omega)) dX2_moveKey_15 ?_
    refine gf_X2_123 (x := nI (v (80 + 4 * K + 2))) hc (HSk hH (by omega)) (HVk2 hV (by omega)) dX2_moveKey_16 ?_
    refine r_iload_n hc dX2_moveKey_19 rfl ?_
    refine r_icmp_eq (tgt := 26) hc dX2_moveKey_20 (by decide) (eq_NN (by omega) (by omega)) (fun c_20 => ?_) (fun c_20 => ?_)
    ·
      refine r_aload_n hc dX2_moveKey_26 rfl ?_
      refine gf_X2_23 (q := h + 3) hc (HS0 hH) (HR0 hH 2 3 (by decide)) dX2_moveKey_27 ?_
      refine r_iload_n hc dX2_moveKey_30 rfl ?_
      refine al_5 (r := h + 18 + K) (j := K) hc (HSa hH 3 _ rfl) rfl (by omega) (by decide) (HRk hH (by omega)) dX2_moveKey_31 ?_
      refine r_iload_n hc dX2_moveKey_32 rfl ?_
      refine pf_X2_123 hc (HSk hH (by omega)) dX2_moveKey_33 ?_
      generalize hσ1 : s2 σ (h + 18 + K) 2 (nI b) = σ1
      have hV : HV σ1 h (va_up v (80 + 4 * K + 2) b) := by rw [← hσ1]; exact hV.place K _ (by omega) (by omega) (by omega) (by omega) (by omega) (by omega)
      refine r_aload_n hc dX2_moveKey_36 rfl ?_
      refine r_bipush (v := nI 8) hc dX2_moveKey_37 rfl ?_
      have hwh : ∀ q, q < va_up v (80 + 4 * K + 2) b 5 → va_up v (80 + 4 * K + 2) b (80 + 4 * q + 2) ≤ 9 := by
        intro q hq
        rw [va_up_off (by omega)] at hq
        by_cases e : q = K
        · rw [e, va_up_at]; omega
        · rw [va_up_off (by omega)]; exact hwh q hq
      refine cl_X2_133 (As := [.int (nI 8)]) hc (c_X2_keysAt hH hV (r := 8) (by omega) (by rw [va_up_off (by omega)]; omega) hwh) (HS0 hH) rfl ⟨by decide, by decide⟩ ⟨rfl, rfl⟩ ⟨by decide, by decide⟩ rfl (Nat.le_of_ble_eq_true rfl) dX2_moveKey_39 (fun r u hp => ?_)
      obtain ⟨rfl, hu⟩ := hp
      rw [hu]
      have hE : sMove v (K : Int) a b = (((keysAt (va_up v (80 + 4 * K + 2) b) 8 : Nat) : Int), va_up v (80 + 4 * K + 2) b) := by unfold sMove; (try simp only [Int.toNat_natCast]); rw [if_pos (by omega), if_pos c_20]
      exact hR _ _ ⟨_, rfl, by rw [hE]; exact nz _, by rw [hE]; exact hV, (fun q hq => by rw [← hσ1, s2_ne (show q ≠ h + 18 + K by omega)])⟩ rfl _ _ dX2_moveKey_42
    ·
      refine r_bipush (v := zI (-5)) hc dX2_moveKey_23 rfl ?_
      have hE : sMove v (K : Int) a b = (-5, v) := by unfold sMove; (try simp only [Int.toNat_natCast]); rw [if_pos (by omega), if_neg c_20]
      exact hR _ _ ⟨_, rfl, by rw [hE], by rw [hE]; exact hV, (fun _ _ => rfl)⟩ rfl _ _ dX2_moveKey_25
  ·
    have c_5 := of_decide_eq_false c_5
    refine r_iconst (v := zI (-1)) hc dX2_moveKey_8 rfl ?_
    have hE : sMove v k a b = (-1, v) := by unfold sMove; (try simp only [Int.toNat_natCast]); rw [if_neg (by omega)]
    exact hR _ _ ⟨_, rfl, by rw [hE], by rw [hE]; exact hV, (fun _ _ => rfl)⟩ rfl _ _ dX2_moveKey_9
set_option maxRecDepth 100000 in
set_option maxHeartbeats 4000000 in
theorem c_X2_takeKey {Ω : OmT} {z : Nat} {sh : Nat → Option Kd} {σ : Nat → Nat → Int32} {ρ : Nat → Nat → Option Nat} {h : Nat} {v : Nat → Nat} (hH : HSh sh ρ h) (hV : HV σ h v) (hok : okR v) (hbx : v 7 ≤ 1000000000) {k : Int} (hk0 : -2147483648 ≤ k ∧ k < 2147483648) : CtI Ω yX2_takeKey cX2_takeKey 2 .int rm_X2_takeKey [.ref h, .int (zI k)] (z, sh, σ, ρ) (HPost z sh σ ρ h (sMove v k (v 3) 8)) := by
  have hok1 := hok
  obtain ⟨⟨h01, h02⟩, hl1, ⟨h21, h22⟩, h3, h4, h5, h9, hdo, hke, hpn, hpd, htc⟩ := hok1
  have hdr : ∀ d, d < v 4 → v (20 + 6 * d + 2) < 10000 ∧ v (20 + 6 * d + 3) < 10000 := fun d hd => ⟨(hdo d hd).2.2.1, (hdo d hd).2.2.2⟩
  have hcu : ∀ k, k < v 5 → v (80 + 4 * k) < 10000 := fun k hk => (hke k hk).1
  have hwh : ∀ k, k < v 5 → v (80 + 4 * k + 2) ≤ 9 := fun k hk => (hke k hk).2.2
  have hky : ∀ k, k < v 5 → v (80 + 4 * k) < 10000 ∧ v (80 + 4 * k + 2) ≤ 9 ∧ 40 ≤ v (80 + 4 * k + 1) ∧ v (80 + 4 * k + 1) ≤ 90 := fun k hk => ⟨(hke k hk).1, (hke k hk).2.2, (hke k hk).2.1⟩
  have hpl : ∀ p, p < v 9 → v (150 + 3 * p) < 10 := fun p hp => by have := (hpn p hp).1; omega
  have hok : okR v := ⟨⟨h01, h02⟩, hl1, ⟨h21, h22⟩, h3, h4, h5, h9, hdo, hke, hpn, hpd, htc⟩
  refine CtI.enter (by decide) (Nat.le_of_ble_eq_true rfl) (fun Φ hc hR => ?_)
  show Vw Ω Φ (z, sh, σ, ρ) (0, 0) 0 [(0, .ref h), (1, .int (zI k))] []
  refine r_aload_n hc dX2_takeKey_0 rfl ?_
  refine r_iload_n hc dX2_takeKey_1 rfl ?_
  refine r_aload_n hc dX2_takeKey_2 rfl ?_
  refine gf_X2_53 (x := nI (v 3)) hc (HS0 hH) (HV6 hV) dX2_takeKey_3 ?_
  refine r_bipush (v := nI 8) hc dX2_takeKey_6 rfl ?_
  refine cl_X2_129 (As := [.int (zI k), .int (nI (v 3)), .int (nI 8)]) hc (c_X2_moveKey hH hV hok hbx (k := k) (by omega) (by omega) (by omega)) (HS0 hH) rfl ⟨by decide, by decide⟩ ⟨rfl, rfl⟩ ⟨by decide, by decide⟩ rfl (Nat.le_of_ble_eq_true rfl) dX2_takeKey_8 (fun r u hp => ?_)
  obtain ⟨σ1, hu, hr, hV1, hfr⟩ := hp
  subst hr
  rw [hu]
  exact hR _ _ ⟨_, rfl, rfl, hV1, hfr⟩ rfl _ _ dX2_takeKey_11
set_option maxRecDepth 100000 in
set_option maxHeartbeats 4000000 in
theorem c_X2_layKeyDown {Ω : OmT} {z : Nat} {sh : Nat → Option Kd} {σ : Nat → Nat → Int32} {ρ : Nat → Nat → Option Nat} {h : Nat} {v : Nat → Nat} (hH : HSh sh ρ h) (hV : HV σ h v) (hok : okR v) (hbx : v 7 ≤ 1000000000) {k : Int} (hk0 : -2147483648 ≤ k ∧ k < 2147483648) : CtI Ω yX2_layKeyDown cX2_layKeyDown 2 .int rm_X2_layKeyDown [.ref h, .int (zI k)] (z, sh, σ, ρ) (HPost z sh σ ρ h (sMove v k 8 (v 3))) := by
  have hok1 := hok
  obtain ⟨⟨h01, h02⟩, hl1, ⟨h21, h22⟩, h3, h4, h5, h9, hdo, hke, hpn, hpd, htc⟩ := hok1
  have hdr : ∀ d, d < v 4 → v (20 + 6 * d + 2) < 10000 ∧ v (20 + 6 * d + 3) < 10000 := fun d hd => ⟨(hdo d hd).2.2.1, (hdo d hd).2.2.2⟩
  have hcu : ∀ k, k < v 5 → v (80 + 4 * k) < 10000 := fun k hk => (hke k hk).1
  have hwh : ∀ k, k < v 5 → v (80 + 4 * k + 2) ≤ 9 := fun k hk => (hke k hk).2.2
  have hky : ∀ k, k < v 5 → v (80 + 4 * k) < 10000 ∧ v (80 + 4 * k + 2) ≤ 9 ∧ 40 ≤ v (80 + 4 * k + 1) ∧ v (80 + 4 * k + 1) ≤ 90 := fun k hk => ⟨(hke k hk).1, (hke k hk).2.2, (hke k hk).2.1⟩
  have hpl : ∀ p, p < v 9 → v (150 + 3 * p) < 10 := fun p hp => by have := (hpn p hp).1; omega
  have hok : okR v := ⟨⟨h01, h02⟩, hl1, ⟨h21, h22⟩, h3, h4, h5, h9, hdo, hke, hpn, hpd, htc⟩
  refine CtI.enter (by decide) (Nat.le_of_ble_eq_true rfl) (fun Φ hc hR => ?_)
  show Vw Ω Φ (z, sh, σ, ρ) (0, 0) 0 [(0, .ref h), (1, .int (zI k))] []
  refine r_aload_n hc dX2_layKeyDown_0 rfl ?_
  refine r_iload_n hc dX2_layKeyDown_1 rfl ?_
  refine r_bipush (v := nI 8) hc dX2_layKeyDown_2 rfl ?_
  refine r_aload_n hc dX2_layKeyDown_4 rfl ?_
  refine gf_X2_53 (x := nI (v 3)) hc (HS0 hH) (HV6 hV) dX2_layKeyDown_5 ?_
  refine cl_X2_129 (As := [.int (zI k), .int (nI 8), .int (nI (v 3))]) hc (c_X2_moveKey hH hV hok hbx (k := k) (by omega) (by omega) (by omega)) (HS0 hH) rfl ⟨by decide, by decide⟩ ⟨rfl, rfl⟩ ⟨by decide, by decide⟩ rfl (Nat.le_of_ble_eq_true rfl) dX2_layKeyDown_8 (fun r u hp => ?_)
  obtain ⟨σ1, hu, hr, hV1, hfr⟩ := hp
  subst hr
  rw [hu]
  exact hR _ _ ⟨_, rfl, rfl, hV1, hfr⟩ rfl _ _ dX2_layKeyDown_11
set_option maxRecDepth 100000 in
set_option maxHeartbeats 4000000 in
theorem c_X2_walkThrough {Ω : OmT} {z : Nat} {sh : Nat → Option Kd} {σ : Nat → Nat → Int32} {ρ : Nat → Nat → Option Nat} {h : Nat} {v : Nat → Nat} (hH : HSh sh ρ h) (hV : HV σ h v) (hok : okR v) (hbx : v 7 ≤ 1000000000) {d : Int} (hd0 : -2147483648 ≤ d ∧ d < 2147483648) : CtI Ω yX2_walkThrough cX2_walkThrough 3 .int rm_X2_walkThrough [.ref h, .int (zI d)] (z, sh, σ, ρ) (HPost z sh σ ρ h (sGo v d)) := by
  have hok1 := hok
  obtain ⟨⟨h01, h02⟩, hl1, ⟨h21, h22⟩, h3, h4, h5, h9, hdo, hke, hpn, hpd, htc⟩ := hok1
  have hdr : ∀ d, d < v 4 → v (20 + 6 * d + 2) < 10000 ∧ v (20 + 6 * d + 3) < 10000 := fun d hd => ⟨(hdo d hd).2.2.1, (hdo d hd).2.2.2⟩
  have hcu : ∀ k, k < v 5 → v (80 + 4 * k) < 10000 := fun k hk => (hke k hk).1
  have hwh : ∀ k, k < v 5 → v (80 + 4 * k + 2) ≤ 9 := fun k hk => (hke k hk).2.2
  have hky : ∀ k, k < v 5 → v (80 + 4 * k) < 10000 ∧ v (80 + 4 * k + 2) ≤ 9 ∧ 40 ≤ v (80 + 4 * k + 1) ∧ v (80 + 4 * k + 1) ≤ 90 := fun k hk => ⟨(hke k hk).1, (hke k hk).2.2, (hke k hk).2.1⟩
  have hpl : ∀ p, p < v 9 → v (150 + 3 * p) < 10 := fun p hp => by have := (hpn p hp).1; omega
  refine CtI.enter (by decide) (Nat.le_of_ble_eq_true rfl) (fun Φ hc hR => ?_)
  show Vw Ω Φ (z, sh, σ, ρ) (0, 0) 0 [(0, .ref h), (1, .int (zI d))] []
  refine r_aload_n hc dX2_walkThrough_0 rfl ?_
  refine r_iload_n hc dX2_walkThrough_1 rfl ?_
  refine cl_X2_91 (As := [.int (zI d)]) hc (c_X2_hasDoor hH hV (x := d) (by omega) (by omega)) (HS0 hH) rfl ⟨by decide, by decide⟩ ⟨rfl, rfl⟩ ⟨by decide, by decide⟩ rfl (Nat.le_of_ble_eq_true rfl) dX2_walkThrough_2 (fun r u hp => ?_)
  obtain ⟨rfl, hu⟩ := hp
  rw [hu]
  refine r_if_ne (tgt := 10) hc dX2_walkThrough_5 (by decide) (bI_0 _) (fun c_5 => ?_) (fun c_5 => ?_)
  ·
    have c_5 := bnf c_5
    have c_5 := of_decide_eq_true c_5
    obtain ⟨D, rfl⟩ := Int.eq_ofNat_of_zero_le (show 0 ≤ d by omega)
    rw [← nz D]
    have hdd := hdo D (by omega)
    have hbr := behR_rng (v := v) (d := D) (r := v 3) hdd.1 hdd.2.1
    refine r_aload_n hc dX2_walkThrough_10 rfl ?_
    refine gf_X2_17 (q := h + 2) hc (HS0 hH) (HR0 hH 1 2 (by decide)) dX2_walkThrough_11 ?_
    refine r_iload_n hc dX2_walkThrough_14 rfl ?_
    refine al_3 (r := h + 8 + D) (j := D) hc (HSa hH 2 _ rfl) rfl (by omega) (by decide) (HRd hH (by omega)) dX2_walkThrough_15 ?_
    refine r_aload_n hc dX2_walkThrough_16 rfl ?_
    refine gf_X2_53 (x := nI (v 3)) hc (HS0 hH) (HV6 hV) dX2_walkThrough_17 ?_
    refine cl_X2_136 (As := [.int (nI (v 3))]) hc (c_X0_beyond (r := v 3) (f := v (20 + 6 * D)) (s := v (20 + 6 * D + 1)) (HSd hH (by omega)) (HVd hV (by omega) 0 (by decide)) (HVd hV (by omega) 1 (by decide)) (by omega) (by omega) (by omega)) (HSd hH (by omega)) rfl ⟨by decide, by decide⟩ ⟨rfl, rfl⟩ ⟨by decide, by decide⟩ rfl (Nat.le_of_ble_eq_true rfl) dX2_walkThrough_20 (fun r u hp => ?_)
    obtain ⟨rfl, hu⟩ := hp
    rw [hu, beyO_eq]
    refine r_istore_n (ls' := [(2, .int (zI (behR v D (v 3)))), (0, .ref h), (1, .int (nI D))]) hc dX2_walkThrough_23 (by decide) rfl ?_
    refine r_iload_n hc dX2_walkThrough_24 rfl ?_
    refine r_bipush (v := zI (-6)) hc dX2_walkThrough_25 rfl ?_
    refine r_icmp_eq (tgt := 45) hc dX2_walkThrough_27 (by decide) (eq_ZZ (by omega) (by omega)) (fun c_27 => ?_) (fun c_27 => ?_)
    ·
      refine r_bipush (v := zI (-5)) hc dX2_walkThrough_45 rfl ?_
      have hE : sGo v (D : Int) = (-5, v) := by unfold sGo; (try simp only [Int.toNat_natCast]); rw [if_pos (by omega), if_neg (by omega)]
      exact hR _ _ ⟨_, rfl, by rw [hE], by rw [hE]; exact hV, (fun _ _ => rfl)⟩ rfl _ _ dX2_walkThrough_47
    ·
      refine r_aload_n hc dX2_walkThrough_30 rfl ?_
      refine r_iload_n hc dX2_walkThrough_31 rfl ?_
      refine cl_X2_139 (As := [.int (nI D)]) hc (c_X2_keysOpening hH hV (d := D) (by omega) (by omega) (by omega) hdr hcu hwh) (HS0 hH) rfl ⟨by decide, by decide⟩ ⟨rfl, rfl⟩ ⟨by decide, by decide⟩ rfl (Nat.le_of_ble_eq_true rfl) dX2_walkThrough_32 (fun r u hp => ?_)
      obtain ⟨rfl, hu⟩ := hp
      rw [hu]
      refine r_aload_n hc dX2_walkThrough_35 rfl ?_
      refine r_bipush (v := nI 8) hc dX2_walkThrough_36 rfl ?_
      refine cl_X2_133 (As := [.int (nI 8)]) hc (c_X2_keysAt hH hV (r := 8) (by omega) (by omega) hwh) (HS0 hH) rfl ⟨by decide, by decide⟩ ⟨rfl, rfl⟩ ⟨by decide, by decide⟩ rfl (Nat.le_of_ble_eq_true rfl) dX2_walkThrough_38 (fun r u hp => ?_)
      obtain ⟨rfl, hu⟩ := hp
      rw [hu]
      refine r_iand (v := nI ((keysFor v D) &&& (keysAt v 8))) hc dX2_walkThrough_41 (an_NN _ _) ?_
      refine r_if_ne (tgt := 48) hc dX2_walkThrough_42 (by decide) (e0_N (Nat.lt_of_le_of_lt Nat.and_le_right (by have := keysAt_lt v 8 h5; omega))) (fun c_42 => ?_) (fun c_42 => ?_)
      ·
        rw [zn (show behR v D (v 3) = (((behR v D (v 3)).toNat : Nat) : Int) by omega)]
        refine r_aload_n hc dX2_walkThrough_48 rfl ?_
        refine r_iload_n hc dX2_walkThrough_49 rfl ?_
        refine pf_X2_53 hc (HS0 hH) dX2_walkThrough_50 ?_
        generalize hσ1 : s2 σ h 6 (nI ((behR v D (v 3)).toNat)) = σ1
        have hV : HV σ1 h (va_up v 3 ((behR v D (v 3)).toNat)) := by rw [← hσ1]; exact hV.sca 6 3 _ (by decide) (by omega) (by omega) (by omega)
        refine r_aload_n hc dX2_walkThrough_53 rfl ?_
        refine r_dup hc dX2_walkThrough_54 rfl ?_
        refine gf_X2_56 (x := nI (v 10)) hc (HS0 hH) ((HV7 hV).trans (congrArg nI (by rw [va_up_off (by omega)]))) dX2_walkThrough_55 ?_
        refine r_iconst (v := nI 1) hc dX2_walkThrough_58 rfl ?_
        refine r_iadd (v := nI (v 10 + 1)) hc dX2_walkThrough_59 (ad_NN _ _) ?_
        refine pf_X2_56 hc (HS0 hH) dX2_walkThrough_60 ?_
        generalize hσ2 : s2 σ1 h 7 (nI (v 10 + 1)) = σ2
        have hV : HV σ2 h (va_up (va_up v 3 ((behR v D (v 3)).toNat)) 10 (v 10 + 1)) := by rw [← hσ2]; exact hV.sca 7 10 _ (by decide) (by rw [va_up_off (by omega)]; omega) (by rw [va_up_off (by omega)]; omega) (by rw [va_up_off (by omega)]; omega)
        refine r_aload_n hc dX2_walkThrough_63 rfl ?_
        refine gf_X2_53 (x := nI ((behR v D (v 3)).toNat)) hc (HS0 hH) ((HV6 hV).trans (congrArg nI (by rw [va_up_off (by omega), va_up_at]))) dX2_walkThrough_64 ?_
        have hE : sGo v (D : Int) = (behR v D (v 3), va_up (va_up v 3 (behR v D (v 3)).toNat) 10 (v 10 + 1)) := by unfold sGo; (try simp only [Int.toNat_natCast]); rw [if_pos (by omega), if_pos ⟨by omega, go_iff.mpr c_42⟩]
        exact hR _ _ ⟨_, rfl, by rw [hE]; exact (zn (by omega)).symm, by rw [hE]; exact hV, (fun q hq => by rw [← hσ2, s2_ne (show q ≠ h by omega), ← hσ1, s2_ne (show q ≠ h by omega)])⟩ rfl _ _ dX2_walkThrough_67
      ·
        refine r_bipush (v := zI (-5)) hc dX2_walkThrough_45 rfl ?_
        have hE : sGo v (D : Int) = (-5, v) := by unfold sGo; (try simp only [Int.toNat_natCast]); rw [if_pos (by omega), if_neg (fun q => go_iff.mp q.2 c_42)]
        exact hR _ _ ⟨_, rfl, by rw [hE], by rw [hE]; exact hV, (fun _ _ => rfl)⟩ rfl _ _ dX2_walkThrough_47
  ·
    have c_5 := of_decide_eq_false c_5
    refine r_iconst (v := zI (-1)) hc dX2_walkThrough_8 rfl ?_
    have hE : sGo v d = (-1, v) := by unfold sGo; (try simp only [Int.toNat_natCast]); rw [if_neg (by omega)]
    exact hR _ _ ⟨_, rfl, by rw [hE], by rw [hE]; exact hV, (fun _ _ => rfl)⟩ rfl _ _ dX2_walkThrough_9
set_option maxRecDepth 100000 in
set_option maxHeartbeats 4000000 in
theorem c_X2_planCut {Ω : OmT} {z : Nat} {sh : Nat → Option Kd} {σ : Nat → Nat → Int32} {ρ : Nat → Nat → Option Nat} {h : Nat} {v : Nat → Nat} (hH : HSh sh ρ h) (hV : HV σ h v) (hok : okR v) (hbx : v 7 ≤ 1000000000) {d f s : Int} (hd0 : -2147483648 ≤ d ∧ d < 2147483648) (hf0 : -2147483648 ≤ f ∧ f < 2147483648) (hs0 : -2147483648 ≤ s ∧ s < 2147483648) : CtI Ω yX2_planCut cX2_planCut 4 .int rm_X2_planCut [.ref h, .int (zI d), .int (zI f), .int (zI s)] (z, sh, σ, ρ) (HPost z sh σ ρ h (sPlan v d f s)) := by
  have hok1 := hok
  obtain ⟨⟨h01, h02⟩, hl1, ⟨h21, h22⟩, h3, h4, h5, h9, hdo, hke, hpn, hpd, htc⟩ := hok1
  have hdr : ∀ d, d < v 4 → v (20 + 6 * d + 2) < 10000 ∧ v (20 + 6 * d + 3) < 10000 := fun d hd => ⟨(hdo d hd).2.2.1, (hdo d hd).2.2.2⟩
  have hcu : ∀ k, k < v 5 → v (80 + 4 * k) < 10000 := fun k hk => (hke k hk).1
  have hwh : ∀ k, k < v 5 → v (80 + 4 * k + 2) ≤ 9 := fun k hk => (hke k hk).2.2
  have hky : ∀ k, k < v 5 → v (80 + 4 * k) < 10000 ∧ v (80 + 4 * k + 2) ≤ 9 ∧ 40 ≤ v (80 + 4 * k + 1) ∧ v (80 + 4 * k + 1) ≤ 90 := fun k hk => ⟨(hke k hk).1, (hke k hk).2.2, (hke k hk).2.1⟩
  have hpl : ∀ p, p < v 9 → v (150 + 3 * p) < 10 := fun p hp => by have := (hpn p hp).1; omega
  refine CtI.enter (by decide) (Nat.le_of_ble_eq_true rfl) (fun Φ hc hR => ?_)
  show Vw Ω Φ (z, sh, σ, ρ) (0, 0) 0 [(0, .ref h), (1, .int (zI d)), (2, .int (zI f)), (3, .int (zI s))] []
  refine r_aload_n hc dX2_planCut_0 rfl ?_
  refine r_iload_n hc dX2_planCut_1 rfl ?_
  refine cl_X2_91 (As := [.int (zI d)]) hc (c_X2_hasDoor hH hV (x := d) (by omega) (by omega)) (HS0 hH) rfl ⟨by decide, by decide⟩ ⟨rfl, rfl⟩ ⟨by decide, by decide⟩ rfl (Nat.le_of_ble_eq_true rfl) dX2_planCut_2 (fun r u hp => ?_)
  obtain ⟨rfl, hu⟩ := hp
  rw [hu]
  refine r_if_ne (tgt := 10) hc dX2_planCut_5 (by decide) (bI_0 _) (fun c_5 => ?_) (fun c_5 => ?_)
  ·
    have c_5 := bnf c_5
    have c_5 := of_decide_eq_true c_5
    refine r_iload_n hc dX2_planCut_10 rfl ?_
    refine cl_X2_78 (As := [.int (zI f)]) hc (c_X9_isRow (x := f) (by omega)) rfl ⟨by decide, by decide⟩ ⟨rfl, rfl⟩ ⟨by decide, by decide⟩ rfl (Nat.le_of_ble_eq_true rfl) dX2_planCut_11 (fun r u hp => ?_)
    obtain ⟨rfl, hu⟩ := hp
    rw [hu]
    refine r_if_eq (tgt := 24) hc dX2_planCut_14 (by decide) (bI_0 _) (fun c_14 => ?_) (fun c_14 => ?_)
    ·
      have c_14 := of_decide_eq_false c_14
      refine r_bipush (v := zI (-2)) hc dX2_planCut_24 rfl ?_
      have hE : sPlan v d f s = (-2, v) := by unfold sPlan; (try simp only [Int.toNat_natCast]); rw [if_pos (by omega), if_neg (by omega)]
      exact hR _ _ ⟨_, rfl, by rw [hE], by rw [hE]; exact hV, (fun _ _ => rfl)⟩ rfl _ _ dX2_planCut_26
    ·
      have c_14 := bnf c_14
      have c_14 := of_decide_eq_true c_14
      refine r_iload_n hc dX2_planCut_17 rfl ?_
      refine cl_X2_78 (As := [.int (zI s)]) hc (c_X9_isRow (x := s) (by omega)) rfl ⟨by decide, by decide⟩ ⟨rfl, rfl⟩ ⟨by decide, by decide⟩ rfl (Nat.le_of_ble_eq_true rfl) dX2_planCut_18 (fun r u hp => ?_)
      obtain ⟨rfl, hu⟩ := hp
      rw [hu]
      refine r_if_ne (tgt := 27) hc dX2_planCut_21 (by decide) (bI_0 _) (fun c_21 => ?_) (fun c_21 => ?_)
      ·
        have c_21 := bnf c_21
        have c_21 := of_decide_eq_true c_21
        obtain ⟨D, rfl⟩ := Int.eq_ofNat_of_zero_le (show 0 ≤ d by omega)
        rw [← nz D]
        obtain ⟨F, rfl⟩ := Int.eq_ofNat_of_zero_le (show 0 ≤ f by omega)
        rw [← nz F]
        obtain ⟨S, rfl⟩ := Int.eq_ofNat_of_zero_le (show 0 ≤ s by omega)
        rw [← nz S]
        have hpe : plcL v D = plcO v D := plcL_eq v D (v 9) hpd
        have hpc : plcO v D = -6 ∨ 0 ≤ plcO v D := plcF_or v D (v 9)
        have hpr := plcF_rng v D (v 9)
        have hpo : plcO v D = plcF v D (v 9) := rfl
        refine r_aload_n hc dX2_planCut_27 rfl ?_
        refine gf_X2_30 (q := h + 4) hc (HS0 hH) (HR0 hH 3 4 (by decide)) dX2_planCut_28 ?_
        refine gf_X2_142 (x := nI (v 9)) hc (HSa hH 4 _ rfl) (HVp hV) dX2_planCut_31 ?_
        refine r_bipush (v := nI 6) hc dX2_planCut_34 rfl ?_
        refine r_icmp_lt (tgt := 42) hc dX2_planCut_36 (by decide) (lt_NN (by omega) (by omega)) (fun c_36 => ?_) (fun c_36 => ?_)
        ·
          refine r_aload_n hc dX2_planCut_42 rfl ?_
          refine gf_X2_30 (q := h + 4) hc (HS0 hH) (HR0 hH 3 4 (by decide)) dX2_planCut_43 ?_
          refine r_iload_n hc dX2_planCut_46 rfl ?_
          refine cl_X2_145 (As := [.int (nI D)]) hc (c_X7_placeOf hH hV (d := D) (by omega) (by omega) hpl) (HSa hH 4 _ rfl) rfl ⟨by decide, by decide⟩ ⟨rfl, rfl⟩ ⟨by decide, by decide⟩ rfl (Nat.le_of_ble_eq_true rfl) dX2_planCut_47 (fun r u hp => ?_)
          obtain ⟨rfl, hu⟩ := hp
          rw [hu]
          refine r_bipush (v := zI (-6)) hc dX2_planCut_50 rfl ?_
          refine r_icmp_eq (tgt := 58) hc dX2_planCut_52 (by decide) (eq_ZZ (by omega) (by omega)) (fun c_52 => ?_) (fun c_52 => ?_)
          ·
            refine r_aload_n hc dX2_planCut_58 rfl ?_
            refine gf_X2_30 (q := h + 4) hc (HS0 hH) (HR0 hH 3 4 (by decide)) dX2_planCut_59 ?_
            refine gf_X2_148 (q := h + 5) hc (HSa hH 4 _ rfl) (HR4 hH 0 5 (by decide)) dX2_planCut_62 ?_
            refine r_aload_n hc dX2_planCut_65 rfl ?_
            refine gf_X2_30 (q := h + 4) hc (HS0 hH) (HR0 hH 3 4 (by decide)) dX2_planCut_66 ?_
            refine gf_X2_142 (x := nI (v 9)) hc (HSa hH 4 _ rfl) (HVp hV) dX2_planCut_69 ?_
            refine r_iload_n hc dX2_planCut_72 rfl ?_
            refine r_iast (j := v 9) hc (HSa hH 5 _ rfl) rfl (by omega) (by decide) dX2_planCut_73 ?_
            generalize hσ1 : s2 σ (h + 5) (v 9) (nI D) = σ1
            have gσ1 : σ1 (h + 5) (v 9) = nI D := by rw [← hσ1]; exact s2_same _ _ _ _
            have hV : HV σ1 h v := by rw [← hσ1]; exact hV.dead (by omega) (by omega) (by right; right; left; exact ⟨by omega, by omega⟩)
            refine r_aload_n hc dX2_planCut_74 rfl ?_
            refine gf_X2_30 (q := h + 4) hc (HS0 hH) (HR0 hH 3 4 (by decide)) dX2_planCut_75 ?_
            refine gf_X2_150 (q := h + 6) hc (HSa hH 4 _ rfl) (HR4 hH 1 6 (by decide)) dX2_planCut_78 ?_
            refine r_aload_n hc dX2_planCut_81 rfl ?_
            refine gf_X2_30 (q := h + 4) hc (HS0 hH) (HR0 hH 3 4 (by decide)) dX2_planCut_82 ?_
            refine gf_X2_142 (x := nI (v 9)) hc (HSa hH 4 _ rfl) (HVp hV) dX2_planCut_85 ?_
            refine r_iload_n hc dX2_planCut_88 rfl ?_
            refine r_iast (j := v 9) hc (HSa hH 6 _ rfl) rfl (by omega) (by decide) dX2_planCut_89 ?_
            generalize hσ2 : s2 σ1 (h + 6) (v 9) (nI F) = σ2
            have gσ2 : σ2 (h + 6) (v 9) = nI F := by rw [← hσ2]; exact s2_same _ _ _ _
            have hV : HV σ2 h v := by rw [← hσ2]; exact hV.dead (by omega) (by omega) (by right; right; left; exact ⟨by omega, by omega⟩)
            have gσ1 : σ2 (h + 5) (v 9) = nI D := by rw [← hσ2]; exact s2_keep gσ1 (by omega)
            refine r_aload_n hc dX2_planCut_90 rfl ?_
            refine gf_X2_30 (q := h + 4) hc (HS0 hH) (HR0 hH 3 4 (by decide)) dX2_planCut_91 ?_
            refine gf_X2_153 (q := h + 7) hc (HSa hH 4 _ rfl) (HR4 hH 2 7 (by decide)) dX2_planCut_94 ?_
            refine r_aload_n hc dX2_planCut_97 rfl ?_
            refine gf_X2_30 (q := h + 4) hc (HS0 hH) (HR0 hH 3 4 (by decide)) dX2_planCut_98 ?_
            refine gf_X2_142 (x := nI (v 9)) hc (HSa hH 4 _ rfl) (HVp hV) dX2_planCut_101 ?_
            refine r_iload_n hc dX2_planCut_104 rfl ?_
            refine r_iast (j := v 9) hc (HSa hH 7 _ rfl) rfl (by omega) (by decide) dX2_planCut_105 ?_
            generalize hσ3 : s2 σ2 (h + 7) (v 9) (nI S) = σ3
            have gσ3 : σ3 (h + 7) (v 9) = nI S := by rw [← hσ3]; exact s2_same _ _ _ _
            have hV : HV σ3 h v := by rw [← hσ3]; exact hV.dead (by omega) (by omega) (by right; right; left; exact ⟨by omega, by omega⟩)
            have gσ1 : σ3 (h + 5) (v 9) = nI D := by rw [← hσ3]; exact s2_keep gσ1 (by omega)
            have gσ2 : σ3 (h + 6) (v 9) = nI F := by rw [← hσ3]; exact s2_keep gσ2 (by omega)
            refine r_aload_n hc dX2_planCut_106 rfl ?_
            refine gf_X2_30 (q := h + 4) hc (HS0 hH) (HR0 hH 3 4 (by decide)) dX2_planCut_107 ?_
            refine r_dup hc dX2_planCut_110 rfl ?_
            refine gf_X2_142 (x := nI (v 9)) hc (HSa hH 4 _ rfl) (HVp hV) dX2_planCut_111 ?_
            refine r_iconst (v := nI 1) hc dX2_planCut_114 rfl ?_
            refine r_iadd (v := nI (v 9 + 1)) hc dX2_planCut_115 (ad_NN _ _) ?_
            refine pf_X2_142 hc (HSa hH 4 _ rfl) dX2_planCut_116 ?_
            generalize hσ4 : s2 σ3 (h + 4) 3 (nI (v 9 + 1)) = σ4
            have hV : HV σ4 h (va_up (va_up (va_up (va_up v (150 + 3 * (v 9)) D) (150 + 3 * (v 9) + 1) F) (150 + 3 * (v 9) + 2) S) 9 (v 9 + 1)) := by rw [← hσ4]; exact HV.incPx hV rfl gσ1 gσ2 gσ3 (by omega) (by omega) (by omega)
            have gσ1 : σ4 (h + 5) (v 9) = nI D := by rw [← hσ4]; exact s2_keep gσ1 (by omega)
            have gσ2 : σ4 (h + 6) (v 9) = nI F := by rw [← hσ4]; exact s2_keep gσ2 (by omega)
            have gσ3 : σ4 (h + 7) (v 9) = nI S := by rw [← hσ4]; exact s2_keep gσ3 (by omega)
            refine r_aload_n hc dX2_planCut_119 rfl ?_
            refine gf_X2_30 (q := h + 4) hc (HS0 hH) (HR0 hH 3 4 (by decide)) dX2_planCut_120 ?_
            refine gf_X2_142 (x := nI (v 9 + 1)) hc (HSa hH 4 _ rfl) ((HVp hV).trans (congrArg nI (by rw [va_up_at]))) dX2_planCut_123 ?_
            have hE : sPlan v (D : Int) (F : Int) (S : Int) = (((v 9 + 1 : Nat) : Int), rowP v D F S) := by unfold sPlan; (try simp only [Int.toNat_natCast]); rw [if_pos (by omega), if_pos (by omega), if_pos (by omega), if_neg (by omega)]
            exact hR _ _ ⟨_, rfl, by rw [hE]; exact nz _, by rw [hE]; exact hV, (fun q hq => by rw [← hσ4, s2_ne (show q ≠ h + 4 by omega), ← hσ3, s2_ne (show q ≠ h + 7 by omega), ← hσ2, s2_ne (show q ≠ h + 6 by omega), ← hσ1, s2_ne (show q ≠ h + 5 by omega)])⟩ rfl _ _ dX2_planCut_126
          ·
            refine r_bipush (v := zI (-5)) hc dX2_planCut_55 rfl ?_
            have hE : sPlan v (D : Int) (F : Int) (S : Int) = (-5, v) := by unfold sPlan; (try simp only [Int.toNat_natCast]); rw [if_pos (by omega), if_pos (by omega), if_pos (by omega), if_pos (by omega)]
            exact hR _ _ ⟨_, rfl, by rw [hE], by rw [hE]; exact hV, (fun _ _ => rfl)⟩ rfl _ _ dX2_planCut_57
        ·
          refine r_bipush (v := zI (-4)) hc dX2_planCut_39 rfl ?_
          have hE : sPlan v (D : Int) (F : Int) (S : Int) = (-4, v) := by unfold sPlan; (try simp only [Int.toNat_natCast]); rw [if_pos (by omega), if_pos (by omega), if_neg (by omega)]
          exact hR _ _ ⟨_, rfl, by rw [hE], by rw [hE]; exact hV, (fun _ _ => rfl)⟩ rfl _ _ dX2_planCut_41
      ·
        have c_21 := of_decide_eq_false c_21
        refine r_bipush (v := zI (-2)) hc dX2_planCut_24 rfl ?_
        have hE : sPlan v d f s = (-2, v) := by unfold sPlan; (try simp only [Int.toNat_natCast]); rw [if_pos (by omega), if_neg (by omega)]
        exact hR _ _ ⟨_, rfl, by rw [hE], by rw [hE]; exact hV, (fun _ _ => rfl)⟩ rfl _ _ dX2_planCut_26
  ·
    have c_5 := of_decide_eq_false c_5
    refine r_iconst (v := zI (-1)) hc dX2_planCut_8 rfl ?_
    have hE : sPlan v d f s = (-1, v) := by unfold sPlan; (try simp only [Int.toNat_natCast]); rw [if_neg (by omega)]
    exact hR _ _ ⟨_, rfl, by rw [hE], by rw [hE]; exact hV, (fun _ _ => rfl)⟩ rfl _ _ dX2_planCut_9
