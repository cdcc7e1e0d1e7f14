/-! ===== the plan and the orders carried out; undo; saved states ===== -/
theorem plan_sig {σ τ : Nat → Nat → Int32} {a : Nat} {v : Nat → Nat} (hW : PWk σ a v) (hB : PBx σ a v) (hA : PAn σ a v 0) (h : ∀ q, a ≤ q → q < a + 7 → τ q = σ q) : PWk τ a v ∧ PBx τ a v ∧ PAn τ a v 0 := by
  have e0 := h a (by omega) (by omega)
  have e1 := h (a + 1) (by omega) (by omega)
  have e2 := h (a + 2) (by omega) (by omega)
  have e3 := h (a + 3) (by omega) (by omega)
  have e4 := h (a + 4) (by omega) (by omega)
  have e5 := h (a + 5) (by omega) (by omega)
  have e6 := h (a + 6) (by omega) (by omega)
  unfold PWk PBx PAn rowAt at *
  rw [e0, e1, e2, e3, e4, e5, e6]
  exact ⟨hW, hB, hA⟩
theorem s2_cg {σ τ : Nat → Nat → Int32} {a k : Nat} {x : Int32} {q : Nat} (h : σ q = τ q) : s2 σ a k x q = s2 τ a k x q := by
  by_cases e : q = a
  · subst e; rw [s2_at, s2_at, h]
  · rw [s2_ne e, s2_ne e]; exact h
theorem mH_e {v : Nat → Nat} {nu : Nat} {hf : Nat → Nat} {x : Int} {X : Int × (Nat → Nat)} (h : X.1 = x) : mH false X.1 nu hf v = mH false x nu hf v := by rw [h]
set_option maxRecDepth 100000 in
set_option maxHeartbeats 4000000 in
theorem c_X11_carryPlan {Ω : OmT} {z : Nat} {sh : Nat → Option Kd} {σ : Nat → Nat → Int32} {ρ : Nat → Nat → Option Nat} {P b : Nat} {s : Nat → Nat} {v : Nat → Nat} {nu : Nat} {hf : Nat → Nat} {fl : Nat → Bool} {sv p : Nat → Nat} {ln : Nat} (H : CSt sh σ ρ P b s v nu hf fl sv p ln) (hbx : v 7 ≤ 900000000)  : CtI Ω yX11_carryPlan cX11_carryPlan 3 .int rm_X11_carryPlan [.ref P] (z, sh, σ, ρ) (CPost z sh σ ρ P fl sv p ln nu hf v (sCarryP v)) := by
  have hbx : v 7 ≤ 1000000000 := by omega
  have H0 := H
  obtain ⟨⟨hC, hSl⟩, hP, ⟨hV, hok⟩, ⟨hnu, hn, hHr⟩, hSv, ⟨hql, hpr, hl80, hpp⟩⟩ := H
  have hC0 := hC
  obtain ⟨⟨a0, a1, a2, a3, a4, a5, a6, a7, a8⟩, ⟨hb1, hb2, hb3⟩, ⟨hc1, hc2⟩, hH1, hz2, hz3, hPd, hKs, hWs, hPs⟩ := hC
  have hC := hC0
  have hb7 := hP.2.2.1
  have hbr := bs_rng P hb7
  have hok1 := hok
  obtain ⟨⟨h01, h02⟩, hl1, ⟨h21, h22⟩, h3, h4, h5, h9, hdo, hke, hpn, hpd, htc⟩ := hok1
  have hdr : ∀ d, d < v 4 → v (20 + 6 * d + 2) < 10000 ∧ v (20 + 6 * d + 3) < 10000 := fun d hd => ⟨(hdo d hd).2.2.1, (hdo d hd).2.2.2⟩
  have hcu : ∀ k, k < v 5 → v (80 + 4 * k) < 10000 := fun k hk => (hke k hk).1
  have hwh : ∀ k, k < v 5 → v (80 + 4 * k + 2) ≤ 9 := fun k hk => (hke k hk).2.2
  have hky : ∀ k, k < v 5 → v (80 + 4 * k) < 10000 ∧ v (80 + 4 * k + 2) ≤ 9 ∧ 40 ≤ v (80 + 4 * k + 1) ∧ v (80 + 4 * k + 1) ≤ 90 := fun k hk => ⟨(hke k hk).1, (hke k hk).2.2, (hke k hk).2.1⟩
  have hpl : ∀ p, p < v 9 → v (150 + 3 * p) < 10 := fun p hp => by have := (hpn p hp).1; omega
  refine CtI.enter (by decide) (Nat.le_of_ble_eq_true rfl) (fun Φ hc hR => ?_)
  show Vw Ω Φ (z, sh, σ, ρ) (0, 0) 0 [(0, .ref P)] []
  refine r_aload_n hc dX11_carryPlan_0 rfl ?_
  refine gf_X11_58 (q := P + 316) hc a0 a8 dX11_carryPlan_1 ?_
  refine r_aload_n hc dX11_carryPlan_4 rfl ?_
  refine gf_X11_10 (q := P + 1) hc a0 a1 dX11_carryPlan_5 ?_
  refine cl_X11_107 (As := [.ref (P + 1)]) hc (c_X8_work (ρ := ρ) hPs hH1 hV (Or.inr (by omega)) hok hbx) hPs.1.1 rfl ⟨by decide, by decide⟩ ⟨rfl, rfl⟩ ⟨by decide, by decide⟩ rfl (Nat.le_of_ble_eq_true rfl) dX11_carryPlan_8 (fun u hp => ?_)
  obtain ⟨τ0, hu, hW, hB, hA, hfr0⟩ := hp
  rw [hu]
  have H1 : CSt sh τ0 ρ P b s v nu hf fl sv p ln := H0.sig (fun q q1 q2 q3 => hfr0 q (by omega))
  have hV : HV τ0 (P + 1) v := hV.keep (fun q q1 q2 => hfr0 q (by omega)) h4 h5
  have hob : oC v (v 9) 0 ≤ 6 ^ v 9 := oC_le v h9 _ _
  have hoc : oC v (v 9) 0 ≤ 6 ^ 6 := Nat.le_trans hob (Nat.pow_le_pow_right (by decide) h9)
  refine r_aload_n hc dX11_carryPlan_11 rfl ?_
  refine gf_X11_10 (q := P + 1) hc a0 a1 dX11_carryPlan_12 ?_
  refine gf_X11_110 (q := P + 1 + 4) hc (HS0 hH1) (HR0 hH1 3 4 (by decide)) dX11_carryPlan_15 ?_
  refine gf_X11_114 (x := nI (v 9)) hc (HSa hH1 4 _ rfl) (HVp hV) dX11_carryPlan_18 ?_
  refine r_if_eq (tgt := 34) hc dX11_carryPlan_21 (by decide) (e0_N (by omega)) (fun c_21 => ?_) (fun c_21 => ?_)
  ·
    refine r_bipush (v := zI (-5)) hc dX11_carryPlan_34 rfl ?_
    have hE : sCarryP v = (-5, v) := by unfold sCarryP; rw [if_pos (by omega)]
    rw [hE] at hR
    exact hR _ _ ⟨_, _, rfl, rfl, ⟨b, s, by rw [mH_neg (show (-5, v).1 < (0 : Int) by show -5 < (0 : Int); omega)]; exact H1⟩, fun q hq => ⟨hfr0 q (by omega), rfl⟩⟩ rfl _ _ dX11_carryPlan_36
  ·
    refine r_aload_n hc dX11_carryPlan_24 rfl ?_
    refine gf_X11_58 (q := P + 316) hc a0 a8 dX11_carryPlan_25 ?_
    refine cl_X11_120 (As := []) hc (c_X8_howManyOrders (ρ := ρ) hPs h9 hW hB hA) hPs.1.1 rfl ⟨by decide, by decide⟩ ⟨rfl, rfl⟩ ⟨by decide, by decide⟩ rfl (Nat.le_of_ble_eq_true rfl) dX11_carryPlan_28 (fun r u hp => ?_)
    obtain ⟨rfl, hu⟩ := hp
    rw [hu]
    refine r_if_ne (tgt := 37) hc dX11_carryPlan_31 (by decide) (e0_N (by omega)) (fun c_31 => ?_) (fun c_31 => ?_)
    ·
      refine r_aload_n hc dX11_carryPlan_37 rfl ?_
      refine gf_X11_16 (q := (bsP P b)) hc a0 hP.1 dX11_carryPlan_38 ?_
      refine r_aload_n hc dX11_carryPlan_41 rfl ?_
      refine gf_X11_10 (q := P + 1) hc a0 a1 dX11_carryPlan_42 ?_
      refine cl_X11_62 (As := [.ref (P + 1)]) hc (c_X2_copyFrom (h := bsP P b) (g := P + 1) (hC.bs hb7) hH1 (Or.inl (by omega)) hV hok) (HS0 (hC.bs hb7)) rfl ⟨by decide, by decide⟩ ⟨rfl, rfl⟩ ⟨by decide, by decide⟩ rfl (Nat.le_of_ble_eq_true rfl) dX11_carryPlan_45 (fun u hp => ?_)
      obtain ⟨τ, hu, hVb, hfb⟩ := hp
      rw [hu]
      have hV : HV τ (P + 1) v := hV.keep (fun q q1 q2 => hfb q (by omega)) h4 h5
      obtain ⟨hW1, hB1, hA1⟩ := plan_sig hW hB hA (τ := τ) (fun q q1 q2 => hfb q (by omega))
      have ho : 0 < oC v (v 9) 0 := by omega
      refine r_aload_n hc dX11_carryPlan_48 rfl ?_
      refine gf_X11_10 (q := P + 1) hc a0 a1 dX11_carryPlan_49 ?_
      refine gf_X11_110 (q := P + 1 + 4) hc (HS0 hH1) (HR0 hH1 3 4 (by decide)) dX11_carryPlan_52 ?_
      refine gf_X11_114 (x := nI (v 9)) hc (HSa hH1 4 _ rfl) (HVp hV) dX11_carryPlan_55 ?_
      refine r_istore_n (ls' := [(1, .int (nI (v 9))), (0, .ref P)]) hc dX11_carryPlan_58 (by decide) rfl ?_
      refine r_iconst (v := nI 0) hc dX11_carryPlan_59 rfl ?_
      refine r_istore_n (ls' := [(2, .int (nI 0)), (1, .int (nI (v 9))), (0, .ref P)]) hc dX11_carryPlan_60 (by decide) rfl ?_
      have loop61 : ∀ (n61 : Nat) (τ1 : Nat → Nat → Int32) (k : Nat), (k ≤ v 9) → (HV τ1 (P + 1) (cpR v k)) → (∀ q, (q < P + 1 ∨ P + 35 ≤ q) → τ1 q = τ q) → (v 9 - k) < n61 → Vw Ω Φ (z, sh, τ1, ρ) (0, 0) 61 [(0, .ref P), (1, .int (nI (v 9))), (2, .int (nI k))] [] := by
        intro n61
        induction n61 with
        | zero => intro τ1 k hk hV1 hfr1 hm; exact absurd hm (Nat.not_lt_zero _)
        | succ n61 ih61 =>
          intro τ1 k hk hV1 hfr1 hm61
          refine r_iload_n hc dX11_carryPlan_61 rfl ?_
          refine r_iload_n hc dX11_carryPlan_62 rfl ?_
          refine r_icmp_ge (tgt := 88) hc dX11_carryPlan_63 (by decide) (le_NN (by omega) (by omega)) (fun c_63 => ?_) (fun c_63 => ?_)
          ·
            refine r_aload_n hc dX11_carryPlan_88 rfl ?_
            refine gf_X11_10 (q := P + 1) hc a0 a1 dX11_carryPlan_89 ?_
            have ek : k = v 9 := by omega
            rw [ek] at hV1
            obtain ⟨i1, i2, i3, i4, i5⟩ := cp_inv v hok ho (v 9) (Nat.le_refl _)
            refine cl_X11_103 (As := []) hc (c_X2_emptyPlan (ρ := ρ) hH1 hV1 i1 (by omega)) (HS0 hH1) rfl ⟨by decide, by decide⟩ ⟨rfl, rfl⟩ ⟨by decide, by decide⟩ rfl (Nat.le_of_ble_eq_true rfl) dX11_carryPlan_92 (fun r u hp => ?_)
            obtain ⟨σ1, hu, hr, hV2, hf2⟩ := hp
            rw [hu]
            have hb7x : σ1 (P + 1) 8 = nI (cpR v (v 9) 7) := (HV8 hV2).trans (congrArg nI (show va_up (cpR v (v 9)) 9 0 7 = cpR v (v 9) 7 from va_up_off (by omega)))
            refine r_pop hc dX11_carryPlan_95 rfl ?_
            refine r_aload_n hc dX11_carryPlan_96 rfl ?_
            refine r_aload_n hc dX11_carryPlan_97 rfl ?_
            refine gf_X11_10 (q := P + 1) hc a0 a1 dX11_carryPlan_98 ?_
            refine gf_X11_129 (x := nI (cpR v (v 9) 7)) hc (HS0 hH1) hb7x dX11_carryPlan_101 ?_
            have hE : sCarryP v = (((cpR v (v 9) 7 : Nat) : Int), va_up (cpR v (v 9)) 9 0) := by unfold sCarryP; rw [if_neg (by omega)]
            have hfa : ∀ q, (q < P + 1 ∨ P + 35 ≤ q) → (q < bsP P b ∨ bsP P b + 34 ≤ q) → σ1 q = τ0 q := fun q q1 q2 => (hf2 q (by omega)).trans ((hfr1 q (by omega)).trans (hfb q (by omega)))
            have hn1 : σ1 (P + 69) 1 = nI nu := by rw [hfa _ (by omega) (by omega), hfr0 _ (by omega)]; exact hn
            rw [nz (cpR v (v 9) 7)]
            refine cl_X11_70 (As := [.int (zI (((cpR v (v 9) 7 : Nat) : Int)))]) hc (c_X11_recorded (σ := σ1) hC hP hn1 hnu (x := ((cpR v (v 9) 7 : Nat) : Int)) (by omega)) a0 rfl ⟨by decide, by decide⟩ ⟨rfl, rfl⟩ ⟨by decide, by decide⟩ rfl (Nat.le_of_ble_eq_true rfl) dX11_carryPlan_104 (fun r u hp => ?_)
            obtain ⟨σ2, ρ2, hu, hr, hq⟩ := hp
            subst hr
            rw [hu]
            obtain ⟨hst, hfr⟩ := H1.chg (w := va_up (cpR v (v 9)) 9 0) (hVb.keep (fun q q1 q2 => (hf2 q (by omega)).trans (hfr1 q (by omega))) h4 h5) hV2 (okR_N i1) hfa hq
            rw [hE] at hR
            exact hR _ _ ⟨_, _, rfl, rfl, hst, fun q hq => ⟨(hfr q hq).1.trans (hfr0 q (by omega)), (hfr q hq).2⟩⟩ rfl _ _ dX11_carryPlan_107
          ·
            refine r_aload_n hc dX11_carryPlan_66 rfl ?_
            refine gf_X11_10 (q := P + 1) hc a0 a1 dX11_carryPlan_67 ?_
            refine r_aload_n hc dX11_carryPlan_70 rfl ?_
            refine gf_X11_58 (q := P + 316) hc a0 a8 dX11_carryPlan_71 ?_
            refine r_iload_n hc dX11_carryPlan_74 rfl ?_
            obtain ⟨hW2, hB2, hA2⟩ := plan_sig hW1 hB1 hA1 (τ := τ1) (fun q q1 q2 => hfr1 q (by omega))
            obtain ⟨p0, hp1, hp2, hp3, hp4, hp5⟩ := ln_ok v ho k (by omega)
            obtain ⟨i1, i2, i3, i4, i5⟩ := cp_inv v hok ho k (by omega)
            obtain ⟨g1, g2, g3, g4, g5, g6⟩ := cp_cut v hok ho (k := k) (by omega) hp1
            refine cl_X11_123 (As := [.int (nI k)]) hc (c_X8_firstOrderAt (ρ := ρ) hPs h9 hbx hW2 hB2 hA2 (w := k) (by omega)) hPs.1.1 rfl ⟨by decide, by decide⟩ ⟨rfl, rfl⟩ ⟨by decide, by decide⟩ rfl (Nat.le_of_ble_eq_true rfl) dX11_carryPlan_75 (fun r u hp => ?_)
            obtain ⟨hr, hu⟩ := hp
            rw [hu]
            have hr : r = nI p0 := by rw [hr, if_pos (by omega), hp1, ← nz]
            rw [hr]
            refine cl_X11_126 (As := [.int (nI p0)]) hc (c_X2_carryPlanned (ρ := ρ) hH1 hV1 i1 (by omega) (p := p0) (by rw [i3 9 (by omega)]; exact g1)) (HS0 hH1) rfl ⟨by decide, by decide⟩ ⟨rfl, rfl⟩ ⟨by decide, by decide⟩ rfl (Nat.le_of_ble_eq_true rfl) dX11_carryPlan_78 (fun r u hp => ?_)
            obtain ⟨τ2, hu, hr, hV2, hfr2⟩ := hp
            rw [hu]
            rw [g6] at hV2
            refine r_pop hc dX11_carryPlan_81 rfl ?_
            refine r_iinc (v := nI (k + 1)) (ls' := [(2, .int (nI (k + 1))), (0, .ref P), (1, .int (nI (v 9)))]) hc dX11_carryPlan_82 rfl (ad_NN _ 1) (by decide) rfl ?_
            refine r_goto (tgt := 61) hc dX11_carryPlan_85 (by decide) ?_
            refine r_locp [1, 2, 0] (ls' := [(0, .ref P), (1, .int (nI (v 9))), (2, .int (nI (k + 1)))]) rfl ?_
            exact ih61 τ2 (k + 1) (by omega) hV2 (fun q hq => (hfr2 q hq).trans (hfr1 q hq)) (by omega)
      refine r_locp [2, 1, 0] (ls' := [(0, .ref P), (1, .int (nI (v 9))), (2, .int (nI 0))]) rfl ?_
      exact loop61 _ τ 0 (by omega) hV (fun _ _ => rfl) (Nat.lt_succ_self _)
    ·
      refine r_bipush (v := zI (-5)) hc dX11_carryPlan_34 rfl ?_
      have hE : sCarryP v = (-5, v) := by unfold sCarryP; rw [if_pos (by omega)]
      rw [hE] at hR
      exact hR _ _ ⟨_, _, rfl, rfl, ⟨b, s, by rw [mH_neg (show (-5, v).1 < (0 : Int) by show -5 < (0 : Int); omega)]; exact H1⟩, fun q hq => ⟨hfr0 q (by omega), rfl⟩⟩ rfl _ _ dX11_carryPlan_36
set_option maxRecDepth 100000 in
set_option maxHeartbeats 4000000 in
theorem c_X11_carryOut {Ω : OmT} {z : Nat} {sh : Nat → Option Kd} {σ : Nat → Nat → Int32} {ρ : Nat → Nat → Option Nat} {P b : Nat} {s : Nat → Nat} {v : Nat → Nat} {nu : Nat} {hf : Nat → Nat} {fl : Nat → Bool} {sv p : Nat → Nat} {ln : Nat} (H : CSt sh σ ρ P b s v nu hf fl sv p ln) (hbx : v 7 ≤ 900000000)  : CtI Ω yX11_carryOut cX11_carryOut 2 .int rm_X11_carryOut [.ref P] (z, sh, σ, ρ) (fun r u => ∃ (σ2 : Nat → Nat → Int32) (ρ2 : Nat → Nat → Option Nat), u = (z, sh, σ2, ρ2) ∧ r = zI (sCarryO v p ln).1 ∧ (∃ (b2 : Nat) (s2 : Nat → Nat), CSt sh σ2 ρ2 P b2 s2 (sCarryO v p ln).2 (mH false (sCarryO v p ln).1 nu hf v).1 (mH false (sCarryO v p ln).1 nu hf v).2 fl sv p (if 0 ≤ (sCarryO v p ln).1 then 0 else ln)) ∧ ∀ q, (q < P ∨ P + 391 ≤ q) → σ2 q = σ q ∧ ρ2 q = ρ q) := by
  have hbx : v 7 ≤ 1000000000 := by omega
  have H0 := H
  obtain ⟨⟨hC, hSl⟩, hP, ⟨hV, hok⟩, ⟨hnu, hn, hHr⟩, hSv, ⟨hql, hpr, hl80, hpp⟩⟩ := H
  have hC0 := hC
  obtain ⟨⟨a0, a1, a2, a3, a4, a5, a6, a7, a8⟩, ⟨hb1, hb2, hb3⟩, ⟨hc1, hc2⟩, hH1, hz2, hz3, hPd, hKs, hWs, hPs⟩ := hC
  have hC := hC0
  have hb7 := hP.2.2.1
  have hbr := bs_rng P hb7
  have hok1 := hok
  obtain ⟨⟨h01, h02⟩, hl1, ⟨h21, h22⟩, h3, h4, h5, h9, hdo, hke, hpn, hpd, htc⟩ := hok1
  have hdr : ∀ d, d < v 4 → v (20 + 6 * d + 2) < 10000 ∧ v (20 + 6 * d + 3) < 10000 := fun d hd => ⟨(hdo d hd).2.2.1, (hdo d hd).2.2.2⟩
  have hcu : ∀ k, k < v 5 → v (80 + 4 * k) < 10000 := fun k hk => (hke k hk).1
  have hwh : ∀ k, k < v 5 → v (80 + 4 * k + 2) ≤ 9 := fun k hk => (hke k hk).2.2
  have hky : ∀ k, k < v 5 → v (80 + 4 * k) < 10000 ∧ v (80 + 4 * k + 2) ≤ 9 ∧ 40 ≤ v (80 + 4 * k + 1) ∧ v (80 + 4 * k + 1) ≤ 90 := fun k hk => ⟨(hke k hk).1, (hke k hk).2.2, (hke k hk).2.1⟩
  have hpl : ∀ p, p < v 9 → v (150 + 3 * p) < 10 := fun p hp => by have := (hpn p hp).1; omega
  refine CtI.enter (by decide) (Nat.le_of_ble_eq_true rfl) (fun Φ hc hR => ?_)
  show Vw Ω Φ (z, sh, σ, ρ) (0, 0) 0 [(0, .ref P)] []
  refine r_aload_n hc dX11_carryOut_0 rfl ?_
  refine gf_X11_37 (q := P + 277) hc a0 a5 dX11_carryOut_1 ?_
  refine cl_X11_196 (As := []) hc (c_X6_read (ρ := ρ) (a := P + 277) hPd hql hpr hl80 hpp rfl rfl) hPd.1.1 rfl ⟨by decide, by decide⟩ ⟨rfl, rfl⟩ ⟨by decide, by decide⟩ rfl (Nat.le_of_ble_eq_true rfl) dX11_carryOut_4 (fun r u hp => ?_)
  obtain ⟨τ0, hu, hr, hl2, hp2, hrd, hfr0, hf278, hfk⟩ := hp
  subst hr
  rw [hu]
  have hV : HV τ0 (P + 1) v := hV.keep (fun q q1 q2 => hfr0 q (by omega)) h4 h5
  have hrr := rd_rng (p := p) hl80
  refine r_bipush (v := zI (-6)) hc dX11_carryOut_7 rfl ?_
  refine r_icmp_eq (tgt := 15) hc dX11_carryOut_9 (by decide) (eq_ZZ (by omega) (by omega)) (fun c_9 => ?_) (fun c_9 => ?_)
  ·
    refine r_aload_n hc dX11_carryOut_15 rfl ?_
    refine gf_X11_16 (q := (bsP P b)) hc a0 hP.1 dX11_carryOut_16 ?_
    refine r_aload_n hc dX11_carryOut_19 rfl ?_
    refine gf_X11_10 (q := P + 1) hc a0 a1 dX11_carryOut_20 ?_
    refine cl_X11_62 (As := [.ref (P + 1)]) hc (c_X2_copyFrom (h := bsP P b) (g := P + 1) (hC.bs hb7) hH1 (Or.inl (by omega)) hV hok) (HS0 (hC.bs hb7)) rfl ⟨by decide, by decide⟩ ⟨rfl, rfl⟩ ⟨by decide, by decide⟩ rfl (Nat.le_of_ble_eq_true rfl) dX11_carryOut_23 (fun u hp => ?_)
    obtain ⟨τ, hu, hVb, hfb⟩ := hp
    rw [hu]
    have hV : HV τ (P + 1) v := hV.keep (fun q q1 q2 => hfb q (by omega)) h4 h5
    obtain ⟨hmn, hmn27, hord⟩ := hrd (by omega)
    refine r_iconst (v := nI 0) hc dX11_carryOut_26 rfl ?_
    refine r_istore_n (ls' := [(1, .int (nI 0)), (0, .ref P)]) hc dX11_carryOut_27 (by decide) rfl ?_
    have loop28 : ∀ (n28 : Nat) (τ1 : Nat → Nat → Int32) (w : Nat → Nat) (i : Nat), (i ≤ (RD p ln).2) → (HV τ1 (P + 1) w) → (okR w) → (w 7 ≤ v 7 + 1000 * i) → (exR (obL p ln) ((RD p ln).2 - i) i w = exR (obL p ln) (RD p ln).2 0 v) → (∀ q, (q < P + 1 ∨ P + 35 ≤ q) → τ1 q = τ q) → ((RD p ln).2 - i) < n28 → Vw Ω Φ (z, sh, τ1, ρ) (0, 0) 28 [(0, .ref P), (1, .int (nI i))] [] := by
      intro n28
      induction n28 with
      | zero => intro τ1 w i hi hV1 hokw hbw hex hfr1 hm; exact absurd hm (Nat.not_lt_zero _)
      | succ n28 ih28 =>
        intro τ1 w i hi hV1 hokw hbw hex hfr1 hm28
        have hoc : τ1 (P + 277) 3 = nI (RD p ln).2 := by rw [hfr1 _ (by omega), hfb _ (by omega)]; exact hmn
        have hol : τ1 (P + 277) 1 = nI ln := by rw [hfr1 _ (by omega), hfb _ (by omega)]; exact hl2
        refine r_iload_n hc dX11_carryOut_28 rfl ?_
        refine r_aload_n hc dX11_carryOut_29 rfl ?_
        refine gf_X11_37 (q := P + 277) hc a0 a5 dX11_carryOut_30 ?_
        refine gf_X11_199 (x := nI ((RD p ln).2)) hc hPd.1.1 hoc dX11_carryOut_33 ?_
        refine r_icmp_ge (tgt := 64) hc dX11_carryOut_36 (by decide) (le_NN (by omega) (by omega)) (fun c_36 => ?_) (fun c_36 => ?_)
        ·
          refine r_aload_n hc dX11_carryOut_64 rfl ?_
          refine gf_X11_37 (q := P + 277) hc a0 a5 dX11_carryOut_65 ?_
          refine cl_X11_193 (As := []) hc (c_X6_clear (ρ := ρ) (a := P + 277) hPd hol) hPd.1.1 rfl ⟨by decide, by decide⟩ ⟨rfl, rfl⟩ ⟨by decide, by decide⟩ rfl (Nat.le_of_ble_eq_true rfl) dX11_carryOut_68 (fun r u hp => ?_)
          obtain ⟨hr, hu⟩ := hp
          rw [hu]
          generalize hσ1 : s2 τ1 (P + 277) 1 (nI 0) = σ1
          refine r_pop hc dX11_carryOut_71 rfl ?_
          refine r_aload_n hc dX11_carryOut_72 rfl ?_
          refine r_iload_n hc dX11_carryOut_73 rfl ?_
          have hfin : exR (obL p ln) (RD p ln).2 0 v = (i, w) := by rw [← hex, show (RD p ln).2 - i = 0 by omega, exR]
          have hE : sCarryO v p ln = (((i : Nat) : Int), w) := by unfold sCarryO; rw [if_pos (by omega), hfin]
          rw [hE] at hR
          have hfz : ∀ q, (q < P + 1 ∨ P + 35 ≤ q) → (q < bsP P b ∨ bsP P b + 34 ≤ q) → τ1 q = τ0 q := fun q q1 q2 => (hfr1 q (by omega)).trans (hfb q (by omega))
          generalize hτ9 : s2 τ0 (P + 277) 1 (nI 0) = τ9
          have H1 : CSt sh τ9 ρ P b s v nu hf fl sv p 0 := H0.pd (fun q q1 q2 q3 => by rw [← hτ9, s2_ne (by omega)]; exact hfr0 q (by omega)) (by rw [← hτ9, s2_same]) rowAt.zero (by omega) (fun j hj => absurd hj (Nat.not_lt_zero _))
          have hfa : ∀ q, (q < P + 1 ∨ P + 35 ≤ q) → (q < bsP P b ∨ bsP P b + 34 ≤ q) → σ1 q = τ9 q := fun q q1 q2 => by rw [← hσ1, ← hτ9]; exact s2_cg (hfz q q1 q2)
          have hn1 : σ1 (P + 69) 1 = nI nu := by rw [← hσ1, s2_ne (by omega), hfz _ (by omega) (by omega), hfr0 _ (by omega)]; exact hn
          rw [nz i]
          refine cl_X11_70 (As := [.int (zI (((i : Nat) : Int)))]) hc (c_X11_recorded (σ := σ1) hC hP hn1 hnu (x := ((i : Nat) : Int)) (by omega)) a0 rfl ⟨by decide, by decide⟩ ⟨rfl, rfl⟩ ⟨by decide, by decide⟩ rfl (Nat.le_of_ble_eq_true rfl) dX11_carryOut_74 (fun r u hp => ?_)
          obtain ⟨σ2, ρ2, hu, hr, hq⟩ := hp
          subst hr
          rw [hu]
          have hVb1 : HV σ1 (bsP P b) v := hVb.keep (fun q q1 q2 => by rw [← hσ1, s2_ne (by omega)]; exact hfr1 q (by omega)) h4 h5
          have hVw : HV σ1 (P + 1) (w) := hV1.keep (fun q q1 q2 => by rw [← hσ1, s2_ne (by omega)]) hokw.2.2.2.2.1 hokw.2.2.2.2.2.1
          obtain ⟨hst, hfr⟩ := H1.chg (w := w) hVb1 hVw hokw hfa hq
          exact hR _ _ ⟨_, _, rfl, rfl, by rw [if_pos (show (0 : Int) ≤ ((i : Nat) : Int) from Int.natCast_nonneg _)]; exact hst, fun q hq => ⟨by rw [(hfr q hq).1, ← hτ9, s2_ne (by omega)]; exact hfr0 q (by omega), (hfr q hq).2⟩⟩ rfl _ _ dX11_carryOut_77
        ·
          refine r_aload_n hc dX11_carryOut_39 rfl ?_
          refine gf_X11_10 (q := P + 1) hc a0 a1 dX11_carryOut_40 ?_
          refine r_aload_n hc dX11_carryOut_43 rfl ?_
          refine gf_X11_37 (q := P + 277) hc a0 a5 dX11_carryOut_44 ?_
          refine gf_X11_202 (q := P + 277 + 2) hc hPd.1.1 hPd.2.2.1.2 dX11_carryOut_47 ?_
          refine r_iload_n hc dX11_carryOut_50 rfl ?_
          refine al_6 (r := P + 277 + 3 + i) (j := i) hc hPd.1.2.2 rfl (by omega) (by decide) (hPd.2.2.2 _ (by omega)) dX11_carryOut_51 ?_
          obtain ⟨g1, g2, g3⟩ := hord i (by omega)
          have g4 := pO_ok (p := p) (ln := ln) (t := psF p ln i) (by omega) g1
          rw [sgn_in g2] at g4
          have hkd : kdS (p (psF p ln i)) := g4.2.2.2.2.2
          have g3 : OrdF τ1 (P + 277 + 3 + i) (p (psF p ln i)) (pO p ln (psF p ln i)).2.2 := OrdF.sig g3 (by rw [hfr1 _ (by omega), hfb _ (by omega)])
          have hx : okX w (obL p ln i w) := ok_ob hokw _ _
          refine cl_X11_206 (As := [.ref (P + 277 + 3 + i)]) hc (c_X2_obeyO (ρ := ρ) hH1 hV1 hokw (by omega) (hPd.2.1 i (by omega)) g3 hkd ⟨g4.2.2.1, g4.2.2.2.1, g4.2.2.2.2.1⟩) (HS0 hH1) rfl ⟨by decide, by decide⟩ ⟨rfl, rfl⟩ ⟨by decide, by decide⟩ rfl (Nat.le_of_ble_eq_true rfl) dX11_carryOut_52 (fun r u hp => ?_)
          obtain ⟨τ2, hu, hr, hV2, hfr2⟩ := hp
          subst hr
          rw [hu]
          have hrg : -5 ≤ (obL p ln i w).1 ∧ (obL p ln i w).1 ≤ ((w 7 : Nat) : Int) + 70000 := ob_rng hokw _ _
          have hol2 : τ2 (P + 277) 1 = nI ln := by rw [hfr2 _ (by omega)]; exact hol
          show Vw Ω Φ (z, sh, τ2, ρ) (0, 0) 55 [(0, .ref P), (1, .int (nI i))] [.int (zI (obL p ln i w).1)]
          refine r_if_lt (tgt := 64) hc dX11_carryOut_55 (by decide) (l0_Z (by omega)) (fun c_55 => ?_) (fun c_55 => ?_)
          ·
            refine r_aload_n hc dX11_carryOut_64 rfl ?_
            refine gf_X11_37 (q := P + 277) hc a0 a5 dX11_carryOut_65 ?_
            refine cl_X11_193 (As := []) hc (c_X6_clear (ρ := ρ) (a := P + 277) hPd hol2) hPd.1.1 rfl ⟨by decide, by decide⟩ ⟨rfl, rfl⟩ ⟨by decide, by decide⟩ rfl (Nat.le_of_ble_eq_true rfl) dX11_carryOut_68 (fun r u hp => ?_)
            obtain ⟨hr, hu⟩ := hp
            rw [hu]
            generalize hσ1 : s2 τ2 (P + 277) 1 (nI 0) = σ1
            refine r_pop hc dX11_carryOut_71 rfl ?_
            refine r_aload_n hc dX11_carryOut_72 rfl ?_
            refine r_iload_n hc dX11_carryOut_73 rfl ?_
            have hfin : exR (obL p ln) (RD p ln).2 0 v = (i, (obL p ln i w).2) := by rw [← hex, show (RD p ln).2 - i = ((RD p ln).2 - (i + 1)) + 1 by omega, exR, if_neg (by omega)]
            have hE : sCarryO v p ln = (((i : Nat) : Int), (obL p ln i w).2) := by unfold sCarryO; rw [if_pos (by omega), hfin]
            rw [hE] at hR
            have hfz : ∀ q, (q < P + 1 ∨ P + 35 ≤ q) → (q < bsP P b ∨ bsP P b + 34 ≤ q) → τ2 q = τ0 q := fun q q1 q2 => (hfr2 q (by omega)).trans ((hfr1 q (by omega)).trans (hfb q (by omega)))
            generalize hτ9 : s2 τ0 (P + 277) 1 (nI 0) = τ9
            have H1 : CSt sh τ9 ρ P b s v nu hf fl sv p 0 := H0.pd (fun q q1 q2 q3 => by rw [← hτ9, s2_ne (by omega)]; exact hfr0 q (by omega)) (by rw [← hτ9, s2_same]) rowAt.zero (by omega) (fun j hj => absurd hj (Nat.not_lt_zero _))
            have hfa : ∀ q, (q < P + 1 ∨ P + 35 ≤ q) → (q < bsP P b ∨ bsP P b + 34 ≤ q) → σ1 q = τ9 q := fun q q1 q2 => by rw [← hσ1, ← hτ9]; exact s2_cg (hfz q q1 q2)
            have hn1 : σ1 (P + 69) 1 = nI nu := by rw [← hσ1, s2_ne (by omega), hfz _ (by omega) (by omega), hfr0 _ (by omega)]; exact hn
            rw [nz i]
            refine cl_X11_70 (As := [.int (zI (((i : Nat) : Int)))]) hc (c_X11_recorded (σ := σ1) hC hP hn1 hnu (x := ((i : Nat) : Int)) (by omega)) a0 rfl ⟨by decide, by decide⟩ ⟨rfl, rfl⟩ ⟨by decide, by decide⟩ rfl (Nat.le_of_ble_eq_true rfl) dX11_carryOut_74 (fun r u hp => ?_)
            obtain ⟨σ2, ρ2, hu, hr, hq⟩ := hp
            subst hr
            rw [hu]
            have hVb1 : HV σ1 (bsP P b) v := hVb.keep (fun q q1 q2 => by rw [← hσ1, s2_ne (by omega)]; exact (hfr2 q (by omega)).trans (hfr1 q (by omega))) h4 h5
            have hVw : HV σ1 (P + 1) ((obL p ln i w).2) := hV2.keep (fun q q1 q2 => by rw [← hσ1, s2_ne (by omega)]) hx.1.2.2.2.2.1 hx.1.2.2.2.2.2.1
            obtain ⟨hst, hfr⟩ := H1.chg (w := (obL p ln i w).2) hVb1 hVw hx.1 hfa hq
            exact hR _ _ ⟨_, _, rfl, rfl, by rw [if_pos (show (0 : Int) ≤ ((i : Nat) : Int) from Int.natCast_nonneg _)]; exact hst, fun q hq => ⟨by rw [(hfr q hq).1, ← hτ9, s2_ne (by omega)]; exact hfr0 q (by omega), (hfr q hq).2⟩⟩ rfl _ _ dX11_carryOut_77
          ·
            refine r_iinc (v := nI (i + 1)) (ls' := [(1, .int (nI (i + 1))), (0, .ref P)]) hc dX11_carryOut_58 rfl (ad_NN _ 1) (by decide) rfl ?_
            refine r_goto (tgt := 28) hc dX11_carryOut_61 (by decide) ?_
            refine r_locp [1, 0] (ls' := [(0, .ref P), (1, .int (nI (i + 1)))]) rfl ?_
            exact ih28 τ2 ((obL p ln i w).2) (i + 1) (by omega) hV2 hx.1 (by have := hx.2; omega) (by rw [← hex, show (RD p ln).2 - i = ((RD p ln).2 - (i + 1)) + 1 by omega, exR, if_pos (by omega)]) (fun q hq => (hfr2 q hq).trans (hfr1 q hq)) (by omega)
    refine r_locp [1, 0] (ls' := [(0, .ref P), (1, .int (nI 0))]) rfl ?_
    exact loop28 _ τ v 0 (by omega) hV hok (by omega) rfl (fun _ _ => rfl) (Nat.lt_succ_self _)
  ·
    refine r_bipush (v := zI (-3)) hc dX11_carryOut_12 rfl ?_
    have hE : sCarryO v p ln = (-3, v) := by unfold sCarryO; rw [if_neg (by omega)]
    rw [hE] at hR
    have H1 : CSt sh τ0 ρ P b s v nu hf fl sv p ln := H0.pd (fun q q1 q2 q3 => hfr0 q (by omega)) hl2 hp2 hl80 hpp
    exact hR _ _ ⟨_, _, rfl, rfl, ⟨b, s, by rw [mH_neg (show (-3, v).1 < (0 : Int) by show -3 < (0 : Int); omega), if_neg (by show ¬ (0 : Int) ≤ -3; omega)]; exact H1⟩, fun q hq => ⟨hfr0 q (by omega), rfl⟩⟩ rfl _ _ dX11_carryOut_14
set_option maxRecDepth 100000 in
set_option maxHeartbeats 4000000 in
theorem c_X11_undo {Ω : OmT} {z : Nat} {sh : Nat → Option Kd} {σ : Nat → Nat → Int32} {ρ : Nat → Nat → Option Nat} {P b : Nat} {s : Nat → Nat} {v : Nat → Nat} {nu : Nat} {hf : Nat → Nat} {fl : Nat → Bool} {sv p : Nat → Nat} {ln : Nat} (H : CSt sh σ ρ P b s v nu hf fl sv p ln) (hbx : v 7 ≤ 900000000)  : CtI Ω yX11_undo cX11_undo 1 .int rm_X11_undo [.ref P] (z, sh, σ, ρ) (fun r u => ∃ τ : Nat → Nat → Int32, u = (z, sh, τ, ρ) ∧ ((nu = 0 ∧ r = zI (-5) ∧ τ = σ) ∨ (0 < nu ∧ r = nI (nu - 1) ∧ CSt sh τ ρ P b s (rwF (nu - 1) hf) (nu - 1) hf fl sv p ln ∧ ∀ q, (q < P ∨ P + 391 ≤ q) → τ q = σ q))) := by
  have hbx : v 7 ≤ 1000000000 := by omega
  have H0 := H
  obtain ⟨⟨hC, hSl⟩, hP, ⟨hV, hok⟩, ⟨hnu, hn, hHr⟩, hSv, ⟨hql, hpr, hl80, hpp⟩⟩ := H
  have hC0 := hC
  obtain ⟨⟨a0, a1, a2, a3, a4, a5, a6, a7, a8⟩, ⟨hb1, hb2, hb3⟩, ⟨hc1, hc2⟩, hH1, hz2, hz3, hPd, hKs, hWs, hPs⟩ := hC
  have hC := hC0
  have hb7 := hP.2.2.1
  have hbr := bs_rng P hb7
  have hok1 := hok
  obtain ⟨⟨h01, h02⟩, hl1, ⟨h21, h22⟩, h3, h4, h5, h9, hdo, hke, hpn, hpd, htc⟩ := hok1
  have hdr : ∀ d, d < v 4 → v (20 + 6 * d + 2) < 10000 ∧ v (20 + 6 * d + 3) < 10000 := fun d hd => ⟨(hdo d hd).2.2.1, (hdo d hd).2.2.2⟩
  have hcu : ∀ k, k < v 5 → v (80 + 4 * k) < 10000 := fun k hk => (hke k hk).1
  have hwh : ∀ k, k < v 5 → v (80 + 4 * k + 2) ≤ 9 := fun k hk => (hke k hk).2.2
  have hky : ∀ k, k < v 5 → v (80 + 4 * k) < 10000 ∧ v (80 + 4 * k + 2) ≤ 9 ∧ 40 ≤ v (80 + 4 * k + 1) ∧ v (80 + 4 * k + 1) ≤ 90 := fun k hk => ⟨(hke k hk).1, (hke k hk).2.2, (hke k hk).2.1⟩
  have hpl : ∀ p, p < v 9 → v (150 + 3 * p) < 10 := fun p hp => by have := (hpn p hp).1; omega
  refine CtI.enter (by decide) (Nat.le_of_ble_eq_true rfl) (fun Φ hc hR => ?_)
  show Vw Ω Φ (z, sh, σ, ρ) (0, 0) 0 [(0, .ref P)] []
  refine r_aload_n hc dX11_undo_0 rfl ?_
  refine gf_X11_22 (q := P + 69) hc a0 a2 dX11_undo_1 ?_
  refine gf_X11_141 (x := nI nu) hc hb1 hn dX11_undo_4 ?_
  refine r_if_ne (tgt := 13) hc dX11_undo_7 (by decide) (e0_N (by omega)) (fun c_7 => ?_) (fun c_7 => ?_)
  ·
    refine r_aload_n hc dX11_undo_13 rfl ?_
    refine gf_X11_10 (q := P + 1) hc a0 a1 dX11_undo_14 ?_
    refine r_aload_n hc dX11_undo_17 rfl ?_
    refine gf_X11_22 (q := P + 69) hc a0 a2 dX11_undo_18 ?_
    refine cl_X11_210 (As := []) hc (c_X1_takeLatest (a := P + 69) (t := fun d => bsP P (s d)) hb1 hb2 hb3 hP.2.1 (fun d hd => HS0 (hC.bs (hP.2.2.2.1 d hd).1)) hn hnu (by omega)) hb1 rfl ⟨by decide, by decide⟩ ⟨rfl, rfl⟩ ⟨by decide, by decide⟩ rfl (Nat.le_of_ble_eq_true rfl) dX11_undo_21 (fun r u hp => ?_)
    obtain ⟨hr, hu⟩ := hp
    have hr : r = bsP P (s (nu - 1)) := hr
    rw [hu, hr]
    generalize hσ1 : s2 σ (P + 69) 1 (nI (nu - 1)) = σ1
    have hn1 : σ1 (P + 69) 1 = nI (nu - 1) := by rw [← hσ1, s2_same]
    obtain ⟨hVr, hokr⟩ := hHr (nu - 1) (by omega)
    have hVr1 : HV σ1 (bsP P (s (nu - 1))) (rwF (nu - 1) hf) := hVr.keep (fun q q1 q2 => by have e1 := bs_rng P (hP.2.2.2.1 (nu - 1) (by omega)).1; rw [← hσ1, s2_ne (by omega)]) hokr.2.2.2.2.1 hokr.2.2.2.2.2.1
    have hr7 := bs_rng P (hP.2.2.2.1 (nu - 1) (by omega)).1
    refine cl_X11_62 (As := [.ref ((bsP P (s (nu - 1))))]) hc (c_X2_copyFrom (h := P + 1) (g := bsP P (s (nu - 1))) hH1 (hC.bs (hP.2.2.2.1 _ (by omega)).1) (Or.inr (by omega)) hVr1 hokr) (HS0 hH1) rfl ⟨by decide, by decide⟩ ⟨rfl, rfl⟩ ⟨by decide, by decide⟩ rfl (Nat.le_of_ble_eq_true rfl) dX11_undo_24 (fun u hp => ?_)
    obtain ⟨τ, hu, hVb, hfb⟩ := hp
    rw [hu]
    have hn2 : τ (P + 69) 1 = nI (nu - 1) := by rw [hfb _ (by omega)]; exact hn1
    refine r_aload_n hc dX11_undo_27 rfl ?_
    refine gf_X11_22 (q := P + 69) hc a0 a2 dX11_undo_28 ?_
    refine gf_X11_141 (x := nI (nu - 1)) hc hb1 hn2 dX11_undo_31 ?_
    have hfa : ∀ q, (q < P + 1 ∨ P + 35 ≤ q) → q ≠ P + 69 → τ q = σ q := fun q q1 q2 => by rw [hfb q q1, ← hσ1, s2_ne q2]
    have hst : CSt sh τ ρ P b s (rwF (nu - 1) hf) (nu - 1) hf fl sv p ln := by
      refine ⟨⟨hC, hSl⟩, hP, ⟨hVb, hokr⟩, ⟨by omega, hn2, fun i hi => ⟨(hHr i (by omega)).1.keep (fun q q1 q2 => ?_) (hHr i (by omega)).2.2.2.2.2.1 (hHr i (by omega)).2.2.2.2.2.2.1, (hHr i (by omega)).2⟩⟩, fun d hd => ⟨by rw [hfa _ (by omega) (by omega)]; exact (hSv d hd).1, fun hfl => ⟨((hSv d hd).2 hfl).1.keep (fun q q1 q2 => hfa q (by omega) (by omega)) ((hSv d hd).2 hfl).2.2.2.2.2.1 ((hSv d hd).2 hfl).2.2.2.2.2.2.1, ((hSv d hd).2 hfl).2⟩⟩, ⟨by rw [hfa _ (by omega) (by omega)]; exact hql, hpr.sig (hfa _ (by omega) (by omega)), hl80, hpp⟩⟩
      have e1 := bs_rng P (hP.2.2.2.1 i (by omega)).1
      exact hfa q (by omega) (by omega)
    exact hR _ _ ⟨_, rfl, Or.inr ⟨by omega, rfl, hst, fun q hq => hfa q (by omega) (by omega)⟩⟩ rfl _ _ dX11_undo_34
  ·
    refine r_bipush (v := zI (-5)) hc dX11_undo_10 rfl ?_
    exact hR _ _ ⟨_, rfl, Or.inl ⟨by omega, rfl, rfl⟩⟩ rfl _ _ dX11_undo_12
theorem sv_at {S : Nat} {sv v : Nat → Nat} : ∀ j, j < 170 → v j = rwF S (svF S sv v) j := fun j hj => by
  unfold rwF svF
  rw [if_pos (by omega), Nat.add_sub_cancel_left]
theorem sv_off {S d : Nat} {sv v : Nat → Nat} (h : d ≠ S) : ∀ j, j < 170 → rwF d sv j = rwF d (svF S sv v) j := fun j hj => by
  unfold rwF svF
  rw [if_neg (by omega)]
set_option maxRecDepth 100000 in
set_option maxHeartbeats 4000000 in
theorem c_X11_save {Ω : OmT} {z : Nat} {sh : Nat → Option Kd} {σ : Nat → Nat → Int32} {ρ : Nat → Nat → Option Nat} {P b : Nat} {s : Nat → Nat} {v : Nat → Nat} {nu : Nat} {hf : Nat → Nat} {fl : Nat → Bool} {sv p : Nat → Nat} {ln : Nat} (H : CSt sh σ ρ P b s v nu hf fl sv p ln) (hbx : v 7 ≤ 900000000) {x1 : Int} (hx10 : -2147483648 ≤ x1 ∧ x1 < 2147483648) : CtI Ω yX11_save cX11_save 2 .int rm_X11_save [.ref P, .int (zI x1)] (z, sh, σ, ρ) (fun r u => ∃ τ : Nat → Nat → Int32, u = (z, sh, τ, ρ) ∧ ((¬ (0 ≤ x1 ∧ x1 ≤ 1) ∧ r = zI (-2) ∧ τ = σ) ∨ (∃ S : Nat, S ≤ 1 ∧ x1 = ((S : Nat) : Int) ∧ r = nI (v 3) ∧ CSt sh τ ρ P b s v nu hf (va_up fl S true) (svF S sv v) p ln ∧ ∀ q, (q < P ∨ P + 391 ≤ q) → τ q = σ q))) := by
  have hbx : v 7 ≤ 1000000000 := by omega
  have H0 := H
  obtain ⟨⟨hC, hSl⟩, hP, ⟨hV, hok⟩, ⟨hnu, hn, hHr⟩, hSv, ⟨hql, hpr, hl80, hpp⟩⟩ := H
  have hC0 := hC
  obtain ⟨⟨a0, a1, a2, a3, a4, a5, a6, a7, a8⟩, ⟨hb1, hb2, hb3⟩, ⟨hc1, hc2⟩, hH1, hz2, hz3, hPd, hKs, hWs, hPs⟩ := hC
  have hC := hC0
  have hb7 := hP.2.2.1
  have hbr := bs_rng P hb7
  have hok1 := hok
  obtain ⟨⟨h01, h02⟩, hl1, ⟨h21, h22⟩, h3, h4, h5, h9, hdo, hke, hpn, hpd, htc⟩ := hok1
  have hdr : ∀ d, d < v 4 → v (20 + 6 * d + 2) < 10000 ∧ v (20 + 6 * d + 3) < 10000 := fun d hd => ⟨(hdo d hd).2.2.1, (hdo d hd).2.2.2⟩
  have hcu : ∀ k, k < v 5 → v (80 + 4 * k) < 10000 := fun k hk => (hke k hk).1
  have hwh : ∀ k, k < v 5 → v (80 + 4 * k + 2) ≤ 9 := fun k hk => (hke k hk).2.2
  have hky : ∀ k, k < v 5 → v (80 + 4 * k) < 10000 ∧ v (80 + 4 * k + 2) ≤ 9 ∧ 40 ≤ v (80 + 4 * k + 1) ∧ v (80 + 4 * k + 1) ≤ 90 := fun k hk => ⟨(hke k hk).1, (hke k hk).2.2, (hke k hk).2.1⟩
  have hpl : ∀ p, p < v 9 → v (150 + 3 * p) < 10 := fun p hp => by have := (hpn p hp).1; omega
  refine CtI.enter (by decide) (Nat.le_of_ble_eq_true rfl) (fun Φ hc hR => ?_)
  show Vw Ω Φ (z, sh, σ, ρ) (0, 0) 0 [(0, .ref P), (1, .int (zI x1))] []
  refine r_iload_n hc dX11_save_0 rfl ?_
  refine cl_X11_214 (As := [.int (zI x1)]) hc (c_X11_isSlot (x := x1) (by omega)) rfl ⟨by decide, by decide⟩ ⟨rfl, rfl⟩ ⟨by decide, by decide⟩ rfl (Nat.le_of_ble_eq_true rfl) dX11_save_1 (fun r u hp => ?_)
  obtain ⟨rfl, hu⟩ := hp
  rw [hu]
  refine r_if_ne (tgt := 10) hc dX11_save_4 (by decide) (bI_0 _) (fun c_4 => ?_) (fun c_4 => ?_)
  ·
    have c_4 := bnf c_4
    have c_4 := of_decide_eq_true c_4
    obtain ⟨S, rfl⟩ := Int.eq_ofNat_of_zero_le (show 0 ≤ x1 by omega)
    rw [← nz S]
    refine r_aload_n hc dX11_save_10 rfl ?_
    refine gf_X11_26 (q := P + 275) hc a0 a3 dX11_save_11 ?_
    refine r_iload_n hc dX11_save_14 rfl ?_
    refine al_4 (r := P + 323 + 34 * S) (j := S) hc hc1 rfl (by omega) (by decide) (hSl _ (by omega)).2 dX11_save_15 ?_
    refine r_aload_n hc dX11_save_16 rfl ?_
    refine gf_X11_10 (q := P + 1) hc a0 a1 dX11_save_17 ?_
    refine cl_X11_62 (As := [.ref (P + 1)]) hc (c_X2_copyFrom (h := P + 323 + 34 * S) (g := P + 1) (hSl S (by omega)).1 hH1 (Or.inl (by omega)) hV hok) (HS0 (hSl _ (by omega)).1) rfl ⟨by decide, by decide⟩ ⟨rfl, rfl⟩ ⟨by decide, by decide⟩ rfl (Nat.le_of_ble_eq_true rfl) dX11_save_20 (fun u hp => ?_)
    obtain ⟨τ, hu, hVb, hfb⟩ := hp
    rw [hu]
    have hV : HV τ (P + 1) v := hV.keep (fun q q1 q2 => hfb q (by omega)) h4 h5
    refine r_aload_n hc dX11_save_23 rfl ?_
    refine gf_X11_30 (q := P + 276) hc a0 a4 dX11_save_24 ?_
    refine r_iload_n hc dX11_save_27 rfl ?_
    refine r_iconst (v := nI 1) hc dX11_save_28 rfl ?_
    refine r_zast (j := S) hc hc2 rfl (by omega) (by decide) (by rfl) dX11_save_29 ?_
    generalize hσ1 : s2 τ (P + 276) S (nI 1) = σ1
    have hV : HV σ1 (P + 1) v := by rw [← hσ1]; exact hV.dead (by omega) (by omega) (by right; right; right; omega)
    refine r_aload_n hc dX11_save_30 rfl ?_
    refine gf_X11_10 (q := P + 1) hc a0 a1 dX11_save_31 ?_
    refine gf_X11_217 (x := nI (v 3)) hc (HS0 hH1) (HV6 hV) dX11_save_34 ?_
    have hfa : ∀ q, (q < P + 323 + 34 * S ∨ P + 323 + 34 * S + 34 ≤ q) → q ≠ P + 276 → σ1 q = σ q := fun q q1 q2 => by rw [← hσ1, s2_ne q2]; exact hfb q q1
    have hVs : HV σ1 (P + 323 + 34 * S) v := hVb.keep (fun q q1 q2 => by rw [← hσ1, s2_ne (by omega)]) h4 h5
    have hst : CSt sh σ1 ρ P b s v nu hf (va_up fl S true) (svF S sv v) p ln := by
      refine ⟨⟨hC, hSl⟩, hP, ⟨hV, hok⟩, ⟨hnu, by rw [hfa _ (by omega) (by omega)]; exact hn, fun i hi => ⟨(hHr i hi).1.keep (fun q q1 q2 => ?_) (hHr i hi).2.2.2.2.2.1 (hHr i hi).2.2.2.2.2.2.1, (hHr i hi).2⟩⟩, fun d hd => ?_, ⟨by rw [hfa _ (by omega) (by omega)]; exact hql, hpr.sig (hfa _ (by omega) (by omega)), hl80, hpp⟩⟩
      · have e1 := bs_rng P (hP.2.2.2.1 i (by omega)).1
        exact hfa q (by omega) (by omega)
      · by_cases e : d = S
        · subst e
          exact ⟨by rw [← hσ1, s2_same, va_up_at]; rfl, fun _ => ⟨hVs.cong h4 h5 h9 sv_at, hok.cong sv_at⟩⟩
        · refine ⟨by rw [← hσ1, s2_nk e, hfb _ (by omega), va_up_off e]; exact (hSv d hd).1, fun hfl => ?_⟩
          rw [va_up_off e] at hfl
          have hx := (hSv d hd).2 hfl
          exact ⟨(hx.1.keep (fun q q1 q2 => hfa q (by omega) (by omega)) hx.2.2.2.2.2.1 hx.2.2.2.2.2.2.1).cong hx.2.2.2.2.2.1 hx.2.2.2.2.2.2.1 hx.2.2.2.2.2.2.2.1 (sv_off e), hx.2.cong (sv_off e)⟩
    exact hR _ _ ⟨_, rfl, Or.inr ⟨S, by omega, rfl, rfl, hst, fun q hq => hfa q (by omega) (by omega)⟩⟩ rfl _ _ dX11_save_37
  ·
    have c_4 := of_decide_eq_false c_4
    refine r_bipush (v := zI (-2)) hc dX11_save_7 rfl ?_
    exact hR _ _ ⟨_, rfl, Or.inl ⟨by omega, rfl, rfl⟩⟩ rfl _ _ dX11_save_9
set_option maxRecDepth 100000 in
set_option maxHeartbeats 4000000 in
theorem c_X11_restore {Ω : OmT} {z : Nat} {sh : Nat → Option Kd} {σ : Nat → Nat → Int32} {ρ : Nat → Nat → Option Nat} {P b : Nat} {s : Nat → Nat} {v : Nat → Nat} {nu : Nat} {hf : Nat → Nat} {fl : Nat → Bool} {sv p : Nat → Nat} {ln : Nat} (H : CSt sh σ ρ P b s v nu hf fl sv p ln) (hbx : v 7 ≤ 900000000) {x1 : Int} (hx10 : -2147483648 ≤ x1 ∧ x1 < 2147483648) : CtI Ω yX11_restore cX11_restore 2 .int rm_X11_restore [.ref P, .int (zI x1)] (z, sh, σ, ρ) (fun r u => ∃ (σ2 : Nat → Nat → Int32) (ρ2 : Nat → Nat → Option Nat), u = (z, sh, σ2, ρ2) ∧ ((¬ (0 ≤ x1 ∧ x1 ≤ 1) ∧ r = zI (-2) ∧ σ2 = σ ∧ ρ2 = ρ) ∨ (∃ S : Nat, S ≤ 1 ∧ x1 = ((S : Nat) : Int) ∧ ((fl S = false ∧ r = zI (-5) ∧ σ2 = σ ∧ ρ2 = ρ) ∨ (fl S = true ∧ r = nI (sv (S * 170 + 3)) ∧ (∃ (b2 : Nat) (s2 : Nat → Nat), CSt sh σ2 ρ2 P b2 s2 (rwF S sv) (mH false 0 nu hf v).1 (mH false 0 nu hf v).2 fl sv p ln) ∧ ∀ q, (q < P ∨ P + 391 ≤ q) → σ2 q = σ q ∧ ρ2 q = ρ q))))) := by
  have hbx : v 7 ≤ 1000000000 := by omega
  have H0 := H
  obtain ⟨⟨hC, hSl⟩, hP, ⟨hV, hok⟩, ⟨hnu, hn, hHr⟩, hSv, ⟨hql, hpr, hl80, hpp⟩⟩ := H
  have hC0 := hC
  obtain ⟨⟨a0, a1, a2, a3, a4, a5, a6, a7, a8⟩, ⟨hb1, hb2, hb3⟩, ⟨hc1, hc2⟩, hH1, hz2, hz3, hPd, hKs, hWs, hPs⟩ := hC
  have hC := hC0
  have hb7 := hP.2.2.1
  have hbr := bs_rng P hb7
  have hok1 := hok
  obtain ⟨⟨h01, h02⟩, hl1, ⟨h21, h22⟩, h3, h4, h5, h9, hdo, hke, hpn, hpd, htc⟩ := hok1
  have hdr : ∀ d, d < v 4 → v (20 + 6 * d + 2) < 10000 ∧ v (20 + 6 * d + 3) < 10000 := fun d hd => ⟨(hdo d hd).2.2.1, (hdo d hd).2.2.2⟩
  have hcu : ∀ k, k < v 5 → v (80 + 4 * k) < 10000 := fun k hk => (hke k hk).1
  have hwh : ∀ k, k < v 5 → v (80 + 4 * k + 2) ≤ 9 := fun k hk => (hke k hk).2.2
  have hky : ∀ k, k < v 5 → v (80 + 4 * k) < 10000 ∧ v (80 + 4 * k + 2) ≤ 9 ∧ 40 ≤ v (80 + 4 * k + 1) ∧ v (80 + 4 * k + 1) ≤ 90 := fun k hk => ⟨(hke k hk).1, (hke k hk).2.2, (hke k hk).2.1⟩
  have hpl : ∀ p, p < v 9 → v (150 + 3 * p) < 10 := fun p hp => by have := (hpn p hp).1; omega
  refine CtI.enter (by decide) (Nat.le_of_ble_eq_true rfl) (fun Φ hc hR => ?_)
  show Vw Ω Φ (z, sh, σ, ρ) (0, 0) 0 [(0, .ref P), (1, .int (zI x1))] []
  refine r_iload_n hc dX11_restore_0 rfl ?_
  refine cl_X11_214 (As := [.int (zI x1)]) hc (c_X11_isSlot (x := x1) (by omega)) rfl ⟨by decide, by decide⟩ ⟨rfl, rfl⟩ ⟨by decide, by decide⟩ rfl (Nat.le_of_ble_eq_true rfl) dX11_restore_1 (fun r u hp => ?_)
  obtain ⟨rfl, hu⟩ := hp
  rw [hu]
  refine r_if_ne (tgt := 10) hc dX11_restore_4 (by decide) (bI_0 _) (fun c_4 => ?_) (fun c_4 => ?_)
  ·
    have c_4 := bnf c_4
    have c_4 := of_decide_eq_true c_4
    obtain ⟨S, rfl⟩ := Int.eq_ofNat_of_zero_le (show 0 ≤ x1 by omega)
    rw [← nz S]
    have hfS : σ (P + 276) S = bI (fl S) := (hSv S (by omega)).1
    refine r_aload_n hc dX11_restore_10 rfl ?_
    refine gf_X11_30 (q := P + 276) hc a0 a4 dX11_restore_11 ?_
    refine r_iload_n hc dX11_restore_14 rfl ?_
    refine r_zald (x := bI (fl S)) (j := S) hc hc2 rfl (by omega) (by decide) hfS dX11_restore_15 ?_
    refine r_if_ne (tgt := 22) hc dX11_restore_16 (by decide) (bI_0 _) (fun c_16 => ?_) (fun c_16 => ?_)
    ·
      have c_16 := bnf c_16
      refine r_aload_n hc dX11_restore_22 rfl ?_
      refine gf_X11_16 (q := (bsP P b)) hc a0 hP.1 dX11_restore_23 ?_
      refine r_aload_n hc dX11_restore_26 rfl ?_
      refine gf_X11_10 (q := P + 1) hc a0 a1 dX11_restore_27 ?_
      refine cl_X11_62 (As := [.ref (P + 1)]) hc (c_X2_copyFrom (h := bsP P b) (g := P + 1) (hC.bs hb7) hH1 (Or.inl (by omega)) hV hok) (HS0 (hC.bs hb7)) rfl ⟨by decide, by decide⟩ ⟨rfl, rfl⟩ ⟨by decide, by decide⟩ rfl (Nat.le_of_ble_eq_true rfl) dX11_restore_30 (fun u hp => ?_)
      obtain ⟨τ, hu, hVb, hfb⟩ := hp
      rw [hu]
      have hV : HV τ (P + 1) v := hV.keep (fun q q1 q2 => hfb q (by omega)) h4 h5
      have hx := (hSv S (by omega)).2 c_16
      have hVs : HV τ (P + 323 + 34 * S) (rwF S sv) := hx.1.keep (fun q q1 q2 => hfb q (by omega)) hx.2.2.2.2.2.1 hx.2.2.2.2.2.2.1
      refine r_aload_n hc dX11_restore_33 rfl ?_
      refine gf_X11_10 (q := P + 1) hc a0 a1 dX11_restore_34 ?_
      refine r_aload_n hc dX11_restore_37 rfl ?_
      refine gf_X11_26 (q := P + 275) hc a0 a3 dX11_restore_38 ?_
      refine r_iload_n hc dX11_restore_41 rfl ?_
      refine al_4 (r := P + 323 + 34 * S) (j := S) hc hc1 rfl (by omega) (by decide) (hSl _ (by omega)).2 dX11_restore_42 ?_
      refine cl_X11_62 (As := [.ref (P + 323 + 34 * S)]) hc (c_X2_copyFrom (h := P + 1) (g := P + 323 + 34 * S) hH1 (hSl S (by omega)).1 (Or.inr (by omega)) hVs hx.2) (HS0 hH1) rfl ⟨by decide, by decide⟩ ⟨rfl, rfl⟩ ⟨by decide, by decide⟩ rfl (Nat.le_of_ble_eq_true rfl) dX11_restore_43 (fun u hp => ?_)
      obtain ⟨σ1, hu, hV2, hf2⟩ := hp
      rw [hu]
      have hr3 : σ1 (P + 1) 6 = nI (rwF S sv 3) := HV6 hV2
      refine r_aload_n hc dX11_restore_46 rfl ?_
      refine r_aload_n hc dX11_restore_47 rfl ?_
      refine gf_X11_10 (q := P + 1) hc a0 a1 dX11_restore_48 ?_
      refine gf_X11_217 (x := nI (rwF S sv 3)) hc (HS0 hH1) hr3 dX11_restore_51 ?_
      have h38 := hx.2.2.2.2.1
      have hn1 : σ1 (P + 69) 1 = nI nu := by rw [hf2 _ (by omega), hfb _ (by omega)]; exact hn
      rw [nz (rwF S sv 3)]
      refine cl_X11_70 (As := [.int (zI (((rwF S sv 3 : Nat) : Int)))]) hc (c_X11_recorded (σ := σ1) hC hP hn1 hnu (x := ((rwF S sv 3 : Nat) : Int)) (by omega)) a0 rfl ⟨by decide, by decide⟩ ⟨rfl, rfl⟩ ⟨by decide, by decide⟩ rfl (Nat.le_of_ble_eq_true rfl) dX11_restore_54 (fun r u hp => ?_)
      obtain ⟨σ2, ρ2, hu, hr, hq⟩ := hp
      subst hr
      rw [hu]
      obtain ⟨hst, hfr⟩ := H0.chg (w := rwF S sv) (hVb.keep (fun q q1 q2 => hf2 q (by omega)) h4 h5) hV2 hx.2 (fun q q1 q2 => (hf2 q (by omega)).trans (hfb q (by omega))) hq
      rw [mH_pos (Int.natCast_nonneg _)] at hst
      exact hR _ _ ⟨_, _, rfl, Or.inr ⟨S, by omega, rfl, Or.inr ⟨c_16, (nz _).symm, hst, hfr⟩⟩⟩ rfl _ _ dX11_restore_57
    ·
      refine r_bipush (v := zI (-5)) hc dX11_restore_19 rfl ?_
      exact hR _ _ ⟨_, _, rfl, Or.inr ⟨S, by omega, rfl, Or.inl ⟨c_16, rfl, rfl, rfl⟩⟩⟩ rfl _ _ dX11_restore_21
  ·
    have c_4 := of_decide_eq_false c_4
    refine r_bipush (v := zI (-2)) hc dX11_restore_7 rfl ?_
    exact hR _ _ ⟨_, _, rfl, Or.inl ⟨by omega, rfl, rfl, rfl⟩⟩ rfl _ _ dX11_restore_9
