/-! ===== as in whole: class3 ===== -/
theorem plan_sig {σ τ : Nat → Nat → Int32} {a : Nat} {v : Nat → Nat} (hW : PWk σ a v) (hB : PBx σ a v) (hA : PAn σ a v 0) (h : ∀ q, a ≤ q → q < a + 7 → τ q = σ q) : PWk τ a v ∧ PBx τ a v ∧ PAn τ a v 0 := by
  have e0 := h a (by omega) (by omega)
  have e1 := h (a + 1) (by omega) (by omega)
  have e2 := h (a + 2) (by omega) (by omega)
  have e3 := h (a + 3) (by omega) (by omega)
  have e4 := h (a + 4) (by omega) (by omega)
  have e5 := h (a + 5) (by omega) (by omega)
  have e6 := h (a + 6) (by omega) (by omega)
  unfold PWk PBx PAn rowAt at *
  rw [e0, e1, e2, e3, e4, e5, e6]
  exact ⟨hW, hB, hA⟩
set_option maxRecDepth 100000 in
set_option maxHeartbeats 4000000 in
theorem c_X11_carryPlan {Ω : OmT} {z : Nat} {sh : Nat → Option Kd} {σ : Nat → Nat → Int32} {ρ : Nat → Nat → Option Nat} {P b : Nat} {s : Nat → Nat} {v : Nat → Nat} {nu : Nat} {hf : Nat → Nat} {fl : Nat → Bool} {sv p : Nat → Nat} {ln : Nat} (H : CSt sh σ ρ P b s v nu hf fl sv p ln) (hbx : v 7 ≤ 900000000)  : CtI Ω yX11_carryPlan cX11_carryPlan 3 .int rm_X11_carryPlan [.ref P] (z, sh, σ, ρ) (CPost z sh σ ρ P fl sv p ln nu hf v (sCarryP v)) := by
  have hbx : v 7 ≤ 1000000000 := by omega
  have H0 := H
  obtain ⟨⟨hC, hSl⟩, hP, ⟨hV, hok⟩, ⟨hnu, hn, hHr⟩, hSv, ⟨hql, hpr, hl80, hpp⟩⟩ := H
  have hC0 := hC
  obtain ⟨⟨a0, a1, a2, a3, a4, a5, a6, a7, a8⟩, ⟨hb1, hb2, hb3⟩, ⟨hc1, hc2⟩, hH1, hz2, hz3, hPd, hKs, hWs, hPs⟩ := hC
  have hC := hC0
  have hb7 := hP.2.2.1
  have hbr := bs_rng P hb7
  have hok1 := hok
  obtain ⟨⟨h01, h02⟩, hl1, ⟨h21, h22⟩, h3, h4, h5, h9, hdo, hke, hpn, hpd, htc⟩ := hok1
  have hdr : ∀ d, d < v 4 → v (20 + 6 * d + 2) < 10000 ∧ v (20 + 6 * d + 3) < 10000 := fun d hd => ⟨(hdo d hd).2.2.1, (hdo d hd).2.2.2⟩
  have hcu : ∀ k, k < v 5 → v (80 + 4 * k) < 10000 := fun k hk => (hke k hk).1
  have hwh : ∀ k, k < v 5 → v (80 + 4 * k + 2) ≤ 9 := fun k hk => (hke k hk).2.2
  have hky : ∀ k, k < v 5 → v (80 + 4 * k) < 10000 ∧ v (80 + 4 * k + 2) ≤ 9 ∧ 40 ≤ v (80 + 4 * k + 1) ∧ v (80 + 4 * k + 1) ≤ 90 := fun k hk => ⟨(hke k hk).1, (hke k hk).2.2, (hke k hk).2.1⟩
  have hpl : ∀ p, p < v 9 → v (150 + 3 * p) < 10 := fun p hp => by have := (hpn p hp).1; omega
  refine CtI.enter (by decide) (Nat.le_of_ble_eq_true rfl) (fun Φ hc hR => ?_)
  show Vw Ω Φ (z, sh, σ, ρ) (0, 0) 0 [(0, .ref P)] []
  refine r_aload_n hc dX11_carryPlan_0 rfl ?_
  refine gf_X11_58 (q := P + 316) hc a0 a8 dX11_carryPlan_1 ?_
  refine r_aload_n hc dX11_carryPlan_4 rfl ?_
  refine gf_X11_10 (q := P + 1) hc a0 a1 dX11_carryPlan_5 ?_
  refine cl_X11_107 (As := [.ref (P + 1)]) hc (c_X8_work (ρ := ρ) hPs hH1 hV (Or.inr (by omega)) hok hbx) hPs.1.1 rfl ⟨by decide, by decide⟩ ⟨rfl, rfl⟩ ⟨by decide, by decide⟩ rfl (Nat.le_of_ble_eq_true rfl) dX11_carryPlan_8 (fun u hp => ?_)
  obtain ⟨τ0, hu, hW, hB, hA, hfr0⟩ := hp
  rw [hu]
  have H1 : CSt sh τ0 ρ P b s v nu hf fl sv p ln := H0.sig (fun q q1 q2 q3 => hfr0 q (by omega))
  have hV : HV τ0 (P + 1) v := hV.keep (fun q q1 q2 => hfr0 q (by omega)) h4 h5
  have hob : oC v (v 9) 0 ≤ 6 ^ v 9 := oC_le v h9 _ _
  have hoc : oC v (v 9) 0 ≤ 6 ^ 6 := Nat.le_trans hob (Nat.pow_le_pow_right (by decide) h9)
  refine r_aload_n hc dX11_carryPlan_11 rfl ?_
  refine gf_X11_10 (q := P + 1) hc a0 a1 dX11_carryPlan_12 ?_
  refine gf_X11_110 (q := P + 1 + 4) hc (HS0 hH1) (HR0 hH1 3 4 (by decide)) dX11_carryPlan_15 ?_
  refine gf_X11_114 (x := nI (v 9)) hc (HSa hH1 4 _ rfl) (HVp hV) dX11_carryPlan_18 ?_
  refine r_if_eq (tgt := 34) hc dX11_carryPlan_21 (by decide) (e0_N (by omega)) (fun c_21 => ?_) (fun c_21 => ?_)
  ·
    refine r_bipush (v := zI (-5)) hc dX11_carryPlan_34 rfl ?_
    have hE : sCarryP v = (-5, v) := by unfold sCarryP; rw [if_pos (by omega)]
    rw [hE] at hR
    exact hR _ _ ⟨_, _, rfl, rfl, ⟨b, s, by rw [mH_neg (show (-5, v).1 < (0 : Int) by show -5 < (0 : Int); omega)]; exact H1⟩, fun q hq => ⟨hfr0 q (by omega), rfl⟩⟩ rfl _ _ dX11_carryPlan_36
  ·
    refine r_aload_n hc dX11_carryPlan_24 rfl ?_
    refine gf_X11_58 (q := P + 316) hc a0 a8 dX11_carryPlan_25 ?_
    refine cl_X11_120 (As := []) hc (c_X8_howManyOrders (ρ := ρ) hPs h9 hW hB hA) hPs.1.1 rfl ⟨by decide, by decide⟩ ⟨rfl, rfl⟩ ⟨by decide, by decide⟩ rfl (Nat.le_of_ble_eq_true rfl) dX11_carryPlan_28 (fun r u hp => ?_)
    obtain ⟨rfl, hu⟩ := hp
    rw [hu]
    refine r_if_ne (tgt := 37) hc dX11_carryPlan_31 (by decide) (e0_N (by omega)) (fun c_31 => ?_) (fun c_31 => ?_)
    ·
      refine r_aload_n hc dX11_carryPlan_37 rfl ?_
      refine gf_X11_16 (q := (bsP P b)) hc a0 hP.1 dX11_carryPlan_38 ?_
      refine r_aload_n hc dX11_carryPlan_41 rfl ?_
      refine gf_X11_10 (q := P + 1) hc a0 a1 dX11_carryPlan_42 ?_
      refine cl_X11_62 (As := [.ref (P + 1)]) hc (c_X2_copyFrom (h := bsP P b) (g := P + 1) (hC.bs hb7) hH1 (Or.inl (by omega)) hV hok) (HS0 (hC.bs hb7)) rfl ⟨by decide, by decide⟩ ⟨rfl, rfl⟩ ⟨by decide, by decide⟩ rfl (Nat.le_of_ble_eq_true rfl) dX11_carryPlan_45 (fun u hp => ?_)
      obtain ⟨τ, hu, hVb, hfb⟩ := hp
      rw [hu]
      have hV : HV τ (P + 1) v := hV.keep (fun q q1 q2 => hfb q (by omega)) h4 h5
      obtain ⟨hW1, hB1, hA1⟩ := plan_sig hW hB hA (τ := τ) (fun q q1 q2 => hfb q (by omega))
      have ho : 0 < oC v (v 9) 0 := by omega
      refine r_aload_n hc dX11_carryPlan_48 rfl ?_
      refine gf_X11_10 (q := P + 1) hc a0 a1 dX11_carryPlan_49 ?_
      refine gf_X11_110 (q := P + 1 + 4) hc (HS0 hH1) (HR0 hH1 3 4 (by decide)) dX11_carryPlan_52 ?_
      refine gf_X11_114 (x := nI (v 9)) hc (HSa hH1 4 _ rfl) (HVp hV) dX11_carryPlan_55 ?_
      refine r_istore_n (ls' := [(1, .int (nI (v 9))), (0, .ref P)]) hc dX11_carryPlan_58 (by decide) rfl ?_
      refine r_iconst (v := nI 0) hc dX11_carryPlan_59 rfl ?_
      refine r_istore_n (ls' := [(2, .int (nI 0)), (1, .int (nI (v 9))), (0, .ref P)]) hc dX11_carryPlan_60 (by decide) rfl ?_
      have loop61 : ∀ (n61 : Nat) (τ1 : Nat → Nat → Int32) (k : Nat), (k ≤ v 9) → (HV τ1 (P + 1) (cpR v k)) → (∀ q, (q < P + 1 ∨ P + 35 ≤ q) → τ1 q = τ q) → (v 9 - k) < n61 → Vw Ω Φ (z, sh, τ1, ρ) (0, 0) 61 [(0, .ref P), (1, .int (nI (v 9))), (2, .int (nI k))] [] := by
        intro n61
        induction n61 with
        | zero => intro τ1 k hk hV1 hfr1 hm; exact absurd hm (Nat.not_lt_zero _)
        | succ n61 ih61 =>
          intro τ1 k hk hV1 hfr1 hm61
          refine r_iload_n hc dX11_carryPlan_61 rfl ?_
          refine r_iload_n hc dX11_carryPlan_62 rfl ?_
          refine r_icmp_ge (tgt := 88) hc dX11_carryPlan_63 (by decide) (le_NN (by omega) (by omega)) (fun c_63 => ?_) (fun c_63 => ?_)
          ·
            refine r_aload_n hc dX11_carryPlan_88 rfl ?_
            refine gf_X11_10 (q := P + 1) hc a0 a1 dX11_carryPlan_89 ?_
            have ek : k = v 9 := by omega
            rw [ek] at hV1
            obtain ⟨i1, i2, i3, i4, i5⟩ := cp_inv v hok ho (v 9) (Nat.le_refl _)
            refine cl_X11_103 (As := []) hc (c_X2_emptyPlan (ρ := ρ) hH1 hV1 i1 (by omega)) (HS0 hH1) rfl ⟨by decide, by decide⟩ ⟨rfl, rfl⟩ ⟨by decide, by decide⟩ rfl (Nat.le_of_ble_eq_true rfl) dX11_carryPlan_92 (fun r u hp => ?_)
            obtain ⟨σ1, hu, hr, hV2, hf2⟩ := hp
            rw [hu]
            have hb7x : σ1 (P + 1) 8 = nI (cpR v (v 9) 7) := (HV8 hV2).trans (congrArg nI (show va_up (cpR v (v 9)) 9 0 7 = cpR v (v 9) 7 from va_up_off (by omega)))
            refine r_pop hc dX11_carryPlan_95 rfl ?_
            refine r_aload_n hc dX11_carryPlan_96 rfl ?_
            refine r_aload_n hc dX11_carryPlan_97 rfl ?_
            refine gf_X11_10 (q := P + 1) hc a0 a1 dX11_carryPlan_98 ?_
            refine gf_X11_129 (x := nI (cpR v (v 9) 7)) hc (HS0 hH1) hb7x dX11_carryPlan_101 ?_
            have hE : sCarryP v = (((cpR v (v 9) 7 : Nat) : Int), va_up (cpR v (v 9)) 9 0) := by unfold sCarryP; rw [if_neg (by omega)]
            have hfa : ∀ q, (q < P + 1 ∨ P + 35 ≤ q) → (q < bsP P b ∨ bsP P b + 34 ≤ q) → σ1 q = τ0 q := fun q q1 q2 => (hf2 q (by omega)).trans ((hfr1 q (by omega)).trans (hfb q (by omega)))
            have hn1 : σ1 (P + 69) 1 = nI nu := by rw [hfa _ (by omega) (by omega), hfr0 _ (by omega)]; exact hn
            rw [nz (cpR v (v 9) 7)]
            refine cl_X11_70 (As := [.int (zI (((cpR v (v 9) 7 : Nat) : Int)))]) hc (c_X11_recorded (σ := σ1) hC hP hn1 hnu (x := ((cpR v (v 9) 7 : Nat) : Int)) (by omega)) a0 rfl ⟨by decide, by decide⟩ ⟨rfl, rfl⟩ ⟨by decide, by decide⟩ rfl (Nat.le_of_ble_eq_true rfl) dX11_carryPlan_104 (fun r u hp => ?_)
            obtain ⟨σ2, ρ2, hu, hr, hq⟩ := hp
            subst hr
            rw [hu]
            obtain ⟨hst, hfr⟩ := H1.chg (w := va_up (cpR v (v 9)) 9 0) (hVb.keep (fun q q1 q2 => (hf2 q (by omega)).trans (hfr1 q (by omega))) h4 h5) hV2 (okR_N i1) hfa hq
            rw [hE] at hR
            exact hR _ _ ⟨_, _, rfl, rfl, hst, fun q hq => ⟨(hfr q hq).1.trans (hfr0 q (by omega)), (hfr q hq).2⟩⟩ rfl _ _ dX11_carryPlan_107
          ·
            refine r_aload_n hc dX11_carryPlan_66 rfl ?_
            refine gf_X11_10 (q := P + 1) hc a0 a1 dX11_carryPlan_67 ?_
            refine r_aload_n hc dX11_carryPlan_70 rfl ?_
            refine gf_X11_58 (q := P + 316) hc a0 a8 dX11_carryPlan_71 ?_
            refine r_iload_n hc dX11_carryPlan_74 rfl ?_
            obtain ⟨hW2, hB2, hA2⟩ := plan_sig hW1 hB1 hA1 (τ := τ1) (fun q q1 q2 => hfr1 q (by omega))
            obtain ⟨p0, hp1, hp2, hp3, hp4, hp5⟩ := ln_ok v ho k (by omega)
            obtain ⟨i1, i2, i3, i4, i5⟩ := cp_inv v hok ho k (by omega)
            obtain ⟨g1, g2, g3, g4, g5, g6⟩ := cp_cut v hok ho (k := k) (by omega) hp1
            refine cl_X11_123 (As := [.int (nI k)]) hc (c_X8_firstOrderAt (ρ := ρ) hPs h9 hbx hW2 hB2 hA2 (w := k) (by omega)) hPs.1.1 rfl ⟨by decide, by decide⟩ ⟨rfl, rfl⟩ ⟨by decide, by decide⟩ rfl (Nat.le_of_ble_eq_true rfl) dX11_carryPlan_75 (fun r u hp => ?_)
            obtain ⟨hr, hu⟩ := hp
            rw [hu]
            have hr : r = nI p0 := by rw [hr, if_pos (by omega), hp1, ← nz]
            rw [hr]
            refine cl_X11_126 (As := [.int (nI p0)]) hc (c_X2_carryPlanned (ρ := ρ) hH1 hV1 i1 (by omega) (p := p0) (by rw [i3 9 (by omega)]; exact g1)) (HS0 hH1) rfl ⟨by decide, by decide⟩ ⟨rfl, rfl⟩ ⟨by decide, by decide⟩ rfl (Nat.le_of_ble_eq_true rfl) dX11_carryPlan_78 (fun r u hp => ?_)
            obtain ⟨τ2, hu, hr, hV2, hfr2⟩ := hp
            rw [hu]
            rw [g6] at hV2
            refine r_pop hc dX11_carryPlan_81 rfl ?_
            refine r_iinc (v := nI (k + 1)) (ls' := [(2, .int (nI (k + 1))), (0, .ref P), (1, .int (nI (v 9)))]) hc dX11_carryPlan_82 rfl (ad_NN _ 1) (by decide) rfl ?_
            refine r_goto (tgt := 61) hc dX11_carryPlan_85 (by decide) ?_
            refine r_locp [1, 2, 0] (ls' := [(0, .ref P), (1, .int (nI (v 9))), (2, .int (nI (k + 1)))]) rfl ?_
            exact ih61 τ2 (k + 1) (by omega) hV2 (fun q hq => (hfr2 q hq).trans (hfr1 q hq)) (by omega)
      refine r_locp [2, 1, 0] (ls' := [(0, .ref P), (1, .int (nI (v 9))), (2, .int (nI 0))]) rfl ?_
      exact loop61 _ τ 0 (by omega) hV (fun _ _ => rfl) (Nat.lt_succ_self _)
    ·
      refine r_bipush (v := zI (-5)) hc dX11_carryPlan_34 rfl ?_
      have hE : sCarryP v = (-5, v) := by unfold sCarryP; rw [if_pos (by omega)]
      rw [hE] at hR
      exact hR _ _ ⟨_, _, rfl, rfl, ⟨b, s, by rw [mH_neg (show (-5, v).1 < (0 : Int) by show -5 < (0 : Int); omega)]; exact H1⟩, fun q hq => ⟨hfr0 q (by omega), rfl⟩⟩ rfl _ _ dX11_carryPlan_36
