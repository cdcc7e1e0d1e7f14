/-! ===== as in whole: class2 ===== -/
theorem set_rng {v : Nat → Nat} (h : okR v) (s x : Int) : -6 ≤ (sSet v s x).1 ∧ (sSet v s x).1 ≤ 1000070000 := by
  obtain ⟨⟨a1, a2⟩, a3, ⟨a4, a5⟩, _⟩ := h
  unfold sSet
  by_cases hs : 0 ≤ s ∧ s ≤ 2
  · rw [if_pos hs]
    rcases (show s = 0 ∨ s = 1 ∨ s = 2 by omega) with rfl | rfl | rfl
    · show -6 ≤ (if 1 ≤ x ∧ x ≤ 9 then (((v 0 : Nat) : Int), va_up v 0 x.toNat) else (-2, v)).1 ∧ (if 1 ≤ x ∧ x ≤ 9 then (((v 0 : Nat) : Int), va_up v 0 x.toNat) else (-2, v)).1 ≤ 1000070000
      split <;> dsimp only <;> omega
    · show -6 ≤ (if 0 ≤ x ∧ x ≤ 50 then (((v 1 : Nat) : Int), va_up v 1 x.toNat) else (-2, v)).1 ∧ (if 0 ≤ x ∧ x ≤ 50 then (((v 1 : Nat) : Int), va_up v 1 x.toNat) else (-2, v)).1 ≤ 1000070000
      split <;> dsimp only <;> omega
    · show -6 ≤ (if 40 ≤ x ∧ x ≤ 90 then (((v 2 : Nat) : Int), va_up v 2 x.toNat) else (-2, v)).1 ∧ (if 40 ≤ x ∧ x ≤ 90 then (((v 2 : Nat) : Int), va_up v 2 x.toNat) else (-2, v)).1 ≤ 1000070000
      split <;> dsimp only <;> omega
  · rw [if_neg hs]; dsimp only; omega
theorem door_rng {v : Nat → Nat} (h : okR v) (a b f s : Int) : -6 ≤ (sDoor v a b f s).1 ∧ (sDoor v a b f s).1 ≤ 1000070000 := by
  have h4 := h.2.2.2.2.1
  unfold sDoor
  (repeat' split) <;> dsimp only <;> omega
theorem melt_rng {v : Nat → Nat} (h : okR v) (hb : v 7 ≤ 1000000000) (k : Int) : -6 ≤ (sMelt v k).1 ∧ (sMelt v k).1 ≤ 1000070000 := by
  unfold sMelt
  split
  · have hk : keyWt v k.toNat ≤ 90 := by
      have h1 := h.2.2.2.2.2.2.2.2.1 k.toNat (by omega)
      unfold keyWt
      split <;> omega
    split <;> dsimp only <;> omega
  · dsimp only; omega
theorem plan_rng {v : Nat → Nat} (d f s : Int) : -6 ≤ (sPlan v d f s).1 ∧ (sPlan v d f s).1 ≤ 1000070000 := by
  unfold sPlan
  (repeat' split) <;> dsimp only <;> omega
theorem drop_rng {v : Nat → Nat} (h : okR v) : -6 ≤ (sDrop v).1 ∧ (sDrop v).1 ≤ 1000070000 := by
  have h9 := h.2.2.2.2.2.2.1
  show -6 ≤ ((v 9 : Nat) : Int) ∧ ((v 9 : Nat) : Int) ≤ 1000070000
  omega
theorem rng7 {v : Nat → Nat} {x : Int} (hb : v 7 ≤ 1000000000) (h : -5 ≤ x ∧ x ≤ ((v 7 : Nat) : Int) + 70000) : -6 ≤ x ∧ x ≤ 1000070000 := by omega
abbrev CPost (z : Nat) (sh : Nat → Option Kd) (σ : Nat → Nat → Int32) (ρ : Nat → Nat → Option Nat) (P : Nat) (fl : Nat → Bool) (sv p : Nat → Nat) (ln : Nat) (nu : Nat) (hf v : Nat → Nat) (X : Int × (Nat → Nat)) : Int32 → StT → Prop := fun r u => ∃ (σ2 : Nat → Nat → Int32) (ρ2 : Nat → Nat → Option Nat), u = (z, sh, σ2, ρ2) ∧ r = zI X.1 ∧ (∃ (b2 : Nat) (s2 : Nat → Nat), CSt sh σ2 ρ2 P b2 s2 X.2 (mH false X.1 nu hf v).1 (mH false X.1 nu hf v).2 fl sv p ln) ∧ ∀ q, (q < P ∨ P + 391 ≤ q) → σ2 q = σ q ∧ ρ2 q = ρ q
set_option maxRecDepth 100000 in
set_option maxHeartbeats 4000000 in
theorem c_X11_recorded {Ω : OmT} {z : Nat} {sh : Nat → Option Kd} {σ : Nat → Nat → Int32} {ρ : Nat → Nat → Option Nat} {P b : Nat} {s : Nat → Nat} {nu : Nat} (hC : CSh sh ρ P) (hP : Prm ρ P b s) (hn : σ (P + 69) 1 = nI nu) (hnu : nu ≤ 6) {x : Int} (hx : -2147483648 ≤ x ∧ x < 2147483648) : CtI Ω yX11_recorded cX11_recorded 2 .int rm_X11_recorded [.ref P, .int (zI x)] (z, sh, σ, ρ) (fun r u => ∃ (σ2 : Nat → Nat → Int32) (ρ2 : Nat → Nat → Option Nat), u = (z, sh, σ2, ρ2) ∧ r = zI x ∧ RecQ P b s nu x σ ρ σ2 ρ2) := by
  have hC0 := hC
  obtain ⟨⟨a0, a1, a2, a3, a4, a5, a6, a7, a8⟩, ⟨hb1, hb2, hb3⟩, ⟨hc1, hc2⟩, hH1, hz2, hz3, hPd, hKs, hWs, hPs⟩ := hC
  have hC := hC0
  have hb7 := hP.2.2.1
  refine CtI.enter (by decide) (Nat.le_of_ble_eq_true rfl) (fun Φ hc hR => ?_)
  show Vw Ω Φ (z, sh, σ, ρ) (0, 0) 0 [(0, .ref P), (1, .int (zI x))] []
  refine r_iload_n hc dX11_recorded_0 rfl ?_
  refine r_if_lt (tgt := 19) hc dX11_recorded_1 (by decide) (l0_Z (by omega)) (fun c_1 => ?_) (fun c_1 => ?_)
  ·
    refine r_iload_n hc dX11_recorded_19 rfl ?_
    exact hR _ _ ⟨_, _, rfl, rfl, Or.inl ⟨c_1, rfl, rfl⟩⟩ rfl _ _ dX11_recorded_20
  ·
    refine r_aload_n hc dX11_recorded_4 rfl ?_
    refine r_aload_n hc dX11_recorded_5 rfl ?_
    refine gf_X11_22 (q := P + 69) hc a0 a2 dX11_recorded_6 ?_
    refine r_aload_n hc dX11_recorded_9 rfl ?_
    refine gf_X11_16 (q := (bsP P b)) hc a0 hP.1 dX11_recorded_10 ?_
    refine cl_X11_220 (As := [.ref ((bsP P b))]) hc (c_X1_keep (a := P + 69) (t := fun d => bsP P (s d)) hb1 hb2 hb3 hP.2.1 (fun d hd => HS0 (hC.bs (hP.2.2.2.1 d hd).1)) hn hnu (HS0 (hC.bs hb7))) hb1 rfl ⟨by decide, by decide⟩ ⟨rfl, rfl⟩ ⟨by decide, by decide⟩ rfl (Nat.le_of_ble_eq_true rfl) dX11_recorded_13 (fun r u hp => ?_)
    obtain ⟨σ1, ρ1, hu, hr, g1, g2, g3, g4⟩ := hp
    have hr : r = bsP P (s (if nu = 6 then 0 else nu)) := hr
    rw [hu, hr]
    refine pf_X11_16 hc a0 dX11_recorded_16 ?_
    generalize hρ2 : s2 ρ1 P 1 (some ((bsP P (s (if nu = 6 then 0 else nu))))) = ρ2
    refine r_iload_n hc dX11_recorded_19 rfl ?_
    exact hR _ _ ⟨_, _, rfl, rfl, Or.inr ⟨by omega, g1, g2, fun q q1 q2 => by rw [← hρ2, s2_ne q1]; exact g3 q q2, fun k hk => by rw [← hρ2, s2_nk hk]; exact congrFun (g3 P (by omega)) k, by rw [← hρ2, s2_same], fun d hd => by rw [← hρ2, s2_ne (by omega)]; exact (g4 d hd).trans (congrArg some (kpF_map (bsP P) nu s b d))⟩⟩ rfl _ _ dX11_recorded_20
set_option maxRecDepth 100000 in
set_option maxHeartbeats 4000000 in
theorem c_X11_set {Ω : OmT} {z : Nat} {sh : Nat → Option Kd} {σ : Nat → Nat → Int32} {ρ : Nat → Nat → Option Nat} {P b : Nat} {s : Nat → Nat} {v : Nat → Nat} {nu : Nat} {hf : Nat → Nat} {fl : Nat → Bool} {sv p : Nat → Nat} {ln : Nat} (H : CSt sh σ ρ P b s v nu hf fl sv p ln) (hbx : v 7 ≤ 900000000) {x1 : Int} (hx10 : -2147483648 ≤ x1 ∧ x1 < 2147483648) {x2 : Int} (hx20 : -2147483648 ≤ x2 ∧ x2 < 2147483648) : CtI Ω yX11_set cX11_set 3 .int rm_X11_set [.ref P, .int (zI x1), .int (zI x2)] (z, sh, σ, ρ) (CPost z sh σ ρ P fl sv p ln nu hf v (sSet v x1 x2)) := by
  have hbx : v 7 ≤ 1000000000 := by omega
  have H0 := H
  obtain ⟨⟨hC, hSl⟩, hP, ⟨hV, hok⟩, ⟨hnu, hn, hHr⟩, hSv, ⟨hql, hpr, hl80, hpp⟩⟩ := H
  have hC0 := hC
  obtain ⟨⟨a0, a1, a2, a3, a4, a5, a6, a7, a8⟩, ⟨hb1, hb2, hb3⟩, ⟨hc1, hc2⟩, hH1, hz2, hz3, hPd, hKs, hWs, hPs⟩ := hC
  have hC := hC0
  have hb7 := hP.2.2.1
  have hbr := bs_rng P hb7
  have hok1 := hok
  obtain ⟨⟨h01, h02⟩, hl1, ⟨h21, h22⟩, h3, h4, h5, h9, hdo, hke, hpn, hpd, htc⟩ := hok1
  have hdr : ∀ d, d < v 4 → v (20 + 6 * d + 2) < 10000 ∧ v (20 + 6 * d + 3) < 10000 := fun d hd => ⟨(hdo d hd).2.2.1, (hdo d hd).2.2.2⟩
  have hcu : ∀ k, k < v 5 → v (80 + 4 * k) < 10000 := fun k hk => (hke k hk).1
  have hwh : ∀ k, k < v 5 → v (80 + 4 * k + 2) ≤ 9 := fun k hk => (hke k hk).2.2
  have hky : ∀ k, k < v 5 → v (80 + 4 * k) < 10000 ∧ v (80 + 4 * k + 2) ≤ 9 ∧ 40 ≤ v (80 + 4 * k + 1) ∧ v (80 + 4 * k + 1) ≤ 90 := fun k hk => ⟨(hke k hk).1, (hke k hk).2.2, (hke k hk).2.1⟩
  have hpl : ∀ p, p < v 9 → v (150 + 3 * p) < 10 := fun p hp => by have := (hpn p hp).1; omega
  refine CtI.enter (by decide) (Nat.le_of_ble_eq_true rfl) (fun Φ hc hR => ?_)
  show Vw Ω Φ (z, sh, σ, ρ) (0, 0) 0 [(0, .ref P), (1, .int (zI x1)), (2, .int (zI x2))] []
  refine r_aload_n hc dX11_set_0 rfl ?_
  refine gf_X11_16 (q := (bsP P b)) hc a0 hP.1 dX11_set_1 ?_
  refine r_aload_n hc dX11_set_4 rfl ?_
  refine gf_X11_10 (q := P + 1) hc a0 a1 dX11_set_5 ?_
  refine cl_X11_62 (As := [.ref (P + 1)]) hc (c_X2_copyFrom (h := bsP P b) (g := P + 1) (hC.bs hb7) hH1 (Or.inl (by omega)) hV hok) (HS0 (hC.bs hb7)) rfl ⟨by decide, by decide⟩ ⟨rfl, rfl⟩ ⟨by decide, by decide⟩ rfl (Nat.le_of_ble_eq_true rfl) dX11_set_8 (fun u hp => ?_)
  obtain ⟨τ, hu, hVb, hfb⟩ := hp
  rw [hu]
  have hV : HV τ (P + 1) v := hV.keep (fun q q1 q2 => hfb q (by omega)) h4 h5
  refine r_aload_n hc dX11_set_11 rfl ?_
  refine r_aload_n hc dX11_set_12 rfl ?_
  refine gf_X11_10 (q := P + 1) hc a0 a1 dX11_set_13 ?_
  refine r_iload_n hc dX11_set_16 rfl ?_
  refine r_iload_n hc dX11_set_17 rfl ?_
  refine cl_X11_66 (As := [.int (zI x1), .int (zI x2)]) hc (c_X2_changeSetting (ρ := ρ) hH1 hV hok hbx (s := x1) (x := x2) (by omega) (by omega)) (HS0 hH1) rfl ⟨by decide, by decide⟩ ⟨rfl, rfl⟩ ⟨by decide, by decide⟩ rfl (Nat.le_of_ble_eq_true rfl) dX11_set_18 (fun r u hp => ?_)
  obtain ⟨σ1, hu, hr, hV2, hf2⟩ := hp
  subst hr
  rw [hu]
  have hrg : -6 ≤ (sSet v x1 x2).1 ∧ (sSet v x1 x2).1 ≤ 1000070000 := set_rng hok _ _
  have hn1 : σ1 (P + 69) 1 = nI nu := by rw [hf2 _ (by omega), hfb _ (by omega)]; exact hn
  refine cl_X11_70 (As := [.int (zI ((sSet v x1 x2).1))]) hc (c_X11_recorded (σ := σ1) hC hP hn1 hnu (x := (sSet v x1 x2).1) (by omega)) a0 rfl ⟨by decide, by decide⟩ ⟨rfl, rfl⟩ ⟨by decide, by decide⟩ rfl (Nat.le_of_ble_eq_true rfl) dX11_set_21 (fun r u hp => ?_)
  obtain ⟨σ2, ρ2, hu, hr, hq⟩ := hp
  subst hr
  rw [hu]
  obtain ⟨hst, hfr⟩ := H0.chg (w := (sSet v x1 x2).2) (hVb.keep (fun q q1 q2 => hf2 q (by omega)) h4 h5) hV2 (ok_set hok _ _).1 (fun q q1 q2 => (hf2 q (by omega)).trans (hfb q (by omega))) hq
  exact hR _ _ ⟨_, _, rfl, rfl, hst, hfr⟩ rfl _ _ dX11_set_24
set_option maxRecDepth 100000 in
set_option maxHeartbeats 4000000 in
theorem c_X11_brass {Ω : OmT} {z : Nat} {sh : Nat → Option Kd} {σ : Nat → Nat → Int32} {ρ : Nat → Nat → Option Nat} {P b : Nat} {s : Nat → Nat} {v : Nat → Nat} {nu : Nat} {hf : Nat → Nat} {fl : Nat → Bool} {sv p : Nat → Nat} {ln : Nat} (H : CSt sh σ ρ P b s v nu hf fl sv p ln) (hbx : v 7 ≤ 900000000) {x1 : Int} (hx10 : -2147483648 ≤ x1 ∧ x1 < 2147483648) : CtI Ω yX11_brass cX11_brass 2 .int rm_X11_brass [.ref P, .int (zI x1)] (z, sh, σ, ρ) (CPost z sh σ ρ P fl sv p ln nu hf v (sBrass v x1)) := by
  have hbx : v 7 ≤ 1000000000 := by omega
  have H0 := H
  obtain ⟨⟨hC, hSl⟩, hP, ⟨hV, hok⟩, ⟨hnu, hn, hHr⟩, hSv, ⟨hql, hpr, hl80, hpp⟩⟩ := H
  have hC0 := hC
  obtain ⟨⟨a0, a1, a2, a3, a4, a5, a6, a7, a8⟩, ⟨hb1, hb2, hb3⟩, ⟨hc1, hc2⟩, hH1, hz2, hz3, hPd, hKs, hWs, hPs⟩ := hC
  have hC := hC0
  have hb7 := hP.2.2.1
  have hbr := bs_rng P hb7
  have hok1 := hok
  obtain ⟨⟨h01, h02⟩, hl1, ⟨h21, h22⟩, h3, h4, h5, h9, hdo, hke, hpn, hpd, htc⟩ := hok1
  have hdr : ∀ d, d < v 4 → v (20 + 6 * d + 2) < 10000 ∧ v (20 + 6 * d + 3) < 10000 := fun d hd => ⟨(hdo d hd).2.2.1, (hdo d hd).2.2.2⟩
  have hcu : ∀ k, k < v 5 → v (80 + 4 * k) < 10000 := fun k hk => (hke k hk).1
  have hwh : ∀ k, k < v 5 → v (80 + 4 * k + 2) ≤ 9 := fun k hk => (hke k hk).2.2
  have hky : ∀ k, k < v 5 → v (80 + 4 * k) < 10000 ∧ v (80 + 4 * k + 2) ≤ 9 ∧ 40 ≤ v (80 + 4 * k + 1) ∧ v (80 + 4 * k + 1) ≤ 90 := fun k hk => ⟨(hke k hk).1, (hke k hk).2.2, (hke k hk).2.1⟩
  have hpl : ∀ p, p < v 9 → v (150 + 3 * p) < 10 := fun p hp => by have := (hpn p hp).1; omega
  refine CtI.enter (by decide) (Nat.le_of_ble_eq_true rfl) (fun Φ hc hR => ?_)
  show Vw Ω Φ (z, sh, σ, ρ) (0, 0) 0 [(0, .ref P), (1, .int (zI x1))] []
  refine r_aload_n hc dX11_brass_0 rfl ?_
  refine gf_X11_16 (q := (bsP P b)) hc a0 hP.1 dX11_brass_1 ?_
  refine r_aload_n hc dX11_brass_4 rfl ?_
  refine gf_X11_10 (q := P + 1) hc a0 a1 dX11_brass_5 ?_
  refine cl_X11_62 (As := [.ref (P + 1)]) hc (c_X2_copyFrom (h := bsP P b) (g := P + 1) (hC.bs hb7) hH1 (Or.inl (by omega)) hV hok) (HS0 (hC.bs hb7)) rfl ⟨by decide, by decide⟩ ⟨rfl, rfl⟩ ⟨by decide, by decide⟩ rfl (Nat.le_of_ble_eq_true rfl) dX11_brass_8 (fun u hp => ?_)
  obtain ⟨τ, hu, hVb, hfb⟩ := hp
  rw [hu]
  have hV : HV τ (P + 1) v := hV.keep (fun q q1 q2 => hfb q (by omega)) h4 h5
  refine r_aload_n hc dX11_brass_11 rfl ?_
  refine r_aload_n hc dX11_brass_12 rfl ?_
  refine gf_X11_10 (q := P + 1) hc a0 a1 dX11_brass_13 ?_
  refine r_iload_n hc dX11_brass_16 rfl ?_
  refine cl_X11_74 (As := [.int (zI x1)]) hc (c_X2_bringBrass (ρ := ρ) hH1 hV hok hbx (g := x1) (by omega)) (HS0 hH1) rfl ⟨by decide, by decide⟩ ⟨rfl, rfl⟩ ⟨by decide, by decide⟩ rfl (Nat.le_of_ble_eq_true rfl) dX11_brass_17 (fun r u hp => ?_)
  obtain ⟨σ1, hu, hr, hV2, hf2⟩ := hp
  subst hr
  rw [hu]
  have hrg : -6 ≤ (sBrass v x1).1 ∧ (sBrass v x1).1 ≤ 1000070000 := rng7 hbx (brass_rng _)
  have hn1 : σ1 (P + 69) 1 = nI nu := by rw [hf2 _ (by omega), hfb _ (by omega)]; exact hn
  refine cl_X11_70 (As := [.int (zI ((sBrass v x1).1))]) hc (c_X11_recorded (σ := σ1) hC hP hn1 hnu (x := (sBrass v x1).1) (by omega)) a0 rfl ⟨by decide, by decide⟩ ⟨rfl, rfl⟩ ⟨by decide, by decide⟩ rfl (Nat.le_of_ble_eq_true rfl) dX11_brass_20 (fun r u hp => ?_)
  obtain ⟨σ2, ρ2, hu, hr, hq⟩ := hp
  subst hr
  rw [hu]
  obtain ⟨hst, hfr⟩ := H0.chg (w := (sBrass v x1).2) (hVb.keep (fun q q1 q2 => hf2 q (by omega)) h4 h5) hV2 (ok_brass hok _).1 (fun q q1 q2 => (hf2 q (by omega)).trans (hfb q (by omega))) hq
  exact hR _ _ ⟨_, _, rfl, rfl, hst, hfr⟩ rfl _ _ dX11_brass_23
set_option maxRecDepth 100000 in
set_option maxHeartbeats 4000000 in
theorem c_X11_door {Ω : OmT} {z : Nat} {sh : Nat → Option Kd} {σ : Nat → Nat → Int32} {ρ : Nat → Nat → Option Nat} {P b : Nat} {s : Nat → Nat} {v : Nat → Nat} {nu : Nat} {hf : Nat → Nat} {fl : Nat → Bool} {sv p : Nat → Nat} {ln : Nat} (H : CSt sh σ ρ P b s v nu hf fl sv p ln) (hbx : v 7 ≤ 900000000) {x1 : Int} (hx10 : -2147483648 ≤ x1 ∧ x1 < 2147483648) {x2 : Int} (hx20 : -2147483648 ≤ x2 ∧ x2 < 2147483648) {x3 : Int} (hx30 : -2147483648 ≤ x3 ∧ x3 < 2147483648) {x4 : Int} (hx40 : -2147483648 ≤ x4 ∧ x4 < 2147483648) : CtI Ω yX11_door cX11_door 5 .int rm_X11_door [.ref P, .int (zI x1), .int (zI x2), .int (zI x3), .int (zI x4)] (z, sh, σ, ρ) (CPost z sh σ ρ P fl sv p ln nu hf v (sDoor v x1 x2 x3 x4)) := by
  have hbx : v 7 ≤ 1000000000 := by omega
  have H0 := H
  obtain ⟨⟨hC, hSl⟩, hP, ⟨hV, hok⟩, ⟨hnu, hn, hHr⟩, hSv, ⟨hql, hpr, hl80, hpp⟩⟩ := H
  have hC0 := hC
  obtain ⟨⟨a0, a1, a2, a3, a4, a5, a6, a7, a8⟩, ⟨hb1, hb2, hb3⟩, ⟨hc1, hc2⟩, hH1, hz2, hz3, hPd, hKs, hWs, hPs⟩ := hC
  have hC := hC0
  have hb7 := hP.2.2.1
  have hbr := bs_rng P hb7
  have hok1 := hok
  obtain ⟨⟨h01, h02⟩, hl1, ⟨h21, h22⟩, h3, h4, h5, h9, hdo, hke, hpn, hpd, htc⟩ := hok1
  have hdr : ∀ d, d < v 4 → v (20 + 6 * d + 2) < 10000 ∧ v (20 + 6 * d + 3) < 10000 := fun d hd => ⟨(hdo d hd).2.2.1, (hdo d hd).2.2.2⟩
  have hcu : ∀ k, k < v 5 → v (80 + 4 * k) < 10000 := fun k hk => (hke k hk).1
  have hwh : ∀ k, k < v 5 → v (80 + 4 * k + 2) ≤ 9 := fun k hk => (hke k hk).2.2
  have hky : ∀ k, k < v 5 → v (80 + 4 * k) < 10000 ∧ v (80 + 4 * k + 2) ≤ 9 ∧ 40 ≤ v (80 + 4 * k + 1) ∧ v (80 + 4 * k + 1) ≤ 90 := fun k hk => ⟨(hke k hk).1, (hke k hk).2.2, (hke k hk).2.1⟩
  have hpl : ∀ p, p < v 9 → v (150 + 3 * p) < 10 := fun p hp => by have := (hpn p hp).1; omega
  refine CtI.enter (by decide) (Nat.le_of_ble_eq_true rfl) (fun Φ hc hR => ?_)
  show Vw Ω Φ (z, sh, σ, ρ) (0, 0) 0 [(0, .ref P), (1, .int (zI x1)), (2, .int (zI x2)), (3, .int (zI x3)), (4, .int (zI x4))] []
  refine r_aload_n hc dX11_door_0 rfl ?_
  refine gf_X11_16 (q := (bsP P b)) hc a0 hP.1 dX11_door_1 ?_
  refine r_aload_n hc dX11_door_4 rfl ?_
  refine gf_X11_10 (q := P + 1) hc a0 a1 dX11_door_5 ?_
  refine cl_X11_62 (As := [.ref (P + 1)]) hc (c_X2_copyFrom (h := bsP P b) (g := P + 1) (hC.bs hb7) hH1 (Or.inl (by omega)) hV hok) (HS0 (hC.bs hb7)) rfl ⟨by decide, by decide⟩ ⟨rfl, rfl⟩ ⟨by decide, by decide⟩ rfl (Nat.le_of_ble_eq_true rfl) dX11_door_8 (fun u hp => ?_)
  obtain ⟨τ, hu, hVb, hfb⟩ := hp
  rw [hu]
  have hV : HV τ (P + 1) v := hV.keep (fun q q1 q2 => hfb q (by omega)) h4 h5
  refine r_aload_n hc dX11_door_11 rfl ?_
  refine r_aload_n hc dX11_door_12 rfl ?_
  refine gf_X11_10 (q := P + 1) hc a0 a1 dX11_door_13 ?_
  refine r_iload_n hc dX11_door_16 rfl ?_
  refine r_iload_n hc dX11_door_17 rfl ?_
  refine r_iload_n hc dX11_door_18 rfl ?_
  refine r_iload hc dX11_door_19 rfl ?_
  refine cl_X11_77 (As := [.int (zI x1), .int (zI x2), .int (zI x3), .int (zI x4)]) hc (c_X2_makeDoor (ρ := ρ) hH1 hV hok hbx (a := x1) (b := x2) (f := x3) (s := x4) (by omega) (by omega) (by omega) (by omega)) (HS0 hH1) rfl ⟨by decide, by decide⟩ ⟨rfl, rfl⟩ ⟨by decide, by decide⟩ rfl (Nat.le_of_ble_eq_true rfl) dX11_door_21 (fun r u hp => ?_)
  obtain ⟨σ1, hu, hr, hV2, hf2⟩ := hp
  subst hr
  rw [hu]
  have hrg : -6 ≤ (sDoor v x1 x2 x3 x4).1 ∧ (sDoor v x1 x2 x3 x4).1 ≤ 1000070000 := door_rng hok _ _ _ _
  have hn1 : σ1 (P + 69) 1 = nI nu := by rw [hf2 _ (by omega), hfb _ (by omega)]; exact hn
  refine cl_X11_70 (As := [.int (zI ((sDoor v x1 x2 x3 x4).1))]) hc (c_X11_recorded (σ := σ1) hC hP hn1 hnu (x := (sDoor v x1 x2 x3 x4).1) (by omega)) a0 rfl ⟨by decide, by decide⟩ ⟨rfl, rfl⟩ ⟨by decide, by decide⟩ rfl (Nat.le_of_ble_eq_true rfl) dX11_door_24 (fun r u hp => ?_)
  obtain ⟨σ2, ρ2, hu, hr, hq⟩ := hp
  subst hr
  rw [hu]
  obtain ⟨hst, hfr⟩ := H0.chg (w := (sDoor v x1 x2 x3 x4).2) (hVb.keep (fun q q1 q2 => hf2 q (by omega)) h4 h5) hV2 (ok_door hok _ _ _ _).1 (fun q q1 q2 => (hf2 q (by omega)).trans (hfb q (by omega))) hq
  exact hR _ _ ⟨_, _, rfl, rfl, hst, hfr⟩ rfl _ _ dX11_door_27
set_option maxRecDepth 100000 in
set_option maxHeartbeats 4000000 in
theorem c_X11_cut {Ω : OmT} {z : Nat} {sh : Nat → Option Kd} {σ : Nat → Nat → Int32} {ρ : Nat → Nat → Option Nat} {P b : Nat} {s : Nat → Nat} {v : Nat → Nat} {nu : Nat} {hf : Nat → Nat} {fl : Nat → Bool} {sv p : Nat → Nat} {ln : Nat} (H : CSt sh σ ρ P b s v nu hf fl sv p ln) (hbx : v 7 ≤ 900000000) {x1 : Int} (hx10 : -2147483648 ≤ x1 ∧ x1 < 2147483648) {x2 : Int} (hx20 : -2147483648 ≤ x2 ∧ x2 < 2147483648) {x3 : Int} (hx30 : -2147483648 ≤ x3 ∧ x3 < 2147483648) : CtI Ω yX11_cut cX11_cut 4 .int rm_X11_cut [.ref P, .int (zI x1), .int (zI x2), .int (zI x3)] (z, sh, σ, ρ) (CPost z sh σ ρ P fl sv p ln nu hf v (sCut v x1 x2 x3)) := by
  have hbx : v 7 ≤ 1000000000 := by omega
  have H0 := H
  obtain ⟨⟨hC, hSl⟩, hP, ⟨hV, hok⟩, ⟨hnu, hn, hHr⟩, hSv, ⟨hql, hpr, hl80, hpp⟩⟩ := H
  have hC0 := hC
  obtain ⟨⟨a0, a1, a2, a3, a4, a5, a6, a7, a8⟩, ⟨hb1, hb2, hb3⟩, ⟨hc1, hc2⟩, hH1, hz2, hz3, hPd, hKs, hWs, hPs⟩ := hC
  have hC := hC0
  have hb7 := hP.2.2.1
  have hbr := bs_rng P hb7
  have hok1 := hok
  obtain ⟨⟨h01, h02⟩, hl1, ⟨h21, h22⟩, h3, h4, h5, h9, hdo, hke, hpn, hpd, htc⟩ := hok1
  have hdr : ∀ d, d < v 4 → v (20 + 6 * d + 2) < 10000 ∧ v (20 + 6 * d + 3) < 10000 := fun d hd => ⟨(hdo d hd).2.2.1, (hdo d hd).2.2.2⟩
  have hcu : ∀ k, k < v 5 → v (80 + 4 * k) < 10000 := fun k hk => (hke k hk).1
  have hwh : ∀ k, k < v 5 → v (80 + 4 * k + 2) ≤ 9 := fun k hk => (hke k hk).2.2
  have hky : ∀ k, k < v 5 → v (80 + 4 * k) < 10000 ∧ v (80 + 4 * k + 2) ≤ 9 ∧ 40 ≤ v (80 + 4 * k + 1) ∧ v (80 + 4 * k + 1) ≤ 90 := fun k hk => ⟨(hke k hk).1, (hke k hk).2.2, (hke k hk).2.1⟩
  have hpl : ∀ p, p < v 9 → v (150 + 3 * p) < 10 := fun p hp => by have := (hpn p hp).1; omega
  refine CtI.enter (by decide) (Nat.le_of_ble_eq_true rfl) (fun Φ hc hR => ?_)
  show Vw Ω Φ (z, sh, σ, ρ) (0, 0) 0 [(0, .ref P), (1, .int (zI x1)), (2, .int (zI x2)), (3, .int (zI x3))] []
  refine r_aload_n hc dX11_cut_0 rfl ?_
  refine gf_X11_16 (q := (bsP P b)) hc a0 hP.1 dX11_cut_1 ?_
  refine r_aload_n hc dX11_cut_4 rfl ?_
  refine gf_X11_10 (q := P + 1) hc a0 a1 dX11_cut_5 ?_
  refine cl_X11_62 (As := [.ref (P + 1)]) hc (c_X2_copyFrom (h := bsP P b) (g := P + 1) (hC.bs hb7) hH1 (Or.inl (by omega)) hV hok) (HS0 (hC.bs hb7)) rfl ⟨by decide, by decide⟩ ⟨rfl, rfl⟩ ⟨by decide, by decide⟩ rfl (Nat.le_of_ble_eq_true rfl) dX11_cut_8 (fun u hp => ?_)
  obtain ⟨τ, hu, hVb, hfb⟩ := hp
  rw [hu]
  have hV : HV τ (P + 1) v := hV.keep (fun q q1 q2 => hfb q (by omega)) h4 h5
  refine r_aload_n hc dX11_cut_11 rfl ?_
  refine r_aload_n hc dX11_cut_12 rfl ?_
  refine gf_X11_10 (q := P + 1) hc a0 a1 dX11_cut_13 ?_
  refine r_iload_n hc dX11_cut_16 rfl ?_
  refine r_iload_n hc dX11_cut_17 rfl ?_
  refine r_iload_n hc dX11_cut_18 rfl ?_
  refine cl_X11_81 (As := [.int (zI x1), .int (zI x2), .int (zI x3)]) hc (c_X2_cutAnew (ρ := ρ) hH1 hV hok hbx (d := x1) (f := x2) (s := x3) (by omega) (by omega) (by omega)) (HS0 hH1) rfl ⟨by decide, by decide⟩ ⟨rfl, rfl⟩ ⟨by decide, by decide⟩ rfl (Nat.le_of_ble_eq_true rfl) dX11_cut_19 (fun r u hp => ?_)
  obtain ⟨σ1, hu, hr, hV2, hf2⟩ := hp
  subst hr
  rw [hu]
  have hrg : -6 ≤ (sCut v x1 x2 x3).1 ∧ (sCut v x1 x2 x3).1 ≤ 1000070000 := rng7 hbx (cut_rng _ _ _)
  have hn1 : σ1 (P + 69) 1 = nI nu := by rw [hf2 _ (by omega), hfb _ (by omega)]; exact hn
  refine cl_X11_70 (As := [.int (zI ((sCut v x1 x2 x3).1))]) hc (c_X11_recorded (σ := σ1) hC hP hn1 hnu (x := (sCut v x1 x2 x3).1) (by omega)) a0 rfl ⟨by decide, by decide⟩ ⟨rfl, rfl⟩ ⟨by decide, by decide⟩ rfl (Nat.le_of_ble_eq_true rfl) dX11_cut_22 (fun r u hp => ?_)
  obtain ⟨σ2, ρ2, hu, hr, hq⟩ := hp
  subst hr
  rw [hu]
  obtain ⟨hst, hfr⟩ := H0.chg (w := (sCut v x1 x2 x3).2) (hVb.keep (fun q q1 q2 => hf2 q (by omega)) h4 h5) hV2 (ok_cut hok _ _ _).1 (fun q q1 q2 => (hf2 q (by omega)).trans (hfb q (by omega))) hq
  exact hR _ _ ⟨_, _, rfl, rfl, hst, hfr⟩ rfl _ _ dX11_cut_25
set_option maxRecDepth 100000 in
set_option maxHeartbeats 4000000 in
theorem c_X11_key {Ω : OmT} {z : Nat} {sh : Nat → Option Kd} {σ : Nat → Nat → Int32} {ρ : Nat → Nat → Option Nat} {P b : Nat} {s : Nat → Nat} {v : Nat → Nat} {nu : Nat} {hf : Nat → Nat} {fl : Nat → Bool} {sv p : Nat → Nat} {ln : Nat} (H : CSt sh σ ρ P b s v nu hf fl sv p ln) (hbx : v 7 ≤ 900000000) {x1 : Int} (hx10 : -2147483648 ≤ x1 ∧ x1 < 2147483648) {x2 : Int} (hx20 : -2147483648 ≤ x2 ∧ x2 < 2147483648) : CtI Ω yX11_key cX11_key 3 .int rm_X11_key [.ref P, .int (zI x1), .int (zI x2)] (z, sh, σ, ρ) (CPost z sh σ ρ P fl sv p ln nu hf v (sKey v x1 x2)) := by
  have hbx : v 7 ≤ 1000000000 := by omega
  have H0 := H
  obtain ⟨⟨hC, hSl⟩, hP, ⟨hV, hok⟩, ⟨hnu, hn, hHr⟩, hSv, ⟨hql, hpr, hl80, hpp⟩⟩ := H
  have hC0 := hC
  obtain ⟨⟨a0, a1, a2, a3, a4, a5, a6, a7, a8⟩, ⟨hb1, hb2, hb3⟩, ⟨hc1, hc2⟩, hH1, hz2, hz3, hPd, hKs, hWs, hPs⟩ := hC
  have hC := hC0
  have hb7 := hP.2.2.1
  have hbr := bs_rng P hb7
  have hok1 := hok
  obtain ⟨⟨h01, h02⟩, hl1, ⟨h21, h22⟩, h3, h4, h5, h9, hdo, hke, hpn, hpd, htc⟩ := hok1
  have hdr : ∀ d, d < v 4 → v (20 + 6 * d + 2) < 10000 ∧ v (20 + 6 * d + 3) < 10000 := fun d hd => ⟨(hdo d hd).2.2.1, (hdo d hd).2.2.2⟩
  have hcu : ∀ k, k < v 5 → v (80 + 4 * k) < 10000 := fun k hk => (hke k hk).1
  have hwh : ∀ k, k < v 5 → v (80 + 4 * k + 2) ≤ 9 := fun k hk => (hke k hk).2.2
  have hky : ∀ k, k < v 5 → v (80 + 4 * k) < 10000 ∧ v (80 + 4 * k + 2) ≤ 9 ∧ 40 ≤ v (80 + 4 * k + 1) ∧ v (80 + 4 * k + 1) ≤ 90 := fun k hk => ⟨(hke k hk).1, (hke k hk).2.2, (hke k hk).2.1⟩
  have hpl : ∀ p, p < v 9 → v (150 + 3 * p) < 10 := fun p hp => by have := (hpn p hp).1; omega
  refine CtI.enter (by decide) (Nat.le_of_ble_eq_true rfl) (fun Φ hc hR => ?_)
  show Vw Ω Φ (z, sh, σ, ρ) (0, 0) 0 [(0, .ref P), (1, .int (zI x1)), (2, .int (zI x2))] []
  refine r_aload_n hc dX11_key_0 rfl ?_
  refine gf_X11_16 (q := (bsP P b)) hc a0 hP.1 dX11_key_1 ?_
  refine r_aload_n hc dX11_key_4 rfl ?_
  refine gf_X11_10 (q := P + 1) hc a0 a1 dX11_key_5 ?_
  refine cl_X11_62 (As := [.ref (P + 1)]) hc (c_X2_copyFrom (h := bsP P b) (g := P + 1) (hC.bs hb7) hH1 (Or.inl (by omega)) hV hok) (HS0 (hC.bs hb7)) rfl ⟨by decide, by decide⟩ ⟨rfl, rfl⟩ ⟨by decide, by decide⟩ rfl (Nat.le_of_ble_eq_true rfl) dX11_key_8 (fun u hp => ?_)
  obtain ⟨τ, hu, hVb, hfb⟩ := hp
  rw [hu]
  have hV : HV τ (P + 1) v := hV.keep (fun q q1 q2 => hfb q (by omega)) h4 h5
  refine r_aload_n hc dX11_key_11 rfl ?_
  refine r_aload_n hc dX11_key_12 rfl ?_
  refine gf_X11_10 (q := P + 1) hc a0 a1 dX11_key_13 ?_
  refine r_iload_n hc dX11_key_16 rfl ?_
  refine r_iload_n hc dX11_key_17 rfl ?_
  refine cl_X11_85 (As := [.int (zI x1), .int (zI x2)]) hc (c_X2_makeKey (ρ := ρ) hH1 hV hok hbx (c := x1) (r := x2) (by omega) (by omega)) (HS0 hH1) rfl ⟨by decide, by decide⟩ ⟨rfl, rfl⟩ ⟨by decide, by decide⟩ rfl (Nat.le_of_ble_eq_true rfl) dX11_key_18 (fun r u hp => ?_)
  obtain ⟨σ1, hu, hr, hV2, hf2⟩ := hp
  subst hr
  rw [hu]
  have hrg : -6 ≤ (sKey v x1 x2).1 ∧ (sKey v x1 x2).1 ≤ 1000070000 := rng7 hbx (key_rng hok _ _)
  have hn1 : σ1 (P + 69) 1 = nI nu := by rw [hf2 _ (by omega), hfb _ (by omega)]; exact hn
  refine cl_X11_70 (As := [.int (zI ((sKey v x1 x2).1))]) hc (c_X11_recorded (σ := σ1) hC hP hn1 hnu (x := (sKey v x1 x2).1) (by omega)) a0 rfl ⟨by decide, by decide⟩ ⟨rfl, rfl⟩ ⟨by decide, by decide⟩ rfl (Nat.le_of_ble_eq_true rfl) dX11_key_21 (fun r u hp => ?_)
  obtain ⟨σ2, ρ2, hu, hr, hq⟩ := hp
  subst hr
  rw [hu]
  obtain ⟨hst, hfr⟩ := H0.chg (w := (sKey v x1 x2).2) (hVb.keep (fun q q1 q2 => hf2 q (by omega)) h4 h5) hV2 (ok_key hok _ _).1 (fun q q1 q2 => (hf2 q (by omega)).trans (hfb q (by omega))) hq
  exact hR _ _ ⟨_, _, rfl, rfl, hst, hfr⟩ rfl _ _ dX11_key_24
set_option maxRecDepth 100000 in
set_option maxHeartbeats 4000000 in
theorem c_X11_melt {Ω : OmT} {z : Nat} {sh : Nat → Option Kd} {σ : Nat → Nat → Int32} {ρ : Nat → Nat → Option Nat} {P b : Nat} {s : Nat → Nat} {v : Nat → Nat} {nu : Nat} {hf : Nat → Nat} {fl : Nat → Bool} {sv p : Nat → Nat} {ln : Nat} (H : CSt sh σ ρ P b s v nu hf fl sv p ln) (hbx : v 7 ≤ 900000000) {x1 : Int} (hx10 : -2147483648 ≤ x1 ∧ x1 < 2147483648) : CtI Ω yX11_melt cX11_melt 2 .int rm_X11_melt [.ref P, .int (zI x1)] (z, sh, σ, ρ) (CPost z sh σ ρ P fl sv p ln nu hf v (sMelt v x1)) := by
  have hbx : v 7 ≤ 1000000000 := by omega
  have H0 := H
  obtain ⟨⟨hC, hSl⟩, hP, ⟨hV, hok⟩, ⟨hnu, hn, hHr⟩, hSv, ⟨hql, hpr, hl80, hpp⟩⟩ := H
  have hC0 := hC
  obtain ⟨⟨a0, a1, a2, a3, a4, a5, a6, a7, a8⟩, ⟨hb1, hb2, hb3⟩, ⟨hc1, hc2⟩, hH1, hz2, hz3, hPd, hKs, hWs, hPs⟩ := hC
  have hC := hC0
  have hb7 := hP.2.2.1
  have hbr := bs_rng P hb7
  have hok1 := hok
  obtain ⟨⟨h01, h02⟩, hl1, ⟨h21, h22⟩, h3, h4, h5, h9, hdo, hke, hpn, hpd, htc⟩ := hok1
  have hdr : ∀ d, d < v 4 → v (20 + 6 * d + 2) < 10000 ∧ v (20 + 6 * d + 3) < 10000 := fun d hd => ⟨(hdo d hd).2.2.1, (hdo d hd).2.2.2⟩
  have hcu : ∀ k, k < v 5 → v (80 + 4 * k) < 10000 := fun k hk => (hke k hk).1
  have hwh : ∀ k, k < v 5 → v (80 + 4 * k + 2) ≤ 9 := fun k hk => (hke k hk).2.2
  have hky : ∀ k, k < v 5 → v (80 + 4 * k) < 10000 ∧ v (80 + 4 * k + 2) ≤ 9 ∧ 40 ≤ v (80 + 4 * k + 1) ∧ v (80 + 4 * k + 1) ≤ 90 := fun k hk => ⟨(hke k hk).1, (hke k hk).2.2, (hke k hk).2.1⟩
  have hpl : ∀ p, p < v 9 → v (150 + 3 * p) < 10 := fun p hp => by have := (hpn p hp).1; omega
  refine CtI.enter (by decide) (Nat.le_of_ble_eq_true rfl) (fun Φ hc hR => ?_)
  show Vw Ω Φ (z, sh, σ, ρ) (0, 0) 0 [(0, .ref P), (1, .int (zI x1))] []
  refine r_aload_n hc dX11_melt_0 rfl ?_
  refine gf_X11_16 (q := (bsP P b)) hc a0 hP.1 dX11_melt_1 ?_
  refine r_aload_n hc dX11_melt_4 rfl ?_
  refine gf_X11_10 (q := P + 1) hc a0 a1 dX11_melt_5 ?_
  refine cl_X11_62 (As := [.ref (P + 1)]) hc (c_X2_copyFrom (h := bsP P b) (g := P + 1) (hC.bs hb7) hH1 (Or.inl (by omega)) hV hok) (HS0 (hC.bs hb7)) rfl ⟨by decide, by decide⟩ ⟨rfl, rfl⟩ ⟨by decide, by decide⟩ rfl (Nat.le_of_ble_eq_true rfl) dX11_melt_8 (fun u hp => ?_)
  obtain ⟨τ, hu, hVb, hfb⟩ := hp
  rw [hu]
  have hV : HV τ (P + 1) v := hV.keep (fun q q1 q2 => hfb q (by omega)) h4 h5
  refine r_aload_n hc dX11_melt_11 rfl ?_
  refine r_aload_n hc dX11_melt_12 rfl ?_
  refine gf_X11_10 (q := P + 1) hc a0 a1 dX11_melt_13 ?_
  refine r_iload_n hc dX11_melt_16 rfl ?_
  refine cl_X11_88 (As := [.int (zI x1)]) hc (c_X2_meltKey (ρ := ρ) hH1 hV hok hbx (k := x1) (by omega)) (HS0 hH1) rfl ⟨by decide, by decide⟩ ⟨rfl, rfl⟩ ⟨by decide, by decide⟩ rfl (Nat.le_of_ble_eq_true rfl) dX11_melt_17 (fun r u hp => ?_)
  obtain ⟨σ1, hu, hr, hV2, hf2⟩ := hp
  subst hr
  rw [hu]
  have hrg : -6 ≤ (sMelt v x1).1 ∧ (sMelt v x1).1 ≤ 1000070000 := melt_rng hok hbx _
  have hn1 : σ1 (P + 69) 1 = nI nu := by rw [hf2 _ (by omega), hfb _ (by omega)]; exact hn
  refine cl_X11_70 (As := [.int (zI ((sMelt v x1).1))]) hc (c_X11_recorded (σ := σ1) hC hP hn1 hnu (x := (sMelt v x1).1) (by omega)) a0 rfl ⟨by decide, by decide⟩ ⟨rfl, rfl⟩ ⟨by decide, by decide⟩ rfl (Nat.le_of_ble_eq_true rfl) dX11_melt_20 (fun r u hp => ?_)
  obtain ⟨σ2, ρ2, hu, hr, hq⟩ := hp
  subst hr
  rw [hu]
  obtain ⟨hst, hfr⟩ := H0.chg (w := (sMelt v x1).2) (hVb.keep (fun q q1 q2 => hf2 q (by omega)) h4 h5) hV2 (ok_melt hok _).1 (fun q q1 q2 => (hf2 q (by omega)).trans (hfb q (by omega))) hq
  exact hR _ _ ⟨_, _, rfl, rfl, hst, hfr⟩ rfl _ _ dX11_melt_23
set_option maxRecDepth 100000 in
set_option maxHeartbeats 4000000 in
theorem c_X11_take {Ω : OmT} {z : Nat} {sh : Nat → Option Kd} {σ : Nat → Nat → Int32} {ρ : Nat → Nat → Option Nat} {P b : Nat} {s : Nat → Nat} {v : Nat → Nat} {nu : Nat} {hf : Nat → Nat} {fl : Nat → Bool} {sv p : Nat → Nat} {ln : Nat} (H : CSt sh σ ρ P b s v nu hf fl sv p ln) (hbx : v 7 ≤ 900000000) {x1 : Int} (hx10 : -2147483648 ≤ x1 ∧ x1 < 2147483648) : CtI Ω yX11_take cX11_take 2 .int rm_X11_take [.ref P, .int (zI x1)] (z, sh, σ, ρ) (CPost z sh σ ρ P fl sv p ln nu hf v (sMove v x1 (v 3) 8)) := by
  have hbx : v 7 ≤ 1000000000 := by omega
  have H0 := H
  obtain ⟨⟨hC, hSl⟩, hP, ⟨hV, hok⟩, ⟨hnu, hn, hHr⟩, hSv, ⟨hql, hpr, hl80, hpp⟩⟩ := H
  have hC0 := hC
  obtain ⟨⟨a0, a1, a2, a3, a4, a5, a6, a7, a8⟩, ⟨hb1, hb2, hb3⟩, ⟨hc1, hc2⟩, hH1, hz2, hz3, hPd, hKs, hWs, hPs⟩ := hC
  have hC := hC0
  have hb7 := hP.2.2.1
  have hbr := bs_rng P hb7
  have hok1 := hok
  obtain ⟨⟨h01, h02⟩, hl1, ⟨h21, h22⟩, h3, h4, h5, h9, hdo, hke, hpn, hpd, htc⟩ := hok1
  have hdr : ∀ d, d < v 4 → v (20 + 6 * d + 2) < 10000 ∧ v (20 + 6 * d + 3) < 10000 := fun d hd => ⟨(hdo d hd).2.2.1, (hdo d hd).2.2.2⟩
  have hcu : ∀ k, k < v 5 → v (80 + 4 * k) < 10000 := fun k hk => (hke k hk).1
  have hwh : ∀ k, k < v 5 → v (80 + 4 * k + 2) ≤ 9 := fun k hk => (hke k hk).2.2
  have hky : ∀ k, k < v 5 → v (80 + 4 * k) < 10000 ∧ v (80 + 4 * k + 2) ≤ 9 ∧ 40 ≤ v (80 + 4 * k + 1) ∧ v (80 + 4 * k + 1) ≤ 90 := fun k hk => ⟨(hke k hk).1, (hke k hk).2.2, (hke k hk).2.1⟩
  have hpl : ∀ p, p < v 9 → v (150 + 3 * p) < 10 := fun p hp => by have := (hpn p hp).1; omega
  refine CtI.enter (by decide) (Nat.le_of_ble_eq_true rfl) (fun Φ hc hR => ?_)
  show Vw Ω Φ (z, sh, σ, ρ) (0, 0) 0 [(0, .ref P), (1, .int (zI x1))] []
  refine r_aload_n hc dX11_take_0 rfl ?_
  refine gf_X11_16 (q := (bsP P b)) hc a0 hP.1 dX11_take_1 ?_
  refine r_aload_n hc dX11_take_4 rfl ?_
  refine gf_X11_10 (q := P + 1) hc a0 a1 dX11_take_5 ?_
  refine cl_X11_62 (As := [.ref (P + 1)]) hc (c_X2_copyFrom (h := bsP P b) (g := P + 1) (hC.bs hb7) hH1 (Or.inl (by omega)) hV hok) (HS0 (hC.bs hb7)) rfl ⟨by decide, by decide⟩ ⟨rfl, rfl⟩ ⟨by decide, by decide⟩ rfl (Nat.le_of_ble_eq_true rfl) dX11_take_8 (fun u hp => ?_)
  obtain ⟨τ, hu, hVb, hfb⟩ := hp
  rw [hu]
  have hV : HV τ (P + 1) v := hV.keep (fun q q1 q2 => hfb q (by omega)) h4 h5
  refine r_aload_n hc dX11_take_11 rfl ?_
  refine r_aload_n hc dX11_take_12 rfl ?_
  refine gf_X11_10 (q := P + 1) hc a0 a1 dX11_take_13 ?_
  refine r_iload_n hc dX11_take_16 rfl ?_
  refine cl_X11_91 (As := [.int (zI x1)]) hc (c_X2_takeKey (ρ := ρ) hH1 hV hok hbx (k := x1) (by omega)) (HS0 hH1) rfl ⟨by decide, by decide⟩ ⟨rfl, rfl⟩ ⟨by decide, by decide⟩ rfl (Nat.le_of_ble_eq_true rfl) dX11_take_17 (fun r u hp => ?_)
  obtain ⟨σ1, hu, hr, hV2, hf2⟩ := hp
  subst hr
  rw [hu]
  have hrg : -6 ≤ (sMove v x1 (v 3) 8).1 ∧ (sMove v x1 (v 3) 8).1 ≤ 1000070000 := rng7 hbx (move_rng hok _ _ _)
  have hn1 : σ1 (P + 69) 1 = nI nu := by rw [hf2 _ (by omega), hfb _ (by omega)]; exact hn
  refine cl_X11_70 (As := [.int (zI ((sMove v x1 (v 3) 8).1))]) hc (c_X11_recorded (σ := σ1) hC hP hn1 hnu (x := (sMove v x1 (v 3) 8).1) (by omega)) a0 rfl ⟨by decide, by decide⟩ ⟨rfl, rfl⟩ ⟨by decide, by decide⟩ rfl (Nat.le_of_ble_eq_true rfl) dX11_take_20 (fun r u hp => ?_)
  obtain ⟨σ2, ρ2, hu, hr, hq⟩ := hp
  subst hr
  rw [hu]
  obtain ⟨hst, hfr⟩ := H0.chg (w := (sMove v x1 (v 3) 8).2) (hVb.keep (fun q q1 q2 => hf2 q (by omega)) h4 h5) hV2 (ok_move hok _ (by omega)).1 (fun q q1 q2 => (hf2 q (by omega)).trans (hfb q (by omega))) hq
  exact hR _ _ ⟨_, _, rfl, rfl, hst, hfr⟩ rfl _ _ dX11_take_23
set_option maxRecDepth 100000 in
set_option maxHeartbeats 4000000 in
theorem c_X11_putDown {Ω : OmT} {z : Nat} {sh : Nat → Option Kd} {σ : Nat → Nat → Int32} {ρ : Nat → Nat → Option Nat} {P b : Nat} {s : Nat → Nat} {v : Nat → Nat} {nu : Nat} {hf : Nat → Nat} {fl : Nat → Bool} {sv p : Nat → Nat} {ln : Nat} (H : CSt sh σ ρ P b s v nu hf fl sv p ln) (hbx : v 7 ≤ 900000000) {x1 : Int} (hx10 : -2147483648 ≤ x1 ∧ x1 < 2147483648) : CtI Ω yX11_putDown cX11_putDown 2 .int rm_X11_putDown [.ref P, .int (zI x1)] (z, sh, σ, ρ) (CPost z sh σ ρ P fl sv p ln nu hf v (sMove v x1 8 (v 3))) := by
  have hbx : v 7 ≤ 1000000000 := by omega
  have H0 := H
  obtain ⟨⟨hC, hSl⟩, hP, ⟨hV, hok⟩, ⟨hnu, hn, hHr⟩, hSv, ⟨hql, hpr, hl80, hpp⟩⟩ := H
  have hC0 := hC
  obtain ⟨⟨a0, a1, a2, a3, a4, a5, a6, a7, a8⟩, ⟨hb1, hb2, hb3⟩, ⟨hc1, hc2⟩, hH1, hz2, hz3, hPd, hKs, hWs, hPs⟩ := hC
  have hC := hC0
  have hb7 := hP.2.2.1
  have hbr := bs_rng P hb7
  have hok1 := hok
  obtain ⟨⟨h01, h02⟩, hl1, ⟨h21, h22⟩, h3, h4, h5, h9, hdo, hke, hpn, hpd, htc⟩ := hok1
  have hdr : ∀ d, d < v 4 → v (20 + 6 * d + 2) < 10000 ∧ v (20 + 6 * d + 3) < 10000 := fun d hd => ⟨(hdo d hd).2.2.1, (hdo d hd).2.2.2⟩
  have hcu : ∀ k, k < v 5 → v (80 + 4 * k) < 10000 := fun k hk => (hke k hk).1
  have hwh : ∀ k, k < v 5 → v (80 + 4 * k + 2) ≤ 9 := fun k hk => (hke k hk).2.2
  have hky : ∀ k, k < v 5 → v (80 + 4 * k) < 10000 ∧ v (80 + 4 * k + 2) ≤ 9 ∧ 40 ≤ v (80 + 4 * k + 1) ∧ v (80 + 4 * k + 1) ≤ 90 := fun k hk => ⟨(hke k hk).1, (hke k hk).2.2, (hke k hk).2.1⟩
  have hpl : ∀ p, p < v 9 → v (150 + 3 * p) < 10 := fun p hp => by have := (hpn p hp).1; omega
  refine CtI.enter (by decide) (Nat.le_of_ble_eq_true rfl) (fun Φ hc hR => ?_)
  show Vw Ω Φ (z, sh, σ, ρ) (0, 0) 0 [(0, .ref P), (1, .int (zI x1))] []
  refine r_aload_n hc dX11_putDown_0 rfl ?_
  refine gf_X11_16 (q := (bsP P b)) hc a0 hP.1 dX11_putDown_1 ?_
  refine r_aload_n hc dX11_putDown_4 rfl ?_
  refine gf_X11_10 (q := P + 1) hc a0 a1 dX11_putDown_5 ?_
  refine cl_X11_62 (As := [.ref (P + 1)]) hc (c_X2_copyFrom (h := bsP P b) (g := P + 1) (hC.bs hb7) hH1 (Or.inl (by omega)) hV hok) (HS0 (hC.bs hb7)) rfl ⟨by decide, by decide⟩ ⟨rfl, rfl⟩ ⟨by decide, by decide⟩ rfl (Nat.le_of_ble_eq_true rfl) dX11_putDown_8 (fun u hp => ?_)
  obtain ⟨τ, hu, hVb, hfb⟩ := hp
  rw [hu]
  have hV : HV τ (P + 1) v := hV.keep (fun q q1 q2 => hfb q (by omega)) h4 h5
  refine r_aload_n hc dX11_putDown_11 rfl ?_
  refine r_aload_n hc dX11_putDown_12 rfl ?_
  refine gf_X11_10 (q := P + 1) hc a0 a1 dX11_putDown_13 ?_
  refine r_iload_n hc dX11_putDown_16 rfl ?_
  refine cl_X11_94 (As := [.int (zI x1)]) hc (c_X2_layKeyDown (ρ := ρ) hH1 hV hok hbx (k := x1) (by omega)) (HS0 hH1) rfl ⟨by decide, by decide⟩ ⟨rfl, rfl⟩ ⟨by decide, by decide⟩ rfl (Nat.le_of_ble_eq_true rfl) dX11_putDown_17 (fun r u hp => ?_)
  obtain ⟨σ1, hu, hr, hV2, hf2⟩ := hp
  subst hr
  rw [hu]
  have hrg : -6 ≤ (sMove v x1 8 (v 3)).1 ∧ (sMove v x1 8 (v 3)).1 ≤ 1000070000 := rng7 hbx (move_rng hok _ _ _)
  have hn1 : σ1 (P + 69) 1 = nI nu := by rw [hf2 _ (by omega), hfb _ (by omega)]; exact hn
  refine cl_X11_70 (As := [.int (zI ((sMove v x1 8 (v 3)).1))]) hc (c_X11_recorded (σ := σ1) hC hP hn1 hnu (x := (sMove v x1 8 (v 3)).1) (by omega)) a0 rfl ⟨by decide, by decide⟩ ⟨rfl, rfl⟩ ⟨by decide, by decide⟩ rfl (Nat.le_of_ble_eq_true rfl) dX11_putDown_20 (fun r u hp => ?_)
  obtain ⟨σ2, ρ2, hu, hr, hq⟩ := hp
  subst hr
  rw [hu]
  obtain ⟨hst, hfr⟩ := H0.chg (w := (sMove v x1 8 (v 3)).2) (hVb.keep (fun q q1 q2 => hf2 q (by omega)) h4 h5) hV2 (ok_move hok _ (by omega)).1 (fun q q1 q2 => (hf2 q (by omega)).trans (hfb q (by omega))) hq
  exact hR _ _ ⟨_, _, rfl, rfl, hst, hfr⟩ rfl _ _ dX11_putDown_23
set_option maxRecDepth 100000 in
set_option maxHeartbeats 4000000 in
theorem c_X11_go {Ω : OmT} {z : Nat} {sh : Nat → Option Kd} {σ : Nat → Nat → Int32} {ρ : Nat → Nat → Option Nat} {P b : Nat} {s : Nat → Nat} {v : Nat → Nat} {nu : Nat} {hf : Nat → Nat} {fl : Nat → Bool} {sv p : Nat → Nat} {ln : Nat} (H : CSt sh σ ρ P b s v nu hf fl sv p ln) (hbx : v 7 ≤ 900000000) {x1 : Int} (hx10 : -2147483648 ≤ x1 ∧ x1 < 2147483648) : CtI Ω yX11_go cX11_go 2 .int rm_X11_go [.ref P, .int (zI x1)] (z, sh, σ, ρ) (CPost z sh σ ρ P fl sv p ln nu hf v (sGo v x1)) := by
  have hbx : v 7 ≤ 1000000000 := by omega
  have H0 := H
  obtain ⟨⟨hC, hSl⟩, hP, ⟨hV, hok⟩, ⟨hnu, hn, hHr⟩, hSv, ⟨hql, hpr, hl80, hpp⟩⟩ := H
  have hC0 := hC
  obtain ⟨⟨a0, a1, a2, a3, a4, a5, a6, a7, a8⟩, ⟨hb1, hb2, hb3⟩, ⟨hc1, hc2⟩, hH1, hz2, hz3, hPd, hKs, hWs, hPs⟩ := hC
  have hC := hC0
  have hb7 := hP.2.2.1
  have hbr := bs_rng P hb7
  have hok1 := hok
  obtain ⟨⟨h01, h02⟩, hl1, ⟨h21, h22⟩, h3, h4, h5, h9, hdo, hke, hpn, hpd, htc⟩ := hok1
  have hdr : ∀ d, d < v 4 → v (20 + 6 * d + 2) < 10000 ∧ v (20 + 6 * d + 3) < 10000 := fun d hd => ⟨(hdo d hd).2.2.1, (hdo d hd).2.2.2⟩
  have hcu : ∀ k, k < v 5 → v (80 + 4 * k) < 10000 := fun k hk => (hke k hk).1
  have hwh : ∀ k, k < v 5 → v (80 + 4 * k + 2) ≤ 9 := fun k hk => (hke k hk).2.2
  have hky : ∀ k, k < v 5 → v (80 + 4 * k) < 10000 ∧ v (80 + 4 * k + 2) ≤ 9 ∧ 40 ≤ v (80 + 4 * k + 1) ∧ v (80 + 4 * k + 1) ≤ 90 := fun k hk => ⟨(hke k hk).1, (hke k hk).2.2, (hke k hk).2.1⟩
  have hpl : ∀ p, p < v 9 → v (150 + 3 * p) < 10 := fun p hp => by have := (hpn p hp).1; omega
  refine CtI.enter (by decide) (Nat.le_of_ble_eq_true rfl) (fun Φ hc hR => ?_)
  show Vw Ω Φ (z, sh, σ, ρ) (0, 0) 0 [(0, .ref P), (1, .int (zI x1))] []
  refine r_aload_n hc dX11_go_0 rfl ?_
  refine gf_X11_16 (q := (bsP P b)) hc a0 hP.1 dX11_go_1 ?_
  refine r_aload_n hc dX11_go_4 rfl ?_
  refine gf_X11_10 (q := P + 1) hc a0 a1 dX11_go_5 ?_
  refine cl_X11_62 (As := [.ref (P + 1)]) hc (c_X2_copyFrom (h := bsP P b) (g := P + 1) (hC.bs hb7) hH1 (Or.inl (by omega)) hV hok) (HS0 (hC.bs hb7)) rfl ⟨by decide, by decide⟩ ⟨rfl, rfl⟩ ⟨by decide, by decide⟩ rfl (Nat.le_of_ble_eq_true rfl) dX11_go_8 (fun u hp => ?_)
  obtain ⟨τ, hu, hVb, hfb⟩ := hp
  rw [hu]
  have hV : HV τ (P + 1) v := hV.keep (fun q q1 q2 => hfb q (by omega)) h4 h5
  refine r_aload_n hc dX11_go_11 rfl ?_
  refine r_aload_n hc dX11_go_12 rfl ?_
  refine gf_X11_10 (q := P + 1) hc a0 a1 dX11_go_13 ?_
  refine r_iload_n hc dX11_go_16 rfl ?_
  refine cl_X11_97 (As := [.int (zI x1)]) hc (c_X2_walkThrough (ρ := ρ) hH1 hV hok hbx (d := x1) (by omega)) (HS0 hH1) rfl ⟨by decide, by decide⟩ ⟨rfl, rfl⟩ ⟨by decide, by decide⟩ rfl (Nat.le_of_ble_eq_true rfl) dX11_go_17 (fun r u hp => ?_)
  obtain ⟨σ1, hu, hr, hV2, hf2⟩ := hp
  subst hr
  rw [hu]
  have hrg : -6 ≤ (sGo v x1).1 ∧ (sGo v x1).1 ≤ 1000070000 := rng7 hbx (go_rng hok _)
  have hn1 : σ1 (P + 69) 1 = nI nu := by rw [hf2 _ (by omega), hfb _ (by omega)]; exact hn
  refine cl_X11_70 (As := [.int (zI ((sGo v x1).1))]) hc (c_X11_recorded (σ := σ1) hC hP hn1 hnu (x := (sGo v x1).1) (by omega)) a0 rfl ⟨by decide, by decide⟩ ⟨rfl, rfl⟩ ⟨by decide, by decide⟩ rfl (Nat.le_of_ble_eq_true rfl) dX11_go_20 (fun r u hp => ?_)
  obtain ⟨σ2, ρ2, hu, hr, hq⟩ := hp
  subst hr
  rw [hu]
  obtain ⟨hst, hfr⟩ := H0.chg (w := (sGo v x1).2) (hVb.keep (fun q q1 q2 => hf2 q (by omega)) h4 h5) hV2 (ok_go hok _).1 (fun q q1 q2 => (hf2 q (by omega)).trans (hfb q (by omega))) hq
  exact hR _ _ ⟨_, _, rfl, rfl, hst, hfr⟩ rfl _ _ dX11_go_23
set_option maxRecDepth 100000 in
set_option maxHeartbeats 4000000 in
theorem c_X11_plan {Ω : OmT} {z : Nat} {sh : Nat → Option Kd} {σ : Nat → Nat → Int32} {ρ : Nat → Nat → Option Nat} {P b : Nat} {s : Nat → Nat} {v : Nat → Nat} {nu : Nat} {hf : Nat → Nat} {fl : Nat → Bool} {sv p : Nat → Nat} {ln : Nat} (H : CSt sh σ ρ P b s v nu hf fl sv p ln) (hbx : v 7 ≤ 900000000) {x1 : Int} (hx10 : -2147483648 ≤ x1 ∧ x1 < 2147483648) {x2 : Int} (hx20 : -2147483648 ≤ x2 ∧ x2 < 2147483648) {x3 : Int} (hx30 : -2147483648 ≤ x3 ∧ x3 < 2147483648) : CtI Ω yX11_plan cX11_plan 4 .int rm_X11_plan [.ref P, .int (zI x1), .int (zI x2), .int (zI x3)] (z, sh, σ, ρ) (CPost z sh σ ρ P fl sv p ln nu hf v (sPlan v x1 x2 x3)) := by
  have hbx : v 7 ≤ 1000000000 := by omega
  have H0 := H
  obtain ⟨⟨hC, hSl⟩, hP, ⟨hV, hok⟩, ⟨hnu, hn, hHr⟩, hSv, ⟨hql, hpr, hl80, hpp⟩⟩ := H
  have hC0 := hC
  obtain ⟨⟨a0, a1, a2, a3, a4, a5, a6, a7, a8⟩, ⟨hb1, hb2, hb3⟩, ⟨hc1, hc2⟩, hH1, hz2, hz3, hPd, hKs, hWs, hPs⟩ := hC
  have hC := hC0
  have hb7 := hP.2.2.1
  have hbr := bs_rng P hb7
  have hok1 := hok
  obtain ⟨⟨h01, h02⟩, hl1, ⟨h21, h22⟩, h3, h4, h5, h9, hdo, hke, hpn, hpd, htc⟩ := hok1
  have hdr : ∀ d, d < v 4 → v (20 + 6 * d + 2) < 10000 ∧ v (20 + 6 * d + 3) < 10000 := fun d hd => ⟨(hdo d hd).2.2.1, (hdo d hd).2.2.2⟩
  have hcu : ∀ k, k < v 5 → v (80 + 4 * k) < 10000 := fun k hk => (hke k hk).1
  have hwh : ∀ k, k < v 5 → v (80 + 4 * k + 2) ≤ 9 := fun k hk => (hke k hk).2.2
  have hky : ∀ k, k < v 5 → v (80 + 4 * k) < 10000 ∧ v (80 + 4 * k + 2) ≤ 9 ∧ 40 ≤ v (80 + 4 * k + 1) ∧ v (80 + 4 * k + 1) ≤ 90 := fun k hk => ⟨(hke k hk).1, (hke k hk).2.2, (hke k hk).2.1⟩
  have hpl : ∀ p, p < v 9 → v (150 + 3 * p) < 10 := fun p hp => by have := (hpn p hp).1; omega
  refine CtI.enter (by decide) (Nat.le_of_ble_eq_true rfl) (fun Φ hc hR => ?_)
  show Vw Ω Φ (z, sh, σ, ρ) (0, 0) 0 [(0, .ref P), (1, .int (zI x1)), (2, .int (zI x2)), (3, .int (zI x3))] []
  refine r_aload_n hc dX11_plan_0 rfl ?_
  refine gf_X11_16 (q := (bsP P b)) hc a0 hP.1 dX11_plan_1 ?_
  refine r_aload_n hc dX11_plan_4 rfl ?_
  refine gf_X11_10 (q := P + 1) hc a0 a1 dX11_plan_5 ?_
  refine cl_X11_62 (As := [.ref (P + 1)]) hc (c_X2_copyFrom (h := bsP P b) (g := P + 1) (hC.bs hb7) hH1 (Or.inl (by omega)) hV hok) (HS0 (hC.bs hb7)) rfl ⟨by decide, by decide⟩ ⟨rfl, rfl⟩ ⟨by decide, by decide⟩ rfl (Nat.le_of_ble_eq_true rfl) dX11_plan_8 (fun u hp => ?_)
  obtain ⟨τ, hu, hVb, hfb⟩ := hp
  rw [hu]
  have hV : HV τ (P + 1) v := hV.keep (fun q q1 q2 => hfb q (by omega)) h4 h5
  refine r_aload_n hc dX11_plan_11 rfl ?_
  refine r_aload_n hc dX11_plan_12 rfl ?_
  refine gf_X11_10 (q := P + 1) hc a0 a1 dX11_plan_13 ?_
  refine r_iload_n hc dX11_plan_16 rfl ?_
  refine r_iload_n hc dX11_plan_17 rfl ?_
  refine r_iload_n hc dX11_plan_18 rfl ?_
  refine cl_X11_100 (As := [.int (zI x1), .int (zI x2), .int (zI x3)]) hc (c_X2_planCut (ρ := ρ) hH1 hV hok hbx (d := x1) (f := x2) (s := x3) (by omega) (by omega) (by omega)) (HS0 hH1) rfl ⟨by decide, by decide⟩ ⟨rfl, rfl⟩ ⟨by decide, by decide⟩ rfl (Nat.le_of_ble_eq_true rfl) dX11_plan_19 (fun r u hp => ?_)
  obtain ⟨σ1, hu, hr, hV2, hf2⟩ := hp
  subst hr
  rw [hu]
  have hrg : -6 ≤ (sPlan v x1 x2 x3).1 ∧ (sPlan v x1 x2 x3).1 ≤ 1000070000 := plan_rng _ _ _
  have hn1 : σ1 (P + 69) 1 = nI nu := by rw [hf2 _ (by omega), hfb _ (by omega)]; exact hn
  refine cl_X11_70 (As := [.int (zI ((sPlan v x1 x2 x3).1))]) hc (c_X11_recorded (σ := σ1) hC hP hn1 hnu (x := (sPlan v x1 x2 x3).1) (by omega)) a0 rfl ⟨by decide, by decide⟩ ⟨rfl, rfl⟩ ⟨by decide, by decide⟩ rfl (Nat.le_of_ble_eq_true rfl) dX11_plan_22 (fun r u hp => ?_)
  obtain ⟨σ2, ρ2, hu, hr, hq⟩ := hp
  subst hr
  rw [hu]
  obtain ⟨hst, hfr⟩ := H0.chg (w := (sPlan v x1 x2 x3).2) (hVb.keep (fun q q1 q2 => hf2 q (by omega)) h4 h5) hV2 (ok_plan hok _ _ _).1 (fun q q1 q2 => (hf2 q (by omega)).trans (hfb q (by omega))) hq
  exact hR _ _ ⟨_, _, rfl, rfl, hst, hfr⟩ rfl _ _ dX11_plan_25
set_option maxRecDepth 100000 in
set_option maxHeartbeats 4000000 in
theorem c_X11_dropPlan {Ω : OmT} {z : Nat} {sh : Nat → Option Kd} {σ : Nat → Nat → Int32} {ρ : Nat → Nat → Option Nat} {P b : Nat} {s : Nat → Nat} {v : Nat → Nat} {nu : Nat} {hf : Nat → Nat} {fl : Nat → Bool} {sv p : Nat → Nat} {ln : Nat} (H : CSt sh σ ρ P b s v nu hf fl sv p ln) (hbx : v 7 ≤ 900000000)  : CtI Ω yX11_dropPlan cX11_dropPlan 1 .int rm_X11_dropPlan [.ref P] (z, sh, σ, ρ) (CPost z sh σ ρ P fl sv p ln nu hf v (sDrop v)) := by
  have hbx : v 7 ≤ 1000000000 := by omega
  have H0 := H
  obtain ⟨⟨hC, hSl⟩, hP, ⟨hV, hok⟩, ⟨hnu, hn, hHr⟩, hSv, ⟨hql, hpr, hl80, hpp⟩⟩ := H
  have hC0 := hC
  obtain ⟨⟨a0, a1, a2, a3, a4, a5, a6, a7, a8⟩, ⟨hb1, hb2, hb3⟩, ⟨hc1, hc2⟩, hH1, hz2, hz3, hPd, hKs, hWs, hPs⟩ := hC
  have hC := hC0
  have hb7 := hP.2.2.1
  have hbr := bs_rng P hb7
  have hok1 := hok
  obtain ⟨⟨h01, h02⟩, hl1, ⟨h21, h22⟩, h3, h4, h5, h9, hdo, hke, hpn, hpd, htc⟩ := hok1
  have hdr : ∀ d, d < v 4 → v (20 + 6 * d + 2) < 10000 ∧ v (20 + 6 * d + 3) < 10000 := fun d hd => ⟨(hdo d hd).2.2.1, (hdo d hd).2.2.2⟩
  have hcu : ∀ k, k < v 5 → v (80 + 4 * k) < 10000 := fun k hk => (hke k hk).1
  have hwh : ∀ k, k < v 5 → v (80 + 4 * k + 2) ≤ 9 := fun k hk => (hke k hk).2.2
  have hky : ∀ k, k < v 5 → v (80 + 4 * k) < 10000 ∧ v (80 + 4 * k + 2) ≤ 9 ∧ 40 ≤ v (80 + 4 * k + 1) ∧ v (80 + 4 * k + 1) ≤ 90 := fun k hk => ⟨(hke k hk).1, (hke k hk).2.2, (hke k hk).2.1⟩
  have hpl : ∀ p, p < v 9 → v (150 + 3 * p) < 10 := fun p hp => by have := (hpn p hp).1; omega
  refine CtI.enter (by decide) (Nat.le_of_ble_eq_true rfl) (fun Φ hc hR => ?_)
  show Vw Ω Φ (z, sh, σ, ρ) (0, 0) 0 [(0, .ref P)] []
  refine r_aload_n hc dX11_dropPlan_0 rfl ?_
  refine gf_X11_16 (q := (bsP P b)) hc a0 hP.1 dX11_dropPlan_1 ?_
  refine r_aload_n hc dX11_dropPlan_4 rfl ?_
  refine gf_X11_10 (q := P + 1) hc a0 a1 dX11_dropPlan_5 ?_
  refine cl_X11_62 (As := [.ref (P + 1)]) hc (c_X2_copyFrom (h := bsP P b) (g := P + 1) (hC.bs hb7) hH1 (Or.inl (by omega)) hV hok) (HS0 (hC.bs hb7)) rfl ⟨by decide, by decide⟩ ⟨rfl, rfl⟩ ⟨by decide, by decide⟩ rfl (Nat.le_of_ble_eq_true rfl) dX11_dropPlan_8 (fun u hp => ?_)
  obtain ⟨τ, hu, hVb, hfb⟩ := hp
  rw [hu]
  have hV : HV τ (P + 1) v := hV.keep (fun q q1 q2 => hfb q (by omega)) h4 h5
  refine r_aload_n hc dX11_dropPlan_11 rfl ?_
  refine r_aload_n hc dX11_dropPlan_12 rfl ?_
  refine gf_X11_10 (q := P + 1) hc a0 a1 dX11_dropPlan_13 ?_
  refine cl_X11_103 (As := []) hc (c_X2_emptyPlan (ρ := ρ) hH1 hV hok hbx  ) (HS0 hH1) rfl ⟨by decide, by decide⟩ ⟨rfl, rfl⟩ ⟨by decide, by decide⟩ rfl (Nat.le_of_ble_eq_true rfl) dX11_dropPlan_16 (fun r u hp => ?_)
  obtain ⟨σ1, hu, hr, hV2, hf2⟩ := hp
  subst hr
  rw [hu]
  have hrg : -6 ≤ (sDrop v).1 ∧ (sDrop v).1 ≤ 1000070000 := drop_rng hok
  have hn1 : σ1 (P + 69) 1 = nI nu := by rw [hf2 _ (by omega), hfb _ (by omega)]; exact hn
  refine cl_X11_70 (As := [.int (zI ((sDrop v).1))]) hc (c_X11_recorded (σ := σ1) hC hP hn1 hnu (x := (sDrop v).1) (by omega)) a0 rfl ⟨by decide, by decide⟩ ⟨rfl, rfl⟩ ⟨by decide, by decide⟩ rfl (Nat.le_of_ble_eq_true rfl) dX11_dropPlan_19 (fun r u hp => ?_)
  obtain ⟨σ2, ρ2, hu, hr, hq⟩ := hp
  subst hr
  rw [hu]
  obtain ⟨hst, hfr⟩ := H0.chg (w := (sDrop v).2) (hVb.keep (fun q q1 q2 => hf2 q (by omega)) h4 h5) hV2 (ok_drop hok).1 (fun q q1 q2 => (hf2 q (by omega)).trans (hfb q (by omega))) hq
  exact hR _ _ ⟨_, _, rfl, rfl, hst, hfr⟩ rfl _ _ dX11_dropPlan_22
set_option maxRecDepth 100000 in
set_option maxHeartbeats 4000000 in
theorem c_X11_ofDoor {Ω : OmT} {z : Nat} {sh : Nat → Option Kd} {σ : Nat → Nat → Int32} {ρ : Nat → Nat → Option Nat} {P b : Nat} {s : Nat → Nat} {v : Nat → Nat} {nu : Nat} {hf : Nat → Nat} {fl : Nat → Bool} {sv p : Nat → Nat} {ln : Nat} (H : CSt sh σ ρ P b s v nu hf fl sv p ln) (hbx : v 7 ≤ 900000000) {x1 : Int} (hx10 : -2147483648 ≤ x1 ∧ x1 < 2147483648) {x2 : Int} (hx20 : -2147483648 ≤ x2 ∧ x2 < 2147483648) : CtI Ω yX11_ofDoor cX11_ofDoor 3 .int rm_X11_ofDoor [.ref P, .int (zI x1), .int (zI x2)] (z, sh, σ, ρ) (fun r u => r = zI (sOfDoor v x1 x2) ∧ u = (z, sh, σ, ρ)) := by
  have hbx : v 7 ≤ 1000000000 := by omega
  have H0 := H
  obtain ⟨⟨hC, hSl⟩, hP, ⟨hV, hok⟩, ⟨hnu, hn, hHr⟩, hSv, ⟨hql, hpr, hl80, hpp⟩⟩ := H
  have hC0 := hC
  obtain ⟨⟨a0, a1, a2, a3, a4, a5, a6, a7, a8⟩, ⟨hb1, hb2, hb3⟩, ⟨hc1, hc2⟩, hH1, hz2, hz3, hPd, hKs, hWs, hPs⟩ := hC
  have hC := hC0
  have hb7 := hP.2.2.1
  have hbr := bs_rng P hb7
  have hok1 := hok
  obtain ⟨⟨h01, h02⟩, hl1, ⟨h21, h22⟩, h3, h4, h5, h9, hdo, hke, hpn, hpd, htc⟩ := hok1
  have hdr : ∀ d, d < v 4 → v (20 + 6 * d + 2) < 10000 ∧ v (20 + 6 * d + 3) < 10000 := fun d hd => ⟨(hdo d hd).2.2.1, (hdo d hd).2.2.2⟩
  have hcu : ∀ k, k < v 5 → v (80 + 4 * k) < 10000 := fun k hk => (hke k hk).1
  have hwh : ∀ k, k < v 5 → v (80 + 4 * k + 2) ≤ 9 := fun k hk => (hke k hk).2.2
  have hky : ∀ k, k < v 5 → v (80 + 4 * k) < 10000 ∧ v (80 + 4 * k + 2) ≤ 9 ∧ 40 ≤ v (80 + 4 * k + 1) ∧ v (80 + 4 * k + 1) ≤ 90 := fun k hk => ⟨(hke k hk).1, (hke k hk).2.2, (hke k hk).2.1⟩
  have hpl : ∀ p, p < v 9 → v (150 + 3 * p) < 10 := fun p hp => by have := (hpn p hp).1; omega
  refine CtI.enter (by decide) (Nat.le_of_ble_eq_true rfl) (fun Φ hc hR => ?_)
  show Vw Ω Φ (z, sh, σ, ρ) (0, 0) 0 [(0, .ref P), (1, .int (zI x1)), (2, .int (zI x2))] []
  refine r_aload_n hc dX11_ofDoor_0 rfl ?_
  refine gf_X11_10 (q := P + 1) hc a0 a1 dX11_ofDoor_1 ?_
  refine r_iload_n hc dX11_ofDoor_4 rfl ?_
  refine r_iload_n hc dX11_ofDoor_5 rfl ?_
  refine cl_X11_132 (As := [.int (zI x1), .int (zI x2)]) hc (c_X2_aboutDoor (ρ := ρ) hH1 hV hok hbx (d := x1) (w := x2) (by omega) (by omega)) (HS0 hH1) rfl ⟨by decide, by decide⟩ ⟨rfl, rfl⟩ ⟨by decide, by decide⟩ rfl (Nat.le_of_ble_eq_true rfl) dX11_ofDoor_6 (fun r u hp => ?_)
  obtain ⟨rfl, hu⟩ := hp
  rw [hu]
  exact hR _ _ ⟨rfl, rfl⟩ rfl _ _ dX11_ofDoor_9
set_option maxRecDepth 100000 in
set_option maxHeartbeats 4000000 in
theorem c_X11_ofKey {Ω : OmT} {z : Nat} {sh : Nat → Option Kd} {σ : Nat → Nat → Int32} {ρ : Nat → Nat → Option Nat} {P b : Nat} {s : Nat → Nat} {v : Nat → Nat} {nu : Nat} {hf : Nat → Nat} {fl : Nat → Bool} {sv p : Nat → Nat} {ln : Nat} (H : CSt sh σ ρ P b s v nu hf fl sv p ln) (hbx : v 7 ≤ 900000000) {x1 : Int} (hx10 : -2147483648 ≤ x1 ∧ x1 < 2147483648) {x2 : Int} (hx20 : -2147483648 ≤ x2 ∧ x2 < 2147483648) : CtI Ω yX11_ofKey cX11_ofKey 3 .int rm_X11_ofKey [.ref P, .int (zI x1), .int (zI x2)] (z, sh, σ, ρ) (fun r u => r = zI (sOfKey v x1 x2) ∧ u = (z, sh, σ, ρ)) := by
  have hbx : v 7 ≤ 1000000000 := by omega
  have H0 := H
  obtain ⟨⟨hC, hSl⟩, hP, ⟨hV, hok⟩, ⟨hnu, hn, hHr⟩, hSv, ⟨hql, hpr, hl80, hpp⟩⟩ := H
  have hC0 := hC
  obtain ⟨⟨a0, a1, a2, a3, a4, a5, a6, a7, a8⟩, ⟨hb1, hb2, hb3⟩, ⟨hc1, hc2⟩, hH1, hz2, hz3, hPd, hKs, hWs, hPs⟩ := hC
  have hC := hC0
  have hb7 := hP.2.2.1
  have hbr := bs_rng P hb7
  have hok1 := hok
  obtain ⟨⟨h01, h02⟩, hl1, ⟨h21, h22⟩, h3, h4, h5, h9, hdo, hke, hpn, hpd, htc⟩ := hok1
  have hdr : ∀ d, d < v 4 → v (20 + 6 * d + 2) < 10000 ∧ v (20 + 6 * d + 3) < 10000 := fun d hd => ⟨(hdo d hd).2.2.1, (hdo d hd).2.2.2⟩
  have hcu : ∀ k, k < v 5 → v (80 + 4 * k) < 10000 := fun k hk => (hke k hk).1
  have hwh : ∀ k, k < v 5 → v (80 + 4 * k + 2) ≤ 9 := fun k hk => (hke k hk).2.2
  have hky : ∀ k, k < v 5 → v (80 + 4 * k) < 10000 ∧ v (80 + 4 * k + 2) ≤ 9 ∧ 40 ≤ v (80 + 4 * k + 1) ∧ v (80 + 4 * k + 1) ≤ 90 := fun k hk => ⟨(hke k hk).1, (hke k hk).2.2, (hke k hk).2.1⟩
  have hpl : ∀ p, p < v 9 → v (150 + 3 * p) < 10 := fun p hp => by have := (hpn p hp).1; omega
  refine CtI.enter (by decide) (Nat.le_of_ble_eq_true rfl) (fun Φ hc hR => ?_)
  show Vw Ω Φ (z, sh, σ, ρ) (0, 0) 0 [(0, .ref P), (1, .int (zI x1)), (2, .int (zI x2))] []
  refine r_aload_n hc dX11_ofKey_0 rfl ?_
  refine gf_X11_10 (q := P + 1) hc a0 a1 dX11_ofKey_1 ?_
  refine r_iload_n hc dX11_ofKey_4 rfl ?_
  refine r_iload_n hc dX11_ofKey_5 rfl ?_
  refine cl_X11_135 (As := [.int (zI x1), .int (zI x2)]) hc (c_X2_aboutKey (ρ := ρ) hH1 hV hok hbx (k := x1) (w := x2) (by omega) (by omega)) (HS0 hH1) rfl ⟨by decide, by decide⟩ ⟨rfl, rfl⟩ ⟨by decide, by decide⟩ rfl (Nat.le_of_ble_eq_true rfl) dX11_ofKey_6 (fun r u hp => ?_)
  obtain ⟨rfl, hu⟩ := hp
  rw [hu]
  exact hR _ _ ⟨rfl, rfl⟩ rfl _ _ dX11_ofKey_9
set_option maxRecDepth 100000 in
set_option maxHeartbeats 4000000 in
theorem c_X11_count {Ω : OmT} {z : Nat} {sh : Nat → Option Kd} {σ : Nat → Nat → Int32} {ρ : Nat → Nat → Option Nat} {P b : Nat} {s : Nat → Nat} {v : Nat → Nat} {nu : Nat} {hf : Nat → Nat} {fl : Nat → Bool} {sv p : Nat → Nat} {ln : Nat} (H : CSt sh σ ρ P b s v nu hf fl sv p ln) (hbx : v 7 ≤ 900000000) {x1 : Int} (hx10 : -2147483648 ≤ x1 ∧ x1 < 2147483648) : CtI Ω yX11_count cX11_count 2 .int rm_X11_count [.ref P, .int (zI x1)] (z, sh, σ, ρ) (fun r u => r = zI (sCount v ln nu x1) ∧ u = (z, sh, σ, ρ)) := by
  have hbx : v 7 ≤ 1000000000 := by omega
  have H0 := H
  obtain ⟨⟨hC, hSl⟩, hP, ⟨hV, hok⟩, ⟨hnu, hn, hHr⟩, hSv, ⟨hql, hpr, hl80, hpp⟩⟩ := H
  have hC0 := hC
  obtain ⟨⟨a0, a1, a2, a3, a4, a5, a6, a7, a8⟩, ⟨hb1, hb2, hb3⟩, ⟨hc1, hc2⟩, hH1, hz2, hz3, hPd, hKs, hWs, hPs⟩ := hC
  have hC := hC0
  have hb7 := hP.2.2.1
  have hbr := bs_rng P hb7
  have hok1 := hok
  obtain ⟨⟨h01, h02⟩, hl1, ⟨h21, h22⟩, h3, h4, h5, h9, hdo, hke, hpn, hpd, htc⟩ := hok1
  have hdr : ∀ d, d < v 4 → v (20 + 6 * d + 2) < 10000 ∧ v (20 + 6 * d + 3) < 10000 := fun d hd => ⟨(hdo d hd).2.2.1, (hdo d hd).2.2.2⟩
  have hcu : ∀ k, k < v 5 → v (80 + 4 * k) < 10000 := fun k hk => (hke k hk).1
  have hwh : ∀ k, k < v 5 → v (80 + 4 * k + 2) ≤ 9 := fun k hk => (hke k hk).2.2
  have hky : ∀ k, k < v 5 → v (80 + 4 * k) < 10000 ∧ v (80 + 4 * k + 2) ≤ 9 ∧ 40 ≤ v (80 + 4 * k + 1) ∧ v (80 + 4 * k + 1) ≤ 90 := fun k hk => ⟨(hke k hk).1, (hke k hk).2.2, (hke k hk).2.1⟩
  have hpl : ∀ p, p < v 9 → v (150 + 3 * p) < 10 := fun p hp => by have := (hpn p hp).1; omega
  refine CtI.enter (by decide) (Nat.le_of_ble_eq_true rfl) (fun Φ hc hR => ?_)
  show Vw Ω Φ (z, sh, σ, ρ) (0, 0) 0 [(0, .ref P), (1, .int (zI x1))] []
  refine r_iload_n hc dX11_count_0 rfl ?_
  refine r_bipush (v := nI 11) hc dX11_count_1 rfl ?_
  refine r_icmp_ne (tgt := 14) hc dX11_count_3 (by decide) (eq_ZN (by omega) (by omega)) (fun c_3 => ?_) (fun c_3 => ?_)
  ·
    refine r_iload_n hc dX11_count_14 rfl ?_
    refine r_bipush (v := nI 12) hc dX11_count_15 rfl ?_
    refine r_icmp_ne (tgt := 28) hc dX11_count_17 (by decide) (eq_ZN (by omega) (by omega)) (fun c_17 => ?_) (fun c_17 => ?_)
    ·
      refine r_aload_n hc dX11_count_28 rfl ?_
      refine gf_X11_10 (q := P + 1) hc a0 a1 dX11_count_29 ?_
      refine r_iload_n hc dX11_count_32 rfl ?_
      refine cl_X11_142 (As := [.int (zI x1)]) hc (c_X2_aboutAll (ρ := ρ) hH1 hV hok hbx (w := x1) (by omega)) (HS0 hH1) rfl ⟨by decide, by decide⟩ ⟨rfl, rfl⟩ ⟨by decide, by decide⟩ rfl (Nat.le_of_ble_eq_true rfl) dX11_count_33 (fun r u hp => ?_)
      obtain ⟨rfl, hu⟩ := hp
      rw [hu]
      exact hR _ _ ⟨congrArg zI (show sOfAll v x1 = sCount v ln nu x1 from by unfold sCount; rw [if_neg (by omega), if_neg (by omega)]), rfl⟩ rfl _ _ dX11_count_36
    ·
      refine r_aload_n hc dX11_count_20 rfl ?_
      refine gf_X11_22 (q := P + 69) hc a0 a2 dX11_count_21 ?_
      refine gf_X11_141 (x := nI nu) hc hb1 hn dX11_count_24 ?_
      exact hR _ _ ⟨by rw [nz]; exact congrArg zI (by unfold sCount; rw [if_neg (by omega), if_pos (by omega)]), rfl⟩ rfl _ _ dX11_count_27
  ·
    refine r_aload_n hc dX11_count_6 rfl ?_
    refine gf_X11_37 (q := P + 277) hc a0 a5 dX11_count_7 ?_
    refine gf_X11_138 (x := nI ln) hc hPd.1.1 hql dX11_count_10 ?_
    exact hR _ _ ⟨by rw [nz]; exact congrArg zI (by unfold sCount; rw [if_pos (by omega)]), rfl⟩ rfl _ _ dX11_count_13
set_option maxRecDepth 100000 in
set_option maxHeartbeats 4000000 in
theorem c_X11_opens {Ω : OmT} {z : Nat} {sh : Nat → Option Kd} {σ : Nat → Nat → Int32} {ρ : Nat → Nat → Option Nat} {P b : Nat} {s : Nat → Nat} {v : Nat → Nat} {nu : Nat} {hf : Nat → Nat} {fl : Nat → Bool} {sv p : Nat → Nat} {ln : Nat} (H : CSt sh σ ρ P b s v nu hf fl sv p ln) (hbx : v 7 ≤ 900000000) {x1 : Int} (hx10 : -2147483648 ≤ x1 ∧ x1 < 2147483648) {x2 : Int} (hx20 : -2147483648 ≤ x2 ∧ x2 < 2147483648) : CtI Ω yX11_opens cX11_opens 3 .int rm_X11_opens [.ref P, .int (zI x1), .int (zI x2)] (z, sh, σ, ρ) (fun r u => r = zI (sOpens v x1 x2) ∧ u = (z, sh, σ, ρ)) := by
  have hbx : v 7 ≤ 1000000000 := by omega
  have H0 := H
  obtain ⟨⟨hC, hSl⟩, hP, ⟨hV, hok⟩, ⟨hnu, hn, hHr⟩, hSv, ⟨hql, hpr, hl80, hpp⟩⟩ := H
  have hC0 := hC
  obtain ⟨⟨a0, a1, a2, a3, a4, a5, a6, a7, a8⟩, ⟨hb1, hb2, hb3⟩, ⟨hc1, hc2⟩, hH1, hz2, hz3, hPd, hKs, hWs, hPs⟩ := hC
  have hC := hC0
  have hb7 := hP.2.2.1
  have hbr := bs_rng P hb7
  have hok1 := hok
  obtain ⟨⟨h01, h02⟩, hl1, ⟨h21, h22⟩, h3, h4, h5, h9, hdo, hke, hpn, hpd, htc⟩ := hok1
  have hdr : ∀ d, d < v 4 → v (20 + 6 * d + 2) < 10000 ∧ v (20 + 6 * d + 3) < 10000 := fun d hd => ⟨(hdo d hd).2.2.1, (hdo d hd).2.2.2⟩
  have hcu : ∀ k, k < v 5 → v (80 + 4 * k) < 10000 := fun k hk => (hke k hk).1
  have hwh : ∀ k, k < v 5 → v (80 + 4 * k + 2) ≤ 9 := fun k hk => (hke k hk).2.2
  have hky : ∀ k, k < v 5 → v (80 + 4 * k) < 10000 ∧ v (80 + 4 * k + 2) ≤ 9 ∧ 40 ≤ v (80 + 4 * k + 1) ∧ v (80 + 4 * k + 1) ≤ 90 := fun k hk => ⟨(hke k hk).1, (hke k hk).2.2, (hke k hk).2.1⟩
  have hpl : ∀ p, p < v 9 → v (150 + 3 * p) < 10 := fun p hp => by have := (hpn p hp).1; omega
  refine CtI.enter (by decide) (Nat.le_of_ble_eq_true rfl) (fun Φ hc hR => ?_)
  show Vw Ω Φ (z, sh, σ, ρ) (0, 0) 0 [(0, .ref P), (1, .int (zI x1)), (2, .int (zI x2))] []
  refine r_aload_n hc dX11_opens_0 rfl ?_
  refine gf_X11_10 (q := P + 1) hc a0 a1 dX11_opens_1 ?_
  refine r_iload_n hc dX11_opens_4 rfl ?_
  refine cl_X11_145 (As := [.int (zI x2)]) hc (c_X2_hasDoor hH1 hV (x := x2) (by omega) (by omega)) (HS0 hH1) rfl ⟨by decide, by decide⟩ ⟨rfl, rfl⟩ ⟨by decide, by decide⟩ rfl (Nat.le_of_ble_eq_true rfl) dX11_opens_5 (fun r u hp => ?_)
  obtain ⟨rfl, hu⟩ := hp
  rw [hu]
  refine r_if_ne (tgt := 13) hc dX11_opens_8 (by decide) (bI_0 _) (fun c_8 => ?_) (fun c_8 => ?_)
  ·
    have c_8 := bnf c_8
    have c_8 := of_decide_eq_true c_8
    refine r_iload_n hc dX11_opens_13 rfl ?_
    refine cl_X11_149 (As := [.int (zI x1)]) hc (c_X9_isRow (x := x1) (by omega)) rfl ⟨by decide, by decide⟩ ⟨rfl, rfl⟩ ⟨by decide, by decide⟩ rfl (Nat.le_of_ble_eq_true rfl) dX11_opens_14 (fun r u hp => ?_)
    obtain ⟨rfl, hu⟩ := hp
    rw [hu]
    refine r_if_ne (tgt := 23) hc dX11_opens_17 (by decide) (bI_0 _) (fun c_17 => ?_) (fun c_17 => ?_)
    ·
      have c_17 := bnf c_17
      have c_17 := of_decide_eq_true c_17
      obtain ⟨D, rfl⟩ := Int.eq_ofNat_of_zero_le (show 0 ≤ x2 by omega)
      rw [← nz D]
      obtain ⟨C, rfl⟩ := Int.eq_ofNat_of_zero_le (show 0 ≤ x1 by omega)
      rw [← nz C]
      have hdd := hdr D (by omega)
      refine r_aload_n hc dX11_opens_23 rfl ?_
      refine gf_X11_10 (q := P + 1) hc a0 a1 dX11_opens_24 ?_
      refine gf_X11_154 (q := P + 1 + 2) hc (HS0 hH1) (HR0 hH1 1 2 (by decide)) dX11_opens_27 ?_
      refine r_iload_n hc dX11_opens_30 rfl ?_
      refine al_3 (r := P + 1 + 8 + D) (j := D) hc (HSa hH1 2 _ rfl) rfl (by omega) (by decide) (HRd hH1 (by omega)) dX11_opens_31 ?_
      refine r_iload_n hc dX11_opens_32 rfl ?_
      refine cl_X11_158 (As := [.int (nI C)]) hc (show CtI Ω yX0_isOpenedBy cX0_isOpenedBy 7 .boolean rm_X0_isOpenedBy [.ref (P + 1 + 8 + D), .int (nI (C))] (z, sh, σ, ρ) (fun r u => r = bI (opnD v C D) ∧ u = (z, sh, σ, ρ)) from c_X0_isOpenedBy (f := v (20 + 6 * D + 2)) (s := v (20 + 6 * D + 3)) (HSd hH1 (by omega)) (HVd hV (by omega) 2 (by decide)) (HVd hV (by omega) 3 (by decide)) (by omega) (by omega) (by omega)) (HSd hH1 (by omega)) rfl ⟨by decide, by decide⟩ ⟨rfl, rfl⟩ ⟨by decide, by decide⟩ rfl (Nat.le_of_ble_eq_true rfl) dX11_opens_33 (fun r u hp => ?_)
      obtain ⟨rfl, hu⟩ := hp
      rw [hu]
      refine r_if_eq (tgt := 43) hc dX11_opens_36 (by decide) (bI_0 _) (fun c_36 => ?_) (fun c_36 => ?_)
      ·
        refine r_iconst (v := nI 0) hc dX11_opens_43 rfl ?_
        exact hR _ _ ⟨by rw [nz]; refine congrArg zI ?_; unfold sOpens; (try simp only [Int.toNat_natCast]); rw [if_pos (by omega), if_pos (by omega), if_neg (by rw [c_36]; decide)] <;> rfl, rfl⟩ rfl _ _ dX11_opens_44
      ·
        have c_36 := bnf c_36
        refine r_iconst (v := nI 1) hc dX11_opens_39 rfl ?_
        refine r_goto (tgt := 44) hc dX11_opens_40 (by decide) ?_
        exact hR _ _ ⟨by rw [nz]; refine congrArg zI ?_; unfold sOpens; (try simp only [Int.toNat_natCast]); rw [if_pos (by omega), if_pos (by omega), if_pos (by rw [c_36])] <;> rfl, rfl⟩ rfl _ _ dX11_opens_44
    ·
      have c_17 := of_decide_eq_false c_17
      refine r_bipush (v := zI (-2)) hc dX11_opens_20 rfl ?_
      exact hR _ _ ⟨by refine congrArg zI ?_; unfold sOpens; (try simp only [Int.toNat_natCast]); rw [if_pos (by omega), if_neg (by omega)] <;> rfl, rfl⟩ rfl _ _ dX11_opens_22
  ·
    have c_8 := of_decide_eq_false c_8
    refine r_iconst (v := zI (-1)) hc dX11_opens_11 rfl ?_
    exact hR _ _ ⟨by refine congrArg zI ?_; unfold sOpens; (try simp only [Int.toNat_natCast]); rw [if_neg (by omega)] <;> rfl, rfl⟩ rfl _ _ dX11_opens_12
set_option maxRecDepth 100000 in
set_option maxHeartbeats 4000000 in
theorem c_X11_reach {Ω : OmT} {z : Nat} {sh : Nat → Option Kd} {σ : Nat → Nat → Int32} {ρ : Nat → Nat → Option Nat} {P b : Nat} {s : Nat → Nat} {v : Nat → Nat} {nu : Nat} {hf : Nat → Nat} {fl : Nat → Bool} {sv p : Nat → Nat} {ln : Nat} (H : CSt sh σ ρ P b s v nu hf fl sv p ln) (hbx : v 7 ≤ 900000000)  : CtI Ω yX11_reach cX11_reach 1 .int rm_X11_reach [.ref P] (z, sh, σ, ρ) (fun r u => ∃ τ : Nat → Nat → Int32, u = (z, sh, τ, ρ) ∧ r = zI (((sReach v : Nat) : Int)) ∧ ∀ q, (q < P + 307 ∨ P + 323 ≤ q) → τ q = σ q) := by
  have hbx : v 7 ≤ 1000000000 := by omega
  have H0 := H
  obtain ⟨⟨hC, hSl⟩, hP, ⟨hV, hok⟩, ⟨hnu, hn, hHr⟩, hSv, ⟨hql, hpr, hl80, hpp⟩⟩ := H
  have hC0 := hC
  obtain ⟨⟨a0, a1, a2, a3, a4, a5, a6, a7, a8⟩, ⟨hb1, hb2, hb3⟩, ⟨hc1, hc2⟩, hH1, hz2, hz3, hPd, hKs, hWs, hPs⟩ := hC
  have hC := hC0
  have hb7 := hP.2.2.1
  have hbr := bs_rng P hb7
  have hok1 := hok
  obtain ⟨⟨h01, h02⟩, hl1, ⟨h21, h22⟩, h3, h4, h5, h9, hdo, hke, hpn, hpd, htc⟩ := hok1
  have hdr : ∀ d, d < v 4 → v (20 + 6 * d + 2) < 10000 ∧ v (20 + 6 * d + 3) < 10000 := fun d hd => ⟨(hdo d hd).2.2.1, (hdo d hd).2.2.2⟩
  have hcu : ∀ k, k < v 5 → v (80 + 4 * k) < 10000 := fun k hk => (hke k hk).1
  have hwh : ∀ k, k < v 5 → v (80 + 4 * k + 2) ≤ 9 := fun k hk => (hke k hk).2.2
  have hky : ∀ k, k < v 5 → v (80 + 4 * k) < 10000 ∧ v (80 + 4 * k + 2) ≤ 9 ∧ 40 ≤ v (80 + 4 * k + 1) ∧ v (80 + 4 * k + 1) ≤ 90 := fun k hk => ⟨(hke k hk).1, (hke k hk).2.2, (hke k hk).2.1⟩
  have hpl : ∀ p, p < v 9 → v (150 + 3 * p) < 10 := fun p hp => by have := (hpn p hp).1; omega
  refine CtI.enter (by decide) (Nat.le_of_ble_eq_true rfl) (fun Φ hc hR => ?_)
  show Vw Ω Φ (z, sh, σ, ρ) (0, 0) 0 [(0, .ref P)] []
  refine r_aload_n hc dX11_reach_0 rfl ?_
  refine gf_X11_51 (q := P + 311) hc a0 a7 dX11_reach_1 ?_
  refine r_aload_n hc dX11_reach_4 rfl ?_
  refine gf_X11_10 (q := P + 1) hc a0 a1 dX11_reach_5 ?_
  refine cl_X11_173 (As := [.ref (P + 1)]) hc (c_X10_roomsInReach (ρ := ρ) hWs hH1 hV (Or.inr (by omega)) hok) hWs.1.1 rfl ⟨by decide, by decide⟩ ⟨rfl, rfl⟩ ⟨by decide, by decide⟩ rfl (Nat.le_of_ble_eq_true rfl) dX11_reach_8 (fun r u hp => ?_)
  obtain ⟨τ, hu, hr, hfr⟩ := hp
  rw [hu]
  exact hR _ _ ⟨_, rfl, (by rw [hr, nz]), fun q hq => hfr q (by omega)⟩ rfl _ _ dX11_reach_11
set_option maxRecDepth 100000 in
set_option maxHeartbeats 4000000 in
theorem c_X11_doorsTo {Ω : OmT} {z : Nat} {sh : Nat → Option Kd} {σ : Nat → Nat → Int32} {ρ : Nat → Nat → Option Nat} {P b : Nat} {s : Nat → Nat} {v : Nat → Nat} {nu : Nat} {hf : Nat → Nat} {fl : Nat → Bool} {sv p : Nat → Nat} {ln : Nat} (H : CSt sh σ ρ P b s v nu hf fl sv p ln) (hbx : v 7 ≤ 900000000) {x1 : Int} (hx10 : -2147483648 ≤ x1 ∧ x1 < 2147483648) : CtI Ω yX11_doorsTo cX11_doorsTo 2 .int rm_X11_doorsTo [.ref P, .int (zI x1)] (z, sh, σ, ρ) (fun r u => ∃ τ : Nat → Nat → Int32, u = (z, sh, τ, ρ) ∧ r = zI (sDoorsTo v x1) ∧ ∀ q, (q < P + 307 ∨ P + 323 ≤ q) → τ q = σ q) := by
  have hbx : v 7 ≤ 1000000000 := by omega
  have H0 := H
  obtain ⟨⟨hC, hSl⟩, hP, ⟨hV, hok⟩, ⟨hnu, hn, hHr⟩, hSv, ⟨hql, hpr, hl80, hpp⟩⟩ := H
  have hC0 := hC
  obtain ⟨⟨a0, a1, a2, a3, a4, a5, a6, a7, a8⟩, ⟨hb1, hb2, hb3⟩, ⟨hc1, hc2⟩, hH1, hz2, hz3, hPd, hKs, hWs, hPs⟩ := hC
  have hC := hC0
  have hb7 := hP.2.2.1
  have hbr := bs_rng P hb7
  have hok1 := hok
  obtain ⟨⟨h01, h02⟩, hl1, ⟨h21, h22⟩, h3, h4, h5, h9, hdo, hke, hpn, hpd, htc⟩ := hok1
  have hdr : ∀ d, d < v 4 → v (20 + 6 * d + 2) < 10000 ∧ v (20 + 6 * d + 3) < 10000 := fun d hd => ⟨(hdo d hd).2.2.1, (hdo d hd).2.2.2⟩
  have hcu : ∀ k, k < v 5 → v (80 + 4 * k) < 10000 := fun k hk => (hke k hk).1
  have hwh : ∀ k, k < v 5 → v (80 + 4 * k + 2) ≤ 9 := fun k hk => (hke k hk).2.2
  have hky : ∀ k, k < v 5 → v (80 + 4 * k) < 10000 ∧ v (80 + 4 * k + 2) ≤ 9 ∧ 40 ≤ v (80 + 4 * k + 1) ∧ v (80 + 4 * k + 1) ≤ 90 := fun k hk => ⟨(hke k hk).1, (hke k hk).2.2, (hke k hk).2.1⟩
  have hpl : ∀ p, p < v 9 → v (150 + 3 * p) < 10 := fun p hp => by have := (hpn p hp).1; omega
  refine CtI.enter (by decide) (Nat.le_of_ble_eq_true rfl) (fun Φ hc hR => ?_)
  show Vw Ω Φ (z, sh, σ, ρ) (0, 0) 0 [(0, .ref P), (1, .int (zI x1))] []
  refine r_iload_n hc dX11_doorsTo_0 rfl ?_
  refine cl_X11_177 (As := [.int (zI x1)]) hc (c_X2_isRoom (x := x1) (by omega)) rfl ⟨by decide, by decide⟩ ⟨rfl, rfl⟩ ⟨by decide, by decide⟩ rfl (Nat.le_of_ble_eq_true rfl) dX11_doorsTo_1 (fun r u hp => ?_)
  obtain ⟨rfl, hu⟩ := hp
  rw [hu]
  refine r_if_ne (tgt := 10) hc dX11_doorsTo_4 (by decide) (bI_0 _) (fun c_4 => ?_) (fun c_4 => ?_)
  ·
    have c_4 := bnf c_4
    have c_4 := of_decide_eq_true c_4
    obtain ⟨T, rfl⟩ := Int.eq_ofNat_of_zero_le (show 0 ≤ x1 by omega)
    rw [← nz T]
    refine r_aload_n hc dX11_doorsTo_10 rfl ?_
    refine gf_X11_51 (q := P + 311) hc a0 a7 dX11_doorsTo_11 ?_
    refine r_aload_n hc dX11_doorsTo_14 rfl ?_
    refine gf_X11_10 (q := P + 1) hc a0 a1 dX11_doorsTo_15 ?_
    refine r_iload_n hc dX11_doorsTo_18 rfl ?_
    refine cl_X11_180 (As := [.ref (P + 1), .int (nI T)]) hc (c_X10_fewestDoors (ρ := ρ) hWs hH1 hV (Or.inr (by omega)) hok (t := T) (by omega)) hWs.1.1 rfl ⟨by decide, by decide⟩ ⟨rfl, rfl⟩ ⟨by decide, by decide⟩ rfl (Nat.le_of_ble_eq_true rfl) dX11_doorsTo_19 (fun r u hp => ?_)
    obtain ⟨τ, hu, hr, hfr⟩ := hp
    rw [hu]
    exact hR _ _ ⟨_, rfl, (by rw [hr]; refine congrArg zI ?_; unfold sDoorsTo; rw [if_pos (by omega), Int.toNat_natCast]), fun q hq => hfr q (by omega)⟩ rfl _ _ dX11_doorsTo_22
  ·
    have c_4 := of_decide_eq_false c_4
    refine r_bipush (v := zI (-2)) hc dX11_doorsTo_7 rfl ?_
    exact hR _ _ ⟨_, rfl, (by refine congrArg zI ?_; unfold sDoorsTo; rw [if_neg (by omega)]), fun _ _ => rfl⟩ rfl _ _ dX11_doorsTo_9
set_option maxRecDepth 100000 in
set_option maxHeartbeats 4000000 in
theorem c_X11_planOrders {Ω : OmT} {z : Nat} {sh : Nat → Option Kd} {σ : Nat → Nat → Int32} {ρ : Nat → Nat → Option Nat} {P b : Nat} {s : Nat → Nat} {v : Nat → Nat} {nu : Nat} {hf : Nat → Nat} {fl : Nat → Bool} {sv p : Nat → Nat} {ln : Nat} (H : CSt sh σ ρ P b s v nu hf fl sv p ln) (hbx : v 7 ≤ 900000000)  : CtI Ω yX11_planOrders cX11_planOrders 1 .int rm_X11_planOrders [.ref P] (z, sh, σ, ρ) (fun r u => ∃ τ : Nat → Nat → Int32, u = (z, sh, τ, ρ) ∧ r = zI (((oC v (v 9) 0 : Nat) : Int)) ∧ ∀ q, (q < P + 307 ∨ P + 323 ≤ q) → τ q = σ q) := by
  have hbx : v 7 ≤ 1000000000 := by omega
  have H0 := H
  obtain ⟨⟨hC, hSl⟩, hP, ⟨hV, hok⟩, ⟨hnu, hn, hHr⟩, hSv, ⟨hql, hpr, hl80, hpp⟩⟩ := H
  have hC0 := hC
  obtain ⟨⟨a0, a1, a2, a3, a4, a5, a6, a7, a8⟩, ⟨hb1, hb2, hb3⟩, ⟨hc1, hc2⟩, hH1, hz2, hz3, hPd, hKs, hWs, hPs⟩ := hC
  have hC := hC0
  have hb7 := hP.2.2.1
  have hbr := bs_rng P hb7
  have hok1 := hok
  obtain ⟨⟨h01, h02⟩, hl1, ⟨h21, h22⟩, h3, h4, h5, h9, hdo, hke, hpn, hpd, htc⟩ := hok1
  have hdr : ∀ d, d < v 4 → v (20 + 6 * d + 2) < 10000 ∧ v (20 + 6 * d + 3) < 10000 := fun d hd => ⟨(hdo d hd).2.2.1, (hdo d hd).2.2.2⟩
  have hcu : ∀ k, k < v 5 → v (80 + 4 * k) < 10000 := fun k hk => (hke k hk).1
  have hwh : ∀ k, k < v 5 → v (80 + 4 * k + 2) ≤ 9 := fun k hk => (hke k hk).2.2
  have hky : ∀ k, k < v 5 → v (80 + 4 * k) < 10000 ∧ v (80 + 4 * k + 2) ≤ 9 ∧ 40 ≤ v (80 + 4 * k + 1) ∧ v (80 + 4 * k + 1) ≤ 90 := fun k hk => ⟨(hke k hk).1, (hke k hk).2.2, (hke k hk).2.1⟩
  have hpl : ∀ p, p < v 9 → v (150 + 3 * p) < 10 := fun p hp => by have := (hpn p hp).1; omega
  refine CtI.enter (by decide) (Nat.le_of_ble_eq_true rfl) (fun Φ hc hR => ?_)
  show Vw Ω Φ (z, sh, σ, ρ) (0, 0) 0 [(0, .ref P)] []
  refine r_aload_n hc dX11_planOrders_0 rfl ?_
  refine gf_X11_58 (q := P + 316) hc a0 a8 dX11_planOrders_1 ?_
  refine r_aload_n hc dX11_planOrders_4 rfl ?_
  refine gf_X11_10 (q := P + 1) hc a0 a1 dX11_planOrders_5 ?_
  refine cl_X11_107 (As := [.ref (P + 1)]) hc (c_X8_work (ρ := ρ) hPs hH1 hV (Or.inr (by omega)) hok hbx) hPs.1.1 rfl ⟨by decide, by decide⟩ ⟨rfl, rfl⟩ ⟨by decide, by decide⟩ rfl (Nat.le_of_ble_eq_true rfl) dX11_planOrders_8 (fun u hp => ?_)
  obtain ⟨τ, hu, hW, hB, hA, hfr⟩ := hp
  rw [hu]
  refine r_aload_n hc dX11_planOrders_11 rfl ?_
  refine gf_X11_58 (q := P + 316) hc a0 a8 dX11_planOrders_12 ?_
  refine cl_X11_120 (As := []) hc (c_X8_howManyOrders (ρ := ρ) hPs h9 hW hB hA) hPs.1.1 rfl ⟨by decide, by decide⟩ ⟨rfl, rfl⟩ ⟨by decide, by decide⟩ rfl (Nat.le_of_ble_eq_true rfl) dX11_planOrders_15 (fun r u hp => ?_)
  obtain ⟨hr, hu⟩ := hp
  rw [hu]
  exact hR _ _ ⟨_, rfl, (by rw [hr, nz]), fun q hq => hfr q (by omega)⟩ rfl _ _ dX11_planOrders_18
set_option maxRecDepth 100000 in
set_option maxHeartbeats 4000000 in
theorem c_X11_brassForPlan {Ω : OmT} {z : Nat} {sh : Nat → Option Kd} {σ : Nat → Nat → Int32} {ρ : Nat → Nat → Option Nat} {P b : Nat} {s : Nat → Nat} {v : Nat → Nat} {nu : Nat} {hf : Nat → Nat} {fl : Nat → Bool} {sv p : Nat → Nat} {ln : Nat} (H : CSt sh σ ρ P b s v nu hf fl sv p ln) (hbx : v 7 ≤ 900000000)  : CtI Ω yX11_brassForPlan cX11_brassForPlan 1 .int rm_X11_brassForPlan [.ref P] (z, sh, σ, ρ) (fun r u => ∃ τ : Nat → Nat → Int32, u = (z, sh, τ, ρ) ∧ r = zI (((mC v (v 9) 0 : Nat) : Int)) ∧ ∀ q, (q < P + 307 ∨ P + 323 ≤ q) → τ q = σ q) := by
  have hbx : v 7 ≤ 1000000000 := by omega
  have H0 := H
  obtain ⟨⟨hC, hSl⟩, hP, ⟨hV, hok⟩, ⟨hnu, hn, hHr⟩, hSv, ⟨hql, hpr, hl80, hpp⟩⟩ := H
  have hC0 := hC
  obtain ⟨⟨a0, a1, a2, a3, a4, a5, a6, a7, a8⟩, ⟨hb1, hb2, hb3⟩, ⟨hc1, hc2⟩, hH1, hz2, hz3, hPd, hKs, hWs, hPs⟩ := hC
  have hC := hC0
  have hb7 := hP.2.2.1
  have hbr := bs_rng P hb7
  have hok1 := hok
  obtain ⟨⟨h01, h02⟩, hl1, ⟨h21, h22⟩, h3, h4, h5, h9, hdo, hke, hpn, hpd, htc⟩ := hok1
  have hdr : ∀ d, d < v 4 → v (20 + 6 * d + 2) < 10000 ∧ v (20 + 6 * d + 3) < 10000 := fun d hd => ⟨(hdo d hd).2.2.1, (hdo d hd).2.2.2⟩
  have hcu : ∀ k, k < v 5 → v (80 + 4 * k) < 10000 := fun k hk => (hke k hk).1
  have hwh : ∀ k, k < v 5 → v (80 + 4 * k + 2) ≤ 9 := fun k hk => (hke k hk).2.2
  have hky : ∀ k, k < v 5 → v (80 + 4 * k) < 10000 ∧ v (80 + 4 * k + 2) ≤ 9 ∧ 40 ≤ v (80 + 4 * k + 1) ∧ v (80 + 4 * k + 1) ≤ 90 := fun k hk => ⟨(hke k hk).1, (hke k hk).2.2, (hke k hk).2.1⟩
  have hpl : ∀ p, p < v 9 → v (150 + 3 * p) < 10 := fun p hp => by have := (hpn p hp).1; omega
  refine CtI.enter (by decide) (Nat.le_of_ble_eq_true rfl) (fun Φ hc hR => ?_)
  show Vw Ω Φ (z, sh, σ, ρ) (0, 0) 0 [(0, .ref P)] []
  refine r_aload_n hc dX11_brassForPlan_0 rfl ?_
  refine gf_X11_58 (q := P + 316) hc a0 a8 dX11_brassForPlan_1 ?_
  refine r_aload_n hc dX11_brassForPlan_4 rfl ?_
  refine gf_X11_10 (q := P + 1) hc a0 a1 dX11_brassForPlan_5 ?_
  refine cl_X11_107 (As := [.ref (P + 1)]) hc (c_X8_work (ρ := ρ) hPs hH1 hV (Or.inr (by omega)) hok hbx) hPs.1.1 rfl ⟨by decide, by decide⟩ ⟨rfl, rfl⟩ ⟨by decide, by decide⟩ rfl (Nat.le_of_ble_eq_true rfl) dX11_brassForPlan_8 (fun u hp => ?_)
  obtain ⟨τ, hu, hW, hB, hA, hfr⟩ := hp
  rw [hu]
  refine r_aload_n hc dX11_brassForPlan_11 rfl ?_
  refine gf_X11_58 (q := P + 316) hc a0 a8 dX11_brassForPlan_12 ?_
  refine cl_X11_186 (As := []) hc (c_X8_leastBrass (ρ := ρ) hPs h9 hW hB hA) hPs.1.1 rfl ⟨by decide, by decide⟩ ⟨rfl, rfl⟩ ⟨by decide, by decide⟩ rfl (Nat.le_of_ble_eq_true rfl) dX11_brassForPlan_15 (fun r u hp => ?_)
  obtain ⟨hr, hu⟩ := hp
  rw [hu]
  exact hR _ _ ⟨_, rfl, (by rw [hr, nz]), fun q hq => hfr q (by omega)⟩ rfl _ _ dX11_brassForPlan_18
set_option maxRecDepth 100000 in
set_option maxHeartbeats 4000000 in
theorem c_X11_mustBeLast {Ω : OmT} {z : Nat} {sh : Nat → Option Kd} {σ : Nat → Nat → Int32} {ρ : Nat → Nat → Option Nat} {P b : Nat} {s : Nat → Nat} {v : Nat → Nat} {nu : Nat} {hf : Nat → Nat} {fl : Nat → Bool} {sv p : Nat → Nat} {ln : Nat} (H : CSt sh σ ρ P b s v nu hf fl sv p ln) (hbx : v 7 ≤ 900000000)  : CtI Ω yX11_mustBeLast cX11_mustBeLast 1 .int rm_X11_mustBeLast [.ref P] (z, sh, σ, ρ) (fun r u => ∃ τ : Nat → Nat → Int32, u = (z, sh, τ, ρ) ∧ r = zI (sLast v) ∧ ∀ q, (q < P + 307 ∨ P + 323 ≤ q) → τ q = σ q) := by
  have hbx : v 7 ≤ 1000000000 := by omega
  have H0 := H
  obtain ⟨⟨hC, hSl⟩, hP, ⟨hV, hok⟩, ⟨hnu, hn, hHr⟩, hSv, ⟨hql, hpr, hl80, hpp⟩⟩ := H
  have hC0 := hC
  obtain ⟨⟨a0, a1, a2, a3, a4, a5, a6, a7, a8⟩, ⟨hb1, hb2, hb3⟩, ⟨hc1, hc2⟩, hH1, hz2, hz3, hPd, hKs, hWs, hPs⟩ := hC
  have hC := hC0
  have hb7 := hP.2.2.1
  have hbr := bs_rng P hb7
  have hok1 := hok
  obtain ⟨⟨h01, h02⟩, hl1, ⟨h21, h22⟩, h3, h4, h5, h9, hdo, hke, hpn, hpd, htc⟩ := hok1
  have hdr : ∀ d, d < v 4 → v (20 + 6 * d + 2) < 10000 ∧ v (20 + 6 * d + 3) < 10000 := fun d hd => ⟨(hdo d hd).2.2.1, (hdo d hd).2.2.2⟩
  have hcu : ∀ k, k < v 5 → v (80 + 4 * k) < 10000 := fun k hk => (hke k hk).1
  have hwh : ∀ k, k < v 5 → v (80 + 4 * k + 2) ≤ 9 := fun k hk => (hke k hk).2.2
  have hky : ∀ k, k < v 5 → v (80 + 4 * k) < 10000 ∧ v (80 + 4 * k + 2) ≤ 9 ∧ 40 ≤ v (80 + 4 * k + 1) ∧ v (80 + 4 * k + 1) ≤ 90 := fun k hk => ⟨(hke k hk).1, (hke k hk).2.2, (hke k hk).2.1⟩
  have hpl : ∀ p, p < v 9 → v (150 + 3 * p) < 10 := fun p hp => by have := (hpn p hp).1; omega
  refine CtI.enter (by decide) (Nat.le_of_ble_eq_true rfl) (fun Φ hc hR => ?_)
  show Vw Ω Φ (z, sh, σ, ρ) (0, 0) 0 [(0, .ref P)] []
  refine r_aload_n hc dX11_mustBeLast_0 rfl ?_
  refine gf_X11_58 (q := P + 316) hc a0 a8 dX11_mustBeLast_1 ?_
  refine r_aload_n hc dX11_mustBeLast_4 rfl ?_
  refine gf_X11_10 (q := P + 1) hc a0 a1 dX11_mustBeLast_5 ?_
  refine cl_X11_107 (As := [.ref (P + 1)]) hc (c_X8_work (ρ := ρ) hPs hH1 hV (Or.inr (by omega)) hok hbx) hPs.1.1 rfl ⟨by decide, by decide⟩ ⟨rfl, rfl⟩ ⟨by decide, by decide⟩ rfl (Nat.le_of_ble_eq_true rfl) dX11_mustBeLast_8 (fun u hp => ?_)
  obtain ⟨τ, hu, hW, hB, hA, hfr⟩ := hp
  rw [hu]
  refine r_aload_n hc dX11_mustBeLast_11 rfl ?_
  refine gf_X11_58 (q := P + 316) hc a0 a8 dX11_mustBeLast_12 ?_
  refine cl_X11_183 (As := []) hc (c_X8_onlyLast (ρ := ρ) hPs h9 hW hB hA) hPs.1.1 rfl ⟨by decide, by decide⟩ ⟨rfl, rfl⟩ ⟨by decide, by decide⟩ rfl (Nat.le_of_ble_eq_true rfl) dX11_mustBeLast_15 (fun r u hp => ?_)
  obtain ⟨hr, hu⟩ := hp
  rw [hu]
  exact hR _ _ ⟨_, rfl, hr, fun q hq => hfr q (by omega)⟩ rfl _ _ dX11_mustBeLast_18
set_option maxRecDepth 100000 in
set_option maxHeartbeats 4000000 in
theorem c_X11_planOrder {Ω : OmT} {z : Nat} {sh : Nat → Option Kd} {σ : Nat → Nat → Int32} {ρ : Nat → Nat → Option Nat} {P b : Nat} {s : Nat → Nat} {v : Nat → Nat} {nu : Nat} {hf : Nat → Nat} {fl : Nat → Bool} {sv p : Nat → Nat} {ln : Nat} (H : CSt sh σ ρ P b s v nu hf fl sv p ln) (hbx : v 7 ≤ 900000000) {x1 : Int} (hx10 : -2147483648 ≤ x1 ∧ x1 < 2147483648) : CtI Ω yX11_planOrder cX11_planOrder 2 .int rm_X11_planOrder [.ref P, .int (zI x1)] (z, sh, σ, ρ) (fun r u => ∃ τ : Nat → Nat → Int32, u = (z, sh, τ, ρ) ∧ r = zI (sPlanOrder v x1) ∧ ∀ q, (q < P + 307 ∨ P + 323 ≤ q) → τ q = σ q) := by
  have hbx : v 7 ≤ 1000000000 := by omega
  have H0 := H
  obtain ⟨⟨hC, hSl⟩, hP, ⟨hV, hok⟩, ⟨hnu, hn, hHr⟩, hSv, ⟨hql, hpr, hl80, hpp⟩⟩ := H
  have hC0 := hC
  obtain ⟨⟨a0, a1, a2, a3, a4, a5, a6, a7, a8⟩, ⟨hb1, hb2, hb3⟩, ⟨hc1, hc2⟩, hH1, hz2, hz3, hPd, hKs, hWs, hPs⟩ := hC
  have hC := hC0
  have hb7 := hP.2.2.1
  have hbr := bs_rng P hb7
  have hok1 := hok
  obtain ⟨⟨h01, h02⟩, hl1, ⟨h21, h22⟩, h3, h4, h5, h9, hdo, hke, hpn, hpd, htc⟩ := hok1
  have hdr : ∀ d, d < v 4 → v (20 + 6 * d + 2) < 10000 ∧ v (20 + 6 * d + 3) < 10000 := fun d hd => ⟨(hdo d hd).2.2.1, (hdo d hd).2.2.2⟩
  have hcu : ∀ k, k < v 5 → v (80 + 4 * k) < 10000 := fun k hk => (hke k hk).1
  have hwh : ∀ k, k < v 5 → v (80 + 4 * k + 2) ≤ 9 := fun k hk => (hke k hk).2.2
  have hky : ∀ k, k < v 5 → v (80 + 4 * k) < 10000 ∧ v (80 + 4 * k + 2) ≤ 9 ∧ 40 ≤ v (80 + 4 * k + 1) ∧ v (80 + 4 * k + 1) ≤ 90 := fun k hk => ⟨(hke k hk).1, (hke k hk).2.2, (hke k hk).2.1⟩
  have hpl : ∀ p, p < v 9 → v (150 + 3 * p) < 10 := fun p hp => by have := (hpn p hp).1; omega
  refine CtI.enter (by decide) (Nat.le_of_ble_eq_true rfl) (fun Φ hc hR => ?_)
  show Vw Ω Φ (z, sh, σ, ρ) (0, 0) 0 [(0, .ref P), (1, .int (zI x1))] []
  refine r_iload_n hc dX11_planOrder_0 rfl ?_
  refine r_if_lt (tgt := 10) hc dX11_planOrder_1 (by decide) (l0_Z (by omega)) (fun c_1 => ?_) (fun c_1 => ?_)
  ·
    refine r_bipush (v := zI (-2)) hc dX11_planOrder_10 rfl ?_
    exact hR _ _ ⟨_, rfl, (by refine congrArg zI ?_; unfold sPlanOrder; rw [if_neg (by omega)]), fun _ _ => rfl⟩ rfl _ _ dX11_planOrder_12
  ·
    refine r_iload_n hc dX11_planOrder_4 rfl ?_
    refine r_bipush (v := nI 6) hc dX11_planOrder_5 rfl ?_
    refine r_icmp_lt (tgt := 13) hc dX11_planOrder_7 (by decide) (lt_ZN (by omega) (by omega)) (fun c_7 => ?_) (fun c_7 => ?_)
    ·
      obtain ⟨T, rfl⟩ := Int.eq_ofNat_of_zero_le (show 0 ≤ x1 by omega)
      rw [← nz T]
      refine r_aload_n hc dX11_planOrder_13 rfl ?_
      refine gf_X11_58 (q := P + 316) hc a0 a8 dX11_planOrder_14 ?_
      refine r_aload_n hc dX11_planOrder_17 rfl ?_
      refine gf_X11_10 (q := P + 1) hc a0 a1 dX11_planOrder_18 ?_
      refine cl_X11_107 (As := [.ref (P + 1)]) hc (c_X8_work (ρ := ρ) hPs hH1 hV (Or.inr (by omega)) hok hbx) hPs.1.1 rfl ⟨by decide, by decide⟩ ⟨rfl, rfl⟩ ⟨by decide, by decide⟩ rfl (Nat.le_of_ble_eq_true rfl) dX11_planOrder_21 (fun u hp => ?_)
      obtain ⟨τ, hu, hW, hB, hA, hfr⟩ := hp
      rw [hu]
      refine r_aload_n hc dX11_planOrder_24 rfl ?_
      refine gf_X11_58 (q := P + 316) hc a0 a8 dX11_planOrder_25 ?_
      refine r_iload_n hc dX11_planOrder_28 rfl ?_
      refine cl_X11_123 (As := [.int (nI T)]) hc (c_X8_firstOrderAt (ρ := ρ) hPs h9 hbx hW hB hA (w := T) (by omega)) hPs.1.1 rfl ⟨by decide, by decide⟩ ⟨rfl, rfl⟩ ⟨by decide, by decide⟩ rfl (Nat.le_of_ble_eq_true rfl) dX11_planOrder_29 (fun r u hp => ?_)
      obtain ⟨hr, hu⟩ := hp
      rw [hu]
      exact hR _ _ ⟨_, rfl, (by rw [hr]; refine congrArg zI ?_; unfold sPlanOrder; rw [Int.toNat_natCast]; exact (if_pos (by omega)).symm), fun q hq => hfr q (by omega)⟩ rfl _ _ dX11_planOrder_32
    ·
      refine r_bipush (v := zI (-2)) hc dX11_planOrder_10 rfl ?_
      exact hR _ _ ⟨_, rfl, (by refine congrArg zI ?_; unfold sPlanOrder; rw [if_neg (by omega)]), fun _ _ => rfl⟩ rfl _ _ dX11_planOrder_12
