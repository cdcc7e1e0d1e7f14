/-! ===== KeySearch: how many, the least one ===== -/
theorem ftF_lt (v : Nat → Nat) (x i n : Nat) : ftF v x i n < 1024 := by
  induction n with
  | zero => rw [ftF]; omega
  | succ n ih =>
    rw [ftF]
    split
    · exact Nat.lt_of_le_of_lt Nat.and_le_left ih
    · exact ih
theorem ft_step (v : Nat → Nat) (x k i : Nat) (hi : i < 4) (hx : x.testBit k = true) : kfF (v (20 + 6 * k + 2)) (v (20 + 6 * k + 3)) (fun i => ftF v x i k) 4 i = ftF v x i (k + 1) := by
  unfold kfF
  rw [if_pos (by omega), ftF, if_pos hx]
def Jx (v : Nat → Nat) (x : Nat) : Nat → Bool := fun c => decide (doorsBy v c = x)
def gLF (v : Nat → Nat) (x p n c : Nat) : Nat → Int := fun e => if lfOk (v 0) (ftA v x) p c e = true then lfF (v 0) (ftA v x) (Jx v x) n (c * 10 + e) else -6
theorem ftA_lt (v : Nat → Nat) (x i : Nat) (_ : i < 4) : ftA v x i < 1024 := ftF_lt v x i (v 4)
abbrev rmLF_4 : Room := { frames := 2, cells := 0, slots := 0, locals := 49 }
abbrev rmLF_3 : Room := { frames := 3, cells := 0, slots := 0, locals := 76 }
abbrev rmLF_2 : Room := { frames := 4, cells := 0, slots := 0, locals := 103 }
abbrev rmLF_1 : Room := { frames := 5, cells := 0, slots := 0, locals := 130 }
abbrev rmLF_0 : Room := { frames := 6, cells := 0, slots := 0, locals := 157 }
abbrev rm2_X4_leastJustFor : Room := { frames := 7, cells := 0, slots := 0, locals := 184 }
set_option maxRecDepth 100000 in
set_option maxHeartbeats 4000000 in
theorem c_X4_work {Ω : OmT} {z : Nat} {sh : Nat → Option Kd} {σ : Nat → Nat → Int32} {ρ : Nat → Nat → Option Nat} {a h : Nat} {v : Nat → Nat} (hK : KSh sh ρ a) (hH : HSh sh ρ h) (hV : HV σ h v) (hah : a + 4 ≤ h ∨ h + 34 ≤ a) (hok : okR v) {X : Nat} (hX : X < 2 ^ v 4)  : CtV Ω yX4_work cX4_work 4 rm_X4_work [.ref a, .ref h, .int (nI X)] (z, sh, σ, ρ) (fun u => ∃ τ : Nat → Nat → Int32, u = (z, sh, τ, ρ) ∧ rowAt τ (a + 1) 4 (ftA v X) ∧ τ a 3 = nI (v 0) ∧ ∀ q, q ≠ a → q ≠ a + 1 → τ q = σ q) := by
  have hok1 := hok
  obtain ⟨⟨h01, h02⟩, hl1, ⟨h21, h22⟩, h3, h4, h5, h9, hdo, hke, hpn, hpd, htc⟩ := hok1
  have hdr : ∀ d, d < v 4 → v (20 + 6 * d + 2) < 10000 ∧ v (20 + 6 * d + 3) < 10000 := fun d hd => ⟨(hdo d hd).2.2.1, (hdo d hd).2.2.2⟩
  have hcu : ∀ k, k < v 5 → v (80 + 4 * k) < 10000 := fun k hk => (hke k hk).1
  have hwh : ∀ k, k < v 5 → v (80 + 4 * k + 2) ≤ 9 := fun k hk => (hke k hk).2.2
  have hky : ∀ k, k < v 5 → v (80 + 4 * k) < 10000 ∧ v (80 + 4 * k + 2) ≤ 9 ∧ 40 ≤ v (80 + 4 * k + 1) ∧ v (80 + 4 * k + 1) ≤ 90 := fun k hk => ⟨(hke k hk).1, (hke k hk).2.2, (hke k hk).2.1⟩
  have hpl : ∀ p, p < v 9 → v (150 + 3 * p) < 10 := fun p hp => by have := (hpn p hp).1; omega
  have hX0 : X < 1024 := Nat.lt_of_lt_of_le hX (Nat.pow_le_pow_right (by decide) h4 : 2 ^ v 4 ≤ 2 ^ 10)
  have hV0 := hV
  refine CtV.enter (by decide) (Nat.le_of_ble_eq_true rfl) (fun Φ hc hi hR => ?_)
  show Vw Ω Φ (z, sh, σ, ρ) (0, 0) 0 [(0, .ref a), (1, .ref h), (2, .int (nI X))] []
  refine r_aload_n hc dX4_work_0 rfl ?_
  refine r_aload_n hc dX4_work_1 rfl ?_
  refine gf_X4_21 (q := h + 1) hc (HS0 hH) (HR0 hH 0 1 (by decide)) dX4_work_2 ?_
  refine r_iconst (v := nI 0) hc dX4_work_5 rfl ?_
  refine r_iald (x := nI (v 0)) (j := 0) hc (HSa hH 1 _ rfl) rfl (by omega) (by decide) (HVs hV (by omega)) dX4_work_6 ?_
  refine pf_X4_26 hc hK.1.1 dX4_work_7 ?_
  generalize hσ1 : s2 σ a 3 (nI (v 0)) = σ1
  have hV : HV σ1 h v := by rw [← hσ1]; exact hV.dead (by omega) (by omega) (by right; right; right; omega)
  refine r_iconst (v := nI 0) hc dX4_work_10 rfl ?_
  refine r_istore_n (ls' := [(3, .int (nI 0)), (0, .ref a), (1, .ref h), (2, .int (nI X))]) hc dX4_work_11 (by decide) rfl ?_
  have loop12 : ∀ (n12 : Nat) (τ : Nat → Nat → Int32) (k : Nat), (k ≤ 4) → (rowAt τ (a + 1) k (fun _ => 1023)) → (τ a 3 = nI (v 0)) → (∀ q, q ≠ a → q ≠ a + 1 → τ q = σ q) → (4 - k) < n12 → Vw Ω Φ (z, sh, τ, ρ) (0, 0) 12 [(0, .ref a), (1, .ref h), (2, .int (nI X)), (3, .int (nI k))] [] := by
    intro n12
    induction n12 with
    | zero => intro τ k hk hg hst hfr hm; exact absurd hm (Nat.not_lt_zero _)
    | succ n12 ih12 =>
      intro τ k hk hg hst hfr hm12
      refine r_iload_n hc dX4_work_12 rfl ?_
      refine r_iconst (v := nI 4) hc dX4_work_13 rfl ?_
      refine r_icmp_ge (tgt := 32) hc dX4_work_14 (by decide) (le_NN (by omega) (by omega)) (fun c_14 => ?_) (fun c_14 => ?_)
      ·
        refine r_iconst (v := nI 0) hc dX4_work_32 rfl ?_
        refine r_istore_n (ls' := [(3, .int (nI 0)), (0, .ref a), (1, .ref h), (2, .int (nI X))]) hc dX4_work_33 (by decide) rfl ?_
        have loop34 : ∀ (n34 : Nat) (τ : Nat → Nat → Int32) (k : Nat), (k ≤ v 4) → (rowAt τ (a + 1) 4 (fun i => ftF v X i k)) → (τ a 3 = nI (v 0)) → (∀ q, q ≠ a → q ≠ a + 1 → τ q = σ q) → (v 4 - k) < n34 → Vw Ω Φ (z, sh, τ, ρ) (0, 0) 34 [(0, .ref a), (1, .ref h), (2, .int (nI X)), (3, .int (nI k))] [] := by
          intro n34
          induction n34 with
          | zero => intro τ k hk hg hst hfr hm; exact absurd hm (Nat.not_lt_zero _)
          | succ n34 ih34 =>
            intro τ k hk hg hst hfr hm34
            have hV : HV τ h v := hV0.keep (fun q q1 q2 => hfr q (by omega) (by omega)) h4 h5
            refine r_iload_n hc dX4_work_34 rfl ?_
            refine r_aload_n hc dX4_work_35 rfl ?_
            refine gf_X4_30 (x := nI (v 4)) hc (HS0 hH) (HV4 hV) dX4_work_36 ?_
            refine r_icmp_ge (tgt := 66) hc dX4_work_39 (by decide) (le_NN (by omega) (by omega)) (fun c_39 => ?_) (fun c_39 => ?_)
            ·
              exact hR _ ⟨_, rfl, by rw [show k = v 4 by omega] at hg; exact hg, hst, hfr⟩ _ _ dX4_work_66
            ·
              refine r_iload_n hc dX4_work_42 rfl ?_
              refine r_iload_n hc dX4_work_43 rfl ?_
              refine r_ishr (v := nI (X / 2 ^ k)) hc dX4_work_44 (sr_NN _ _ (by omega) (by omega)) ?_
              refine r_iconst (v := nI 1) hc dX4_work_45 rfl ?_
              refine r_iand (v := nI ((X / 2 ^ k) &&& 1)) hc dX4_work_46 (an_NN _ _) ?_
              refine r_if_eq (tgt := 60) hc dX4_work_47 (by decide) (e0_N (Nat.lt_of_le_of_lt Nat.and_le_right (by decide))) (fun c_47 => ?_) (fun c_47 => ?_)
              ·
                refine r_iinc (v := nI (k + 1)) (ls' := [(3, .int (nI (k + 1))), (0, .ref a), (1, .ref h), (2, .int (nI X))]) hc dX4_work_60 rfl (ad_NN _ 1) (by decide) rfl ?_
                refine r_goto (tgt := 34) hc dX4_work_63 (by decide) ?_
                refine r_locp [1, 2, 3, 0] (ls' := [(0, .ref a), (1, .ref h), (2, .int (nI X)), (3, .int (nI (k + 1)))]) rfl ?_
                exact ih34 τ (k + 1) (by omega) (hg.cong (fun i _ => by rw [ftF, if_neg (fun q => (tb_0 X k).mpr q c_47)])) hst hfr (by omega)
              ·
                refine r_aload_n hc dX4_work_50 rfl ?_
                refine r_aload_n hc dX4_work_51 rfl ?_
                refine gf_X4_33 (q := h + 2) hc (HS0 hH) (HR0 hH 1 2 (by decide)) dX4_work_52 ?_
                refine r_iload_n hc dX4_work_55 rfl ?_
                refine al_3 (r := h + 8 + k) (j := k) hc (HSa hH 2 _ rfl) rfl (by omega) (by decide) (HRd hH (by omega)) dX4_work_56 ?_
                refine cl_X4_37 (As := [.ref (h + 8 + k)]) hc (c_X4_keepFitting hK (dd := h + 8 + k) (f := v (20 + 6 * k + 2)) (s := v (20 + 6 * k + 3)) (HSd hH (by omega)) (HVd hV (show k < v 4 by omega) 2 (by decide)) (HVd hV (show k < v 4 by omega) 3 (by decide)) (by have := hdr k (by omega); omega) (by have := hdr k (by omega); omega) (F := fun i => ftF v X i k) hg) hK.1.1 rfl ⟨by decide, by decide⟩ ⟨rfl, rfl⟩ ⟨by decide, by decide⟩ rfl (Nat.le_of_ble_eq_true rfl) dX4_work_57 (fun u hp => ?_)
                obtain ⟨τ2, hu, hr2, hfr2⟩ := hp
                rw [hu]
                have hg2 : rowAt τ2 (a + 1) 4 (fun i => ftF v X i (k + 1)) := hr2.cong (fun i hi => ft_step v X k i hi ((tb_0 X k).mp c_47))
                have hst : τ2 a 3 = nI (v 0) := by rw [hfr2 a (by omega)]; exact hst
                have hfr : ∀ q, q ≠ a → q ≠ a + 1 → τ2 q = σ q := fun q q1 q2 => by rw [hfr2 q q2]; exact hfr q q1 q2
                refine r_iinc (v := nI (k + 1)) (ls' := [(3, .int (nI (k + 1))), (0, .ref a), (1, .ref h), (2, .int (nI X))]) hc dX4_work_60 rfl (ad_NN _ 1) (by decide) rfl ?_
                refine r_goto (tgt := 34) hc dX4_work_63 (by decide) ?_
                refine r_locp [1, 2, 3, 0] (ls' := [(0, .ref a), (1, .ref h), (2, .int (nI X)), (3, .int (nI (k + 1)))]) rfl ?_
                exact ih34 τ2 (k + 1) (by omega) hg2 hst hfr (by omega)
        refine r_locp [1, 2, 3, 0] (ls' := [(0, .ref a), (1, .ref h), (2, .int (nI X)), (3, .int (nI 0))]) rfl ?_
        exact loop34 _ τ 0 (by omega) (by rw [show k = 4 by omega] at hg; exact hg) hst hfr (Nat.lt_succ_self _)
      ·
        refine r_aload_n hc dX4_work_17 rfl ?_
        refine gf_X4_9 (q := a + 1) hc hK.1.1 hK.2.1 dX4_work_18 ?_
        refine r_iload_n hc dX4_work_21 rfl ?_
        refine r_sipush (v := nI 1023) hc dX4_work_22 rfl ?_
        refine r_iast (j := k) hc hK.1.2.1 rfl (by omega) (by decide) dX4_work_25 ?_
        generalize hσ2 : s2 τ (a + 1) k (nI 1023) = σ2
        have hst : σ2 a 3 = nI (v 0) := by rw [← hσ2]; exact s2_keep hst (by omega)
        refine r_iinc (v := nI (k + 1)) (ls' := [(3, .int (nI (k + 1))), (0, .ref a), (1, .ref h), (2, .int (nI X))]) hc dX4_work_26 rfl (ad_NN _ 1) (by decide) rfl ?_
        refine r_goto (tgt := 12) hc dX4_work_29 (by decide) ?_
        refine r_locp [1, 2, 3, 0] (ls' := [(0, .ref a), (1, .ref h), (2, .int (nI X)), (3, .int (nI (k + 1)))]) rfl ?_
        exact ih12 σ2 (k + 1) (by omega) (by rw [← hσ2]; exact hg.ext1 _ rfl) hst (fun q q1 q2 => by rw [← hσ2, s2_ne q2]; exact hfr q q1 q2) (by omega)
  refine r_locp [1, 2, 3, 0] (ls' := [(0, .ref a), (1, .ref h), (2, .int (nI X)), (3, .int (nI 0))]) rfl ?_
  exact loop12 _ σ1 0 (by omega) rowAt.zero (by rw [← hσ1]; exact s2_same _ _ _ _) (fun q q1 q2 => by rw [← hσ1, s2_ne q1]) (Nat.lt_succ_self _)
set_option maxRecDepth 100000 in
set_option maxHeartbeats 4000000 in
theorem c_X4_howMany {Ω : OmT} {z : Nat} {sh : Nat → Option Kd} {σ : Nat → Nat → Int32} {ρ : Nat → Nat → Option Nat} {a h : Nat} {v : Nat → Nat} (hK : KSh sh ρ a) (hH : HSh sh ρ h) (hV : HV σ h v) (hah : a + 4 ≤ h ∨ h + 34 ≤ a) (hok : okR v) {X : Nat} (hX : X < 2 ^ v 4)  : CtI Ω yX4_howMany cX4_howMany 5 .int rm_X4_howMany [.ref a, .ref h, .int (nI X)] (z, sh, σ, ρ) (fun r u => ∃ τ : Nat → Nat → Int32, u = (z, sh, τ, ρ) ∧ r = nI (cntF (chkP v X) 10000) ∧ ∀ q, (q < a ∨ a + 4 ≤ q) → τ q = σ q) := by
  have hok1 := hok
  obtain ⟨⟨h01, h02⟩, hl1, ⟨h21, h22⟩, h3, h4, h5, h9, hdo, hke, hpn, hpd, htc⟩ := hok1
  have hdr : ∀ d, d < v 4 → v (20 + 6 * d + 2) < 10000 ∧ v (20 + 6 * d + 3) < 10000 := fun d hd => ⟨(hdo d hd).2.2.1, (hdo d hd).2.2.2⟩
  have hcu : ∀ k, k < v 5 → v (80 + 4 * k) < 10000 := fun k hk => (hke k hk).1
  have hwh : ∀ k, k < v 5 → v (80 + 4 * k + 2) ≤ 9 := fun k hk => (hke k hk).2.2
  have hky : ∀ k, k < v 5 → v (80 + 4 * k) < 10000 ∧ v (80 + 4 * k + 2) ≤ 9 ∧ 40 ≤ v (80 + 4 * k + 1) ∧ v (80 + 4 * k + 1) ≤ 90 := fun k hk => ⟨(hke k hk).1, (hke k hk).2.2, (hke k hk).2.1⟩
  have hpl : ∀ p, p < v 9 → v (150 + 3 * p) < 10 := fun p hp => by have := (hpn p hp).1; omega
  have hX0 : X < 1024 := Nat.lt_of_lt_of_le hX (Nat.pow_le_pow_right (by decide) h4 : 2 ^ v 4 ≤ 2 ^ 10)
  refine CtI.enter (by decide) (Nat.le_of_ble_eq_true rfl) (fun Φ hc hR => ?_)
  show Vw Ω Φ (z, sh, σ, ρ) (0, 0) 0 [(0, .ref a), (1, .ref h), (2, .int (nI X))] []
  refine r_aload_n hc dX4_howMany_0 rfl ?_
  refine r_aload_n hc dX4_howMany_1 rfl ?_
  refine r_iload_n hc dX4_howMany_2 rfl ?_
  refine cl_X4_49 (As := [.ref h, .int (nI X)]) hc (c_X4_work hK hH hV hah hok hX) hK.1.1 rfl ⟨by decide, by decide⟩ ⟨rfl, rfl⟩ ⟨by decide, by decide⟩ rfl (Nat.le_of_ble_eq_true rfl) dX4_howMany_3 (fun u hp => ?_)
  obtain ⟨τ0, hu, hF, hst, hfr0⟩ := hp
  rw [hu]
  have hfr : ∀ q, (q < a ∨ a + 4 ≤ q) → τ0 q = σ q := fun q hq => hfr0 q (by omega) (by omega)
  refine r_iconst (v := nI 0) hc dX4_howMany_6 rfl ?_
  refine r_istore_n (ls' := [(3, .int (nI 0)), (0, .ref a), (1, .ref h), (2, .int (nI X))]) hc dX4_howMany_7 (by decide) rfl ?_
  have loop8 : ∀ (n8 : Nat) (τ : Nat → Nat → Int32) (k : Nat), (k ≤ 10) → (rowAt τ (a + 2) k (wyF (v 0) (ftA v X) 0)) → (rowAt τ (a + 1) 4 (ftA v X)) → (τ a 3 = nI (v 0)) → (∀ q, (q < a ∨ a + 4 ≤ q) → τ q = σ q) → (10 - k) < n8 → Vw Ω Φ (z, sh, τ, ρ) (0, 0) 8 [(0, .ref a), (1, .ref h), (2, .int (nI X)), (3, .int (nI k))] [] := by
    intro n8
    induction n8 with
    | zero => intro τ k hk hg hF hst hfr hm; exact absurd hm (Nat.not_lt_zero _)
    | succ n8 ih8 =>
      intro τ k hk hg hF hst hfr hm8
      refine r_iload_n hc dX4_howMany_8 rfl ?_
      refine r_bipush (v := nI 10) hc dX4_howMany_9 rfl ?_
      refine r_icmp_ge (tgt := 40) hc dX4_howMany_11 (by decide) (le_NN (by omega) (by omega)) (fun c_11 => ?_) (fun c_11 => ?_)
      ·
        refine r_iconst (v := nI 1) hc dX4_howMany_40 rfl ?_
        refine r_istore_n (ls' := [(3, .int (nI 1)), (0, .ref a), (1, .ref h), (2, .int (nI X))]) hc dX4_howMany_41 (by decide) rfl ?_
        have loop42 : ∀ (n42 : Nat) (τ : Nat → Nat → Int32) (k : Nat), (1 ≤ k ∧ k ≤ 4) → (rowAt τ (a + 2) 10 (wyF (v 0) (ftA v X) (k - 1))) → (rowAt τ (a + 1) 4 (ftA v X)) → (τ a 3 = nI (v 0)) → (∀ q, (q < a ∨ a + 4 ≤ q) → τ q = σ q) → (4 - k) < n42 → Vw Ω Φ (z, sh, τ, ρ) (0, 0) 42 [(0, .ref a), (1, .ref h), (2, .int (nI X)), (3, .int (nI k))] [] := by
          intro n42
          induction n42 with
          | zero => intro τ k hk hw hF hst hfr hm; exact absurd hm (Nat.not_lt_zero _)
          | succ n42 ih42 =>
            intro τ k hk hw hF hst hfr hm42
            refine r_iload_n hc dX4_howMany_42 rfl ?_
            refine r_iconst (v := nI 4) hc dX4_howMany_43 rfl ?_
            refine r_icmp_ge (tgt := 58) hc dX4_howMany_44 (by decide) (le_NN (by omega) (by omega)) (fun c_44 => ?_) (fun c_44 => ?_)
            ·
              refine r_iconst (v := nI 0) hc dX4_howMany_58 rfl ?_
              refine r_istore_n (ls' := [(3, .int (nI 0)), (0, .ref a), (1, .ref h), (2, .int (nI X))]) hc dX4_howMany_59 (by decide) rfl ?_
              refine r_iconst (v := nI 0) hc dX4_howMany_60 rfl ?_
              refine r_istore (ls' := [(4, .int (nI 0)), (3, .int (nI 0)), (0, .ref a), (1, .ref h), (2, .int (nI X))]) hc dX4_howMany_61 (by decide) rfl ?_
              rw [show k - 1 = 3 by omega] at hw
              have loop63 : ∀ (n63 : Nat) (s : Nat) (j : Nat), (j ≤ 10) → (s = sumN (wyF (v 0) (ftA v X) 3) j) → (10 - j) < n63 → Vw Ω Φ (z, sh, τ, ρ) (0, 0) 63 [(0, .ref a), (1, .ref h), (2, .int (nI X)), (3, .int (nI s)), (4, .int (nI j))] [] := by
                intro n63
                induction n63 with
                | zero => intro s j hj hs hm; exact absurd hm (Nat.not_lt_zero _)
                | succ n63 ih63 =>
                  intro s j hj hs hm63
                  refine r_iload hc dX4_howMany_63 rfl ?_
                  refine r_bipush (v := nI 10) hc dX4_howMany_65 rfl ?_
                  refine r_icmp_ge (tgt := 86) hc dX4_howMany_67 (by decide) (le_NN (by omega) (by omega)) (fun c_67 => ?_) (fun c_67 => ?_)
                  ·
                    refine r_iload_n hc dX4_howMany_86 rfl ?_
                    exact hR _ _ ⟨τ, rfl, congrArg nI (by rw [hs, show j = 10 by omega]; exact wy_all v X hX), hfr⟩ rfl _ _ dX4_howMany_87
                  ·
                    refine r_iload_n hc dX4_howMany_70 rfl ?_
                    refine r_aload_n hc dX4_howMany_71 rfl ?_
                    refine gf_X4_15 (q := a + 2) hc hK.1.1 hK.2.2.1 dX4_howMany_72 ?_
                    refine r_iload hc dX4_howMany_75 rfl ?_
                    refine r_iald (x := nI ((wyF (v 0) (ftA v X) 3) j)) (j := j) hc hK.1.2.2.1 rfl (by omega) (by decide) (hw _ (by omega)) dX4_howMany_77 ?_
                    refine r_iadd (v := nI (s + ((wyF (v 0) (ftA v X) 3) j))) hc dX4_howMany_78 (ad_NN _ _) ?_
                    refine r_istore_n (ls' := [(3, .int (nI (s + ((wyF (v 0) (ftA v X) 3) j)))), (0, .ref a), (1, .ref h), (2, .int (nI X)), (4, .int (nI j))]) hc dX4_howMany_79 (by decide) rfl ?_
                    refine r_iinc (v := nI (j + 1)) (ls' := [(4, .int (nI (j + 1))), (3, .int (nI (s + ((wyF (v 0) (ftA v X) 3) j)))), (0, .ref a), (1, .ref h), (2, .int (nI X))]) hc dX4_howMany_80 rfl (ad_NN _ 1) (by decide) rfl ?_
                    refine r_goto (tgt := 63) hc dX4_howMany_83 (by decide) ?_
                    refine r_locp [2, 3, 4, 1, 0] (ls' := [(0, .ref a), (1, .ref h), (2, .int (nI X)), (3, .int (nI (s + ((wyF (v 0) (ftA v X) 3) j)))), (4, .int (nI (j + 1)))]) rfl ?_
                    exact ih63 (s + ((wyF (v 0) (ftA v X) 3) j)) (j + 1) (by omega) (by rw [sumN, ← hs]) (by omega)
              refine r_locp [2, 3, 4, 1, 0] (ls' := [(0, .ref a), (1, .ref h), (2, .int (nI X)), (3, .int (nI 0)), (4, .int (nI 0))]) rfl ?_
              exact loop63 _ 0 0 (by omega) rfl (Nat.lt_succ_self _)
            ·
              refine r_aload_n hc dX4_howMany_47 rfl ?_
              refine r_iload_n hc dX4_howMany_48 rfl ?_
              refine cl_X4_57 (As := [.int (nI k)]) hc (c_X4_countOn hK (st := v 0) (p := k) hst (by omega) (by omega) (F := ftA v X) (G := wyF (v 0) (ftA v X) (k - 1)) hF (ftA_lt v X) hw) hK.1.1 rfl ⟨by decide, by decide⟩ ⟨rfl, rfl⟩ ⟨by decide, by decide⟩ rfl (Nat.le_of_ble_eq_true rfl) dX4_howMany_49 (fun u hp => ?_)
              obtain ⟨τ2, hu, hr2, hfr2⟩ := hp
              rw [hu]
              have hw2 : rowAt τ2 (a + 2) 10 (wyF (v 0) (ftA v X) (k + 1 - 1)) := hr2.cong (fun i hi => by rw [show k + 1 - 1 = (k - 1) + 1 by omega, wyF, show k - 1 + 1 = k by omega])
              have hF := hF.sig (hfr2 (a + 1) (by omega) (by omega))
              have hst : τ2 a 3 = nI (v 0) := by rw [hfr2 a (by omega) (by omega)]; exact hst
              have hfr : ∀ q, (q < a ∨ a + 4 ≤ q) → τ2 q = σ q := fun q hq => by rw [hfr2 q (by omega) (by omega)]; exact hfr q hq
              refine r_iinc (v := nI (k + 1)) (ls' := [(3, .int (nI (k + 1))), (0, .ref a), (1, .ref h), (2, .int (nI X))]) hc dX4_howMany_52 rfl (ad_NN _ 1) (by decide) rfl ?_
              refine r_goto (tgt := 42) hc dX4_howMany_55 (by decide) ?_
              refine r_locp [1, 2, 3, 0] (ls' := [(0, .ref a), (1, .ref h), (2, .int (nI X)), (3, .int (nI (k + 1)))]) rfl ?_
              exact ih42 τ2 (k + 1) (by omega) hw2 hF hst hfr (by omega)
        refine r_locp [1, 2, 3, 0] (ls' := [(0, .ref a), (1, .ref h), (2, .int (nI X)), (3, .int (nI 1))]) rfl ?_
        exact loop42 _ τ 1 (by omega) (by rw [show k = 10 by omega] at hg; exact hg) hF hst hfr (Nat.lt_succ_self _)
      ·
        refine r_aload_n hc dX4_howMany_14 rfl ?_
        refine gf_X4_15 (q := a + 2) hc hK.1.1 hK.2.2.1 dX4_howMany_15 ?_
        refine r_iload_n hc dX4_howMany_18 rfl ?_
        refine r_aload_n hc dX4_howMany_19 rfl ?_
        refine r_iconst (v := nI 0) hc dX4_howMany_20 rfl ?_
        refine r_iload_n hc dX4_howMany_21 rfl ?_
        refine cl_X4_53 (As := [.int (nI 0), .int (nI k)]) hc (c_X4_fits hK (F := (ftA v X)) hF (ftA_lt v X) (p := 0) (e := k) (by omega) (by omega)) hK.1.1 rfl ⟨by decide, by decide⟩ ⟨rfl, rfl⟩ ⟨by decide, by decide⟩ rfl (Nat.le_of_ble_eq_true rfl) dX4_howMany_22 (fun r u hp => ?_)
        obtain ⟨rfl, hu⟩ := hp
        rw [hu]
        refine r_if_eq (tgt := 32) hc dX4_howMany_25 (by decide) (bI_0 _) (fun c_25 => ?_) (fun c_25 => ?_)
        ·
          refine r_iconst (v := nI 0) hc dX4_howMany_32 rfl ?_
          refine r_iast (j := k) hc hK.1.2.2.1 rfl (by omega) (by decide) dX4_howMany_33 ?_
          generalize hσ1 : s2 τ (a + 2) k (nI 0) = σ1
          have hF : rowAt σ1 (a + 1) 4 (ftA v X) := by rw [← hσ1]; exact hF.keep (by omega) _ _
          have hst : σ1 a 3 = nI (v 0) := by rw [← hσ1]; exact s2_keep hst (by omega)
          refine r_iinc (v := nI (k + 1)) (ls' := [(3, .int (nI (k + 1))), (0, .ref a), (1, .ref h), (2, .int (nI X))]) hc dX4_howMany_34 rfl (ad_NN _ 1) (by decide) rfl ?_
          refine r_goto (tgt := 8) hc dX4_howMany_37 (by decide) ?_
          refine r_locp [1, 2, 3, 0] (ls' := [(0, .ref a), (1, .ref h), (2, .int (nI X)), (3, .int (nI (k + 1)))]) rfl ?_
          exact ih8 σ1 (k + 1) (by omega) (by rw [← hσ1]; exact hg.ext1 _ (by rw [wyF]; simp [c_25])) hF hst (fun q hq => by rw [← hσ1, s2_ne (show q ≠ a + 2 by omega)]; exact hfr q hq) (by omega)
        ·
          have c_25 := bnf c_25
          refine r_iconst (v := nI 1) hc dX4_howMany_28 rfl ?_
          refine r_goto (tgt := 33) hc dX4_howMany_29 (by decide) ?_
          refine r_iast (j := k) hc hK.1.2.2.1 rfl (by omega) (by decide) dX4_howMany_33 ?_
          generalize hσ2 : s2 τ (a + 2) k (nI 1) = σ2
          have hF : rowAt σ2 (a + 1) 4 (ftA v X) := by rw [← hσ2]; exact hF.keep (by omega) _ _
          have hst : σ2 a 3 = nI (v 0) := by rw [← hσ2]; exact s2_keep hst (by omega)
          refine r_iinc (v := nI (k + 1)) (ls' := [(3, .int (nI (k + 1))), (0, .ref a), (1, .ref h), (2, .int (nI X))]) hc dX4_howMany_34 rfl (ad_NN _ 1) (by decide) rfl ?_
          refine r_goto (tgt := 8) hc dX4_howMany_37 (by decide) ?_
          refine r_locp [1, 2, 3, 0] (ls' := [(0, .ref a), (1, .ref h), (2, .int (nI X)), (3, .int (nI (k + 1)))]) rfl ?_
          exact ih8 σ2 (k + 1) (by omega) (by rw [← hσ2]; exact hg.ext1 _ (by rw [wyF]; simp [c_25])) hF hst (fun q hq => by rw [← hσ2, s2_ne (show q ≠ a + 2 by omega)]; exact hfr q hq) (by omega)
  refine r_locp [1, 2, 3, 0] (ls' := [(0, .ref a), (1, .ref h), (2, .int (nI X)), (3, .int (nI 0))]) rfl ?_
  exact loop8 _ τ0 0 (by omega) rowAt.zero hF hst hfr (Nat.lt_succ_self _)
set_option maxRecDepth 100000 in
set_option maxHeartbeats 4000000 in
theorem c_X4_leastFrom_4 {Ω : OmT} {z : Nat} {sh : Nat → Option Kd} {σ : Nat → Nat → Int32} {ρ : Nat → Nat → Option Nat} {a h : Nat} {v : Nat → Nat} (hK : KSh sh ρ a) (hH : HSh sh ρ h) (hV : HV σ h v) (hah : a + 4 ≤ h ∨ h + 34 ≤ a) (hok : okR v) {X : Nat} (hX : X < 2 ^ v 4) (hF : rowAt σ (a + 1) 4 (ftA v X)) (hst : σ a 3 = nI (v 0)) {c : Nat} (hc0 : c < 10000) : CtI Ω yX4_leastFrom cX4_leastFrom 8 .int rmLF_4 [.ref a, .ref h, .int (nI X), .int (nI 4), .int (nI c)] (z, sh, σ, ρ) (fun r u => r = zI (lfF (v 0) (ftA v X) (Jx v X) 0 c) ∧ u = (z, sh, σ, ρ)) := by
  have hok1 := hok
  obtain ⟨⟨h01, h02⟩, hl1, ⟨h21, h22⟩, h3, h4, h5, h9, hdo, hke, hpn, hpd, htc⟩ := hok1
  have hdr : ∀ d, d < v 4 → v (20 + 6 * d + 2) < 10000 ∧ v (20 + 6 * d + 3) < 10000 := fun d hd => ⟨(hdo d hd).2.2.1, (hdo d hd).2.2.2⟩
  have hcu : ∀ k, k < v 5 → v (80 + 4 * k) < 10000 := fun k hk => (hke k hk).1
  have hwh : ∀ k, k < v 5 → v (80 + 4 * k + 2) ≤ 9 := fun k hk => (hke k hk).2.2
  have hky : ∀ k, k < v 5 → v (80 + 4 * k) < 10000 ∧ v (80 + 4 * k + 2) ≤ 9 ∧ 40 ≤ v (80 + 4 * k + 1) ∧ v (80 + 4 * k + 1) ≤ 90 := fun k hk => ⟨(hke k hk).1, (hke k hk).2.2, (hke k hk).2.1⟩
  have hpl : ∀ p, p < v 9 → v (150 + 3 * p) < 10 := fun p hp => by have := (hpn p hp).1; omega
  have hX0 : X < 1024 := Nat.lt_of_lt_of_le hX (Nat.pow_le_pow_right (by decide) h4 : 2 ^ v 4 ≤ 2 ^ 10)
  refine CtI.enter (by decide) (Nat.le_of_ble_eq_true rfl) (fun Φ hc hR => ?_)
  show Vw Ω Φ (z, sh, σ, ρ) (0, 0) 0 [(0, .ref a), (1, .ref h), (2, .int (nI X)), (3, .int (nI 4)), (4, .int (nI c))] []
  refine r_iload_n hc dX4_leastFrom_0 rfl ?_
  refine r_iconst (v := nI 4) hc dX4_leastFrom_1 rfl ?_
  refine r_icmp_lt (tgt := 23) hc dX4_leastFrom_2 (by decide) (lt_NN (by omega) (by omega)) (fun c_2 => ?_) (fun c_2 => ?_)
  ·
    exact absurd c_2 (by decide)
  ·
    have hdb := doorsBy_lt v c h4
    refine r_aload_n hc dX4_leastFrom_5 rfl ?_
    refine r_iload hc dX4_leastFrom_6 rfl ?_
    refine cl_X4_78 (As := [.int (nI c)]) hc (c_X2_doorsOpenedBy hH hV (c := c) (by omega) (by omega) hdr) (HS0 hH) rfl ⟨by decide, by decide⟩ ⟨rfl, rfl⟩ ⟨by decide, by decide⟩ rfl (Nat.le_of_ble_eq_true rfl) dX4_leastFrom_8 (fun r u hp => ?_)
    obtain ⟨rfl, hu⟩ := hp
    rw [hu]
    refine r_iload_n hc dX4_leastFrom_11 rfl ?_
    refine r_icmp_ne (tgt := 20) hc dX4_leastFrom_12 (by decide) (eq_NN (by omega) (by omega)) (fun c_12 => ?_) (fun c_12 => ?_)
    ·
      refine r_bipush (v := zI (-6)) hc dX4_leastFrom_20 rfl ?_
      exact hR _ _ ⟨(by refine congrArg zI ?_; rw [lfF]; unfold Jx; rw [if_neg (fun q => c_12 (of_decide_eq_true q))]), rfl⟩ rfl _ _ dX4_leastFrom_22
    ·
      refine r_iload hc dX4_leastFrom_15 rfl ?_
      refine r_goto (tgt := 22) hc dX4_leastFrom_17 (by decide) ?_
      exact hR _ _ ⟨(by rw [nz]; refine congrArg zI ?_; rw [lfF]; unfold Jx; rw [if_pos (decide_eq_true c_12)]), rfl⟩ rfl _ _ dX4_leastFrom_22
set_option maxRecDepth 100000 in
set_option maxHeartbeats 4000000 in
theorem c_X4_leastFrom_3 {Ω : OmT} {z : Nat} {sh : Nat → Option Kd} {σ : Nat → Nat → Int32} {ρ : Nat → Nat → Option Nat} {a h : Nat} {v : Nat → Nat} (hK : KSh sh ρ a) (hH : HSh sh ρ h) (hV : HV σ h v) (hah : a + 4 ≤ h ∨ h + 34 ≤ a) (hok : okR v) {X : Nat} (hX : X < 2 ^ v 4) (hF : rowAt σ (a + 1) 4 (ftA v X)) (hst : σ a 3 = nI (v 0)) {c : Nat} (hc0 : c < 1000) : CtI Ω yX4_leastFrom cX4_leastFrom 8 .int rmLF_3 [.ref a, .ref h, .int (nI X), .int (nI 3), .int (nI c)] (z, sh, σ, ρ) (fun r u => r = zI (lfF (v 0) (ftA v X) (Jx v X) 1 c) ∧ u = (z, sh, σ, ρ)) := by
  have hok1 := hok
  obtain ⟨⟨h01, h02⟩, hl1, ⟨h21, h22⟩, h3, h4, h5, h9, hdo, hke, hpn, hpd, htc⟩ := hok1
  have hdr : ∀ d, d < v 4 → v (20 + 6 * d + 2) < 10000 ∧ v (20 + 6 * d + 3) < 10000 := fun d hd => ⟨(hdo d hd).2.2.1, (hdo d hd).2.2.2⟩
  have hcu : ∀ k, k < v 5 → v (80 + 4 * k) < 10000 := fun k hk => (hke k hk).1
  have hwh : ∀ k, k < v 5 → v (80 + 4 * k + 2) ≤ 9 := fun k hk => (hke k hk).2.2
  have hky : ∀ k, k < v 5 → v (80 + 4 * k) < 10000 ∧ v (80 + 4 * k + 2) ≤ 9 ∧ 40 ≤ v (80 + 4 * k + 1) ∧ v (80 + 4 * k + 1) ≤ 90 := fun k hk => ⟨(hke k hk).1, (hke k hk).2.2, (hke k hk).2.1⟩
  have hpl : ∀ p, p < v 9 → v (150 + 3 * p) < 10 := fun p hp => by have := (hpn p hp).1; omega
  have hX0 : X < 1024 := Nat.lt_of_lt_of_le hX (Nat.pow_le_pow_right (by decide) h4 : 2 ^ v 4 ≤ 2 ^ 10)
  refine CtI.enter (by decide) (Nat.le_of_ble_eq_true rfl) (fun Φ hc hR => ?_)
  show Vw Ω Φ (z, sh, σ, ρ) (0, 0) 0 [(0, .ref a), (1, .ref h), (2, .int (nI X)), (3, .int (nI 3)), (4, .int (nI c))] []
  refine r_iload_n hc dX4_leastFrom_0 rfl ?_
  refine r_iconst (v := nI 4) hc dX4_leastFrom_1 rfl ?_
  refine r_icmp_lt (tgt := 23) hc dX4_leastFrom_2 (by decide) (lt_NN (by omega) (by omega)) (fun c_2 => ?_) (fun c_2 => ?_)
  ·
    refine r_iconst (v := nI 0) hc dX4_leastFrom_23 rfl ?_
    refine r_istore (ls' := [(5, .int (nI 0)), (0, .ref a), (1, .ref h), (2, .int (nI X)), (3, .int (nI 3)), (4, .int (nI c))]) hc dX4_leastFrom_24 (by decide) rfl ?_
    have loop26 : ∀ (n26 : Nat) (k : Nat), (k ≤ 10) → (ffZ (gLF v X 3 0 c) k = -6) → (10 - k) < n26 → Vw Ω Φ (z, sh, σ, ρ) (0, 0) 26 [(0, .ref a), (1, .ref h), (2, .int (nI X)), (3, .int (nI 3)), (4, .int (nI c)), (5, .int (nI k))] [] := by
      intro n26
      induction n26 with
      | zero => intro k hk hf hm; exact absurd hm (Nat.not_lt_zero _)
      | succ n26 ih26 =>
        intro k hk hf hm26
        refine r_iload hc dX4_leastFrom_26 rfl ?_
        refine r_bipush (v := nI 10) hc dX4_leastFrom_28 rfl ?_
        refine r_icmp_ge (tgt := 112) hc dX4_leastFrom_30 (by decide) (le_NN (by omega) (by omega)) (fun c_30 => ?_) (fun c_30 => ?_)
        ·
          refine r_bipush (v := zI (-6)) hc dX4_leastFrom_112 rfl ?_
          exact hR _ _ ⟨(by refine congrArg zI ?_; rw [show k = 10 by omega] at hf; exact hf.symm), rfl⟩ rfl _ _ dX4_leastFrom_114
        ·
          refine r_iload_n hc dX4_leastFrom_33 rfl ?_
          refine r_if_eq (tgt := 55) hc dX4_leastFrom_34 (by decide) (e0_N (by omega)) (fun c_34 => ?_) (fun c_34 => ?_)
          ·
            exact absurd c_34 (by decide)
          ·
            refine r_iload hc dX4_leastFrom_37 rfl ?_
            refine r_iload hc dX4_leastFrom_39 rfl ?_
            refine r_bipush (v := nI 10) hc dX4_leastFrom_41 rfl ?_
            refine r_irem (v := nI (c % 10)) hc dX4_leastFrom_43 (nu_ne0 (by omega) (by omega)) (rm_NN _ _ (by omega) (by omega) (by omega)) ?_
            refine r_isub (v := zI (((k : Nat) : Int) - ((c % 10 : Nat) : Int))) hc dX4_leastFrom_44 (sb_NN _ _) ?_
            refine ma_X4_81 (v := zI (if (((k : Nat) : Int) - ((c % 10 : Nat) : Int) : Int) ≥ 0 then ((k : Nat) : Int) - ((c % 10 : Nat) : Int) else -(((k : Nat) : Int) - ((c % 10 : Nat) : Int)))) hc ⟨by decide, Nat.le_of_ble_eq_true rfl⟩ ⟨by decide, by decide⟩ dX4_leastFrom_45 (ab_Z (by omega)) ?_
            refine r_aload_n hc dX4_leastFrom_48 rfl ?_
            refine gf_X4_26 (x := nI (v 0)) hc hK.1.1 hst dX4_leastFrom_49 ?_
            refine r_icmp_gt (tgt := 59) hc dX4_leastFrom_52 (by decide) (lt_NZ (by omega) (by split <;> omega)) (fun c_52 => ?_) (fun c_52 => ?_)
            ·
              have hno : lfOk (v 0) (ftA v X) 3 c k = false := by unfold lfOk; rw [show adj (v 0) k (c % 10) = false by simp only [adj, Bool.and_eq_false_iff, decide_eq_false_iff_not]; split at c_52 <;> omega]; rfl
              refine r_iconst (v := nI 0) hc dX4_leastFrom_59 rfl ?_
              refine r_istore (ls' := [(6, .int (nI 0)), (0, .ref a), (1, .ref h), (2, .int (nI X)), (3, .int (nI 3)), (4, .int (nI c)), (5, .int (nI k))]) hc dX4_leastFrom_60 (by decide) rfl ?_
              refine r_iload hc dX4_leastFrom_62 rfl ?_
              refine r_if_eq (tgt := 106) hc dX4_leastFrom_64 (by decide) (e0_N (by omega)) (fun c_64 => ?_) (fun c_64 => ?_)
              ·
                refine r_iinc (v := nI (k + 1)) (ls' := [(5, .int (nI (k + 1))), (6, .int (nI 0)), (0, .ref a), (1, .ref h), (2, .int (nI X)), (3, .int (nI 3)), (4, .int (nI c))]) hc dX4_leastFrom_106 rfl (ad_NN _ 1) (by decide) rfl ?_
                refine r_goto (tgt := 26) hc dX4_leastFrom_109 (by decide) ?_
                refine r_locp [2, 3, 4, 5, 6, 0] (ls' := [(0, .ref a), (1, .ref h), (2, .int (nI X)), (3, .int (nI 3)), (4, .int (nI c)), (5, .int (nI (k + 1)))]) rfl ?_
                exact ih26 (k + 1) (by omega) (by rw [ffZ, if_pos hf]; unfold gLF; rw [if_neg (by rw [hno]; decide)]) (by omega)
              ·
                exact absurd rfl c_64
            ·
              have hadj : adj (v 0) k (c % 10) = true := by simp only [adj, Bool.and_eq_true, decide_eq_true_eq]; split at c_52 <;> omega
              refine r_iconst (v := nI 1) hc dX4_leastFrom_55 rfl ?_
              refine r_goto (tgt := 60) hc dX4_leastFrom_56 (by decide) ?_
              refine r_istore (ls' := [(6, .int (nI 1)), (0, .ref a), (1, .ref h), (2, .int (nI X)), (3, .int (nI 3)), (4, .int (nI c)), (5, .int (nI k))]) hc dX4_leastFrom_60 (by decide) rfl ?_
              refine r_iload hc dX4_leastFrom_62 rfl ?_
              refine r_if_eq (tgt := 106) hc dX4_leastFrom_64 (by decide) (e0_N (by omega)) (fun c_64 => ?_) (fun c_64 => ?_)
              ·
                exact absurd c_64 (by decide)
              ·
                refine r_aload_n hc dX4_leastFrom_67 rfl ?_
                refine r_iload_n hc dX4_leastFrom_68 rfl ?_
                refine r_iload hc dX4_leastFrom_69 rfl ?_
                refine cl_X4_53 (As := [.int (nI 3), .int (nI k)]) hc (c_X4_fits hK (F := (ftA v X)) hF (ftA_lt v X) (p := 3) (e := k) (by omega) (by omega)) hK.1.1 rfl ⟨by decide, by decide⟩ ⟨rfl, rfl⟩ ⟨by decide, by decide⟩ rfl (Nat.le_of_ble_eq_true rfl) dX4_leastFrom_71 (fun r u hp => ?_)
                obtain ⟨rfl, hu⟩ := hp
                rw [hu]
                refine r_if_eq (tgt := 106) hc dX4_leastFrom_74 (by decide) (bI_0 _) (fun c_74 => ?_) (fun c_74 => ?_)
                ·
                  have hno : lfOk (v 0) (ftA v X) 3 c k = false := by unfold lfOk; rw [c_74]; exact Bool.and_false _
                  refine r_iinc (v := nI (k + 1)) (ls' := [(5, .int (nI (k + 1))), (6, .int (nI 1)), (0, .ref a), (1, .ref h), (2, .int (nI X)), (3, .int (nI 3)), (4, .int (nI c))]) hc dX4_leastFrom_106 rfl (ad_NN _ 1) (by decide) rfl ?_
                  refine r_goto (tgt := 26) hc dX4_leastFrom_109 (by decide) ?_
                  refine r_locp [2, 3, 4, 5, 6, 0] (ls' := [(0, .ref a), (1, .ref h), (2, .int (nI X)), (3, .int (nI 3)), (4, .int (nI c)), (5, .int (nI (k + 1)))]) rfl ?_
                  exact ih26 (k + 1) (by omega) (by rw [ffZ, if_pos hf]; unfold gLF; rw [if_neg (by rw [hno]; decide)]) (by omega)
                ·
                  have c_74 := bnf c_74
                  refine r_aload_n hc dX4_leastFrom_77 rfl ?_
                  refine r_aload_n hc dX4_leastFrom_78 rfl ?_
                  refine r_iload_n hc dX4_leastFrom_79 rfl ?_
                  refine r_iload_n hc dX4_leastFrom_80 rfl ?_
                  refine r_iconst (v := nI 1) hc dX4_leastFrom_81 rfl ?_
                  refine r_iadd (v := nI 4) hc dX4_leastFrom_82 (ad_NN 3 1) ?_
                  refine r_iload hc dX4_leastFrom_83 rfl ?_
                  refine r_bipush (v := nI 10) hc dX4_leastFrom_85 rfl ?_
                  refine r_imul (v := nI (c * 10)) hc dX4_leastFrom_87 (ml_NN _ _) ?_
                  refine r_iload hc dX4_leastFrom_88 rfl ?_
                  refine r_iadd (v := nI (c * 10 + k)) hc dX4_leastFrom_90 (ad_NN _ _) ?_
                  refine cl_X4_74 (As := [.ref h, .int (nI X), .int (nI 4), .int (nI (c * 10 + k))]) hc (c_X4_leastFrom_4 hK hH hV hah hok hX hF hst (c := c * 10 + k) (by omega)) hK.1.1 rfl ⟨by decide, by decide⟩ ⟨rfl, rfl⟩ ⟨by decide, by decide⟩ rfl (Nat.le_of_ble_eq_true rfl) dX4_leastFrom_91 (fun r u hp => ?_)
                  obtain ⟨rfl, hu⟩ := hp
                  rw [hu]
                  have hrg := lfF_rng (v 0) (ftA v X) (Jx v X) 0 (c * 10 + k) 10000 (by omega)
                  have hokk : lfOk (v 0) (ftA v X) 3 c k = true := by unfold lfOk; rw [c_74, hadj]; rfl
                  refine r_istore (ls' := [(7, .int (zI (lfF (v 0) (ftA v X) (Jx v X) 0 (c * 10 + k)))), (6, .int (nI 1)), (0, .ref a), (1, .ref h), (2, .int (nI X)), (3, .int (nI 3)), (4, .int (nI c)), (5, .int (nI k))]) hc dX4_leastFrom_94 (by decide) rfl ?_
                  refine r_iload hc dX4_leastFrom_96 rfl ?_
                  refine r_bipush (v := zI (-6)) hc dX4_leastFrom_98 rfl ?_
                  refine r_icmp_eq (tgt := 106) hc dX4_leastFrom_100 (by decide) (eq_ZZ (by omega) (by omega)) (fun c_100 => ?_) (fun c_100 => ?_)
                  ·
                    refine r_iinc (v := nI (k + 1)) (ls' := [(5, .int (nI (k + 1))), (7, .int (zI (lfF (v 0) (ftA v X) (Jx v X) 0 (c * 10 + k)))), (6, .int (nI 1)), (0, .ref a), (1, .ref h), (2, .int (nI X)), (3, .int (nI 3)), (4, .int (nI c))]) hc dX4_leastFrom_106 rfl (ad_NN _ 1) (by decide) rfl ?_
                    refine r_goto (tgt := 26) hc dX4_leastFrom_109 (by decide) ?_
                    refine r_locp [3, 4, 5, 6, 7, 0] (ls' := [(0, .ref a), (1, .ref h), (2, .int (nI X)), (3, .int (nI 3)), (4, .int (nI c)), (5, .int (nI (k + 1)))]) rfl ?_
                    exact ih26 (k + 1) (by omega) (by rw [ffZ, if_pos hf]; unfold gLF; rw [if_pos hokk]; exact c_100) (by omega)
                  ·
                    refine r_iload hc dX4_leastFrom_103 rfl ?_
                    exact hR _ _ ⟨(by refine congrArg zI ?_; have h1 : ffZ (gLF v X 3 0 c) (k + 1) = lfF (v 0) (ftA v X) (Jx v X) 0 (c * 10 + k) := by { rw [ffZ, if_pos hf]; unfold gLF; rw [if_pos hokk] }; have h2 := ffZ_stay (gLF v X 3 0 c) (k + 1) (10 - (k + 1)) (by rw [h1]; exact c_100); rw [show k + 1 + (10 - (k + 1)) = 10 by omega, h1] at h2; exact h2.symm), rfl⟩ rfl _ _ dX4_leastFrom_105
    refine r_locp [1, 2, 3, 4, 5, 0] (ls' := [(0, .ref a), (1, .ref h), (2, .int (nI X)), (3, .int (nI 3)), (4, .int (nI c)), (5, .int (nI 0))]) rfl ?_
    exact loop26 _ 0 (by omega) rfl (Nat.lt_succ_self _)
  ·
    exact absurd (show 3 < 4 by decide) c_2
set_option maxRecDepth 100000 in
set_option maxHeartbeats 4000000 in
theorem c_X4_leastFrom_2 {Ω : OmT} {z : Nat} {sh : Nat → Option Kd} {σ : Nat → Nat → Int32} {ρ : Nat → Nat → Option Nat} {a h : Nat} {v : Nat → Nat} (hK : KSh sh ρ a) (hH : HSh sh ρ h) (hV : HV σ h v) (hah : a + 4 ≤ h ∨ h + 34 ≤ a) (hok : okR v) {X : Nat} (hX : X < 2 ^ v 4) (hF : rowAt σ (a + 1) 4 (ftA v X)) (hst : σ a 3 = nI (v 0)) {c : Nat} (hc0 : c < 100) : CtI Ω yX4_leastFrom cX4_leastFrom 8 .int rmLF_2 [.ref a, .ref h, .int (nI X), .int (nI 2), .int (nI c)] (z, sh, σ, ρ) (fun r u => r = zI (lfF (v 0) (ftA v X) (Jx v X) 2 c) ∧ u = (z, sh, σ, ρ)) := by
  have hok1 := hok
  obtain ⟨⟨h01, h02⟩, hl1, ⟨h21, h22⟩, h3, h4, h5, h9, hdo, hke, hpn, hpd, htc⟩ := hok1
  have hdr : ∀ d, d < v 4 → v (20 + 6 * d + 2) < 10000 ∧ v (20 + 6 * d + 3) < 10000 := fun d hd => ⟨(hdo d hd).2.2.1, (hdo d hd).2.2.2⟩
  have hcu : ∀ k, k < v 5 → v (80 + 4 * k) < 10000 := fun k hk => (hke k hk).1
  have hwh : ∀ k, k < v 5 → v (80 + 4 * k + 2) ≤ 9 := fun k hk => (hke k hk).2.2
  have hky : ∀ k, k < v 5 → v (80 + 4 * k) < 10000 ∧ v (80 + 4 * k + 2) ≤ 9 ∧ 40 ≤ v (80 + 4 * k + 1) ∧ v (80 + 4 * k + 1) ≤ 90 := fun k hk => ⟨(hke k hk).1, (hke k hk).2.2, (hke k hk).2.1⟩
  have hpl : ∀ p, p < v 9 → v (150 + 3 * p) < 10 := fun p hp => by have := (hpn p hp).1; omega
  have hX0 : X < 1024 := Nat.lt_of_lt_of_le hX (Nat.pow_le_pow_right (by decide) h4 : 2 ^ v 4 ≤ 2 ^ 10)
  refine CtI.enter (by decide) (Nat.le_of_ble_eq_true rfl) (fun Φ hc hR => ?_)
  show Vw Ω Φ (z, sh, σ, ρ) (0, 0) 0 [(0, .ref a), (1, .ref h), (2, .int (nI X)), (3, .int (nI 2)), (4, .int (nI c))] []
  refine r_iload_n hc dX4_leastFrom_0 rfl ?_
  refine r_iconst (v := nI 4) hc dX4_leastFrom_1 rfl ?_
  refine r_icmp_lt (tgt := 23) hc dX4_leastFrom_2 (by decide) (lt_NN (by omega) (by omega)) (fun c_2 => ?_) (fun c_2 => ?_)
  ·
    refine r_iconst (v := nI 0) hc dX4_leastFrom_23 rfl ?_
    refine r_istore (ls' := [(5, .int (nI 0)), (0, .ref a), (1, .ref h), (2, .int (nI X)), (3, .int (nI 2)), (4, .int (nI c))]) hc dX4_leastFrom_24 (by decide) rfl ?_
    have loop26 : ∀ (n26 : Nat) (k : Nat), (k ≤ 10) → (ffZ (gLF v X 2 1 c) k = -6) → (10 - k) < n26 → Vw Ω Φ (z, sh, σ, ρ) (0, 0) 26 [(0, .ref a), (1, .ref h), (2, .int (nI X)), (3, .int (nI 2)), (4, .int (nI c)), (5, .int (nI k))] [] := by
      intro n26
      induction n26 with
      | zero => intro k hk hf hm; exact absurd hm (Nat.not_lt_zero _)
      | succ n26 ih26 =>
        intro k hk hf hm26
        refine r_iload hc dX4_leastFrom_26 rfl ?_
        refine r_bipush (v := nI 10) hc dX4_leastFrom_28 rfl ?_
        refine r_icmp_ge (tgt := 112) hc dX4_leastFrom_30 (by decide) (le_NN (by omega) (by omega)) (fun c_30 => ?_) (fun c_30 => ?_)
        ·
          refine r_bipush (v := zI (-6)) hc dX4_leastFrom_112 rfl ?_
          exact hR _ _ ⟨(by refine congrArg zI ?_; rw [show k = 10 by omega] at hf; exact hf.symm), rfl⟩ rfl _ _ dX4_leastFrom_114
        ·
          refine r_iload_n hc dX4_leastFrom_33 rfl ?_
          refine r_if_eq (tgt := 55) hc dX4_leastFrom_34 (by decide) (e0_N (by omega)) (fun c_34 => ?_) (fun c_34 => ?_)
          ·
            exact absurd c_34 (by decide)
          ·
            refine r_iload hc dX4_leastFrom_37 rfl ?_
            refine r_iload hc dX4_leastFrom_39 rfl ?_
            refine r_bipush (v := nI 10) hc dX4_leastFrom_41 rfl ?_
            refine r_irem (v := nI (c % 10)) hc dX4_leastFrom_43 (nu_ne0 (by omega) (by omega)) (rm_NN _ _ (by omega) (by omega) (by omega)) ?_
            refine r_isub (v := zI (((k : Nat) : Int) - ((c % 10 : Nat) : Int))) hc dX4_leastFrom_44 (sb_NN _ _) ?_
            refine ma_X4_81 (v := zI (if (((k : Nat) : Int) - ((c % 10 : Nat) : Int) : Int) ≥ 0 then ((k : Nat) : Int) - ((c % 10 : Nat) : Int) else -(((k : Nat) : Int) - ((c % 10 : Nat) : Int)))) hc ⟨by decide, Nat.le_of_ble_eq_true rfl⟩ ⟨by decide, by decide⟩ dX4_leastFrom_45 (ab_Z (by omega)) ?_
            refine r_aload_n hc dX4_leastFrom_48 rfl ?_
            refine gf_X4_26 (x := nI (v 0)) hc hK.1.1 hst dX4_leastFrom_49 ?_
            refine r_icmp_gt (tgt := 59) hc dX4_leastFrom_52 (by decide) (lt_NZ (by omega) (by split <;> omega)) (fun c_52 => ?_) (fun c_52 => ?_)
            ·
              have hno : lfOk (v 0) (ftA v X) 2 c k = false := by unfold lfOk; rw [show adj (v 0) k (c % 10) = false by simp only [adj, Bool.and_eq_false_iff, decide_eq_false_iff_not]; split at c_52 <;> omega]; rfl
              refine r_iconst (v := nI 0) hc dX4_leastFrom_59 rfl ?_
              refine r_istore (ls' := [(6, .int (nI 0)), (0, .ref a), (1, .ref h), (2, .int (nI X)), (3, .int (nI 2)), (4, .int (nI c)), (5, .int (nI k))]) hc dX4_leastFrom_60 (by decide) rfl ?_
              refine r_iload hc dX4_leastFrom_62 rfl ?_
              refine r_if_eq (tgt := 106) hc dX4_leastFrom_64 (by decide) (e0_N (by omega)) (fun c_64 => ?_) (fun c_64 => ?_)
              ·
                refine r_iinc (v := nI (k + 1)) (ls' := [(5, .int (nI (k + 1))), (6, .int (nI 0)), (0, .ref a), (1, .ref h), (2, .int (nI X)), (3, .int (nI 2)), (4, .int (nI c))]) hc dX4_leastFrom_106 rfl (ad_NN _ 1) (by decide) rfl ?_
                refine r_goto (tgt := 26) hc dX4_leastFrom_109 (by decide) ?_
                refine r_locp [2, 3, 4, 5, 6, 0] (ls' := [(0, .ref a), (1, .ref h), (2, .int (nI X)), (3, .int (nI 2)), (4, .int (nI c)), (5, .int (nI (k + 1)))]) rfl ?_
                exact ih26 (k + 1) (by omega) (by rw [ffZ, if_pos hf]; unfold gLF; rw [if_neg (by rw [hno]; decide)]) (by omega)
              ·
                exact absurd rfl c_64
            ·
              have hadj : adj (v 0) k (c % 10) = true := by simp only [adj, Bool.and_eq_true, decide_eq_true_eq]; split at c_52 <;> omega
              refine r_iconst (v := nI 1) hc dX4_leastFrom_55 rfl ?_
              refine r_goto (tgt := 60) hc dX4_leastFrom_56 (by decide) ?_
              refine r_istore (ls' := [(6, .int (nI 1)), (0, .ref a), (1, .ref h), (2, .int (nI X)), (3, .int (nI 2)), (4, .int (nI c)), (5, .int (nI k))]) hc dX4_leastFrom_60 (by decide) rfl ?_
              refine r_iload hc dX4_leastFrom_62 rfl ?_
              refine r_if_eq (tgt := 106) hc dX4_leastFrom_64 (by decide) (e0_N (by omega)) (fun c_64 => ?_) (fun c_64 => ?_)
              ·
                exact absurd c_64 (by decide)
              ·
                refine r_aload_n hc dX4_leastFrom_67 rfl ?_
                refine r_iload_n hc dX4_leastFrom_68 rfl ?_
                refine r_iload hc dX4_leastFrom_69 rfl ?_
                refine cl_X4_53 (As := [.int (nI 2), .int (nI k)]) hc (c_X4_fits hK (F := (ftA v X)) hF (ftA_lt v X) (p := 2) (e := k) (by omega) (by omega)) hK.1.1 rfl ⟨by decide, by decide⟩ ⟨rfl, rfl⟩ ⟨by decide, by decide⟩ rfl (Nat.le_of_ble_eq_true rfl) dX4_leastFrom_71 (fun r u hp => ?_)
                obtain ⟨rfl, hu⟩ := hp
                rw [hu]
                refine r_if_eq (tgt := 106) hc dX4_leastFrom_74 (by decide) (bI_0 _) (fun c_74 => ?_) (fun c_74 => ?_)
                ·
                  have hno : lfOk (v 0) (ftA v X) 2 c k = false := by unfold lfOk; rw [c_74]; exact Bool.and_false _
                  refine r_iinc (v := nI (k + 1)) (ls' := [(5, .int (nI (k + 1))), (6, .int (nI 1)), (0, .ref a), (1, .ref h), (2, .int (nI X)), (3, .int (nI 2)), (4, .int (nI c))]) hc dX4_leastFrom_106 rfl (ad_NN _ 1) (by decide) rfl ?_
                  refine r_goto (tgt := 26) hc dX4_leastFrom_109 (by decide) ?_
                  refine r_locp [2, 3, 4, 5, 6, 0] (ls' := [(0, .ref a), (1, .ref h), (2, .int (nI X)), (3, .int (nI 2)), (4, .int (nI c)), (5, .int (nI (k + 1)))]) rfl ?_
                  exact ih26 (k + 1) (by omega) (by rw [ffZ, if_pos hf]; unfold gLF; rw [if_neg (by rw [hno]; decide)]) (by omega)
                ·
                  have c_74 := bnf c_74
                  refine r_aload_n hc dX4_leastFrom_77 rfl ?_
                  refine r_aload_n hc dX4_leastFrom_78 rfl ?_
                  refine r_iload_n hc dX4_leastFrom_79 rfl ?_
                  refine r_iload_n hc dX4_leastFrom_80 rfl ?_
                  refine r_iconst (v := nI 1) hc dX4_leastFrom_81 rfl ?_
                  refine r_iadd (v := nI 3) hc dX4_leastFrom_82 (ad_NN 2 1) ?_
                  refine r_iload hc dX4_leastFrom_83 rfl ?_
                  refine r_bipush (v := nI 10) hc dX4_leastFrom_85 rfl ?_
                  refine r_imul (v := nI (c * 10)) hc dX4_leastFrom_87 (ml_NN _ _) ?_
                  refine r_iload hc dX4_leastFrom_88 rfl ?_
                  refine r_iadd (v := nI (c * 10 + k)) hc dX4_leastFrom_90 (ad_NN _ _) ?_
                  refine cl_X4_74 (As := [.ref h, .int (nI X), .int (nI 3), .int (nI (c * 10 + k))]) hc (c_X4_leastFrom_3 hK hH hV hah hok hX hF hst (c := c * 10 + k) (by omega)) hK.1.1 rfl ⟨by decide, by decide⟩ ⟨rfl, rfl⟩ ⟨by decide, by decide⟩ rfl (Nat.le_of_ble_eq_true rfl) dX4_leastFrom_91 (fun r u hp => ?_)
                  obtain ⟨rfl, hu⟩ := hp
                  rw [hu]
                  have hrg := lfF_rng (v 0) (ftA v X) (Jx v X) 1 (c * 10 + k) 10000 (by omega)
                  have hokk : lfOk (v 0) (ftA v X) 2 c k = true := by unfold lfOk; rw [c_74, hadj]; rfl
                  refine r_istore (ls' := [(7, .int (zI (lfF (v 0) (ftA v X) (Jx v X) 1 (c * 10 + k)))), (6, .int (nI 1)), (0, .ref a), (1, .ref h), (2, .int (nI X)), (3, .int (nI 2)), (4, .int (nI c)), (5, .int (nI k))]) hc dX4_leastFrom_94 (by decide) rfl ?_
                  refine r_iload hc dX4_leastFrom_96 rfl ?_
                  refine r_bipush (v := zI (-6)) hc dX4_leastFrom_98 rfl ?_
                  refine r_icmp_eq (tgt := 106) hc dX4_leastFrom_100 (by decide) (eq_ZZ (by omega) (by omega)) (fun c_100 => ?_) (fun c_100 => ?_)
                  ·
                    refine r_iinc (v := nI (k + 1)) (ls' := [(5, .int (nI (k + 1))), (7, .int (zI (lfF (v 0) (ftA v X) (Jx v X) 1 (c * 10 + k)))), (6, .int (nI 1)), (0, .ref a), (1, .ref h), (2, .int (nI X)), (3, .int (nI 2)), (4, .int (nI c))]) hc dX4_leastFrom_106 rfl (ad_NN _ 1) (by decide) rfl ?_
                    refine r_goto (tgt := 26) hc dX4_leastFrom_109 (by decide) ?_
                    refine r_locp [3, 4, 5, 6, 7, 0] (ls' := [(0, .ref a), (1, .ref h), (2, .int (nI X)), (3, .int (nI 2)), (4, .int (nI c)), (5, .int (nI (k + 1)))]) rfl ?_
                    exact ih26 (k + 1) (by omega) (by rw [ffZ, if_pos hf]; unfold gLF; rw [if_pos hokk]; exact c_100) (by omega)
                  ·
                    refine r_iload hc dX4_leastFrom_103 rfl ?_
                    exact hR _ _ ⟨(by refine congrArg zI ?_; have h1 : ffZ (gLF v X 2 1 c) (k + 1) = lfF (v 0) (ftA v X) (Jx v X) 1 (c * 10 + k) := by { rw [ffZ, if_pos hf]; unfold gLF; rw [if_pos hokk] }; have h2 := ffZ_stay (gLF v X 2 1 c) (k + 1) (10 - (k + 1)) (by rw [h1]; exact c_100); rw [show k + 1 + (10 - (k + 1)) = 10 by omega, h1] at h2; exact h2.symm), rfl⟩ rfl _ _ dX4_leastFrom_105
    refine r_locp [1, 2, 3, 4, 5, 0] (ls' := [(0, .ref a), (1, .ref h), (2, .int (nI X)), (3, .int (nI 2)), (4, .int (nI c)), (5, .int (nI 0))]) rfl ?_
    exact loop26 _ 0 (by omega) rfl (Nat.lt_succ_self _)
  ·
    exact absurd (show 2 < 4 by decide) c_2
set_option maxRecDepth 100000 in
set_option maxHeartbeats 4000000 in
theorem c_X4_leastFrom_1 {Ω : OmT} {z : Nat} {sh : Nat → Option Kd} {σ : Nat → Nat → Int32} {ρ : Nat → Nat → Option Nat} {a h : Nat} {v : Nat → Nat} (hK : KSh sh ρ a) (hH : HSh sh ρ h) (hV : HV σ h v) (hah : a + 4 ≤ h ∨ h + 34 ≤ a) (hok : okR v) {X : Nat} (hX : X < 2 ^ v 4) (hF : rowAt σ (a + 1) 4 (ftA v X)) (hst : σ a 3 = nI (v 0)) {c : Nat} (hc0 : c < 10) : CtI Ω yX4_leastFrom cX4_leastFrom 8 .int rmLF_1 [.ref a, .ref h, .int (nI X), .int (nI 1), .int (nI c)] (z, sh, σ, ρ) (fun r u => r = zI (lfF (v 0) (ftA v X) (Jx v X) 3 c) ∧ u = (z, sh, σ, ρ)) := by
  have hok1 := hok
  obtain ⟨⟨h01, h02⟩, hl1, ⟨h21, h22⟩, h3, h4, h5, h9, hdo, hke, hpn, hpd, htc⟩ := hok1
  have hdr : ∀ d, d < v 4 → v (20 + 6 * d + 2) < 10000 ∧ v (20 + 6 * d + 3) < 10000 := fun d hd => ⟨(hdo d hd).2.2.1, (hdo d hd).2.2.2⟩
  have hcu : ∀ k, k < v 5 → v (80 + 4 * k) < 10000 := fun k hk => (hke k hk).1
  have hwh : ∀ k, k < v 5 → v (80 + 4 * k + 2) ≤ 9 := fun k hk => (hke k hk).2.2
  have hky : ∀ k, k < v 5 → v (80 + 4 * k) < 10000 ∧ v (80 + 4 * k + 2) ≤ 9 ∧ 40 ≤ v (80 + 4 * k + 1) ∧ v (80 + 4 * k + 1) ≤ 90 := fun k hk => ⟨(hke k hk).1, (hke k hk).2.2, (hke k hk).2.1⟩
  have hpl : ∀ p, p < v 9 → v (150 + 3 * p) < 10 := fun p hp => by have := (hpn p hp).1; omega
  have hX0 : X < 1024 := Nat.lt_of_lt_of_le hX (Nat.pow_le_pow_right (by decide) h4 : 2 ^ v 4 ≤ 2 ^ 10)
  refine CtI.enter (by decide) (Nat.le_of_ble_eq_true rfl) (fun Φ hc hR => ?_)
  show Vw Ω Φ (z, sh, σ, ρ) (0, 0) 0 [(0, .ref a), (1, .ref h), (2, .int (nI X)), (3, .int (nI 1)), (4, .int (nI c))] []
  refine r_iload_n hc dX4_leastFrom_0 rfl ?_
  refine r_iconst (v := nI 4) hc dX4_leastFrom_1 rfl ?_
  refine r_icmp_lt (tgt := 23) hc dX4_leastFrom_2 (by decide) (lt_NN (by omega) (by omega)) (fun c_2 => ?_) (fun c_2 => ?_)
  ·
    refine r_iconst (v := nI 0) hc dX4_leastFrom_23 rfl ?_
    refine r_istore (ls' := [(5, .int (nI 0)), (0, .ref a), (1, .ref h), (2, .int (nI X)), (3, .int (nI 1)), (4, .int (nI c))]) hc dX4_leastFrom_24 (by decide) rfl ?_
    have loop26 : ∀ (n26 : Nat) (k : Nat), (k ≤ 10) → (ffZ (gLF v X 1 2 c) k = -6) → (10 - k) < n26 → Vw Ω Φ (z, sh, σ, ρ) (0, 0) 26 [(0, .ref a), (1, .ref h), (2, .int (nI X)), (3, .int (nI 1)), (4, .int (nI c)), (5, .int (nI k))] [] := by
      intro n26
      induction n26 with
      | zero => intro k hk hf hm; exact absurd hm (Nat.not_lt_zero _)
      | succ n26 ih26 =>
        intro k hk hf hm26
        refine r_iload hc dX4_leastFrom_26 rfl ?_
        refine r_bipush (v := nI 10) hc dX4_leastFrom_28 rfl ?_
        refine r_icmp_ge (tgt := 112) hc dX4_leastFrom_30 (by decide) (le_NN (by omega) (by omega)) (fun c_30 => ?_) (fun c_30 => ?_)
        ·
          refine r_bipush (v := zI (-6)) hc dX4_leastFrom_112 rfl ?_
          exact hR _ _ ⟨(by refine congrArg zI ?_; rw [show k = 10 by omega] at hf; exact hf.symm), rfl⟩ rfl _ _ dX4_leastFrom_114
        ·
          refine r_iload_n hc dX4_leastFrom_33 rfl ?_
          refine r_if_eq (tgt := 55) hc dX4_leastFrom_34 (by decide) (e0_N (by omega)) (fun c_34 => ?_) (fun c_34 => ?_)
          ·
            exact absurd c_34 (by decide)
          ·
            refine r_iload hc dX4_leastFrom_37 rfl ?_
            refine r_iload hc dX4_leastFrom_39 rfl ?_
            refine r_bipush (v := nI 10) hc dX4_leastFrom_41 rfl ?_
            refine r_irem (v := nI (c % 10)) hc dX4_leastFrom_43 (nu_ne0 (by omega) (by omega)) (rm_NN _ _ (by omega) (by omega) (by omega)) ?_
            refine r_isub (v := zI (((k : Nat) : Int) - ((c % 10 : Nat) : Int))) hc dX4_leastFrom_44 (sb_NN _ _) ?_
            refine ma_X4_81 (v := zI (if (((k : Nat) : Int) - ((c % 10 : Nat) : Int) : Int) ≥ 0 then ((k : Nat) : Int) - ((c % 10 : Nat) : Int) else -(((k : Nat) : Int) - ((c % 10 : Nat) : Int)))) hc ⟨by decide, Nat.le_of_ble_eq_true rfl⟩ ⟨by decide, by decide⟩ dX4_leastFrom_45 (ab_Z (by omega)) ?_
            refine r_aload_n hc dX4_leastFrom_48 rfl ?_
            refine gf_X4_26 (x := nI (v 0)) hc hK.1.1 hst dX4_leastFrom_49 ?_
            refine r_icmp_gt (tgt := 59) hc dX4_leastFrom_52 (by decide) (lt_NZ (by omega) (by split <;> omega)) (fun c_52 => ?_) (fun c_52 => ?_)
            ·
              have hno : lfOk (v 0) (ftA v X) 1 c k = false := by unfold lfOk; rw [show adj (v 0) k (c % 10) = false by simp only [adj, Bool.and_eq_false_iff, decide_eq_false_iff_not]; split at c_52 <;> omega]; rfl
              refine r_iconst (v := nI 0) hc dX4_leastFrom_59 rfl ?_
              refine r_istore (ls' := [(6, .int (nI 0)), (0, .ref a), (1, .ref h), (2, .int (nI X)), (3, .int (nI 1)), (4, .int (nI c)), (5, .int (nI k))]) hc dX4_leastFrom_60 (by decide) rfl ?_
              refine r_iload hc dX4_leastFrom_62 rfl ?_
              refine r_if_eq (tgt := 106) hc dX4_leastFrom_64 (by decide) (e0_N (by omega)) (fun c_64 => ?_) (fun c_64 => ?_)
              ·
                refine r_iinc (v := nI (k + 1)) (ls' := [(5, .int (nI (k + 1))), (6, .int (nI 0)), (0, .ref a), (1, .ref h), (2, .int (nI X)), (3, .int (nI 1)), (4, .int (nI c))]) hc dX4_leastFrom_106 rfl (ad_NN _ 1) (by decide) rfl ?_
                refine r_goto (tgt := 26) hc dX4_leastFrom_109 (by decide) ?_
                refine r_locp [2, 3, 4, 5, 6, 0] (ls' := [(0, .ref a), (1, .ref h), (2, .int (nI X)), (3, .int (nI 1)), (4, .int (nI c)), (5, .int (nI (k + 1)))]) rfl ?_
                exact ih26 (k + 1) (by omega) (by rw [ffZ, if_pos hf]; unfold gLF; rw [if_neg (by rw [hno]; decide)]) (by omega)
              ·
                exact absurd rfl c_64
            ·
              have hadj : adj (v 0) k (c % 10) = true := by simp only [adj, Bool.and_eq_true, decide_eq_true_eq]; split at c_52 <;> omega
              refine r_iconst (v := nI 1) hc dX4_leastFrom_55 rfl ?_
              refine r_goto (tgt := 60) hc dX4_leastFrom_56 (by decide) ?_
              refine r_istore (ls' := [(6, .int (nI 1)), (0, .ref a), (1, .ref h), (2, .int (nI X)), (3, .int (nI 1)), (4, .int (nI c)), (5, .int (nI k))]) hc dX4_leastFrom_60 (by decide) rfl ?_
              refine r_iload hc dX4_leastFrom_62 rfl ?_
              refine r_if_eq (tgt := 106) hc dX4_leastFrom_64 (by decide) (e0_N (by omega)) (fun c_64 => ?_) (fun c_64 => ?_)
              ·
                exact absurd c_64 (by decide)
              ·
                refine r_aload_n hc dX4_leastFrom_67 rfl ?_
                refine r_iload_n hc dX4_leastFrom_68 rfl ?_
                refine r_iload hc dX4_leastFrom_69 rfl ?_
                refine cl_X4_53 (As := [.int (nI 1), .int (nI k)]) hc (c_X4_fits hK (F := (ftA v X)) hF (ftA_lt v X) (p := 1) (e := k) (by omega) (by omega)) hK.1.1 rfl ⟨by decide, by decide⟩ ⟨rfl, rfl⟩ ⟨by decide, by decide⟩ rfl (Nat.le_of_ble_eq_true rfl) dX4_leastFrom_71 (fun r u hp => ?_)
                obtain ⟨rfl, hu⟩ := hp
                rw [hu]
                refine r_if_eq (tgt := 106) hc dX4_leastFrom_74 (by decide) (bI_0 _) (fun c_74 => ?_) (fun c_74 => ?_)
                ·
                  have hno : lfOk (v 0) (ftA v X) 1 c k = false := by unfold lfOk; rw [c_74]; exact Bool.and_false _
                  refine r_iinc (v := nI (k + 1)) (ls' := [(5, .int (nI (k + 1))), (6, .int (nI 1)), (0, .ref a), (1, .ref h), (2, .int (nI X)), (3, .int (nI 1)), (4, .int (nI c))]) hc dX4_leastFrom_106 rfl (ad_NN _ 1) (by decide) rfl ?_
                  refine r_goto (tgt := 26) hc dX4_leastFrom_109 (by decide) ?_
                  refine r_locp [2, 3, 4, 5, 6, 0] (ls' := [(0, .ref a), (1, .ref h), (2, .int (nI X)), (3, .int (nI 1)), (4, .int (nI c)), (5, .int (nI (k + 1)))]) rfl ?_
                  exact ih26 (k + 1) (by omega) (by rw [ffZ, if_pos hf]; unfold gLF; rw [if_neg (by rw [hno]; decide)]) (by omega)
                ·
                  have c_74 := bnf c_74
                  refine r_aload_n hc dX4_leastFrom_77 rfl ?_
                  refine r_aload_n hc dX4_leastFrom_78 rfl ?_
                  refine r_iload_n hc dX4_leastFrom_79 rfl ?_
                  refine r_iload_n hc dX4_leastFrom_80 rfl ?_
                  refine r_iconst (v := nI 1) hc dX4_leastFrom_81 rfl ?_
                  refine r_iadd (v := nI 2) hc dX4_leastFrom_82 (ad_NN 1 1) ?_
                  refine r_iload hc dX4_leastFrom_83 rfl ?_
                  refine r_bipush (v := nI 10) hc dX4_leastFrom_85 rfl ?_
                  refine r_imul (v := nI (c * 10)) hc dX4_leastFrom_87 (ml_NN _ _) ?_
                  refine r_iload hc dX4_leastFrom_88 rfl ?_
                  refine r_iadd (v := nI (c * 10 + k)) hc dX4_leastFrom_90 (ad_NN _ _) ?_
                  refine cl_X4_74 (As := [.ref h, .int (nI X), .int (nI 2), .int (nI (c * 10 + k))]) hc (c_X4_leastFrom_2 hK hH hV hah hok hX hF hst (c := c * 10 + k) (by omega)) hK.1.1 rfl ⟨by decide, by decide⟩ ⟨rfl, rfl⟩ ⟨by decide, by decide⟩ rfl (Nat.le_of_ble_eq_true rfl) dX4_leastFrom_91 (fun r u hp => ?_)
                  obtain ⟨rfl, hu⟩ := hp
                  rw [hu]
                  have hrg := lfF_rng (v 0) (ftA v X) (Jx v X) 2 (c * 10 + k) 10000 (by omega)
                  have hokk : lfOk (v 0) (ftA v X) 1 c k = true := by unfold lfOk; rw [c_74, hadj]; rfl
                  refine r_istore (ls' := [(7, .int (zI (lfF (v 0) (ftA v X) (Jx v X) 2 (c * 10 + k)))), (6, .int (nI 1)), (0, .ref a), (1, .ref h), (2, .int (nI X)), (3, .int (nI 1)), (4, .int (nI c)), (5, .int (nI k))]) hc dX4_leastFrom_94 (by decide) rfl ?_
                  refine r_iload hc dX4_leastFrom_96 rfl ?_
                  refine r_bipush (v := zI (-6)) hc dX4_leastFrom_98 rfl ?_
                  refine r_icmp_eq (tgt := 106) hc dX4_leastFrom_100 (by decide) (eq_ZZ (by omega) (by omega)) (fun c_100 => ?_) (fun c_100 => ?_)
                  ·
                    refine r_iinc (v := nI (k + 1)) (ls' := [(5, .int (nI (k + 1))), (7, .int (zI (lfF (v 0) (ftA v X) (Jx v X) 2 (c * 10 + k)))), (6, .int (nI 1)), (0, .ref a), (1, .ref h), (2, .int (nI X)), (3, .int (nI 1)), (4, .int (nI c))]) hc dX4_leastFrom_106 rfl (ad_NN _ 1) (by decide) rfl ?_
                    refine r_goto (tgt := 26) hc dX4_leastFrom_109 (by decide) ?_
                    refine r_locp [3, 4, 5, 6, 7, 0] (ls' := [(0, .ref a), (1, .ref h), (2, .int (nI X)), (3, .int (nI 1)), (4, .int (nI c)), (5, .int (nI (k + 1)))]) rfl ?_
                    exact ih26 (k + 1) (by omega) (by rw [ffZ, if_pos hf]; unfold gLF; rw [if_pos hokk]; exact c_100) (by omega)
                  ·
                    refine r_iload hc dX4_leastFrom_103 rfl ?_
                    exact hR _ _ ⟨(by refine congrArg zI ?_; have h1 : ffZ (gLF v X 1 2 c) (k + 1) = lfF (v 0) (ftA v X) (Jx v X) 2 (c * 10 + k) := by { rw [ffZ, if_pos hf]; unfold gLF; rw [if_pos hokk] }; have h2 := ffZ_stay (gLF v X 1 2 c) (k + 1) (10 - (k + 1)) (by rw [h1]; exact c_100); rw [show k + 1 + (10 - (k + 1)) = 10 by omega, h1] at h2; exact h2.symm), rfl⟩ rfl _ _ dX4_leastFrom_105
    refine r_locp [1, 2, 3, 4, 5, 0] (ls' := [(0, .ref a), (1, .ref h), (2, .int (nI X)), (3, .int (nI 1)), (4, .int (nI c)), (5, .int (nI 0))]) rfl ?_
    exact loop26 _ 0 (by omega) rfl (Nat.lt_succ_self _)
  ·
    exact absurd (show 1 < 4 by decide) c_2
set_option maxRecDepth 100000 in
set_option maxHeartbeats 4000000 in
theorem c_X4_leastFrom_0 {Ω : OmT} {z : Nat} {sh : Nat → Option Kd} {σ : Nat → Nat → Int32} {ρ : Nat → Nat → Option Nat} {a h : Nat} {v : Nat → Nat} (hK : KSh sh ρ a) (hH : HSh sh ρ h) (hV : HV σ h v) (hah : a + 4 ≤ h ∨ h + 34 ≤ a) (hok : okR v) {X : Nat} (hX : X < 2 ^ v 4) (hF : rowAt σ (a + 1) 4 (ftA v X)) (hst : σ a 3 = nI (v 0)) {c : Nat} (hc0 : c < 1) : CtI Ω yX4_leastFrom cX4_leastFrom 8 .int rmLF_0 [.ref a, .ref h, .int (nI X), .int (nI 0), .int (nI c)] (z, sh, σ, ρ) (fun r u => r = zI (lfF (v 0) (ftA v X) (Jx v X) 4 c) ∧ u = (z, sh, σ, ρ)) := by
  have hok1 := hok
  obtain ⟨⟨h01, h02⟩, hl1, ⟨h21, h22⟩, h3, h4, h5, h9, hdo, hke, hpn, hpd, htc⟩ := hok1
  have hdr : ∀ d, d < v 4 → v (20 + 6 * d + 2) < 10000 ∧ v (20 + 6 * d + 3) < 10000 := fun d hd => ⟨(hdo d hd).2.2.1, (hdo d hd).2.2.2⟩
  have hcu : ∀ k, k < v 5 → v (80 + 4 * k) < 10000 := fun k hk => (hke k hk).1
  have hwh : ∀ k, k < v 5 → v (80 + 4 * k + 2) ≤ 9 := fun k hk => (hke k hk).2.2
  have hky : ∀ k, k < v 5 → v (80 + 4 * k) < 10000 ∧ v (80 + 4 * k + 2) ≤ 9 ∧ 40 ≤ v (80 + 4 * k + 1) ∧ v (80 + 4 * k + 1) ≤ 90 := fun k hk => ⟨(hke k hk).1, (hke k hk).2.2, (hke k hk).2.1⟩
  have hpl : ∀ p, p < v 9 → v (150 + 3 * p) < 10 := fun p hp => by have := (hpn p hp).1; omega
  have hX0 : X < 1024 := Nat.lt_of_lt_of_le hX (Nat.pow_le_pow_right (by decide) h4 : 2 ^ v 4 ≤ 2 ^ 10)
  refine CtI.enter (by decide) (Nat.le_of_ble_eq_true rfl) (fun Φ hc hR => ?_)
  show Vw Ω Φ (z, sh, σ, ρ) (0, 0) 0 [(0, .ref a), (1, .ref h), (2, .int (nI X)), (3, .int (nI 0)), (4, .int (nI c))] []
  refine r_iload_n hc dX4_leastFrom_0 rfl ?_
  refine r_iconst (v := nI 4) hc dX4_leastFrom_1 rfl ?_
  refine r_icmp_lt (tgt := 23) hc dX4_leastFrom_2 (by decide) (lt_NN (by omega) (by omega)) (fun c_2 => ?_) (fun c_2 => ?_)
  ·
    refine r_iconst (v := nI 0) hc dX4_leastFrom_23 rfl ?_
    refine r_istore (ls' := [(5, .int (nI 0)), (0, .ref a), (1, .ref h), (2, .int (nI X)), (3, .int (nI 0)), (4, .int (nI c))]) hc dX4_leastFrom_24 (by decide) rfl ?_
    have loop26 : ∀ (n26 : Nat) (k : Nat), (k ≤ 10) → (ffZ (gLF v X 0 3 c) k = -6) → (10 - k) < n26 → Vw Ω Φ (z, sh, σ, ρ) (0, 0) 26 [(0, .ref a), (1, .ref h), (2, .int (nI X)), (3, .int (nI 0)), (4, .int (nI c)), (5, .int (nI k))] [] := by
      intro n26
      induction n26 with
      | zero => intro k hk hf hm; exact absurd hm (Nat.not_lt_zero _)
      | succ n26 ih26 =>
        intro k hk hf hm26
        refine r_iload hc dX4_leastFrom_26 rfl ?_
        refine r_bipush (v := nI 10) hc dX4_leastFrom_28 rfl ?_
        refine r_icmp_ge (tgt := 112) hc dX4_leastFrom_30 (by decide) (le_NN (by omega) (by omega)) (fun c_30 => ?_) (fun c_30 => ?_)
        ·
          refine r_bipush (v := zI (-6)) hc dX4_leastFrom_112 rfl ?_
          exact hR _ _ ⟨(by refine congrArg zI ?_; rw [show k = 10 by omega] at hf; exact hf.symm), rfl⟩ rfl _ _ dX4_leastFrom_114
        ·
          refine r_iload_n hc dX4_leastFrom_33 rfl ?_
          refine r_if_eq (tgt := 55) hc dX4_leastFrom_34 (by decide) (e0_N (by omega)) (fun c_34 => ?_) (fun c_34 => ?_)
          ·
            refine r_iconst (v := nI 1) hc dX4_leastFrom_55 rfl ?_
            refine r_goto (tgt := 60) hc dX4_leastFrom_56 (by decide) ?_
            refine r_istore (ls' := [(6, .int (nI 1)), (0, .ref a), (1, .ref h), (2, .int (nI X)), (3, .int (nI 0)), (4, .int (nI c)), (5, .int (nI k))]) hc dX4_leastFrom_60 (by decide) rfl ?_
            refine r_iload hc dX4_leastFrom_62 rfl ?_
            refine r_if_eq (tgt := 106) hc dX4_leastFrom_64 (by decide) (e0_N (by omega)) (fun c_64 => ?_) (fun c_64 => ?_)
            ·
              exact absurd c_64 (by decide)
            ·
              refine r_aload_n hc dX4_leastFrom_67 rfl ?_
              refine r_iload_n hc dX4_leastFrom_68 rfl ?_
              refine r_iload hc dX4_leastFrom_69 rfl ?_
              refine cl_X4_53 (As := [.int (nI 0), .int (nI k)]) hc (c_X4_fits hK (F := (ftA v X)) hF (ftA_lt v X) (p := 0) (e := k) (by omega) (by omega)) hK.1.1 rfl ⟨by decide, by decide⟩ ⟨rfl, rfl⟩ ⟨by decide, by decide⟩ rfl (Nat.le_of_ble_eq_true rfl) dX4_leastFrom_71 (fun r u hp => ?_)
              obtain ⟨rfl, hu⟩ := hp
              rw [hu]
              refine r_if_eq (tgt := 106) hc dX4_leastFrom_74 (by decide) (bI_0 _) (fun c_74 => ?_) (fun c_74 => ?_)
              ·
                have hno : lfOk (v 0) (ftA v X) 0 c k = false := by unfold lfOk; rw [c_74]; exact Bool.and_false _
                refine r_iinc (v := nI (k + 1)) (ls' := [(5, .int (nI (k + 1))), (6, .int (nI 1)), (0, .ref a), (1, .ref h), (2, .int (nI X)), (3, .int (nI 0)), (4, .int (nI c))]) hc dX4_leastFrom_106 rfl (ad_NN _ 1) (by decide) rfl ?_
                refine r_goto (tgt := 26) hc dX4_leastFrom_109 (by decide) ?_
                refine r_locp [2, 3, 4, 5, 6, 0] (ls' := [(0, .ref a), (1, .ref h), (2, .int (nI X)), (3, .int (nI 0)), (4, .int (nI c)), (5, .int (nI (k + 1)))]) rfl ?_
                exact ih26 (k + 1) (by omega) (by rw [ffZ, if_pos hf]; unfold gLF; rw [if_neg (by rw [hno]; decide)]) (by omega)
              ·
                have c_74 := bnf c_74
                refine r_aload_n hc dX4_leastFrom_77 rfl ?_
                refine r_aload_n hc dX4_leastFrom_78 rfl ?_
                refine r_iload_n hc dX4_leastFrom_79 rfl ?_
                refine r_iload_n hc dX4_leastFrom_80 rfl ?_
                refine r_iconst (v := nI 1) hc dX4_leastFrom_81 rfl ?_
                refine r_iadd (v := nI 1) hc dX4_leastFrom_82 (ad_NN 0 1) ?_
                refine r_iload hc dX4_leastFrom_83 rfl ?_
                refine r_bipush (v := nI 10) hc dX4_leastFrom_85 rfl ?_
                refine r_imul (v := nI (c * 10)) hc dX4_leastFrom_87 (ml_NN _ _) ?_
                refine r_iload hc dX4_leastFrom_88 rfl ?_
                refine r_iadd (v := nI (c * 10 + k)) hc dX4_leastFrom_90 (ad_NN _ _) ?_
                refine cl_X4_74 (As := [.ref h, .int (nI X), .int (nI 1), .int (nI (c * 10 + k))]) hc (c_X4_leastFrom_1 hK hH hV hah hok hX hF hst (c := c * 10 + k) (by omega)) hK.1.1 rfl ⟨by decide, by decide⟩ ⟨rfl, rfl⟩ ⟨by decide, by decide⟩ rfl (Nat.le_of_ble_eq_true rfl) dX4_leastFrom_91 (fun r u hp => ?_)
                obtain ⟨rfl, hu⟩ := hp
                rw [hu]
                have hrg := lfF_rng (v 0) (ftA v X) (Jx v X) 3 (c * 10 + k) 10000 (by omega)
                have hokk : lfOk (v 0) (ftA v X) 0 c k = true := by unfold lfOk; rw [c_74]; rfl
                refine r_istore (ls' := [(7, .int (zI (lfF (v 0) (ftA v X) (Jx v X) 3 (c * 10 + k)))), (6, .int (nI 1)), (0, .ref a), (1, .ref h), (2, .int (nI X)), (3, .int (nI 0)), (4, .int (nI c)), (5, .int (nI k))]) hc dX4_leastFrom_94 (by decide) rfl ?_
                refine r_iload hc dX4_leastFrom_96 rfl ?_
                refine r_bipush (v := zI (-6)) hc dX4_leastFrom_98 rfl ?_
                refine r_icmp_eq (tgt := 106) hc dX4_leastFrom_100 (by decide) (eq_ZZ (by omega) (by omega)) (fun c_100 => ?_) (fun c_100 => ?_)
                ·
                  refine r_iinc (v := nI (k + 1)) (ls' := [(5, .int (nI (k + 1))), (7, .int (zI (lfF (v 0) (ftA v X) (Jx v X) 3 (c * 10 + k)))), (6, .int (nI 1)), (0, .ref a), (1, .ref h), (2, .int (nI X)), (3, .int (nI 0)), (4, .int (nI c))]) hc dX4_leastFrom_106 rfl (ad_NN _ 1) (by decide) rfl ?_
                  refine r_goto (tgt := 26) hc dX4_leastFrom_109 (by decide) ?_
                  refine r_locp [3, 4, 5, 6, 7, 0] (ls' := [(0, .ref a), (1, .ref h), (2, .int (nI X)), (3, .int (nI 0)), (4, .int (nI c)), (5, .int (nI (k + 1)))]) rfl ?_
                  exact ih26 (k + 1) (by omega) (by rw [ffZ, if_pos hf]; unfold gLF; rw [if_pos hokk]; exact c_100) (by omega)
                ·
                  refine r_iload hc dX4_leastFrom_103 rfl ?_
                  exact hR _ _ ⟨(by refine congrArg zI ?_; have h1 : ffZ (gLF v X 0 3 c) (k + 1) = lfF (v 0) (ftA v X) (Jx v X) 3 (c * 10 + k) := by { rw [ffZ, if_pos hf]; unfold gLF; rw [if_pos hokk] }; have h2 := ffZ_stay (gLF v X 0 3 c) (k + 1) (10 - (k + 1)) (by rw [h1]; exact c_100); rw [show k + 1 + (10 - (k + 1)) = 10 by omega, h1] at h2; exact h2.symm), rfl⟩ rfl _ _ dX4_leastFrom_105
          ·
            exact absurd rfl c_34
    refine r_locp [1, 2, 3, 4, 5, 0] (ls' := [(0, .ref a), (1, .ref h), (2, .int (nI X)), (3, .int (nI 0)), (4, .int (nI c)), (5, .int (nI 0))]) rfl ?_
    exact loop26 _ 0 (by omega) rfl (Nat.lt_succ_self _)
  ·
    exact absurd (show 0 < 4 by decide) c_2
set_option maxRecDepth 100000 in
set_option maxHeartbeats 4000000 in
theorem c_X4_leastJustFor {Ω : OmT} {z : Nat} {sh : Nat → Option Kd} {σ : Nat → Nat → Int32} {ρ : Nat → Nat → Option Nat} {a h : Nat} {v : Nat → Nat} (hK : KSh sh ρ a) (hH : HSh sh ρ h) (hV : HV σ h v) (hah : a + 4 ≤ h ∨ h + 34 ≤ a) (hok : okR v) {X : Nat} (hX : X < 2 ^ v 4)  : CtI Ω yX4_leastJustFor cX4_leastJustFor 3 .int rm2_X4_leastJustFor [.ref a, .ref h, .int (nI X)] (z, sh, σ, ρ) (fun r u => ∃ τ : Nat → Nat → Int32, u = (z, sh, τ, ρ) ∧ r = zI (ffF (jstP v X) 10000) ∧ ∀ q, (q < a ∨ a + 4 ≤ q) → τ q = σ q) := by
  have hok1 := hok
  obtain ⟨⟨h01, h02⟩, hl1, ⟨h21, h22⟩, h3, h4, h5, h9, hdo, hke, hpn, hpd, htc⟩ := hok1
  have hdr : ∀ d, d < v 4 → v (20 + 6 * d + 2) < 10000 ∧ v (20 + 6 * d + 3) < 10000 := fun d hd => ⟨(hdo d hd).2.2.1, (hdo d hd).2.2.2⟩
  have hcu : ∀ k, k < v 5 → v (80 + 4 * k) < 10000 := fun k hk => (hke k hk).1
  have hwh : ∀ k, k < v 5 → v (80 + 4 * k + 2) ≤ 9 := fun k hk => (hke k hk).2.2
  have hky : ∀ k, k < v 5 → v (80 + 4 * k) < 10000 ∧ v (80 + 4 * k + 2) ≤ 9 ∧ 40 ≤ v (80 + 4 * k + 1) ∧ v (80 + 4 * k + 1) ≤ 90 := fun k hk => ⟨(hke k hk).1, (hke k hk).2.2, (hke k hk).2.1⟩
  have hpl : ∀ p, p < v 9 → v (150 + 3 * p) < 10 := fun p hp => by have := (hpn p hp).1; omega
  have hX0 : X < 1024 := Nat.lt_of_lt_of_le hX (Nat.pow_le_pow_right (by decide) h4 : 2 ^ v 4 ≤ 2 ^ 10)
  refine CtI.enter (by decide) (Nat.le_of_ble_eq_true rfl) (fun Φ hc hR => ?_)
  show Vw Ω Φ (z, sh, σ, ρ) (0, 0) 0 [(0, .ref a), (1, .ref h), (2, .int (nI X))] []
  refine r_aload_n hc dX4_leastJustFor_0 rfl ?_
  refine r_aload_n hc dX4_leastJustFor_1 rfl ?_
  refine r_iload_n hc dX4_leastJustFor_2 rfl ?_
  refine cl_X4_49 (As := [.ref h, .int (nI X)]) hc (c_X4_work hK hH hV hah hok hX) hK.1.1 rfl ⟨by decide, by decide⟩ ⟨rfl, rfl⟩ ⟨by decide, by decide⟩ rfl (Nat.le_of_ble_eq_true rfl) dX4_leastJustFor_3 (fun u hp => ?_)
  obtain ⟨τ0, hu, hF, hst, hfr0⟩ := hp
  rw [hu]
  have hfr : ∀ q, (q < a ∨ a + 4 ≤ q) → τ0 q = σ q := fun q hq => hfr0 q (by omega) (by omega)
  refine r_aload_n hc dX4_leastJustFor_6 rfl ?_
  refine r_aload_n hc dX4_leastJustFor_7 rfl ?_
  refine r_iload_n hc dX4_leastJustFor_8 rfl ?_
  refine r_iconst (v := nI 0) hc dX4_leastJustFor_9 rfl ?_
  refine r_iconst (v := nI 0) hc dX4_leastJustFor_10 rfl ?_
  have hV : HV τ0 h v := hV.keep (fun q q1 q2 => hfr q (by omega)) h4 h5
  refine cl_X4_74 (As := [.ref h, .int (nI X), .int (nI 0), .int (nI 0)]) hc (c_X4_leastFrom_0 hK hH hV hah hok hX hF hst (c := 0) (by omega)) hK.1.1 rfl ⟨by decide, by decide⟩ ⟨rfl, rfl⟩ ⟨by decide, by decide⟩ rfl (Nat.le_of_ble_eq_true rfl) dX4_leastJustFor_11 (fun r u hp => ?_)
  obtain ⟨rfl, hu⟩ := hp
  rw [hu]
  exact hR _ _ ⟨τ0, rfl, congrArg zI (lf_all v X hX), hfr⟩ rfl _ _ dX4_leastJustFor_14
