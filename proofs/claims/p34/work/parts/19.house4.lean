/-! ===== as in whole: house4 ===== -/
set_option maxRecDepth 100000 in
set_option maxHeartbeats 4000000 in
theorem c_X2_aboutDoor {Ω : OmT} {z : Nat} {sh : Nat → Option Kd} {σ : Nat → Nat → Int32} {ρ : Nat → Nat → Option Nat} {h : Nat} {v : Nat → Nat} (hH : HSh sh ρ h) (hV : HV σ h v) (hok : okR v) (hbx : v 7 ≤ 1000000000) {d w : Int} (hd0 : -2147483648 ≤ d ∧ d < 2147483648) (hw0 : -2147483648 ≤ w ∧ w < 2147483648) : CtI Ω yX2_aboutDoor cX2_aboutDoor 4 .int rm_X2_aboutDoor [.ref h, .int (zI d), .int (zI w)] (z, sh, σ, ρ) (fun r u => r = zI (sOfDoor v d w) ∧ u = (z, sh, σ, ρ)) := by
  have hok1 := hok
  obtain ⟨⟨h01, h02⟩, hl1, ⟨h21, h22⟩, h3, h4, h5, h9, hdo, hke, hpn, hpd, htc⟩ := hok1
  have hdr : ∀ d, d < v 4 → v (20 + 6 * d + 2) < 10000 ∧ v (20 + 6 * d + 3) < 10000 := fun d hd => ⟨(hdo d hd).2.2.1, (hdo d hd).2.2.2⟩
  have hcu : ∀ k, k < v 5 → v (80 + 4 * k) < 10000 := fun k hk => (hke k hk).1
  have hwh : ∀ k, k < v 5 → v (80 + 4 * k + 2) ≤ 9 := fun k hk => (hke k hk).2.2
  have hky : ∀ k, k < v 5 → v (80 + 4 * k) < 10000 ∧ v (80 + 4 * k + 2) ≤ 9 ∧ 40 ≤ v (80 + 4 * k + 1) ∧ v (80 + 4 * k + 1) ≤ 90 := fun k hk => ⟨(hke k hk).1, (hke k hk).2.2, (hke k hk).2.1⟩
  have hpl : ∀ p, p < v 9 → v (150 + 3 * p) < 10 := fun p hp => by have := (hpn p hp).1; omega
  refine CtI.enter (by decide) (Nat.le_of_ble_eq_true rfl) (fun Φ hc hR => ?_)
  show Vw Ω Φ (z, sh, σ, ρ) (0, 0) 0 [(0, .ref h), (1, .int (zI d)), (2, .int (zI w))] []
  refine r_aload_n hc dX2_aboutDoor_0 rfl ?_
  refine r_iload_n hc dX2_aboutDoor_1 rfl ?_
  refine cl_X2_91 (As := [.int (zI d)]) hc (c_X2_hasDoor hH hV (x := d) (by omega) (by omega)) (HS0 hH) rfl ⟨by decide, by decide⟩ ⟨rfl, rfl⟩ ⟨by decide, by decide⟩ rfl (Nat.le_of_ble_eq_true rfl) dX2_aboutDoor_2 (fun r u hp => ?_)
  obtain ⟨rfl, hu⟩ := hp
  rw [hu]
  refine r_if_ne (tgt := 10) hc dX2_aboutDoor_5 (by decide) (bI_0 _) (fun c_5 => ?_) (fun c_5 => ?_)
  ·
    have c_5 := bnf c_5
    have c_5 := of_decide_eq_true c_5
    obtain ⟨D, rfl⟩ := Int.eq_ofNat_of_zero_le (show 0 ≤ d by omega)
    rw [← nz D]
    have hdd := hdr D (by omega)
    refine r_aload_n hc dX2_aboutDoor_10 rfl ?_
    refine gf_X2_17 (q := h + 2) hc (HS0 hH) (HR0 hH 1 2 (by decide)) dX2_aboutDoor_11 ?_
    refine r_iload_n hc dX2_aboutDoor_14 rfl ?_
    refine al_3 (r := h + 8 + D) (j := D) hc (HSa hH 2 _ rfl) rfl (by omega) (by decide) (HRd hH (by omega)) dX2_aboutDoor_15 ?_
    refine r_astore_n (ls' := [(3, .ref (h + 8 + D)), (0, .ref h), (1, .int (nI D)), (2, .int (zI w))]) hc dX2_aboutDoor_16 (by decide) rfl ?_
    refine r_iload_n hc dX2_aboutDoor_17 rfl ?_
    rcases (show w < 0 ∨ 7 < w ∨ w = 0 ∨ w = 1 ∨ w = 2 ∨ w = 3 ∨ w = 4 ∨ w = 5 ∨ w = 6 ∨ w = 7 by omega) with c_18 | c_18 | c_18 | c_18 | c_18 | c_18 | c_18 | c_18 | c_18 | c_18
    ·
      refine r_tableOut (tgt := 109) hc dX2_aboutDoor_18 (by rw [zI_toInt (by omega) (by omega)]; omega) (by decide) ?_
      refine r_bipush (v := zI (-2)) hc dX2_aboutDoor_109 rfl ?_
      exact hR _ _ ⟨(by refine congrArg zI ?_; unfold sOfDoor; rw [if_pos (by omega), if_neg (by omega), if_neg (by omega), if_neg (by omega), if_neg (by omega), if_neg (by omega)]), rfl⟩ rfl _ _ dX2_aboutDoor_111
    ·
      refine r_tableOut (tgt := 109) hc dX2_aboutDoor_18 (by rw [zI_toInt (by omega) (by omega)]; omega) (by decide) ?_
      refine r_bipush (v := zI (-2)) hc dX2_aboutDoor_109 rfl ?_
      exact hR _ _ ⟨(by refine congrArg zI ?_; unfold sOfDoor; rw [if_pos (by omega), if_neg (by omega), if_neg (by omega), if_neg (by omega), if_neg (by omega), if_neg (by omega)]), rfl⟩ rfl _ _ dX2_aboutDoor_111
    ·
      refine r_tableIn (off := 46) (tgt := 64) hc dX2_aboutDoor_18 (by rw [zI_toInt (by omega) (by omega)]; omega) (by rw [zI_toInt (by omega) (by omega)]; omega) (by rw [zI_toInt (by omega) (by omega), c_18]; rfl) (by decide) ?_
      refine r_aload_n hc dX2_aboutDoor_64 rfl ?_
      refine gf_X2_188 (x := nI (v (20 + 6 * D))) hc (HSd hH (by omega)) (HVd hV (by omega) 0 (by decide)) dX2_aboutDoor_65 ?_
      exact hR _ _ ⟨(by rw [nz]; refine congrArg zI ?_; unfold sOfDoor; rw [if_pos (by omega), c_18]; rfl), rfl⟩ rfl _ _ dX2_aboutDoor_68
    ·
      refine r_tableIn (off := 51) (tgt := 69) hc dX2_aboutDoor_18 (by rw [zI_toInt (by omega) (by omega)]; omega) (by rw [zI_toInt (by omega) (by omega)]; omega) (by rw [zI_toInt (by omega) (by omega), c_18]; rfl) (by decide) ?_
      refine r_aload_n hc dX2_aboutDoor_69 rfl ?_
      refine gf_X2_191 (x := nI (v (20 + 6 * D + 1))) hc (HSd hH (by omega)) (HVd hV (by omega) 1 (by decide)) dX2_aboutDoor_70 ?_
      exact hR _ _ ⟨(by rw [nz]; refine congrArg zI ?_; unfold sOfDoor; rw [if_pos (by omega), c_18]; rfl), rfl⟩ rfl _ _ dX2_aboutDoor_73
    ·
      refine r_tableIn (off := 56) (tgt := 74) hc dX2_aboutDoor_18 (by rw [zI_toInt (by omega) (by omega)]; omega) (by rw [zI_toInt (by omega) (by omega)]; omega) (by rw [zI_toInt (by omega) (by omega), c_18]; rfl) (by decide) ?_
      refine r_aload_n hc dX2_aboutDoor_74 rfl ?_
      refine gf_X2_101 (x := nI (v (20 + 6 * D + 2))) hc (HSd hH (by omega)) (HVd hV (by omega) 2 (by decide)) dX2_aboutDoor_75 ?_
      exact hR _ _ ⟨(by rw [nz]; refine congrArg zI ?_; unfold sOfDoor; rw [if_pos (by omega), c_18]; rfl), rfl⟩ rfl _ _ dX2_aboutDoor_78
    ·
      refine r_tableIn (off := 61) (tgt := 79) hc dX2_aboutDoor_18 (by rw [zI_toInt (by omega) (by omega)]; omega) (by rw [zI_toInt (by omega) (by omega)]; omega) (by rw [zI_toInt (by omega) (by omega), c_18]; rfl) (by decide) ?_
      refine r_aload_n hc dX2_aboutDoor_79 rfl ?_
      refine gf_X2_104 (x := nI (v (20 + 6 * D + 3))) hc (HSd hH (by omega)) (HVd hV (by omega) 3 (by decide)) dX2_aboutDoor_80 ?_
      exact hR _ _ ⟨(by rw [nz]; refine congrArg zI ?_; unfold sOfDoor; rw [if_pos (by omega), c_18]; rfl), rfl⟩ rfl _ _ dX2_aboutDoor_83
    ·
      refine r_tableIn (off := 66) (tgt := 84) hc dX2_aboutDoor_18 (by rw [zI_toInt (by omega) (by omega)]; omega) (by rw [zI_toInt (by omega) (by omega)]; omega) (by rw [zI_toInt (by omega) (by omega), c_18]; rfl) (by decide) ?_
      refine r_aload_n hc dX2_aboutDoor_84 rfl ?_
      refine cl_X2_94 (As := []) hc (show CtI Ω yX0_weight cX0_weight 1 .int rm_X0_weight [.ref (h + 8 + D)] (z, sh, σ, ρ) (fun r u => r = nI (lockWt v D) ∧ u = (z, sh, σ, ρ)) from c_X0_weight (f := v (20 + 6 * D + 2)) (s := v (20 + 6 * D + 3)) (HSd hH (by omega)) (HVd hV (by omega) 2 (by decide)) (HVd hV (by omega) 3 (by decide)) (by omega) (by omega)) (HSd hH (by omega)) rfl ⟨by decide, by decide⟩ ⟨rfl, rfl⟩ ⟨by decide, by decide⟩ rfl (Nat.le_of_ble_eq_true rfl) dX2_aboutDoor_85 (fun r u hp => ?_)
      obtain ⟨rfl, hu⟩ := hp
      rw [hu]
      exact hR _ _ ⟨(by rw [nz]; refine congrArg zI ?_; unfold sOfDoor; rw [if_pos (by omega), c_18]; rfl), rfl⟩ rfl _ _ dX2_aboutDoor_88
    ·
      refine r_tableIn (off := 71) (tgt := 89) hc dX2_aboutDoor_18 (by rw [zI_toInt (by omega) (by omega)]; omega) (by rw [zI_toInt (by omega) (by omega)]; omega) (by rw [zI_toInt (by omega) (by omega), c_18]; rfl) (by decide) ?_
      refine r_aload_n hc dX2_aboutDoor_89 rfl ?_
      refine gf_X2_107 (x := nI (v (20 + 6 * D + 4))) hc (HSd hH (by omega)) (HVd hV (by omega) 4 (by decide)) dX2_aboutDoor_90 ?_
      exact hR _ _ ⟨(by rw [nz]; refine congrArg zI ?_; unfold sOfDoor; rw [if_pos (by omega), c_18]; rfl), rfl⟩ rfl _ _ dX2_aboutDoor_93
    ·
      refine r_tableIn (off := 76) (tgt := 94) hc dX2_aboutDoor_18 (by rw [zI_toInt (by omega) (by omega)]; omega) (by rw [zI_toInt (by omega) (by omega)]; omega) (by rw [zI_toInt (by omega) (by omega), c_18]; rfl) (by decide) ?_
      refine r_aload_n hc dX2_aboutDoor_94 rfl ?_
      refine r_iload_n hc dX2_aboutDoor_95 rfl ?_
      refine cl_X2_139 (As := [.int (nI D)]) hc (c_X2_keysOpening hH hV (d := D) (by omega) (by omega) (by omega) hdr hcu hwh) (HS0 hH) rfl ⟨by decide, by decide⟩ ⟨rfl, rfl⟩ ⟨by decide, by decide⟩ rfl (Nat.le_of_ble_eq_true rfl) dX2_aboutDoor_96 (fun r u hp => ?_)
      obtain ⟨rfl, hu⟩ := hp
      rw [hu]
      exact hR _ _ ⟨(by rw [nz]; refine congrArg zI ?_; unfold sOfDoor; rw [if_pos (by omega), c_18]; rfl), rfl⟩ rfl _ _ dX2_aboutDoor_99
    ·
      refine r_tableIn (off := 82) (tgt := 100) hc dX2_aboutDoor_18 (by rw [zI_toInt (by omega) (by omega)]; omega) (by rw [zI_toInt (by omega) (by omega)]; omega) (by rw [zI_toInt (by omega) (by omega), c_18]; rfl) (by decide) ?_
      refine r_aload_n hc dX2_aboutDoor_100 rfl ?_
      refine gf_X2_30 (q := h + 4) hc (HS0 hH) (HR0 hH 3 4 (by decide)) dX2_aboutDoor_101 ?_
      refine r_iload_n hc dX2_aboutDoor_104 rfl ?_
      refine cl_X2_145 (As := [.int (nI D)]) hc (c_X7_placeOf hH hV (d := D) (by omega) (by omega) hpl) (HSa hH 4 _ rfl) rfl ⟨by decide, by decide⟩ ⟨rfl, rfl⟩ ⟨by decide, by decide⟩ rfl (Nat.le_of_ble_eq_true rfl) dX2_aboutDoor_105 (fun r u hp => ?_)
      obtain ⟨rfl, hu⟩ := hp
      rw [hu]
      exact hR _ _ ⟨(by rw [show plcL v D = plcO v D from plcL_eq v D (v 9) hpd]; refine congrArg zI ?_; unfold sOfDoor; rw [if_pos (by omega), c_18]; rfl), rfl⟩ rfl _ _ dX2_aboutDoor_108
  ·
    have c_5 := of_decide_eq_false c_5
    refine r_iconst (v := zI (-1)) hc dX2_aboutDoor_8 rfl ?_
    exact hR _ _ ⟨(by refine congrArg zI ?_; unfold sOfDoor; rw [if_neg (by omega)]), rfl⟩ rfl _ _ dX2_aboutDoor_9
set_option maxRecDepth 100000 in
set_option maxHeartbeats 4000000 in
theorem c_X2_aboutKey {Ω : OmT} {z : Nat} {sh : Nat → Option Kd} {σ : Nat → Nat → Int32} {ρ : Nat → Nat → Option Nat} {h : Nat} {v : Nat → Nat} (hH : HSh sh ρ h) (hV : HV σ h v) (hok : okR v) (hbx : v 7 ≤ 1000000000) {k w : Int} (hk0 : -2147483648 ≤ k ∧ k < 2147483648) (hw0 : -2147483648 ≤ w ∧ w < 2147483648) : CtI Ω yX2_aboutKey cX2_aboutKey 4 .int rm_X2_aboutKey [.ref h, .int (zI k), .int (zI w)] (z, sh, σ, ρ) (fun r u => r = zI (sOfKey v k w) ∧ u = (z, sh, σ, ρ)) := by
  have hok1 := hok
  obtain ⟨⟨h01, h02⟩, hl1, ⟨h21, h22⟩, h3, h4, h5, h9, hdo, hke, hpn, hpd, htc⟩ := hok1
  have hdr : ∀ d, d < v 4 → v (20 + 6 * d + 2) < 10000 ∧ v (20 + 6 * d + 3) < 10000 := fun d hd => ⟨(hdo d hd).2.2.1, (hdo d hd).2.2.2⟩
  have hcu : ∀ k, k < v 5 → v (80 + 4 * k) < 10000 := fun k hk => (hke k hk).1
  have hwh : ∀ k, k < v 5 → v (80 + 4 * k + 2) ≤ 9 := fun k hk => (hke k hk).2.2
  have hky : ∀ k, k < v 5 → v (80 + 4 * k) < 10000 ∧ v (80 + 4 * k + 2) ≤ 9 ∧ 40 ≤ v (80 + 4 * k + 1) ∧ v (80 + 4 * k + 1) ≤ 90 := fun k hk => ⟨(hke k hk).1, (hke k hk).2.2, (hke k hk).2.1⟩
  have hpl : ∀ p, p < v 9 → v (150 + 3 * p) < 10 := fun p hp => by have := (hpn p hp).1; omega
  refine CtI.enter (by decide) (Nat.le_of_ble_eq_true rfl) (fun Φ hc hR => ?_)
  show Vw Ω Φ (z, sh, σ, ρ) (0, 0) 0 [(0, .ref h), (1, .int (zI k)), (2, .int (zI w))] []
  refine r_aload_n hc dX2_aboutKey_0 rfl ?_
  refine r_iload_n hc dX2_aboutKey_1 rfl ?_
  refine cl_X2_126 (As := [.int (zI k)]) hc (c_X2_hasKey hH hV (x := k) (by omega) (by omega)) (HS0 hH) rfl ⟨by decide, by decide⟩ ⟨rfl, rfl⟩ ⟨by decide, by decide⟩ rfl (Nat.le_of_ble_eq_true rfl) dX2_aboutKey_2 (fun r u hp => ?_)
  obtain ⟨rfl, hu⟩ := hp
  rw [hu]
  refine r_if_ne (tgt := 10) hc dX2_aboutKey_5 (by decide) (bI_0 _) (fun c_5 => ?_) (fun c_5 => ?_)
  ·
    have c_5 := bnf c_5
    have c_5 := of_decide_eq_true c_5
    obtain ⟨K, rfl⟩ := Int.eq_ofNat_of_zero_le (show 0 ≤ k by omega)
    rw [← nz K]
    have hck := hcu K (by omega)
    have hwk := hwh K (by omega)
    refine r_aload_n hc dX2_aboutKey_10 rfl ?_
    refine gf_X2_23 (q := h + 3) hc (HS0 hH) (HR0 hH 2 3 (by decide)) dX2_aboutKey_11 ?_
    refine r_iload_n hc dX2_aboutKey_14 rfl ?_
    refine al_5 (r := h + 18 + K) (j := K) hc (HSa hH 3 _ rfl) rfl (by omega) (by decide) (HRk hH (by omega)) dX2_aboutKey_15 ?_
    refine r_astore_n (ls' := [(3, .ref (h + 18 + K)), (0, .ref h), (1, .int (nI K)), (2, .int (zI w))]) hc dX2_aboutKey_16 (by decide) rfl ?_
    refine r_iload_n hc dX2_aboutKey_17 rfl ?_
    rcases (show w < 0 ∨ 3 < w ∨ w = 0 ∨ w = 1 ∨ w = 2 ∨ w = 3 by omega) with c_18 | c_18 | c_18 | c_18 | c_18 | c_18
    ·
      refine r_tableOut (tgt := 85) hc dX2_aboutKey_18 (by rw [zI_toInt (by omega) (by omega)]; omega) (by decide) ?_
      refine r_bipush (v := zI (-2)) hc dX2_aboutKey_85 rfl ?_
      exact hR _ _ ⟨(by refine congrArg zI ?_; unfold sOfKey; rw [if_pos (by omega), if_neg (by omega), if_neg (by omega), if_neg (by omega), if_neg (by omega)]), rfl⟩ rfl _ _ dX2_aboutKey_87
    ·
      refine r_tableOut (tgt := 85) hc dX2_aboutKey_18 (by rw [zI_toInt (by omega) (by omega)]; omega) (by decide) ?_
      refine r_bipush (v := zI (-2)) hc dX2_aboutKey_85 rfl ?_
      exact hR _ _ ⟨(by refine congrArg zI ?_; unfold sOfKey; rw [if_pos (by omega), if_neg (by omega), if_neg (by omega), if_neg (by omega), if_neg (by omega)]), rfl⟩ rfl _ _ dX2_aboutKey_87
    ·
      refine r_tableIn (off := 30) (tgt := 48) hc dX2_aboutKey_18 (by rw [zI_toInt (by omega) (by omega)]; omega) (by rw [zI_toInt (by omega) (by omega)]; omega) (by rw [zI_toInt (by omega) (by omega), c_18]; rfl) (by decide) ?_
      refine r_aload_n hc dX2_aboutKey_48 rfl ?_
      refine gf_X2_118 (x := nI (v (80 + 4 * K))) hc (HSk hH (by omega)) (HVk0 hV (by omega)) dX2_aboutKey_49 ?_
      exact hR _ _ ⟨(by rw [nz]; refine congrArg zI ?_; unfold sOfKey; rw [if_pos (by omega), c_18]; rfl), rfl⟩ rfl _ _ dX2_aboutKey_52
    ·
      refine r_tableIn (off := 35) (tgt := 53) hc dX2_aboutKey_18 (by rw [zI_toInt (by omega) (by omega)]; omega) (by rw [zI_toInt (by omega) (by omega)]; omega) (by rw [zI_toInt (by omega) (by omega), c_18]; rfl) (by decide) ?_
      refine r_aload_n hc dX2_aboutKey_53 rfl ?_
      refine gf_X2_121 (x := nI (keyWt v K)) hc (HSk hH (by omega)) (HVk1 hV (by omega)) dX2_aboutKey_54 ?_
      exact hR _ _ ⟨(by rw [nz]; refine congrArg zI ?_; unfold sOfKey; rw [if_pos (by omega), c_18]; rfl), rfl⟩ rfl _ _ dX2_aboutKey_57
    ·
      refine r_tableIn (off := 40) (tgt := 58) hc dX2_aboutKey_18 (by rw [zI_toInt (by omega) (by omega)]; omega) (by rw [zI_toInt (by omega) (by omega)]; omega) (by rw [zI_toInt (by omega) (by omega), c_18]; rfl) (by decide) ?_
      refine r_aload_n hc dX2_aboutKey_58 rfl ?_
      refine gf_X2_123 (x := nI (v (80 + 4 * K + 2))) hc (HSk hH (by omega)) (HVk2 hV (by omega)) dX2_aboutKey_59 ?_
      exact hR _ _ ⟨(by rw [nz]; refine congrArg zI ?_; unfold sOfKey; rw [if_pos (by omega), c_18]; rfl), rfl⟩ rfl _ _ dX2_aboutKey_62
    ·
      refine r_tableIn (off := 45) (tgt := 63) hc dX2_aboutKey_18 (by rw [zI_toInt (by omega) (by omega)]; omega) (by rw [zI_toInt (by omega) (by omega)]; omega) (by rw [zI_toInt (by omega) (by omega), c_18]; rfl) (by decide) ?_
      refine r_aload_n hc dX2_aboutKey_63 rfl ?_
      refine gf_X2_123 (x := nI (v (80 + 4 * K + 2))) hc (HSk hH (by omega)) (HVk2 hV (by omega)) dX2_aboutKey_64 ?_
      refine r_bipush (v := nI 9) hc dX2_aboutKey_67 rfl ?_
      refine r_icmp_ne (tgt := 76) hc dX2_aboutKey_69 (by decide) (eq_NN (by omega) (by omega)) (fun c_69 => ?_) (fun c_69 => ?_)
      ·
        refine r_aload_n hc dX2_aboutKey_76 rfl ?_
        refine r_aload_n hc dX2_aboutKey_77 rfl ?_
        refine gf_X2_118 (x := nI (v (80 + 4 * K))) hc (HSk hH (by omega)) (HVk0 hV (by omega)) dX2_aboutKey_78 ?_
        refine cl_X2_194 (As := [.int (nI (v (80 + 4 * K)))]) hc (c_X2_doorsOpenedBy hH hV (c := v (80 + 4 * K)) (by omega) (by omega) hdr) (HS0 hH) rfl ⟨by decide, by decide⟩ ⟨rfl, rfl⟩ ⟨by decide, by decide⟩ rfl (Nat.le_of_ble_eq_true rfl) dX2_aboutKey_81 (fun r u hp => ?_)
        obtain ⟨rfl, hu⟩ := hp
        rw [hu]
        exact hR _ _ ⟨(by rw [nz]; refine congrArg zI ?_; unfold sOfKey; rw [if_pos (by omega), c_18]; show _ = ((doorsOf v K : Nat) : Int); rw [doorsOf_eq, if_neg c_69]), rfl⟩ rfl _ _ dX2_aboutKey_84
      ·
        refine r_iconst (v := nI 0) hc dX2_aboutKey_72 rfl ?_
        refine r_goto (tgt := 84) hc dX2_aboutKey_73 (by decide) ?_
        exact hR _ _ ⟨(by rw [nz]; refine congrArg zI ?_; unfold sOfKey; rw [if_pos (by omega), c_18]; show _ = ((doorsOf v K : Nat) : Int); rw [doorsOf_eq, if_pos c_69]), rfl⟩ rfl _ _ dX2_aboutKey_84
  ·
    have c_5 := of_decide_eq_false c_5
    refine r_iconst (v := zI (-1)) hc dX2_aboutKey_8 rfl ?_
    exact hR _ _ ⟨(by refine congrArg zI ?_; unfold sOfKey; rw [if_neg (by omega)]), rfl⟩ rfl _ _ dX2_aboutKey_9
set_option maxRecDepth 100000 in
set_option maxHeartbeats 4000000 in
theorem c_X2_aboutAll {Ω : OmT} {z : Nat} {sh : Nat → Option Kd} {σ : Nat → Nat → Int32} {ρ : Nat → Nat → Option Nat} {h : Nat} {v : Nat → Nat} (hH : HSh sh ρ h) (hV : HV σ h v) (hok : okR v) (hbx : v 7 ≤ 1000000000) {w : Int} (hw0 : -2147483648 ≤ w ∧ w < 2147483648) : CtI Ω yX2_aboutAll cX2_aboutAll 2 .int rm_X2_aboutAll [.ref h, .int (zI w)] (z, sh, σ, ρ) (fun r u => r = zI (sOfAll v w) ∧ u = (z, sh, σ, ρ)) := by
  have hok1 := hok
  obtain ⟨⟨h01, h02⟩, hl1, ⟨h21, h22⟩, h3, h4, h5, h9, hdo, hke, hpn, hpd, htc⟩ := hok1
  have hdr : ∀ d, d < v 4 → v (20 + 6 * d + 2) < 10000 ∧ v (20 + 6 * d + 3) < 10000 := fun d hd => ⟨(hdo d hd).2.2.1, (hdo d hd).2.2.2⟩
  have hcu : ∀ k, k < v 5 → v (80 + 4 * k) < 10000 := fun k hk => (hke k hk).1
  have hwh : ∀ k, k < v 5 → v (80 + 4 * k + 2) ≤ 9 := fun k hk => (hke k hk).2.2
  have hky : ∀ k, k < v 5 → v (80 + 4 * k) < 10000 ∧ v (80 + 4 * k + 2) ≤ 9 ∧ 40 ≤ v (80 + 4 * k + 1) ∧ v (80 + 4 * k + 1) ≤ 90 := fun k hk => ⟨(hke k hk).1, (hke k hk).2.2, (hke k hk).2.1⟩
  have hpl : ∀ p, p < v 9 → v (150 + 3 * p) < 10 := fun p hp => by have := (hpn p hp).1; omega
  refine CtI.enter (by decide) (Nat.le_of_ble_eq_true rfl) (fun Φ hc hR => ?_)
  show Vw Ω Φ (z, sh, σ, ρ) (0, 0) 0 [(0, .ref h), (1, .int (zI w))] []
  refine r_iload_n hc dX2_aboutAll_0 rfl ?_
  rcases (show w < 0 ∨ 15 < w ∨ w = 0 ∨ w = 1 ∨ w = 2 ∨ w = 3 ∨ w = 4 ∨ w = 5 ∨ w = 6 ∨ w = 7 ∨ w = 8 ∨ w = 9 ∨ w = 10 ∨ w = 11 ∨ w = 12 ∨ w = 13 ∨ w = 14 ∨ w = 15 by omega) with c_1 | c_1 | c_1 | c_1 | c_1 | c_1 | c_1 | c_1 | c_1 | c_1 | c_1 | c_1 | c_1 | c_1 | c_1 | c_1 | c_1 | c_1
  ·
    refine r_tableOut (tgt := 161) hc dX2_aboutAll_1 (by rw [zI_toInt (by omega) (by omega)]; omega) (by decide) ?_
    refine r_bipush (v := zI (-2)) hc dX2_aboutAll_161 rfl ?_
    exact hR _ _ ⟨(by refine congrArg zI ?_; unfold sOfAll; rw [if_neg (by omega), if_neg (by omega), if_neg (by omega), if_neg (by omega), if_neg (by omega), if_neg (by omega), if_neg (by omega), if_neg (by omega), if_neg (by omega), if_neg (by omega), if_neg (by omega), if_neg (by omega), if_neg (by omega), if_neg (by omega)]), rfl⟩ rfl _ _ dX2_aboutAll_163
  ·
    refine r_tableOut (tgt := 161) hc dX2_aboutAll_1 (by rw [zI_toInt (by omega) (by omega)]; omega) (by decide) ?_
    refine r_bipush (v := zI (-2)) hc dX2_aboutAll_161 rfl ?_
    exact hR _ _ ⟨(by refine congrArg zI ?_; unfold sOfAll; rw [if_neg (by omega), if_neg (by omega), if_neg (by omega), if_neg (by omega), if_neg (by omega), if_neg (by omega), if_neg (by omega), if_neg (by omega), if_neg (by omega), if_neg (by omega), if_neg (by omega), if_neg (by omega), if_neg (by omega), if_neg (by omega)]), rfl⟩ rfl _ _ dX2_aboutAll_163
  ·
    refine r_tableIn (off := 79) (tgt := 80) hc dX2_aboutAll_1 (by rw [zI_toInt (by omega) (by omega)]; omega) (by rw [zI_toInt (by omega) (by omega)]; omega) (by rw [zI_toInt (by omega) (by omega), c_1]; rfl) (by decide) ?_
    refine r_aload_n hc dX2_aboutAll_80 rfl ?_
    refine gf_X2_53 (x := nI (v 3)) hc (HS0 hH) (HV6 hV) dX2_aboutAll_81 ?_
    exact hR _ _ ⟨(by rw [nz]; refine congrArg zI ?_; unfold sOfAll; rw [c_1]; rfl), rfl⟩ rfl _ _ dX2_aboutAll_84
  ·
    refine r_tableIn (off := 84) (tgt := 85) hc dX2_aboutAll_1 (by rw [zI_toInt (by omega) (by omega)]; omega) (by rw [zI_toInt (by omega) (by omega)]; omega) (by rw [zI_toInt (by omega) (by omega), c_1]; rfl) (by decide) ?_
    refine r_aload_n hc dX2_aboutAll_85 rfl ?_
    refine r_bipush (v := nI 8) hc dX2_aboutAll_86 rfl ?_
    refine cl_X2_133 (As := [.int (nI 8)]) hc (c_X2_keysAt hH hV (r := 8) (by omega) (by omega) hwh) (HS0 hH) rfl ⟨by decide, by decide⟩ ⟨rfl, rfl⟩ ⟨by decide, by decide⟩ rfl (Nat.le_of_ble_eq_true rfl) dX2_aboutAll_88 (fun r u hp => ?_)
    obtain ⟨rfl, hu⟩ := hp
    rw [hu]
    exact hR _ _ ⟨(by rw [nz]; refine congrArg zI ?_; unfold sOfAll; rw [c_1]; rfl), rfl⟩ rfl _ _ dX2_aboutAll_91
  ·
    refine r_tableIn (off := 91) (tgt := 92) hc dX2_aboutAll_1 (by rw [zI_toInt (by omega) (by omega)]; omega) (by rw [zI_toInt (by omega) (by omega)]; omega) (by rw [zI_toInt (by omega) (by omega), c_1]; rfl) (by decide) ?_
    refine r_aload_n hc dX2_aboutAll_92 rfl ?_
    refine gf_X2_36 (x := nI (v 4)) hc (HS0 hH) (HV4 hV) dX2_aboutAll_93 ?_
    exact hR _ _ ⟨(by rw [nz]; refine congrArg zI ?_; unfold sOfAll; rw [c_1]; rfl), rfl⟩ rfl _ _ dX2_aboutAll_96
  ·
    refine r_tableIn (off := 96) (tgt := 97) hc dX2_aboutAll_1 (by rw [zI_toInt (by omega) (by omega)]; omega) (by rw [zI_toInt (by omega) (by omega)]; omega) (by rw [zI_toInt (by omega) (by omega), c_1]; rfl) (by decide) ?_
    refine r_aload_n hc dX2_aboutAll_97 rfl ?_
    refine gf_X2_44 (x := nI (v 5)) hc (HS0 hH) (HV5 hV) dX2_aboutAll_98 ?_
    exact hR _ _ ⟨(by rw [nz]; refine congrArg zI ?_; unfold sOfAll; rw [c_1]; rfl), rfl⟩ rfl _ _ dX2_aboutAll_101
  ·
    refine r_tableIn (off := 101) (tgt := 102) hc dX2_aboutAll_1 (by rw [zI_toInt (by omega) (by omega)]; omega) (by rw [zI_toInt (by omega) (by omega)]; omega) (by rw [zI_toInt (by omega) (by omega), c_1]; rfl) (by decide) ?_
    refine r_aload_n hc dX2_aboutAll_102 rfl ?_
    refine gf_X2_62 (x := nI (v 6)) hc (HS0 hH) (HV9 hV) dX2_aboutAll_103 ?_
    exact hR _ _ ⟨(by rw [nz]; refine congrArg zI ?_; unfold sOfAll; rw [c_1]; rfl), rfl⟩ rfl _ _ dX2_aboutAll_106
  ·
    refine r_tableIn (off := 106) (tgt := 107) hc dX2_aboutAll_1 (by rw [zI_toInt (by omega) (by omega)]; omega) (by rw [zI_toInt (by omega) (by omega)]; omega) (by rw [zI_toInt (by omega) (by omega), c_1]; rfl) (by decide) ?_
    refine r_aload_n hc dX2_aboutAll_107 rfl ?_
    refine cl_X2_197 (As := []) hc (c_X2_brassInLocks hH hV (by omega) hdr) (HS0 hH) rfl ⟨by decide, by decide⟩ ⟨rfl, rfl⟩ ⟨by decide, by decide⟩ rfl (Nat.le_of_ble_eq_true rfl) dX2_aboutAll_108 (fun r u hp => ?_)
    obtain ⟨rfl, hu⟩ := hp
    rw [hu]
    exact hR _ _ ⟨(by rw [nz]; refine congrArg zI ?_; unfold sOfAll; rw [c_1]; rfl), rfl⟩ rfl _ _ dX2_aboutAll_111
  ·
    refine r_tableIn (off := 111) (tgt := 112) hc dX2_aboutAll_1 (by rw [zI_toInt (by omega) (by omega)]; omega) (by rw [zI_toInt (by omega) (by omega)]; omega) (by rw [zI_toInt (by omega) (by omega), c_1]; rfl) (by decide) ?_
    refine r_aload_n hc dX2_aboutAll_112 rfl ?_
    refine cl_X2_200 (As := []) hc (c_X2_brassInKeys hH hV (by omega) hky) (HS0 hH) rfl ⟨by decide, by decide⟩ ⟨rfl, rfl⟩ ⟨by decide, by decide⟩ rfl (Nat.le_of_ble_eq_true rfl) dX2_aboutAll_113 (fun r u hp => ?_)
    obtain ⟨rfl, hu⟩ := hp
    rw [hu]
    exact hR _ _ ⟨(by rw [nz]; refine congrArg zI ?_; unfold sOfAll; rw [c_1]; rfl), rfl⟩ rfl _ _ dX2_aboutAll_116
  ·
    refine r_tableIn (off := 116) (tgt := 117) hc dX2_aboutAll_1 (by rw [zI_toInt (by omega) (by omega)]; omega) (by rw [zI_toInt (by omega) (by omega)]; omega) (by rw [zI_toInt (by omega) (by omega), c_1]; rfl) (by decide) ?_
    refine r_aload_n hc dX2_aboutAll_117 rfl ?_
    refine gf_X2_59 (x := nI (v 7)) hc (HS0 hH) (HV8 hV) dX2_aboutAll_118 ?_
    exact hR _ _ ⟨(by rw [nz]; refine congrArg zI ?_; unfold sOfAll; rw [c_1]; rfl), rfl⟩ rfl _ _ dX2_aboutAll_121
  ·
    refine r_tableIn (off := 121) (tgt := 122) hc dX2_aboutAll_1 (by rw [zI_toInt (by omega) (by omega)]; omega) (by rw [zI_toInt (by omega) (by omega)]; omega) (by rw [zI_toInt (by omega) (by omega), c_1]; rfl) (by decide) ?_
    refine r_aload_n hc dX2_aboutAll_122 rfl ?_
    refine gf_X2_65 (x := nI (v 8)) hc (HS0 hH) (HV10 hV) dX2_aboutAll_123 ?_
    exact hR _ _ ⟨(by rw [nz]; refine congrArg zI ?_; unfold sOfAll; rw [c_1]; rfl), rfl⟩ rfl _ _ dX2_aboutAll_126
  ·
    refine r_tableIn (off := 126) (tgt := 127) hc dX2_aboutAll_1 (by rw [zI_toInt (by omega) (by omega)]; omega) (by rw [zI_toInt (by omega) (by omega)]; omega) (by rw [zI_toInt (by omega) (by omega), c_1]; rfl) (by decide) ?_
    refine r_aload_n hc dX2_aboutAll_127 rfl ?_
    refine gf_X2_30 (q := h + 4) hc (HS0 hH) (HR0 hH 3 4 (by decide)) dX2_aboutAll_128 ?_
    refine gf_X2_142 (x := nI (v 9)) hc (HSa hH 4 _ rfl) (HVp hV) dX2_aboutAll_131 ?_
    exact hR _ _ ⟨(by rw [nz]; refine congrArg zI ?_; unfold sOfAll; rw [c_1]; rfl), rfl⟩ rfl _ _ dX2_aboutAll_134
  ·
    refine r_tableIn (off := 134) (tgt := 135) hc dX2_aboutAll_1 (by rw [zI_toInt (by omega) (by omega)]; omega) (by rw [zI_toInt (by omega) (by omega)]; omega) (by rw [zI_toInt (by omega) (by omega), c_1]; rfl) (by decide) ?_
    refine r_aload_n hc dX2_aboutAll_135 rfl ?_
    refine gf_X2_56 (x := nI (v 10)) hc (HS0 hH) (HV7 hV) dX2_aboutAll_136 ?_
    exact hR _ _ ⟨(by rw [nz]; refine congrArg zI ?_; unfold sOfAll; rw [c_1]; rfl), rfl⟩ rfl _ _ dX2_aboutAll_139
  ·
    refine r_tableIn (off := 160) (tgt := 161) hc dX2_aboutAll_1 (by rw [zI_toInt (by omega) (by omega)]; omega) (by rw [zI_toInt (by omega) (by omega)]; omega) (by rw [zI_toInt (by omega) (by omega), c_1]; rfl) (by decide) ?_
    refine r_bipush (v := zI (-2)) hc dX2_aboutAll_161 rfl ?_
    exact hR _ _ ⟨(by refine congrArg zI ?_; unfold sOfAll; rw [if_neg (by omega), if_neg (by omega), if_neg (by omega), if_neg (by omega), if_neg (by omega), if_neg (by omega), if_neg (by omega), if_neg (by omega), if_neg (by omega), if_neg (by omega), if_neg (by omega), if_neg (by omega), if_neg (by omega), if_neg (by omega)]), rfl⟩ rfl _ _ dX2_aboutAll_163
  ·
    refine r_tableIn (off := 160) (tgt := 161) hc dX2_aboutAll_1 (by rw [zI_toInt (by omega) (by omega)]; omega) (by rw [zI_toInt (by omega) (by omega)]; omega) (by rw [zI_toInt (by omega) (by omega), c_1]; rfl) (by decide) ?_
    refine r_bipush (v := zI (-2)) hc dX2_aboutAll_161 rfl ?_
    exact hR _ _ ⟨(by refine congrArg zI ?_; unfold sOfAll; rw [if_neg (by omega), if_neg (by omega), if_neg (by omega), if_neg (by omega), if_neg (by omega), if_neg (by omega), if_neg (by omega), if_neg (by omega), if_neg (by omega), if_neg (by omega), if_neg (by omega), if_neg (by omega), if_neg (by omega), if_neg (by omega)]), rfl⟩ rfl _ _ dX2_aboutAll_163
  ·
    refine r_tableIn (off := 139) (tgt := 140) hc dX2_aboutAll_1 (by rw [zI_toInt (by omega) (by omega)]; omega) (by rw [zI_toInt (by omega) (by omega)]; omega) (by rw [zI_toInt (by omega) (by omega), c_1]; rfl) (by decide) ?_
    refine r_aload_n hc dX2_aboutAll_140 rfl ?_
    refine gf_X2_9 (q := h + 1) hc (HS0 hH) (HR0 hH 0 1 (by decide)) dX2_aboutAll_141 ?_
    refine r_iconst (v := nI 0) hc dX2_aboutAll_144 rfl ?_
    refine r_iald (x := nI (v 0)) (j := 0) hc (HSa hH 1 _ rfl) rfl (by omega) (by decide) (HVs hV (by omega)) dX2_aboutAll_145 ?_
    exact hR _ _ ⟨(by rw [nz]; refine congrArg zI ?_; unfold sOfAll; rw [c_1]; rfl), rfl⟩ rfl _ _ dX2_aboutAll_146
  ·
    refine r_tableIn (off := 146) (tgt := 147) hc dX2_aboutAll_1 (by rw [zI_toInt (by omega) (by omega)]; omega) (by rw [zI_toInt (by omega) (by omega)]; omega) (by rw [zI_toInt (by omega) (by omega), c_1]; rfl) (by decide) ?_
    refine r_aload_n hc dX2_aboutAll_147 rfl ?_
    refine gf_X2_9 (q := h + 1) hc (HS0 hH) (HR0 hH 0 1 (by decide)) dX2_aboutAll_148 ?_
    refine r_iconst (v := nI 1) hc dX2_aboutAll_151 rfl ?_
    refine r_iald (x := nI (v 1)) (j := 1) hc (HSa hH 1 _ rfl) rfl (by omega) (by decide) (HVs hV (by omega)) dX2_aboutAll_152 ?_
    exact hR _ _ ⟨(by rw [nz]; refine congrArg zI ?_; unfold sOfAll; rw [c_1]; rfl), rfl⟩ rfl _ _ dX2_aboutAll_153
  ·
    refine r_tableIn (off := 153) (tgt := 154) hc dX2_aboutAll_1 (by rw [zI_toInt (by omega) (by omega)]; omega) (by rw [zI_toInt (by omega) (by omega)]; omega) (by rw [zI_toInt (by omega) (by omega), c_1]; rfl) (by decide) ?_
    refine r_aload_n hc dX2_aboutAll_154 rfl ?_
    refine gf_X2_9 (q := h + 1) hc (HS0 hH) (HR0 hH 0 1 (by decide)) dX2_aboutAll_155 ?_
    refine r_iconst (v := nI 2) hc dX2_aboutAll_158 rfl ?_
    refine r_iald (x := nI (v 2)) (j := 2) hc (HSa hH 1 _ rfl) rfl (by omega) (by decide) (HVs hV (by omega)) dX2_aboutAll_159 ?_
    exact hR _ _ ⟨(by rw [nz]; refine congrArg zI ?_; unfold sOfAll; rw [c_1]; rfl), rfl⟩ rfl _ _ dX2_aboutAll_160
set_option maxRecDepth 100000 in
set_option maxHeartbeats 4000000 in
theorem c_X2_changeSetting {Ω : OmT} {z : Nat} {sh : Nat → Option Kd} {σ : Nat → Nat → Int32} {ρ : Nat → Nat → Option Nat} {h : Nat} {v : Nat → Nat} (hH : HSh sh ρ h) (hV : HV σ h v) (hok : okR v) (hbx : v 7 ≤ 1000000000) {s x : Int} (hs0 : -2147483648 ≤ s ∧ s < 2147483648) (hx0 : -2147483648 ≤ x ∧ x < 2147483648) : CtI Ω yX2_changeSetting cX2_changeSetting 4 .int rm_X2_changeSetting [.ref h, .int (zI s), .int (zI x)] (z, sh, σ, ρ) (HPost z sh σ ρ h (sSet v s x)) := by
  have hok1 := hok
  obtain ⟨⟨h01, h02⟩, hl1, ⟨h21, h22⟩, h3, h4, h5, h9, hdo, hke, hpn, hpd, htc⟩ := hok1
  have hdr : ∀ d, d < v 4 → v (20 + 6 * d + 2) < 10000 ∧ v (20 + 6 * d + 3) < 10000 := fun d hd => ⟨(hdo d hd).2.2.1, (hdo d hd).2.2.2⟩
  have hcu : ∀ k, k < v 5 → v (80 + 4 * k) < 10000 := fun k hk => (hke k hk).1
  have hwh : ∀ k, k < v 5 → v (80 + 4 * k + 2) ≤ 9 := fun k hk => (hke k hk).2.2
  have hky : ∀ k, k < v 5 → v (80 + 4 * k) < 10000 ∧ v (80 + 4 * k + 2) ≤ 9 ∧ 40 ≤ v (80 + 4 * k + 1) ∧ v (80 + 4 * k + 1) ≤ 90 := fun k hk => ⟨(hke k hk).1, (hke k hk).2.2, (hke k hk).2.1⟩
  have hpl : ∀ p, p < v 9 → v (150 + 3 * p) < 10 := fun p hp => by have := (hpn p hp).1; omega
  refine CtI.enter (by decide) (Nat.le_of_ble_eq_true rfl) (fun Φ hc hR => ?_)
  show Vw Ω Φ (z, sh, σ, ρ) (0, 0) 0 [(0, .ref h), (1, .int (zI s)), (2, .int (zI x))] []
  refine r_iload_n hc dX2_changeSetting_0 rfl ?_
  refine r_if_lt (tgt := 9) hc dX2_changeSetting_1 (by decide) (l0_Z (by omega)) (fun c_1 => ?_) (fun c_1 => ?_)
  ·
    refine r_bipush (v := zI (-2)) hc dX2_changeSetting_9 rfl ?_
    have hE : sSet v s x = (-2, v) := by unfold sSet; (try simp only [Int.toNat_natCast]); (rw [if_neg (by omega)]) <;> rfl
    exact hR _ _ ⟨_, rfl, by rw [hE], by rw [hE]; exact hV, (fun _ _ => rfl)⟩ rfl _ _ dX2_changeSetting_11
  ·
    refine r_iload_n hc dX2_changeSetting_4 rfl ?_
    refine r_iconst (v := nI 2) hc dX2_changeSetting_5 rfl ?_
    refine r_icmp_le (tgt := 12) hc dX2_changeSetting_6 (by decide) (le_ZN (by omega) (by omega)) (fun c_6 => ?_) (fun c_6 => ?_)
    ·
      rcases (show s = 0 ∨ s = 1 ∨ s = 2 by omega) with rfl | rfl | rfl
      ·
        rw [show zI (0 : Int) = nI 0 from rfl]
        refine r_iload_n hc dX2_changeSetting_12 rfl ?_
        refine r_least (i := 0) (j := 0) (x := 0) (pc2 := 0) hc (gd_in (List.mem_of_getElem? (i := 343) (by decide +kernel)) rfl) dX2_changeSetting_13 (fun t ht => ?_)
        refine r_iload_n hc dX2_changeSetting_16 rfl ?_
        refine ht _ _ _ 0 _ (nI 1) rfl (by decide) rfl dX2_changeSetting_17 ?_
        refine r_icmp_lt (tgt := 30) hc dX2_changeSetting_18 (by decide) (lt_ZN (by omega) (by omega)) (fun c_18 => ?_) (fun c_18 => ?_)
        ·
          refine r_bipush (v := zI (-2)) hc dX2_changeSetting_30 rfl ?_
          have hE : sSet v 0 x = (-2, v) := by unfold sSet; (try simp only [Int.toNat_natCast]); (rw [if_pos (by omega), if_neg (by intro q; have := q.1; have := q.2; simp at *; omega)]) <;> rfl
          exact hR _ _ ⟨_, rfl, by rw [hE], by rw [hE]; exact hV, (fun _ _ => rfl)⟩ rfl _ _ dX2_changeSetting_32
        ·
          refine r_iload_n hc dX2_changeSetting_21 rfl ?_
          refine r_most (i := 0) (j := 0) (x := 0) (pc2 := 0) hc (gd_in (List.mem_of_getElem? (i := 345) (by decide +kernel)) rfl) dX2_changeSetting_22 (fun t ht => ?_)
          refine r_iload_n hc dX2_changeSetting_25 rfl ?_
          refine ht _ _ _ 0 _ (nI 9) rfl (by decide) rfl dX2_changeSetting_26 ?_
          refine r_icmp_le (tgt := 33) hc dX2_changeSetting_27 (by decide) (le_ZN (by omega) (by omega)) (fun c_27 => ?_) (fun c_27 => ?_)
          ·
            obtain ⟨X, rfl⟩ := Int.eq_ofNat_of_zero_le (show 0 ≤ x by omega)
            rw [← nz X]
            refine r_aload_n hc dX2_changeSetting_33 rfl ?_
            refine gf_X2_9 (q := h + 1) hc (HS0 hH) (HR0 hH 0 1 (by decide)) dX2_changeSetting_34 ?_
            refine r_iload_n hc dX2_changeSetting_37 rfl ?_
            refine r_iald (x := nI (v 0)) (j := 0) hc (HSa hH 1 _ rfl) rfl (by omega) (by decide) (HVs hV (by omega)) dX2_changeSetting_38 ?_
            refine r_istore_n (ls' := [(3, .int (nI (v 0))), (0, .ref h), (1, .int (nI 0)), (2, .int (nI X))]) hc dX2_changeSetting_39 (by decide) rfl ?_
            refine r_aload_n hc dX2_changeSetting_40 rfl ?_
            refine gf_X2_9 (q := h + 1) hc (HS0 hH) (HR0 hH 0 1 (by decide)) dX2_changeSetting_41 ?_
            refine r_iload_n hc dX2_changeSetting_44 rfl ?_
            refine r_iload_n hc dX2_changeSetting_45 rfl ?_
            refine r_iast (j := 0) hc (HSa hH 1 _ rfl) rfl (by omega) (by decide) dX2_changeSetting_46 ?_
            generalize hσ1 : s2 σ (h + 1) 0 (nI X) = σ1
            have hV : HV σ1 h (va_up v 0 X) := by rw [← hσ1]; exact hV.set 0 _ (by omega) (by omega) (by omega) (by omega)
            refine r_iload_n hc dX2_changeSetting_47 rfl ?_
            have hE : sSet v 0 (X : Int) = (((v 0 : Nat) : Int), va_up v 0 X) := by unfold sSet; (try simp only [Int.toNat_natCast]); (rw [if_pos (by omega), if_pos ⟨by simp <;> omega, by simp <;> omega⟩]) <;> rfl
            exact hR _ _ ⟨_, rfl, by rw [hE]; exact nz _, by rw [hE]; exact hV, (fun q hq => by rw [← hσ1, s2_ne (show q ≠ h + 1 by omega)])⟩ rfl _ _ dX2_changeSetting_48
          ·
            refine r_bipush (v := zI (-2)) hc dX2_changeSetting_30 rfl ?_
            have hE : sSet v 0 x = (-2, v) := by unfold sSet; (try simp only [Int.toNat_natCast]); (rw [if_pos (by omega), if_neg (by intro q; have := q.1; have := q.2; simp at *; omega)]) <;> rfl
            exact hR _ _ ⟨_, rfl, by rw [hE], by rw [hE]; exact hV, (fun _ _ => rfl)⟩ rfl _ _ dX2_changeSetting_32
      ·
        rw [show zI (1 : Int) = nI 1 from rfl]
        refine r_iload_n hc dX2_changeSetting_12 rfl ?_
        refine r_least (i := 0) (j := 0) (x := 0) (pc2 := 0) hc (gd_in (List.mem_of_getElem? (i := 343) (by decide +kernel)) rfl) dX2_changeSetting_13 (fun t ht => ?_)
        refine r_iload_n hc dX2_changeSetting_16 rfl ?_
        refine ht _ _ _ 1 _ (nI 0) rfl (by decide) rfl dX2_changeSetting_17 ?_
        refine r_icmp_lt (tgt := 30) hc dX2_changeSetting_18 (by decide) (lt_ZN (by omega) (by omega)) (fun c_18 => ?_) (fun c_18 => ?_)
        ·
          refine r_bipush (v := zI (-2)) hc dX2_changeSetting_30 rfl ?_
          have hE : sSet v 1 x = (-2, v) := by unfold sSet; (try simp only [Int.toNat_natCast]); (rw [if_pos (by omega), if_neg (by intro q; have := q.1; have := q.2; simp at *; omega)]) <;> rfl
          exact hR _ _ ⟨_, rfl, by rw [hE], by rw [hE]; exact hV, (fun _ _ => rfl)⟩ rfl _ _ dX2_changeSetting_32
        ·
          refine r_iload_n hc dX2_changeSetting_21 rfl ?_
          refine r_most (i := 0) (j := 0) (x := 0) (pc2 := 0) hc (gd_in (List.mem_of_getElem? (i := 345) (by decide +kernel)) rfl) dX2_changeSetting_22 (fun t ht => ?_)
          refine r_iload_n hc dX2_changeSetting_25 rfl ?_
          refine ht _ _ _ 1 _ (nI 50) rfl (by decide) rfl dX2_changeSetting_26 ?_
          refine r_icmp_le (tgt := 33) hc dX2_changeSetting_27 (by decide) (le_ZN (by omega) (by omega)) (fun c_27 => ?_) (fun c_27 => ?_)
          ·
            obtain ⟨X, rfl⟩ := Int.eq_ofNat_of_zero_le (show 0 ≤ x by omega)
            rw [← nz X]
            refine r_aload_n hc dX2_changeSetting_33 rfl ?_
            refine gf_X2_9 (q := h + 1) hc (HS0 hH) (HR0 hH 0 1 (by decide)) dX2_changeSetting_34 ?_
            refine r_iload_n hc dX2_changeSetting_37 rfl ?_
            refine r_iald (x := nI (v 1)) (j := 1) hc (HSa hH 1 _ rfl) rfl (by omega) (by decide) (HVs hV (by omega)) dX2_changeSetting_38 ?_
            refine r_istore_n (ls' := [(3, .int (nI (v 1))), (0, .ref h), (1, .int (nI 1)), (2, .int (nI X))]) hc dX2_changeSetting_39 (by decide) rfl ?_
            refine r_aload_n hc dX2_changeSetting_40 rfl ?_
            refine gf_X2_9 (q := h + 1) hc (HS0 hH) (HR0 hH 0 1 (by decide)) dX2_changeSetting_41 ?_
            refine r_iload_n hc dX2_changeSetting_44 rfl ?_
            refine r_iload_n hc dX2_changeSetting_45 rfl ?_
            refine r_iast (j := 1) hc (HSa hH 1 _ rfl) rfl (by omega) (by decide) dX2_changeSetting_46 ?_
            generalize hσ2 : s2 σ (h + 1) 1 (nI X) = σ2
            have hV : HV σ2 h (va_up v 1 X) := by rw [← hσ2]; exact hV.set 1 _ (by omega) (by omega) (by omega) (by omega)
            refine r_iload_n hc dX2_changeSetting_47 rfl ?_
            have hE : sSet v 1 (X : Int) = (((v 1 : Nat) : Int), va_up v 1 X) := by unfold sSet; (try simp only [Int.toNat_natCast]); (rw [if_pos (by omega), if_pos ⟨by simp <;> omega, by simp <;> omega⟩]) <;> rfl
            exact hR _ _ ⟨_, rfl, by rw [hE]; exact nz _, by rw [hE]; exact hV, (fun q hq => by rw [← hσ2, s2_ne (show q ≠ h + 1 by omega)])⟩ rfl _ _ dX2_changeSetting_48
          ·
            refine r_bipush (v := zI (-2)) hc dX2_changeSetting_30 rfl ?_
            have hE : sSet v 1 x = (-2, v) := by unfold sSet; (try simp only [Int.toNat_natCast]); (rw [if_pos (by omega), if_neg (by intro q; have := q.1; have := q.2; simp at *; omega)]) <;> rfl
            exact hR _ _ ⟨_, rfl, by rw [hE], by rw [hE]; exact hV, (fun _ _ => rfl)⟩ rfl _ _ dX2_changeSetting_32
      ·
        rw [show zI (2 : Int) = nI 2 from rfl]
        refine r_iload_n hc dX2_changeSetting_12 rfl ?_
        refine r_least (i := 0) (j := 0) (x := 0) (pc2 := 0) hc (gd_in (List.mem_of_getElem? (i := 343) (by decide +kernel)) rfl) dX2_changeSetting_13 (fun t ht => ?_)
        refine r_iload_n hc dX2_changeSetting_16 rfl ?_
        refine ht _ _ _ 2 _ (nI 40) rfl (by decide) rfl dX2_changeSetting_17 ?_
        refine r_icmp_lt (tgt := 30) hc dX2_changeSetting_18 (by decide) (lt_ZN (by omega) (by omega)) (fun c_18 => ?_) (fun c_18 => ?_)
        ·
          refine r_bipush (v := zI (-2)) hc dX2_changeSetting_30 rfl ?_
          have hE : sSet v 2 x = (-2, v) := by unfold sSet; (try simp only [Int.toNat_natCast]); (rw [if_pos (by omega), if_neg (by intro q; have := q.1; have := q.2; simp at *; omega)]) <;> rfl
          exact hR _ _ ⟨_, rfl, by rw [hE], by rw [hE]; exact hV, (fun _ _ => rfl)⟩ rfl _ _ dX2_changeSetting_32
        ·
          refine r_iload_n hc dX2_changeSetting_21 rfl ?_
          refine r_most (i := 0) (j := 0) (x := 0) (pc2 := 0) hc (gd_in (List.mem_of_getElem? (i := 345) (by decide +kernel)) rfl) dX2_changeSetting_22 (fun t ht => ?_)
          refine r_iload_n hc dX2_changeSetting_25 rfl ?_
          refine ht _ _ _ 2 _ (nI 90) rfl (by decide) rfl dX2_changeSetting_26 ?_
          refine r_icmp_le (tgt := 33) hc dX2_changeSetting_27 (by decide) (le_ZN (by omega) (by omega)) (fun c_27 => ?_) (fun c_27 => ?_)
          ·
            obtain ⟨X, rfl⟩ := Int.eq_ofNat_of_zero_le (show 0 ≤ x by omega)
            rw [← nz X]
            refine r_aload_n hc dX2_changeSetting_33 rfl ?_
            refine gf_X2_9 (q := h + 1) hc (HS0 hH) (HR0 hH 0 1 (by decide)) dX2_changeSetting_34 ?_
            refine r_iload_n hc dX2_changeSetting_37 rfl ?_
            refine r_iald (x := nI (v 2)) (j := 2) hc (HSa hH 1 _ rfl) rfl (by omega) (by decide) (HVs hV (by omega)) dX2_changeSetting_38 ?_
            refine r_istore_n (ls' := [(3, .int (nI (v 2))), (0, .ref h), (1, .int (nI 2)), (2, .int (nI X))]) hc dX2_changeSetting_39 (by decide) rfl ?_
            refine r_aload_n hc dX2_changeSetting_40 rfl ?_
            refine gf_X2_9 (q := h + 1) hc (HS0 hH) (HR0 hH 0 1 (by decide)) dX2_changeSetting_41 ?_
            refine r_iload_n hc dX2_changeSetting_44 rfl ?_
            refine r_iload_n hc dX2_changeSetting_45 rfl ?_
            refine r_iast (j := 2) hc (HSa hH 1 _ rfl) rfl (by omega) (by decide) dX2_changeSetting_46 ?_
            generalize hσ3 : s2 σ (h + 1) 2 (nI X) = σ3
            have hV : HV σ3 h (va_up v 2 X) := by rw [← hσ3]; exact hV.set 2 _ (by omega) (by omega) (by omega) (by omega)
            refine r_iload_n hc dX2_changeSetting_47 rfl ?_
            have hE : sSet v 2 (X : Int) = (((v 2 : Nat) : Int), va_up v 2 X) := by unfold sSet; (try simp only [Int.toNat_natCast]); (rw [if_pos (by omega), if_pos ⟨by simp <;> omega, by simp <;> omega⟩]) <;> rfl
            exact hR _ _ ⟨_, rfl, by rw [hE]; exact nz _, by rw [hE]; exact hV, (fun q hq => by rw [← hσ3, s2_ne (show q ≠ h + 1 by omega)])⟩ rfl _ _ dX2_changeSetting_48
          ·
            refine r_bipush (v := zI (-2)) hc dX2_changeSetting_30 rfl ?_
            have hE : sSet v 2 x = (-2, v) := by unfold sSet; (try simp only [Int.toNat_natCast]); (rw [if_pos (by omega), if_neg (by intro q; have := q.1; have := q.2; simp at *; omega)]) <;> rfl
            exact hR _ _ ⟨_, rfl, by rw [hE], by rw [hE]; exact hV, (fun _ _ => rfl)⟩ rfl _ _ dX2_changeSetting_32
    ·
      refine r_bipush (v := zI (-2)) hc dX2_changeSetting_9 rfl ?_
      have hE : sSet v s x = (-2, v) := by unfold sSet; (try simp only [Int.toNat_natCast]); (rw [if_neg (by omega)]) <;> rfl
      exact hR _ _ ⟨_, rfl, by rw [hE], by rw [hE]; exact hV, (fun _ _ => rfl)⟩ rfl _ _ dX2_changeSetting_11
set_option maxRecDepth 100000 in
set_option maxHeartbeats 4000000 in
theorem c_X2_carryPlanned {Ω : OmT} {z : Nat} {sh : Nat → Option Kd} {σ : Nat → Nat → Int32} {ρ : Nat → Nat → Option Nat} {h : Nat} {v : Nat → Nat} (hH : HSh sh ρ h) (hV : HV σ h v) (hok : okR v) (hbx : v 7 ≤ 1000000000) {p : Nat} (hp0 : p < v 9) : CtI Ω yX2_carryPlanned cX2_carryPlanned 2 .int rm_X2_carryPlanned [.ref h, .int (nI p)] (z, sh, σ, ρ) (HPost z sh σ ρ h (sCut v (v (150 + 3 * p)) (v (150 + 3 * p + 1)) (v (150 + 3 * p + 2)))) := by
  have hok1 := hok
  obtain ⟨⟨h01, h02⟩, hl1, ⟨h21, h22⟩, h3, h4, h5, h9, hdo, hke, hpn, hpd, htc⟩ := hok1
  have hdr : ∀ d, d < v 4 → v (20 + 6 * d + 2) < 10000 ∧ v (20 + 6 * d + 3) < 10000 := fun d hd => ⟨(hdo d hd).2.2.1, (hdo d hd).2.2.2⟩
  have hcu : ∀ k, k < v 5 → v (80 + 4 * k) < 10000 := fun k hk => (hke k hk).1
  have hwh : ∀ k, k < v 5 → v (80 + 4 * k + 2) ≤ 9 := fun k hk => (hke k hk).2.2
  have hky : ∀ k, k < v 5 → v (80 + 4 * k) < 10000 ∧ v (80 + 4 * k + 2) ≤ 9 ∧ 40 ≤ v (80 + 4 * k + 1) ∧ v (80 + 4 * k + 1) ≤ 90 := fun k hk => ⟨(hke k hk).1, (hke k hk).2.2, (hke k hk).2.1⟩
  have hpl : ∀ p, p < v 9 → v (150 + 3 * p) < 10 := fun p hp => by have := (hpn p hp).1; omega
  refine CtI.enter (by decide) (Nat.le_of_ble_eq_true rfl) (fun Φ hc hR => ?_)
  show Vw Ω Φ (z, sh, σ, ρ) (0, 0) 0 [(0, .ref h), (1, .int (nI p))] []
  refine r_iload_n hc dX2_carryPlanned_0 rfl ?_
  refine r_if_lt (tgt := 15) hc dX2_carryPlanned_1 (by decide) (l0_N (by omega)) (fun c_1 => ?_) (fun c_1 => ?_)
  ·
    exact c_1.elim
  ·
    refine r_iload_n hc dX2_carryPlanned_4 rfl ?_
    refine r_aload_n hc dX2_carryPlanned_5 rfl ?_
    refine gf_X2_30 (q := h + 4) hc (HS0 hH) (HR0 hH 3 4 (by decide)) dX2_carryPlanned_6 ?_
    refine gf_X2_142 (x := nI (v 9)) hc (HSa hH 4 _ rfl) (HVp hV) dX2_carryPlanned_9 ?_
    refine r_icmp_lt (tgt := 17) hc dX2_carryPlanned_12 (by decide) (lt_NN (by omega) (by omega)) (fun c_12 => ?_) (fun c_12 => ?_)
    ·
      have hpp := hpn p (by omega)
      refine r_aload_n hc dX2_carryPlanned_17 rfl ?_
      refine r_aload_n hc dX2_carryPlanned_18 rfl ?_
      refine gf_X2_30 (q := h + 4) hc (HS0 hH) (HR0 hH 3 4 (by decide)) dX2_carryPlanned_19 ?_
      refine gf_X2_148 (q := h + 5) hc (HSa hH 4 _ rfl) (HR4 hH 0 5 (by decide)) dX2_carryPlanned_22 ?_
      refine r_iload_n hc dX2_carryPlanned_25 rfl ?_
      refine r_iald (x := nI (v (150 + 3 * p))) (j := p) hc (HSa hH 5 _ rfl) rfl (by omega) (by decide) (HVp0 hV (by omega)) dX2_carryPlanned_26 ?_
      refine r_aload_n hc dX2_carryPlanned_27 rfl ?_
      refine gf_X2_30 (q := h + 4) hc (HS0 hH) (HR0 hH 3 4 (by decide)) dX2_carryPlanned_28 ?_
      refine gf_X2_150 (q := h + 6) hc (HSa hH 4 _ rfl) (HR4 hH 1 6 (by decide)) dX2_carryPlanned_31 ?_
      refine r_iload_n hc dX2_carryPlanned_34 rfl ?_
      refine r_iald (x := nI (v (150 + 3 * p + 1))) (j := p) hc (HSa hH 6 _ rfl) rfl (by omega) (by decide) (HVp1 hV (by omega)) dX2_carryPlanned_35 ?_
      refine r_aload_n hc dX2_carryPlanned_36 rfl ?_
      refine gf_X2_30 (q := h + 4) hc (HS0 hH) (HR0 hH 3 4 (by decide)) dX2_carryPlanned_37 ?_
      refine gf_X2_153 (q := h + 7) hc (HSa hH 4 _ rfl) (HR4 hH 2 7 (by decide)) dX2_carryPlanned_40 ?_
      refine r_iload_n hc dX2_carryPlanned_43 rfl ?_
      refine r_iald (x := nI (v (150 + 3 * p + 2))) (j := p) hc (HSa hH 7 _ rfl) rfl (by omega) (by decide) (HVp2 hV (by omega)) dX2_carryPlanned_44 ?_
      refine cl_X2_156 (As := [.int (nI (v (150 + 3 * p))), .int (nI (v (150 + 3 * p + 1))), .int (nI (v (150 + 3 * p + 2)))]) hc (by have q := c_X2_cutAnew (Ω := Ω) (z := z) (ρ := ρ) hH hV hok hbx (d := ((v (150 + 3 * p) : Nat) : Int)) (f := ((v (150 + 3 * p + 1) : Nat) : Int)) (s := ((v (150 + 3 * p + 2) : Nat) : Int)) (by omega) (by omega) (by omega); simp only [← nz] at q; exact q) (HS0 hH) rfl ⟨by decide, by decide⟩ ⟨rfl, rfl⟩ ⟨by decide, by decide⟩ rfl (Nat.le_of_ble_eq_true rfl) dX2_carryPlanned_45 (fun r u hp => ?_)
      obtain ⟨σ1, hu, hr, hV1, hfr⟩ := hp
      subst hr
      rw [hu]
      exact hR _ _ ⟨_, rfl, rfl, hV1, hfr⟩ rfl _ _ dX2_carryPlanned_48
    ·
      refine r_iconst (v := zI (-1)) hc dX2_carryPlanned_15 rfl ?_
      exact absurd hp0 (by omega)
