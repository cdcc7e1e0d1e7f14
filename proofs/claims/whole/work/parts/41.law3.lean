/-! ===== the law ===== -/
set_option maxRecDepth 100000 in
set_option maxHeartbeats 4000000 in
theorem law_loop {Ω : OmT} {Φ : PhT} {z : Nat} {sh : Nat → Option Kd} {P M b L : Nat} {xs : Nat → Int32} (hc : CXp Ω Φ cL_law RL room_1 4) (hX : va_X b L xs Φ.2.2.2.1 Φ.2.2.2.1.heap) (hbO : b < Ω.2.2.2) (hPM : P + 391 ≤ M) (hL : L ≤ 2560) (hend : ∀ (S : StT) (pc : Nat) (ls : List (Nat × Value)), decode cL_law pc = .ok (.ireturn, 1) → Vw Ω Φ S (600000, 7302250) pc ls [.int (nI 1)]) : ∀ (n i : Nat) (σ : Nat → Nat → Int32) (ρ : Nat → Nat → Option Nat) (v : Nat → Nat) (nu : Nat) (hf : Nat → Nat) (fl : Nat → Bool) (sv p : Nat → Nat) (ln : Nat), Rel (27000 * i) sh σ ρ P M v nu hf fl sv p ln → L + 10 - i < n → i ≤ L + 5 → Vw Ω Φ (z, sh, σ, ρ) (600000, 7302250) 18 [(0, .ref b), (1, .ref P), (2, .ref M), (3, .int (nI i))] [] := by
  intro n
  induction n with
  | zero => intro i σ ρ v nu hf fl sv p ln hR hm; exact absurd hm (Nat.not_lt_zero _)
  | succ n ihn =>
    intro i σ ρ v nu hf fl sv p ln hR hm hiL
    refine r_iload_n hc dL_law_18 rfl ?_
    refine r_aload_n hc dL_law_19 rfl ?_
    refine r_slen hc hX hbO dL_law_20 ?_
    refine r_iconst (v := nI 5) hc dL_law_21 rfl ?_
    refine r_isub (v := zI (((L : Nat) : Int) - ((5 : Nat) : Int))) hc dL_law_22 (sb_NN _ _) ?_
    refine r_icmp_gt (tgt := 941) hc dL_law_23 (by decide) (lt_ZN (by omega) (by omega)) (fun c_23 => ?_) (fun c_23 => ?_)
    · refine r_iconst (v := nI 1) hc dL_law_941 rfl ?_
      exact hend _ _ _ dL_law_942
    · have hi5 : i + 5 ≤ L := by omega
      have hB : 27000 * i ≤ 800000000 := by omega
      have ih : ∀ (σ : Nat → Nat → Int32) (ρ : Nat → Nat → Option Nat) (v : Nat → Nat) (nu : Nat) (hf : Nat → Nat) (fl : Nat → Bool) (sv p : Nat → Nat) (ln : Nat), Rel (27000 * i + 27000) sh σ ρ P M v nu hf fl sv p ln → Vw Ω Φ (z, sh, σ, ρ) (600000, 7302250) 935 [(0, .ref b), (1, .ref P), (2, .ref M), (3, .int (nI i))] [] := by
        intro σ ρ v nu hf fl sv p ln hR
        refine r_iinc (v := nI (i + 5)) (ls' := [(3, .int (nI (i + 5))), (0, .ref b), (1, .ref P), (2, .ref M)]) hc dL_law_935 rfl (ad_NN _ 5) (by decide) rfl ?_
        refine r_goto (tgt := 18) hc dL_law_938 (by decide) ?_
        refine r_locp [1, 2, 3, 0] (ls' := [(0, .ref b), (1, .ref P), (2, .ref M), (3, .int (nI (i + 5)))]) rfl ?_
        exact ihn (i + 5) σ ρ v nu hf fl sv p ln ⟨hR.1, hR.2.1, hR.2.2.mono (by omega)⟩ (by omega) (by omega)
      refine r_aload_n hc dL_law_26 rfl ?_
      refine r_iload_n hc dL_law_27 rfl ?_
      refine r_sld (j := i) hc hX hbO hL rfl (by omega) rfl dL_law_28 ?_
      refine r_bipush (v := nI 31) hc dL_law_29 rfl ?_
      obtain ⟨c, hc32, hce⟩ := and31 (xs i)
      refine r_iand (v := nI c) hc dL_law_31 hce ?_
      rcases (show c = 0 ∨ c = 1 ∨ c = 2 ∨ c = 3 ∨ c = 4 ∨ c = 5 ∨ c = 6 ∨ c = 7 ∨ c = 8 ∨ c = 9 ∨ c = 10 ∨ c = 11 ∨ c = 12 ∨ c = 13 ∨ c = 14 ∨ c = 15 ∨ c = 16 ∨ c = 17 ∨ c = 18 ∨ c = 19 ∨ c = 20 ∨ c = 21 ∨ c = 22 ∨ c = 23 ∨ c = 24 ∨ c = 25 ∨ c = 26 ∨ c = 27 ∨ c = 28 ∨ c = 29 ∨ c = 30 ∨ c = 31 by omega) with rfl | rfl | rfl | rfl | rfl | rfl | rfl | rfl | rfl | rfl | rfl | rfl | rfl | rfl | rfl | rfl | rfl | rfl | rfl | rfl | rfl | rfl | rfl | rfl | rfl | rfl | rfl | rfl | rfl | rfl | rfl | rfl
      · refine r_tableIn (off := 140) (tgt := 172) hc dL_law_32 (by decide) (by decide) (by decide) (by decide) ?_
        exact lc_set hc hX hbO hPM hR hB hi5 hL ih
      · refine r_tableIn (off := 173) (tgt := 205) hc dL_law_32 (by decide) (by decide) (by decide) (by decide) ?_
        exact lc_brass hc hX hbO hPM hR hB hi5 hL ih
      · refine r_tableIn (off := 196) (tgt := 228) hc dL_law_32 (by decide) (by decide) (by decide) (by decide) ?_
        exact lc_door hc hX hbO hPM hR hB hi5 hL ih
      · refine r_tableIn (off := 249) (tgt := 281) hc dL_law_32 (by decide) (by decide) (by decide) (by decide) ?_
        exact lc_cut hc hX hbO hPM hR hB hi5 hL ih
      · refine r_tableIn (off := 292) (tgt := 324) hc dL_law_32 (by decide) (by decide) (by decide) (by decide) ?_
        exact lc_key hc hX hbO hPM hR hB hi5 hL ih
      · refine r_tableIn (off := 325) (tgt := 357) hc dL_law_32 (by decide) (by decide) (by decide) (by decide) ?_
        exact lc_melt hc hX hbO hPM hR hB hi5 hL ih
      · refine r_tableIn (off := 348) (tgt := 380) hc dL_law_32 (by decide) (by decide) (by decide) (by decide) ?_
        exact lc_take hc hX hbO hPM hR hB hi5 hL ih
      · refine r_tableIn (off := 371) (tgt := 403) hc dL_law_32 (by decide) (by decide) (by decide) (by decide) ?_
        exact lc_putDown hc hX hbO hPM hR hB hi5 hL ih
      · refine r_tableIn (off := 394) (tgt := 426) hc dL_law_32 (by decide) (by decide) (by decide) (by decide) ?_
        exact lc_go hc hX hbO hPM hR hB hi5 hL ih
      · refine r_tableIn (off := 417) (tgt := 449) hc dL_law_32 (by decide) (by decide) (by decide) (by decide) ?_
        exact lc_plan hc hX hbO hPM hR hB hi5 hL ih
      · refine r_tableIn (off := 460) (tgt := 492) hc dL_law_32 (by decide) (by decide) (by decide) (by decide) ?_
        exact lc_dropPlan hc hX hbO hPM hR hB hi5 hL ih
      · refine r_tableIn (off := 473) (tgt := 505) hc dL_law_32 (by decide) (by decide) (by decide) (by decide) ?_
        exact lc_carryPlan hc hX hbO hPM hR hB hi5 hL ih
      · refine r_tableIn (off := 486) (tgt := 518) hc dL_law_32 (by decide) (by decide) (by decide) (by decide) ?_
        exact lc_ofDoor hc hX hbO hPM hR hB hi5 hL ih
      · refine r_tableIn (off := 519) (tgt := 551) hc dL_law_32 (by decide) (by decide) (by decide) (by decide) ?_
        exact lc_ofKey hc hX hbO hPM hR hB hi5 hL ih
      · refine r_tableIn (off := 552) (tgt := 584) hc dL_law_32 (by decide) (by decide) (by decide) (by decide) ?_
        exact lc_count hc hX hbO hPM hR hB hi5 hL ih
      · refine r_tableIn (off := 575) (tgt := 607) hc dL_law_32 (by decide) (by decide) (by decide) (by decide) ?_
        exact lc_opens hc hX hbO hPM hR hB hi5 hL ih
      · refine r_tableIn (off := 608) (tgt := 640) hc dL_law_32 (by decide) (by decide) (by decide) (by decide) ?_
        exact lc_chanceKeys hc hX hbO hPM hR hB hi5 hL ih
      · refine r_tableIn (off := 631) (tgt := 663) hc dL_law_32 (by decide) (by decide) (by decide) (by decide) ?_
        exact lc_justFor hc hX hbO hPM hR hB hi5 hL ih
      · refine r_tableIn (off := 654) (tgt := 686) hc dL_law_32 (by decide) (by decide) (by decide) (by decide) ?_
        exact lc_reach hc hX hbO hPM hR hB hi5 hL ih
      · refine r_tableIn (off := 667) (tgt := 699) hc dL_law_32 (by decide) (by decide) (by decide) (by decide) ?_
        exact lc_doorsTo hc hX hbO hPM hR hB hi5 hL ih
      · refine r_tableIn (off := 690) (tgt := 722) hc dL_law_32 (by decide) (by decide) (by decide) (by decide) ?_
        exact lc_planOrder hc hX hbO hPM hR hB hi5 hL ih
      · refine r_tableIn (off := 713) (tgt := 745) hc dL_law_32 (by decide) (by decide) (by decide) (by decide) ?_
        exact lc_planOrders hc hX hbO hPM hR hB hi5 hL ih
      · refine r_tableIn (off := 726) (tgt := 758) hc dL_law_32 (by decide) (by decide) (by decide) (by decide) ?_
        exact lc_mustBeLast hc hX hbO hPM hR hB hi5 hL ih
      · refine r_tableIn (off := 739) (tgt := 771) hc dL_law_32 (by decide) (by decide) (by decide) (by decide) ?_
        exact lc_brassForPlan hc hX hbO hPM hR hB hi5 hL ih
      · refine r_tableIn (off := 752) (tgt := 784) hc dL_law_32 (by decide) (by decide) (by decide) (by decide) ?_
        exact lc_put hc hX hbO hPM hR hB hi5 hL ih
      · refine r_tableIn (off := 805) (tgt := 837) hc dL_law_32 (by decide) (by decide) (by decide) (by decide) ?_
        exact lc_wipe hc hX hbO hPM hR hB hi5 hL ih
      · refine r_tableIn (off := 818) (tgt := 850) hc dL_law_32 (by decide) (by decide) (by decide) (by decide) ?_
        exact lc_fault hc hX hbO hPM hR hB hi5 hL ih
      · refine r_tableIn (off := 831) (tgt := 863) hc dL_law_32 (by decide) (by decide) (by decide) (by decide) ?_
        exact lc_carryOut hc hX hbO hPM hR hB hi5 hL ih
      · refine r_tableIn (off := 844) (tgt := 876) hc dL_law_32 (by decide) (by decide) (by decide) (by decide) ?_
        exact lc_undo hc hX hbO hPM hR hB hi5 hL ih
      · refine r_tableIn (off := 857) (tgt := 889) hc dL_law_32 (by decide) (by decide) (by decide) (by decide) ?_
        exact lc_save hc hX hbO hPM hR hB hi5 hL ih
      · refine r_tableIn (off := 880) (tgt := 912) hc dL_law_32 (by decide) (by decide) (by decide) (by decide) ?_
        exact lc_restore hc hX hbO hPM hR hB hi5 hL ih
      · refine r_tableOut (tgt := 935) hc dL_law_32 (by decide) (by decide) ?_
        exact ih _ _ _ _ _ _ _ _ _ ⟨hR.1, hR.2.1, hR.2.2.mono (by omega)⟩
set_option maxRecDepth 100000 in
set_option maxHeartbeats 4000000 in
theorem law_walk {Ω : OmT} {Φ : PhT} {b L P : Nat} {xs : Nat → Int32} (hc : CXp Ω Φ cL_law RL room_1 4) (hX : va_X b L xs Φ.2.2.2.1 Φ.2.2.2.1.heap) (hbO : b < Ω.2.2.2) (hL : L ≤ 2560) (hend : ∀ (S : StT) (pc : Nat) (ls : List (Nat × Value)), decode cL_law pc = .ok (.ireturn, 1) → Vw Ω Φ S (600000, 7302250) pc ls [.int (nI 1)]) : Vw Ω Φ (P, fun _ => none, fun _ _ => 0, fun _ _ => none) (0, 0) 0 [(0, .ref b)] [] := by
  refine nw_L_7 hc ⟨Nat.le_of_ble_eq_true rfl, Nat.le_of_ble_eq_true rfl⟩ dL_law_0 ?_
  refine r_dup hc dL_law_3 rfl ?_
  refine cl_L_9 (As := []) hc (c_X11_init rfl (va_up_at _ _ _) (fun k => by rw [va_up_at])) rfl ⟨Nat.le_of_ble_eq_true rfl, Nat.le_of_ble_eq_true rfl⟩ ⟨Nat.le_of_ble_eq_true rfl, Nat.le_of_ble_eq_true rfl⟩ rfl (Nat.le_of_ble_eq_true rfl) dL_law_4 (fun u hu => ?_)
  obtain ⟨sh1, σ1, ρ1, hu, hCs, ⟨hV, hn0, hfl0, hl0⟩, ⟨hb1, hst⟩, hsl, hF1⟩ := hu
  rw [hu]
  show Vw Ω Φ (P + 391, sh1, σ1, ρ1) (391, 6264) 7 [(0, .ref b)] [.ref P]
  refine r_astore_n (ls' := [(1, .ref P), (0, .ref b)]) hc dL_law_7 (by decide) rfl ?_
  refine nw_L_10 hc ⟨Nat.le_of_ble_eq_true rfl, Nat.le_of_ble_eq_true rfl⟩ dL_law_8 ?_
  show Vw Ω Φ (P + 392, va_up sh1 (P + 391) (some (.inl 11)), va_up σ1 (P + 391) (fun _ => 0), va_up ρ1 (P + 391) (fun _ => none)) (392, 6283) 11 [(1, .ref P), (0, .ref b)] [.ref (P + 391)]
  generalize hsh2 : va_up sh1 (P + 391) (some (.inl 11)) = sh2
  generalize hσ2 : va_up σ1 (P + 391) (fun _ => 0) = σ2
  generalize hρ2 : va_up ρ1 (P + 391) (fun _ => none) = ρ2
  have hF2 : FrmQ (P + 391) sh1 σ1 ρ1 sh2 σ2 ρ2 := fun q hq => ⟨by rw [← hsh2, va_up_off (by omega)], by rw [← hσ2, va_up_off (by omega)], by rw [← hρ2, va_up_off (by omega)]⟩
  refine r_dup hc dL_law_11 rfl ?_
  refine cl_L_12 (As := []) hc (c_X12_init rfl (by rw [← hsh2, va_up_at]) (fun k => by rw [← hσ2, va_up_at])) rfl ⟨Nat.le_of_ble_eq_true rfl, Nat.le_of_ble_eq_true rfl⟩ ⟨Nat.le_of_ble_eq_true rfl, Nat.le_of_ble_eq_true rfl⟩ rfl (Nat.le_of_ble_eq_true rfl) dL_law_12 (fun u hu => ?_)
  obtain ⟨sh3, σ3, ρ3, hu, hMs, hrow, hz0, hz4, hF3⟩ := hu
  rw [hu]
  have hF := hF2.trans hF3 (Nat.le_refl _)
  refine r_room (n2 := (600000, 7302250)) (Nat.le_of_ble_eq_true rfl) (Nat.le_of_ble_eq_true rfl) ?_
  refine r_astore_n (ls' := [(2, .ref (P + 391)), (1, .ref P), (0, .ref b)]) hc dL_law_15 (by decide) rfl ?_
  refine r_iconst (v := nI 0) hc dL_law_16 rfl ?_
  refine r_istore_n (ls' := [(3, .int (nI 0)), (2, .ref (P + 391)), (1, .ref P), (0, .ref b)]) hc dL_law_17 (by decide) rfl ?_
  refine r_locp [3, 2, 1, 0] (ls' := [(0, .ref b), (1, .ref P), (2, .ref (P + 391)), (3, .int (nI 0))]) rfl ?_
  have hC : CSt sh3 σ3 ρ3 P 0 (fun d => d + 1) rowI 0 (fun _ => 0) (fun _ => false) (fun _ => 0) (fun _ => 0) 0 := by
    refine ⟨⟨hCs.keep (fun q q1 q2 => (hF q (by omega)).1) (fun q q1 q2 q3 q4 q5 => (hF q (by omega)).2.2) (fun k hk => by rw [(hF P (by omega)).2.2]), fun d hd => ⟨(hsl d hd).1.keep (fun q q1 q2 => ⟨(hF q (by omega)).1, (hF q (by omega)).2.2⟩), by rw [(hF _ (by omega)).2.2]; exact (hsl d hd).2⟩⟩, ⟨by rw [(hF P (by omega)).2.2]; exact hb1, fun d hd => ?_, by omega, fun d hd => ⟨by show d + 1 < 7; omega, by show d + 1 ≠ 0; omega⟩, fun d e hd he hde => by have h9 : d + 1 = e + 1 := hde; omega⟩, ⟨hV.keepI (fun q q1 q2 => (hF q (by omega)).2.1), okR_I⟩, ⟨by omega, by rw [(hF _ (by omega)).2.1]; exact hn0, fun j hj => absurd hj (Nat.not_lt_zero _)⟩, fun d hd => ⟨by rw [(hF _ (by omega)).2.1]; exact hfl0 d, fun q => Bool.noConfusion q⟩, ⟨by rw [(hF _ (by omega)).2.1]; exact hl0, rowAt.zero, by omega, fun j hj => absurd hj (Nat.not_lt_zero _)⟩⟩
    rw [(hF _ (by omega)).2.2, hst d hd]
    show some (P + 71 + 34 * d) = some (bsP P (d + 1))
    unfold bsP
    rw [if_neg (by omega), show P + 37 + 34 * (d + 1) = P + 71 + 34 * d by omega]
  obtain ⟨sv0, hsv0⟩ : ∃ sv0 : Nat → Nat, rowAt σ3 (P + 391 + 3) 340 sv0 := ⟨fun j => (σ3 (P + 391 + 3) j).toUInt32.toNat, fun j _ => nIx_of _⟩
  have hC2 : CSt sh3 σ3 ρ3 P 0 (fun d => d + 1) rowI 0 (fun _ => 0) (fun _ => false) sv0 (fun _ => 0) 0 := ⟨hC.1, hC.2.1, hC.2.2.1, hC.2.2.2.1, fun d hd => ⟨(hC.2.2.2.2.1 d hd).1, fun q => Bool.noConfusion q⟩, hC.2.2.2.2.2⟩
  exact law_loop hc hX hbO (Nat.le_refl _) hL hend _ 0 σ3 ρ3 rowI 0 (fun _ => 0) (fun _ => false) sv0 (fun _ => 0) 0 ⟨⟨0, fun d => d + 1, hC2⟩, ⟨hMs, hrow, ⟨hz0 2, fun j hj => absurd hj (by show ¬ j < 0 * 170; omega)⟩, hz0 7, hsv0, fun j hj => hz4 j, hz0 6, rowAt.zero⟩, ⟨Nat.le_of_ble_eq_true rfl, fun j hj => absurd hj (Nat.not_lt_zero _), fun d hd q => Bool.noConfusion q⟩⟩ (Nat.lt_succ_self _) (Nat.zero_le _)
