set_option maxRecDepth 100000 in
set_option maxHeartbeats 4000000 in
theorem c_X12_isDoor {Ω : OmT} {z : Nat} {sh : Nat → Option Kd} {σ : Nat → Nat → Int32} {ρ : Nat → Nat → Option Nat} {M : Nat} {v : Nat → Nat} (hM : MSh sh ρ M) (hv : rowAt σ (M + 1) 170 v) {x : Int} (hx : -2147483648 ≤ x ∧ x < 2147483648) (h4 : v 4 ≤ 10) : CtI Ω yX12_isDoor cX12_isDoor 2 .boolean rm_X12_isDoor [.ref M, .int (zI x)] (z, sh, σ, ρ) (fun r u => r = bI (decide (0 ≤ x ∧ x ≤ ((v 4 : Nat) : Int) - 1)) ∧ u = (z, sh, σ, ρ)) := by
  refine CtI.enter (by decide) (Nat.le_of_ble_eq_true rfl) (fun Φ hc hR => ?_)
  show Vw Ω Φ (z, sh, σ, ρ) (0, 0) 0 [(0, .ref M), (1, .int (zI x))] []
  refine r_iload_n hc dX12_isDoor_0 rfl ?_
  refine r_iconst (v := nI 0) hc dX12_isDoor_1 rfl ?_
  refine r_aload_n hc dX12_isDoor_2 rfl ?_
  refine gf_X12_7 (q := M + 1) hc (MS0 hM) (MSr hM 0 1 (by decide)) dX12_isDoor_3 ?_
  refine r_iconst (v := nI 4) hc dX12_isDoor_6 rfl ?_
  refine r_iald (x := nI (v 4)) (j := 4) hc (MSa hM 1 0 170 rfl) rfl (by omega) (by decide) (hv _ (by omega)) dX12_isDoor_7 ?_
  refine r_iconst (v := nI 1) hc dX12_isDoor_8 rfl ?_
  refine r_isub (v := zI (((v 4 : Nat) : Int) - ((1 : Nat) : Int))) hc dX12_isDoor_9 (sb_NN _ _) ?_
  refine cl_X12_41 (As := [.int (zI x), .int (nI 0), .int (zI (((v 4 : Nat) : Int) - ((1 : Nat) : Int)))]) hc (by simp only [nz]; exact c_X12_in (by omega) (by omega) (by omega)) rfl ⟨by decide, by decide⟩ ⟨rfl, rfl⟩ ⟨by decide, by decide⟩ rfl (Nat.le_of_ble_eq_true rfl) dX12_isDoor_10 (fun r u hp => ?_)
  obtain ⟨rfl, hu⟩ := hp
  rw [hu]
  exact hR _ _ ⟨rfl, rfl⟩ (nar_bI _) _ _ dX12_isDoor_13
set_option maxRecDepth 100000 in
set_option maxHeartbeats 4000000 in
theorem c_X12_isKey {Ω : OmT} {z : Nat} {sh : Nat → Option Kd} {σ : Nat → Nat → Int32} {ρ : Nat → Nat → Option Nat} {M : Nat} {v : Nat → Nat} (hM : MSh sh ρ M) (hv : rowAt σ (M + 1) 170 v) {x : Int} (hx : -2147483648 ≤ x ∧ x < 2147483648) (h5 : v 5 ≤ 16) : CtI Ω yX12_isKey cX12_isKey 2 .boolean rm_X12_isKey [.ref M, .int (zI x)] (z, sh, σ, ρ) (fun r u => r = bI (decide (0 ≤ x ∧ x ≤ ((v 5 : Nat) : Int) - 1)) ∧ u = (z, sh, σ, ρ)) := by
  refine CtI.enter (by decide) (Nat.le_of_ble_eq_true rfl) (fun Φ hc hR => ?_)
  show Vw Ω Φ (z, sh, σ, ρ) (0, 0) 0 [(0, .ref M), (1, .int (zI x))] []
  refine r_iload_n hc dX12_isKey_0 rfl ?_
  refine r_iconst (v := nI 0) hc dX12_isKey_1 rfl ?_
  refine r_aload_n hc dX12_isKey_2 rfl ?_
  refine gf_X12_7 (q := M + 1) hc (MS0 hM) (MSr hM 0 1 (by decide)) dX12_isKey_3 ?_
  refine r_iconst (v := nI 5) hc dX12_isKey_6 rfl ?_
  refine r_iald (x := nI (v 5)) (j := 5) hc (MSa hM 1 0 170 rfl) rfl (by omega) (by decide) (hv _ (by omega)) dX12_isKey_7 ?_
  refine r_iconst (v := nI 1) hc dX12_isKey_8 rfl ?_
  refine r_isub (v := zI (((v 5 : Nat) : Int) - ((1 : Nat) : Int))) hc dX12_isKey_9 (sb_NN _ _) ?_
  refine cl_X12_41 (As := [.int (zI x), .int (nI 0), .int (zI (((v 5 : Nat) : Int) - ((1 : Nat) : Int)))]) hc (by simp only [nz]; exact c_X12_in (by omega) (by omega) (by omega)) rfl ⟨by decide, by decide⟩ ⟨rfl, rfl⟩ ⟨by decide, by decide⟩ rfl (Nat.le_of_ble_eq_true rfl) dX12_isKey_10 (fun r u hp => ?_)
  obtain ⟨rfl, hu⟩ := hp
  rw [hu]
  exact hR _ _ ⟨rfl, rfl⟩ (nar_bI _) _ _ dX12_isKey_13
set_option maxRecDepth 100000 in
set_option maxHeartbeats 4000000 in
theorem c_X12_ofLock {Ω : OmT} {z : Nat} {sh : Nat → Option Kd} {σ : Nat → Nat → Int32} {ρ : Nat → Nat → Option Nat} {M : Nat} {v : Nat → Nat} (hM : MSh sh ρ M) (hv : rowAt σ (M + 1) 170 v) {d w : Nat} (hd : d < 10) (hw : w < 6) : CtI Ω yX12_ofLock cX12_ofLock 3 .int rm_X12_ofLock [.ref M, .int (nI d), .int (nI w)] (z, sh, σ, ρ) (fun r u => r = nI (v (20 + 6 * d + w)) ∧ u = (z, sh, σ, ρ)) := by
  refine CtI.enter (by decide) (Nat.le_of_ble_eq_true rfl) (fun Φ hc hR => ?_)
  show Vw Ω Φ (z, sh, σ, ρ) (0, 0) 0 [(0, .ref M), (1, .int (nI d)), (2, .int (nI w))] []
  refine r_aload_n hc dX12_ofLock_0 rfl ?_
  refine gf_X12_7 (q := M + 1) hc (MS0 hM) (MSr hM 0 1 (by decide)) dX12_ofLock_1 ?_
  refine r_bipush (v := nI 20) hc dX12_ofLock_4 rfl ?_
  refine r_bipush (v := nI 6) hc dX12_ofLock_6 rfl ?_
  refine r_iload_n hc dX12_ofLock_8 rfl ?_
  refine r_imul (v := nI (6 * d)) hc dX12_ofLock_9 (ml_NN _ _) ?_
  refine r_iadd (v := nI (20 + (6 * d))) hc dX12_ofLock_10 (ad_NN _ _) ?_
  refine r_iload_n hc dX12_ofLock_11 rfl ?_
  refine r_iadd (v := nI (20 + (6 * d) + w)) hc dX12_ofLock_12 (ad_NN _ _) ?_
  refine r_iald (x := nI (v (20 + (6 * d) + w))) (j := 20 + (6 * d) + w) hc (MSa hM 1 0 170 rfl) rfl (by omega) (by decide) (hv _ (by omega)) dX12_ofLock_13 ?_
  exact hR _ _ ⟨rfl, rfl⟩ rfl _ _ dX12_ofLock_14
theorem c_X12_ofLock0 {Ω : OmT} {z : Nat} {sh : Nat → Option Kd} {σ : Nat → Nat → Int32} {ρ : Nat → Nat → Option Nat} {M : Nat} {v : Nat → Nat} (hM : MSh sh ρ M) (hv : rowAt σ (M + 1) 170 v) {d : Nat} (hd : d < 10) : CtI Ω yX12_ofLock cX12_ofLock 3 .int rm_X12_ofLock [.ref M, .int (nI d), .int (nI 0)] (z, sh, σ, ρ) (fun r u => r = nI (v (20 + 6 * d)) ∧ u = (z, sh, σ, ρ)) := c_X12_ofLock hM hv hd (by decide)
set_option maxRecDepth 100000 in
set_option maxHeartbeats 4000000 in
theorem c_X12_lossOf {Ω : OmT} {z : Nat} {sh : Nat → Option Kd} {σ : Nat → Nat → Int32} {ρ : Nat → Nat → Option Nat} {M : Nat} {v : Nat → Nat} (hM : MSh sh ρ M) (hv : rowAt σ (M + 1) 170 v) {a : Nat} (ha : a ≤ 100) (hl : v 1 ≤ 50) : CtI Ω yX12_lossOf cX12_lossOf 2 .int rm_X12_lossOf [.ref M, .int (nI a)] (z, sh, σ, ρ) (fun r u => r = nI (lossW a (v 1)) ∧ u = (z, sh, σ, ρ)) := by
  have hm : a * v 1 ≤ 100 * 50 := Nat.mul_le_mul ha hl
  refine CtI.enter (by decide) (Nat.le_of_ble_eq_true rfl) (fun Φ hc hR => ?_)
  show Vw Ω Φ (z, sh, σ, ρ) (0, 0) 0 [(0, .ref M), (1, .int (nI a))] []
  refine r_iload_n hc dX12_lossOf_0 rfl ?_
  refine r_aload_n hc dX12_lossOf_1 rfl ?_
  refine gf_X12_7 (q := M + 1) hc (MS0 hM) (MSr hM 0 1 (by decide)) dX12_lossOf_2 ?_
  refine r_iconst (v := nI 1) hc dX12_lossOf_5 rfl ?_
  refine r_iald (x := nI (v 1)) (j := 1) hc (MSa hM 1 0 170 rfl) rfl (by omega) (by decide) (hv _ (by omega)) dX12_lossOf_6 ?_
  refine r_imul (v := nI (a * (v 1))) hc dX12_lossOf_7 (ml_NN _ _) ?_
  refine r_bipush (v := nI 99) hc dX12_lossOf_8 rfl ?_
  refine r_iadd (v := nI (a * (v 1) + 99)) hc dX12_lossOf_10 (ad_NN _ _) ?_
  refine r_bipush (v := nI 100) hc dX12_lossOf_11 rfl ?_
  refine r_idiv (v := nI ((a * (v 1) + 99) / 100)) hc dX12_lossOf_13 (nu_ne0 (by omega) (by omega)) (dv_NN _ _ (by omega) (by omega) (by omega)) ?_
  exact hR _ _ ⟨rfl, rfl⟩ rfl _ _ dX12_lossOf_14
set_option maxRecDepth 100000 in
set_option maxHeartbeats 4000000 in
theorem c_X12_lockWeight {Ω : OmT} {z : Nat} {sh : Nat → Option Kd} {σ : Nat → Nat → Int32} {ρ : Nat → Nat → Option Nat} {M : Nat} {v : Nat → Nat} (hM : MSh sh ρ M) (hv : rowAt σ (M + 1) 170 v) {d : Nat} (hd : d < 10) (hf : v (20 + 6 * d + 2) < 10000) (hs : v (20 + 6 * d + 3) < 10000) : CtI Ω yX12_lockWeight cX12_lockWeight 2 .int rm_X12_lockWeight [.ref M, .int (nI d)] (z, sh, σ, ρ) (fun r u => r = nI (lockWt v d) ∧ u = (z, sh, σ, ρ)) := by
  refine CtI.enter (by decide) (Nat.le_of_ble_eq_true rfl) (fun Φ hc hR => ?_)
  show Vw Ω Φ (z, sh, σ, ρ) (0, 0) 0 [(0, .ref M), (1, .int (nI d))] []
  refine r_aload_n hc dX12_lockWeight_0 rfl ?_
  refine r_iload_n hc dX12_lockWeight_1 rfl ?_
  refine r_iconst (v := nI 2) hc dX12_lockWeight_2 rfl ?_
  refine cl_X12_67 (As := [.int (nI d), .int (nI 2)]) hc (c_X12_ofLock hM hv (d := d) (w := 2) (by omega) (by omega)) (MS0 hM) rfl ⟨by decide, by decide⟩ ⟨rfl, rfl⟩ ⟨by decide, by decide⟩ rfl (Nat.le_of_ble_eq_true rfl) dX12_lockWeight_3 (fun r u hp => ?_)
  obtain ⟨rfl, hu⟩ := hp
  rw [hu]
  refine r_aload_n hc dX12_lockWeight_6 rfl ?_
  refine r_iload_n hc dX12_lockWeight_7 rfl ?_
  refine r_iconst (v := nI 3) hc dX12_lockWeight_8 rfl ?_
  refine cl_X12_67 (As := [.int (nI d), .int (nI 3)]) hc (c_X12_ofLock hM hv (d := d) (w := 3) (by omega) (by omega)) (MS0 hM) rfl ⟨by decide, by decide⟩ ⟨rfl, rfl⟩ ⟨by decide, by decide⟩ rfl (Nat.le_of_ble_eq_true rfl) dX12_lockWeight_9 (fun r u hp => ?_)
  obtain ⟨rfl, hu⟩ := hp
  rw [hu]
  refine cl_X12_64 (As := [.int (nI (v (20 + 6 * d + 2))), .int (nI (v (20 + 6 * d + 3)))]) hc (c_X12_weightOf (f := v (20 + 6 * d + 2)) (s := v (20 + 6 * d + 3)) (by omega) (by omega)) rfl ⟨by decide, by decide⟩ ⟨rfl, rfl⟩ ⟨by decide, by decide⟩ rfl (Nat.le_of_ble_eq_true rfl) dX12_lockWeight_12 (fun r u hp => ?_)
  obtain ⟨rfl, hu⟩ := hp
  rw [hu]
  exact hR _ _ ⟨rfl, rfl⟩ rfl _ _ dX12_lockWeight_15
set_option maxRecDepth 100000 in
set_option maxHeartbeats 4000000 in
theorem c_X12_givesOf {Ω : OmT} {z : Nat} {sh : Nat → Option Kd} {σ : Nat → Nat → Int32} {ρ : Nat → Nat → Option Nat} {M : Nat} {v : Nat → Nat} (hM : MSh sh ρ M) (hv : rowAt σ (M + 1) 170 v) {d : Nat} (hd : d < 10) (hf : v (20 + 6 * d + 2) < 10000) (hs : v (20 + 6 * d + 3) < 10000) (hl : v 1 ≤ 50) : CtI Ω yX12_givesOf cX12_givesOf 2 .int rm_X12_givesOf [.ref M, .int (nI d)] (z, sh, σ, ρ) (fun r u => r = nI (givW v d) ∧ u = (z, sh, σ, ρ)) := by
  refine CtI.enter (by decide) (Nat.le_of_ble_eq_true rfl) (fun Φ hc hR => ?_)
  show Vw Ω Φ (z, sh, σ, ρ) (0, 0) 0 [(0, .ref M), (1, .int (nI d))] []
  refine r_aload_n hc dX12_givesOf_0 rfl ?_
  refine r_iload_n hc dX12_givesOf_1 rfl ?_
  refine cl_X12_70 (As := [.int (nI d)]) hc (c_X12_lockWeight hM hv (d := d) (by omega) (by omega) (by omega)) (MS0 hM) rfl ⟨by decide, by decide⟩ ⟨rfl, rfl⟩ ⟨by decide, by decide⟩ rfl (Nat.le_of_ble_eq_true rfl) dX12_givesOf_2 (fun r u hp => ?_)
  obtain ⟨rfl, hu⟩ := hp
  rw [hu]
  refine r_aload_n hc dX12_givesOf_5 rfl ?_
  refine r_aload_n hc dX12_givesOf_6 rfl ?_
  refine r_iload_n hc dX12_givesOf_7 rfl ?_
  refine cl_X12_70 (As := [.int (nI d)]) hc (c_X12_lockWeight hM hv (d := d) (by omega) (by omega) (by omega)) (MS0 hM) rfl ⟨by decide, by decide⟩ ⟨rfl, rfl⟩ ⟨by decide, by decide⟩ rfl (Nat.le_of_ble_eq_true rfl) dX12_givesOf_8 (fun r u hp => ?_)
  obtain ⟨rfl, hu⟩ := hp
  rw [hu]
  refine cl_X12_74 (As := [.int (nI (lockWt v d))]) hc (c_X12_lossOf hM hv (a := lockWt v d) (Nat.le_trans (lockW_le _ _) (by decide)) (by omega)) (MS0 hM) rfl ⟨by decide, by decide⟩ ⟨rfl, rfl⟩ ⟨by decide, by decide⟩ rfl (Nat.le_of_ble_eq_true rfl) dX12_givesOf_11 (fun r u hp => ?_)
  obtain ⟨rfl, hu⟩ := hp
  rw [hu]
  refine r_isub (v := nI (givW v d)) hc dX12_givesOf_14 (sb_N _ _ (lossW_le (Nat.le_trans (lockW_le _ _) (by decide)) (by omega))) ?_
  exact hR _ _ ⟨rfl, rfl⟩ rfl _ _ dX12_givesOf_15
set_option maxRecDepth 100000 in
set_option maxHeartbeats 4000000 in
theorem c_X12_canBeKey {Ω : OmT} {z : Nat} {sh : Nat → Option Kd} {σ : Nat → Nat → Int32} {ρ : Nat → Nat → Option Nat} {M : Nat} {v : Nat → Nat} (hM : MSh sh ρ M) (hv : rowAt σ (M + 1) 170 v) {c : Nat} (hc0 : c < 10000) (h0 : v 0 ≤ 9) : CtI Ω yX12_canBeKey cX12_canBeKey 5 .boolean rm_X12_canBeKey [.ref M, .int (nI c)] (z, sh, σ, ρ) (fun r u => r = bI (canK (v 0) c) ∧ u = (z, sh, σ, ρ)) := by
  refine CtI.enter (by decide) (Nat.le_of_ble_eq_true rfl) (fun Φ hc hR => ?_)
  show Vw Ω Φ (z, sh, σ, ρ) (0, 0) 0 [(0, .ref M), (1, .int (nI c))] []
  refine r_iconst (v := nI 1) hc dX12_canBeKey_0 rfl ?_
  refine r_istore_n (ls' := [(2, .int (nI 1)), (0, .ref M), (1, .int (nI c))]) hc dX12_canBeKey_1 (by decide) rfl ?_
  refine r_iconst (v := nI 0) hc dX12_canBeKey_2 rfl ?_
  refine r_istore_n (ls' := [(3, .int (nI 0)), (2, .int (nI 1)), (0, .ref M), (1, .int (nI c))]) hc dX12_canBeKey_3 (by decide) rfl ?_
  have loop4 : ∀ (n4 : Nat) (b : Bool) (k : Nat), (k ≤ 3) → (b = canG (v 0) c k) → (3 - k) < n4 → Vw Ω Φ (z, sh, σ, ρ) (0, 0) 4 [(0, .ref M), (1, .int (nI c)), (2, .int (bI b)), (3, .int (nI k))] [] := by
    intro n4
    induction n4 with
    | zero => intro b k hk hf hm; exact absurd hm (Nat.not_lt_zero _)
    | succ n4 ih4 =>
      intro b k hk hf hm4
      refine r_iload_n hc dX12_canBeKey_4 rfl ?_
      refine r_iconst (v := nI 3) hc dX12_canBeKey_5 rfl ?_
      refine r_icmp_ge (tgt := 61) hc dX12_canBeKey_6 (by decide) (le_NN (by omega) (by omega)) (fun c_6 => ?_) (fun c_6 => ?_)
      ·
        refine r_iload_n hc dX12_canBeKey_61 rfl ?_
        exact hR _ _ ⟨congrArg bI (by rw [hf, show k = 3 by omega, canG_3]), rfl⟩ (nar_bI _) _ _ dX12_canBeKey_62
      ·
        have hd1 := dgt_lt c (3 - k)
        have hd2 := dgt_lt c (3 - (k + 1))
        refine r_iload_n hc dX12_canBeKey_9 rfl ?_
        refine r_iload_n hc dX12_canBeKey_10 rfl ?_
        refine cl_X12_56 (As := [.int (nI c), .int (nI k)]) hc (c_X12_depth (c := c) (p := k) (by omega) (by omega)) rfl ⟨by decide, by decide⟩ ⟨rfl, rfl⟩ ⟨by decide, by decide⟩ rfl (Nat.le_of_ble_eq_true rfl) dX12_canBeKey_11 (fun r u hp => ?_)
        obtain ⟨rfl, hu⟩ := hp
        rw [hu]
        refine r_iload_n hc dX12_canBeKey_14 rfl ?_
        refine r_iload_n hc dX12_canBeKey_15 rfl ?_
        refine r_iconst (v := nI 1) hc dX12_canBeKey_16 rfl ?_
        refine r_iadd (v := nI (k + 1)) hc dX12_canBeKey_17 (ad_NN _ _) ?_
        refine cl_X12_56 (As := [.int (nI c), .int (nI (k + 1))]) hc (c_X12_depth (c := c) (p := k + 1) (by omega) (by omega)) rfl ⟨by decide, by decide⟩ ⟨rfl, rfl⟩ ⟨by decide, by decide⟩ rfl (Nat.le_of_ble_eq_true rfl) dX12_canBeKey_18 (fun r u hp => ?_)
        obtain ⟨rfl, hu⟩ := hp
        rw [hu]
        refine r_isub (v := zI (((dgt c (3 - k) : Nat) : Int) - ((dgt c (3 - (k + 1)) : Nat) : Int))) hc dX12_canBeKey_21 (sb_NN _ _) ?_
        refine r_istore (ls' := [(4, .int (zI (((dgt c (3 - k) : Nat) : Int) - ((dgt c (3 - (k + 1)) : Nat) : Int)))), (0, .ref M), (1, .int (nI c)), (2, .int (bI b)), (3, .int (nI k))]) hc dX12_canBeKey_22 (by decide) rfl ?_
        refine r_iload_n hc dX12_canBeKey_24 rfl ?_
        refine r_if_eq (tgt := 53) hc dX12_canBeKey_25 (by decide) (bI_0 _) (fun c_25 => ?_) (fun c_25 => ?_)
        ·
          refine r_iconst (v := nI 0) hc dX12_canBeKey_53 rfl ?_
          refine r_istore_n (ls' := [(2, .int (nI 0)), (4, .int (zI (((dgt c (3 - k) : Nat) : Int) - ((dgt c (3 - (k + 1)) : Nat) : Int)))), (0, .ref M), (1, .int (nI c)), (3, .int (nI k))]) hc dX12_canBeKey_54 (by decide) rfl ?_
          refine r_iinc (v := nI (k + 1)) (ls' := [(3, .int (nI (k + 1))), (2, .int (nI 0)), (4, .int (zI (((dgt c (3 - k) : Nat) : Int) - ((dgt c (3 - (k + 1)) : Nat) : Int)))), (0, .ref M), (1, .int (nI c))]) hc dX12_canBeKey_55 rfl (ad_NN _ 1) (by decide) rfl ?_
          refine r_goto (tgt := 4) hc dX12_canBeKey_58 (by decide) ?_
          refine r_locp [3, 4, 1, 0] (ls' := [(0, .ref M), (1, .int (nI c)), (2, .int (bI false)), (3, .int (nI (k + 1)))]) rfl ?_
          exact ih4 false (k + 1) (by omega) (by rw [canG, ← hf, c_25]; rfl) (by omega)
        ·
          have c_25 := bnf c_25
          refine r_iload hc dX12_canBeKey_28 rfl ?_
          refine r_aload_n hc dX12_canBeKey_30 rfl ?_
          refine gf_X12_7 (q := M + 1) hc (MS0 hM) (MSr hM 0 1 (by decide)) dX12_canBeKey_31 ?_
          refine r_iconst (v := nI 0) hc dX12_canBeKey_34 rfl ?_
          refine r_iald (x := nI (v 0)) (j := 0) hc (MSa hM 1 0 170 rfl) rfl (by omega) (by decide) (hv _ (by omega)) dX12_canBeKey_35 ?_
          refine r_ineg (v := zI (-((v 0 : Int)))) hc dX12_canBeKey_36 (ng_N _) ?_
          refine r_aload_n hc dX12_canBeKey_37 rfl ?_
          refine gf_X12_7 (q := M + 1) hc (MS0 hM) (MSr hM 0 1 (by decide)) dX12_canBeKey_38 ?_
          refine r_iconst (v := nI 0) hc dX12_canBeKey_41 rfl ?_
          refine r_iald (x := nI (v 0)) (j := 0) hc (MSa hM 1 0 170 rfl) rfl (by omega) (by decide) (hv _ (by omega)) dX12_canBeKey_42 ?_
          refine cl_X12_41 (As := [.int (zI (((dgt c (3 - k) : Nat) : Int) - ((dgt c (3 - (k + 1)) : Nat) : Int))), .int (zI (-((v 0 : Int)))), .int (nI (v 0))]) hc (by simp only [nz]; exact c_X12_in (by omega) (by omega) (by omega)) rfl ⟨by decide, by decide⟩ ⟨rfl, rfl⟩ ⟨by decide, by decide⟩ rfl (Nat.le_of_ble_eq_true rfl) dX12_canBeKey_43 (fun r u hp => ?_)
          obtain ⟨rfl, hu⟩ := hp
          rw [hu]
          refine r_if_eq (tgt := 53) hc dX12_canBeKey_46 (by decide) (bI_0 _) (fun c_46 => ?_) (fun c_46 => ?_)
          ·
            have c_46 := of_decide_eq_false c_46
            refine r_iconst (v := nI 0) hc dX12_canBeKey_53 rfl ?_
            refine r_istore_n (ls' := [(2, .int (nI 0)), (4, .int (zI (((dgt c (3 - k) : Nat) : Int) - ((dgt c (3 - (k + 1)) : Nat) : Int)))), (0, .ref M), (1, .int (nI c)), (3, .int (nI k))]) hc dX12_canBeKey_54 (by decide) rfl ?_
            refine r_iinc (v := nI (k + 1)) (ls' := [(3, .int (nI (k + 1))), (2, .int (nI 0)), (4, .int (zI (((dgt c (3 - k) : Nat) : Int) - ((dgt c (3 - (k + 1)) : Nat) : Int)))), (0, .ref M), (1, .int (nI c))]) hc dX12_canBeKey_55 rfl (ad_NN _ 1) (by decide) rfl ?_
            refine r_goto (tgt := 4) hc dX12_canBeKey_58 (by decide) ?_
            refine r_locp [3, 4, 1, 0] (ls' := [(0, .ref M), (1, .int (nI c)), (2, .int (bI false)), (3, .int (nI (k + 1)))]) rfl ?_
            exact ih4 false (k + 1) (by omega) (by rw [canG, ← hf, c_25]; symm; simp only [adj, Bool.true_and, Bool.and_eq_false_iff, decide_eq_false_iff_not]; omega) (by omega)
          ·
            have c_46 := bnf c_46
            have c_46 := of_decide_eq_true c_46
            refine r_iconst (v := nI 1) hc dX12_canBeKey_49 rfl ?_
            refine r_goto (tgt := 54) hc dX12_canBeKey_50 (by decide) ?_
            refine r_istore_n (ls' := [(2, .int (nI 1)), (4, .int (zI (((dgt c (3 - k) : Nat) : Int) - ((dgt c (3 - (k + 1)) : Nat) : Int)))), (0, .ref M), (1, .int (nI c)), (3, .int (nI k))]) hc dX12_canBeKey_54 (by decide) rfl ?_
            refine r_iinc (v := nI (k + 1)) (ls' := [(3, .int (nI (k + 1))), (2, .int (nI 1)), (4, .int (zI (((dgt c (3 - k) : Nat) : Int) - ((dgt c (3 - (k + 1)) : Nat) : Int)))), (0, .ref M), (1, .int (nI c))]) hc dX12_canBeKey_55 rfl (ad_NN _ 1) (by decide) rfl ?_
            refine r_goto (tgt := 4) hc dX12_canBeKey_58 (by decide) ?_
            refine r_locp [3, 4, 1, 0] (ls' := [(0, .ref M), (1, .int (nI c)), (2, .int (bI true)), (3, .int (nI (k + 1)))]) rfl ?_
            exact ih4 true (k + 1) (by omega) (by rw [canG, ← hf, c_25]; simp only [adj, Bool.true_and]; symm; simp only [Bool.and_eq_true, decide_eq_true_eq]; omega) (by omega)
  refine r_locp [2, 3, 1, 0] (ls' := [(0, .ref M), (1, .int (nI c)), (2, .int (bI true)), (3, .int (nI 0))]) rfl ?_
  exact loop4 _ true 0 (by omega) rfl (Nat.lt_succ_self _)
set_option maxRecDepth 100000 in
set_option maxHeartbeats 4000000 in
theorem c_X12_cutsOf {Ω : OmT} {z : Nat} {sh : Nat → Option Kd} {σ : Nat → Nat → Int32} {ρ : Nat → Nat → Option Nat} {M : Nat} {v : Nat → Nat} (hM : MSh sh ρ M) (hv : rowAt σ (M + 1) 170 v) {k : Nat} (hk : k < 16) : CtI Ω yX12_cutsOf cX12_cutsOf 2 .int rm_X12_cutsOf [.ref M, .int (nI k)] (z, sh, σ, ρ) (fun r u => r = nI (v (80 + 4 * k)) ∧ u = (z, sh, σ, ρ)) := by
  refine CtI.enter (by decide) (Nat.le_of_ble_eq_true rfl) (fun Φ hc hR => ?_)
  show Vw Ω Φ (z, sh, σ, ρ) (0, 0) 0 [(0, .ref M), (1, .int (nI k))] []
  refine r_aload_n hc dX12_cutsOf_0 rfl ?_
  refine gf_X12_7 (q := M + 1) hc (MS0 hM) (MSr hM 0 1 (by decide)) dX12_cutsOf_1 ?_
  refine r_bipush (v := nI 80) hc dX12_cutsOf_4 rfl ?_
  refine r_iconst (v := nI 4) hc dX12_cutsOf_6 rfl ?_
  refine r_iload_n hc dX12_cutsOf_7 rfl ?_
  refine r_imul (v := nI (4 * k)) hc dX12_cutsOf_8 (ml_NN _ _) ?_
  refine r_iadd (v := nI (80 + (4 * k))) hc dX12_cutsOf_9 (ad_NN _ _) ?_
  refine r_iald (x := nI (v (80 + (4 * k)))) (j := 80 + (4 * k)) hc (MSa hM 1 0 170 rfl) rfl (by omega) (by decide) (hv _ (by omega)) dX12_cutsOf_10 ?_
  exact hR _ _ ⟨rfl, rfl⟩ rfl _ _ dX12_cutsOf_11
set_option maxRecDepth 100000 in
set_option maxHeartbeats 4000000 in
theorem c_X12_whereIs {Ω : OmT} {z : Nat} {sh : Nat → Option Kd} {σ : Nat → Nat → Int32} {ρ : Nat → Nat → Option Nat} {M : Nat} {v : Nat → Nat} (hM : MSh sh ρ M) (hv : rowAt σ (M + 1) 170 v) {k : Nat} (hk : k < 16) : CtI Ω yX12_whereIs cX12_whereIs 2 .int rm_X12_whereIs [.ref M, .int (nI k)] (z, sh, σ, ρ) (fun r u => r = nI (v (80 + 4 * k + 2)) ∧ u = (z, sh, σ, ρ)) := by
  refine CtI.enter (by decide) (Nat.le_of_ble_eq_true rfl) (fun Φ hc hR => ?_)
  show Vw Ω Φ (z, sh, σ, ρ) (0, 0) 0 [(0, .ref M), (1, .int (nI k))] []
  refine r_aload_n hc dX12_whereIs_0 rfl ?_
  refine gf_X12_7 (q := M + 1) hc (MS0 hM) (MSr hM 0 1 (by decide)) dX12_whereIs_1 ?_
  refine r_bipush (v := nI 80) hc dX12_whereIs_4 rfl ?_
  refine r_iconst (v := nI 4) hc dX12_whereIs_6 rfl ?_
  refine r_iload_n hc dX12_whereIs_7 rfl ?_
  refine r_imul (v := nI (4 * k)) hc dX12_whereIs_8 (ml_NN _ _) ?_
  refine r_iadd (v := nI (80 + (4 * k))) hc dX12_whereIs_9 (ad_NN _ _) ?_
  refine r_iconst (v := nI 2) hc dX12_whereIs_10 rfl ?_
  refine r_iadd (v := nI (80 + (4 * k) + 2)) hc dX12_whereIs_11 (ad_NN _ _) ?_
  refine r_iald (x := nI (v (80 + (4 * k) + 2))) (j := 80 + (4 * k) + 2) hc (MSa hM 1 0 170 rfl) rfl (by omega) (by decide) (hv _ (by omega)) dX12_whereIs_12 ?_
  exact hR _ _ ⟨rfl, rfl⟩ rfl _ _ dX12_whereIs_13
set_option maxRecDepth 100000 in
set_option maxHeartbeats 4000000 in
theorem c_X12_keyWeight {Ω : OmT} {z : Nat} {sh : Nat → Option Kd} {σ : Nat → Nat → Int32} {ρ : Nat → Nat → Option Nat} {M : Nat} {v : Nat → Nat} (hM : MSh sh ρ M) (hv : rowAt σ (M + 1) 170 v) {k : Nat} (hk : k < 16) (hcu : v (80 + 4 * k) < 10000) (hwh : v (80 + 4 * k + 2) ≤ 9) (hbl : 40 ≤ v (80 + 4 * k + 1) ∧ v (80 + 4 * k + 1) ≤ 90) : CtI Ω yX12_keyWeight cX12_keyWeight 2 .int rm_X12_keyWeight [.ref M, .int (nI k)] (z, sh, σ, ρ) (fun r u => r = nI (keyWt v k) ∧ u = (z, sh, σ, ρ)) := by
  refine CtI.enter (by decide) (Nat.le_of_ble_eq_true rfl) (fun Φ hc hR => ?_)
  show Vw Ω Φ (z, sh, σ, ρ) (0, 0) 0 [(0, .ref M), (1, .int (nI k))] []
  refine r_aload_n hc dX12_keyWeight_0 rfl ?_
  refine r_iload_n hc dX12_keyWeight_1 rfl ?_
  refine cl_X12_87 (As := [.int (nI k)]) hc (c_X12_whereIs hM hv (k := k) (by omega)) (MS0 hM) rfl ⟨by decide, by decide⟩ ⟨rfl, rfl⟩ ⟨by decide, by decide⟩ rfl (Nat.le_of_ble_eq_true rfl) dX12_keyWeight_2 (fun r u hp => ?_)
  obtain ⟨rfl, hu⟩ := hp
  rw [hu]
  refine r_bipush (v := nI 9) hc dX12_keyWeight_5 rfl ?_
  refine r_icmp_ne (tgt := 14) hc dX12_keyWeight_7 (by decide) (eq_NN (by omega) (by omega)) (fun c_7 => ?_) (fun c_7 => ?_)
  ·
    refine r_aload_n hc dX12_keyWeight_14 rfl ?_
    refine gf_X12_7 (q := M + 1) hc (MS0 hM) (MSr hM 0 1 (by decide)) dX12_keyWeight_15 ?_
    refine r_bipush (v := nI 80) hc dX12_keyWeight_18 rfl ?_
    refine r_iconst (v := nI 4) hc dX12_keyWeight_20 rfl ?_
    refine r_iload_n hc dX12_keyWeight_21 rfl ?_
    refine r_imul (v := nI (4 * k)) hc dX12_keyWeight_22 (ml_NN _ _) ?_
    refine r_iadd (v := nI (80 + (4 * k))) hc dX12_keyWeight_23 (ad_NN _ _) ?_
    refine r_iconst (v := nI 1) hc dX12_keyWeight_24 rfl ?_
    refine r_iadd (v := nI (80 + (4 * k) + 1)) hc dX12_keyWeight_25 (ad_NN _ _) ?_
    refine r_iald (x := nI (v (80 + (4 * k) + 1))) (j := 80 + (4 * k) + 1) hc (MSa hM 1 0 170 rfl) rfl (by omega) (by decide) (hv _ (by omega)) dX12_keyWeight_26 ?_
    refine r_aload_n hc dX12_keyWeight_27 rfl ?_
    refine r_iload_n hc dX12_keyWeight_28 rfl ?_
    refine cl_X12_90 (As := [.int (nI k)]) hc (c_X12_cutsOf hM hv (k := k) (by omega)) (MS0 hM) rfl ⟨by decide, by decide⟩ ⟨rfl, rfl⟩ ⟨by decide, by decide⟩ rfl (Nat.le_of_ble_eq_true rfl) dX12_keyWeight_29 (fun r u hp => ?_)
    obtain ⟨rfl, hu⟩ := hp
    rw [hu]
    refine cl_X12_93 (As := [.int (nI (v (80 + 4 * k)))]) hc (c_X12_depths (c := v (80 + 4 * k)) (by omega)) rfl ⟨by decide, by decide⟩ ⟨rfl, rfl⟩ ⟨by decide, by decide⟩ rfl (Nat.le_of_ble_eq_true rfl) dX12_keyWeight_32 (fun r u hp => ?_)
    obtain ⟨rfl, hu⟩ := hp
    rw [hu]
    refine r_isub (v := nI (keyWt v k)) hc dX12_keyWeight_35 ((sb_N _ _ (by have := sumD_le (v (80 + 4 * k)); omega)).trans (congrArg nI (by unfold keyWt whrR cutR; rw [if_neg c_7]))) ?_
    exact hR _ _ ⟨rfl, rfl⟩ rfl _ _ dX12_keyWeight_36
  ·
    refine r_iconst (v := nI 0) hc dX12_keyWeight_10 rfl ?_
    refine r_goto (tgt := 36) hc dX12_keyWeight_11 (by decide) ?_
    exact hR _ _ ⟨congrArg nI (by unfold keyWt whrR; rw [if_pos c_7]), rfl⟩ rfl _ _ dX12_keyWeight_36
set_option maxRecDepth 100000 in
set_option maxHeartbeats 4000000 in
theorem c_X12_keysIn {Ω : OmT} {z : Nat} {sh : Nat → Option Kd} {σ : Nat → Nat → Int32} {ρ : Nat → Nat → Option Nat} {M : Nat} {v : Nat → Nat} (hM : MSh sh ρ M) (hv : rowAt σ (M + 1) 170 v) {r : Nat} (hr : r < 100) (h5 : v 5 ≤ 16) (hwh : ∀ k, k < v 5 → v (80 + 4 * k + 2) ≤ 9) : CtI Ω yX12_keysIn cX12_keysIn 4 .int rm_X12_keysIn [.ref M, .int (nI r)] (z, sh, σ, ρ) (fun r1 u => r1 = nI (keysAt v r) ∧ u = (z, sh, σ, ρ)) := by
  refine CtI.enter (by decide) (Nat.le_of_ble_eq_true rfl) (fun Φ hc hR => ?_)
  show Vw Ω Φ (z, sh, σ, ρ) (0, 0) 0 [(0, .ref M), (1, .int (nI r))] []
  refine r_iconst (v := nI 0) hc dX12_keysIn_0 rfl ?_
  refine r_istore_n (ls' := [(2, .int (nI 0)), (0, .ref M), (1, .int (nI r))]) hc dX12_keysIn_1 (by decide) rfl ?_
  refine r_iconst (v := nI 0) hc dX12_keysIn_2 rfl ?_
  refine r_istore_n (ls' := [(3, .int (nI 0)), (2, .int (nI 0)), (0, .ref M), (1, .int (nI r))]) hc dX12_keysIn_3 (by decide) rfl ?_
  have loop4 : ∀ (n4 : Nat) (a : Nat) (k : Nat), (k ≤ v 5) → (a = bitsF (fun k => decide (whrR v k = r)) k) → (v 5 - k) < n4 → Vw Ω Φ (z, sh, σ, ρ) (0, 0) 4 [(0, .ref M), (1, .int (nI r)), (2, .int (nI a)), (3, .int (nI k))] [] := by
    intro n4
    induction n4 with
    | zero => intro a k hk hf hm; exact absurd hm (Nat.not_lt_zero _)
    | succ n4 ih4 =>
      intro a k hk hf hm4
      refine r_iload_n hc dX12_keysIn_4 rfl ?_
      refine r_aload_n hc dX12_keysIn_5 rfl ?_
      refine gf_X12_7 (q := M + 1) hc (MS0 hM) (MSr hM 0 1 (by decide)) dX12_keysIn_6 ?_
      refine r_iconst (v := nI 5) hc dX12_keysIn_9 rfl ?_
      refine r_iald (x := nI (v 5)) (j := 5) hc (MSa hM 1 0 170 rfl) rfl (by omega) (by decide) (hv _ (by omega)) dX12_keysIn_10 ?_
      refine r_icmp_ge (tgt := 39) hc dX12_keysIn_11 (by decide) (le_NN (by omega) (by omega)) (fun c_11 => ?_) (fun c_11 => ?_)
      ·
        refine r_iload_n hc dX12_keysIn_39 rfl ?_
        exact hR _ _ ⟨congrArg nI (by rw [hf, show k = v 5 by omega]; rfl), rfl⟩ rfl _ _ dX12_keysIn_40
      ·
        have hwk := hwh k (by omega)
        refine r_iload_n hc dX12_keysIn_14 rfl ?_
        refine r_aload_n hc dX12_keysIn_15 rfl ?_
        refine r_iload_n hc dX12_keysIn_16 rfl ?_
        refine cl_X12_87 (As := [.int (nI k)]) hc (c_X12_whereIs hM hv (k := k) (by omega)) (MS0 hM) rfl ⟨by decide, by decide⟩ ⟨rfl, rfl⟩ ⟨by decide, by decide⟩ rfl (Nat.le_of_ble_eq_true rfl) dX12_keysIn_17 (fun r u hp => ?_)
        obtain ⟨rfl, hu⟩ := hp
        rw [hu]
        refine r_iload_n hc dX12_keysIn_20 rfl ?_
        refine r_icmp_ne (tgt := 30) hc dX12_keysIn_21 (by decide) (eq_NN (by omega) (by omega)) (fun c_21 => ?_) (fun c_21 => ?_)
        ·
          refine r_iconst (v := nI 0) hc dX12_keysIn_30 rfl ?_
          refine r_ior (v := nI (a ||| 0)) hc dX12_keysIn_31 (or_NN _ _) ?_
          refine r_istore_n (ls' := [(2, .int (nI (a ||| 0))), (0, .ref M), (1, .int (nI r)), (3, .int (nI k))]) hc dX12_keysIn_32 (by decide) rfl ?_
          refine r_iinc (v := nI (k + 1)) (ls' := [(3, .int (nI (k + 1))), (2, .int (nI (a ||| 0))), (0, .ref M), (1, .int (nI r))]) hc dX12_keysIn_33 rfl (ad_NN _ 1) (by decide) rfl ?_
          refine r_goto (tgt := 4) hc dX12_keysIn_36 (by decide) ?_
          refine r_locp [2, 3, 1, 0] (ls' := [(0, .ref M), (1, .int (nI r)), (2, .int (nI (a ||| 0))), (3, .int (nI (k + 1)))]) rfl ?_
          exact ih4 (a ||| 0) (k + 1) (by omega) (by rw [bitsF, ← hf]; simp [whrR, c_21]) (by omega)
        ·
          refine r_iconst (v := nI 1) hc dX12_keysIn_24 rfl ?_
          refine r_iload_n hc dX12_keysIn_25 rfl ?_
          refine r_ishl (v := nI (2 ^ k)) hc dX12_keysIn_26 (sl_1 _ (by omega)) ?_
          refine r_goto (tgt := 31) hc dX12_keysIn_27 (by decide) ?_
          refine r_ior (v := nI (a ||| (2 ^ k))) hc dX12_keysIn_31 (or_NN _ _) ?_
          refine r_istore_n (ls' := [(2, .int (nI (a ||| (2 ^ k)))), (0, .ref M), (1, .int (nI r)), (3, .int (nI k))]) hc dX12_keysIn_32 (by decide) rfl ?_
          refine r_iinc (v := nI (k + 1)) (ls' := [(3, .int (nI (k + 1))), (2, .int (nI (a ||| (2 ^ k)))), (0, .ref M), (1, .int (nI r))]) hc dX12_keysIn_33 rfl (ad_NN _ 1) (by decide) rfl ?_
          refine r_goto (tgt := 4) hc dX12_keysIn_36 (by decide) ?_
          refine r_locp [2, 3, 1, 0] (ls' := [(0, .ref M), (1, .int (nI r)), (2, .int (nI (a ||| (2 ^ k)))), (3, .int (nI (k + 1)))]) rfl ?_
          exact ih4 (a ||| (2 ^ k)) (k + 1) (by omega) (by rw [bitsF, ← hf]; simp [whrR, c_21]) (by omega)
  refine r_locp [2, 3, 1, 0] (ls' := [(0, .ref M), (1, .int (nI r)), (2, .int (nI 0)), (3, .int (nI 0))]) rfl ?_
  exact loop4 _ 0 0 (by omega) rfl (Nat.lt_succ_self _)
set_option maxRecDepth 100000 in
set_option maxHeartbeats 4000000 in
theorem c_X12_fits {Ω : OmT} {z : Nat} {sh : Nat → Option Kd} {σ : Nat → Nat → Int32} {ρ : Nat → Nat → Option Nat} {M : Nat} {v : Nat → Nat} (hM : MSh sh ρ M) (hv : rowAt σ (M + 1) 170 v) {c d : Nat} (hc0 : c < 10000) (hd : d < 10) (hf1 : v (20 + 6 * d + 2) < 10000) (hs1 : v (20 + 6 * d + 3) < 10000) : CtI Ω yX12_fits cX12_fits 6 .boolean rm_X12_fits [.ref M, .int (nI c), .int (nI d)] (z, sh, σ, ρ) (fun r u => r = bI (opnD v c d) ∧ u = (z, sh, σ, ρ)) := by
  refine CtI.enter (by decide) (Nat.le_of_ble_eq_true rfl) (fun Φ hc hR => ?_)
  show Vw Ω Φ (z, sh, σ, ρ) (0, 0) 0 [(0, .ref M), (1, .int (nI c)), (2, .int (nI d))] []
  refine r_iconst (v := nI 1) hc dX12_fits_0 rfl ?_
  refine r_istore_n (ls' := [(3, .int (nI 1)), (0, .ref M), (1, .int (nI c)), (2, .int (nI d))]) hc dX12_fits_1 (by decide) rfl ?_
  refine r_iconst (v := nI 0) hc dX12_fits_2 rfl ?_
  refine r_istore (ls' := [(4, .int (nI 0)), (3, .int (nI 1)), (0, .ref M), (1, .int (nI c)), (2, .int (nI d))]) hc dX12_fits_3 (by decide) rfl ?_
  have loop5 : ∀ (n5 : Nat) (b : Bool) (k : Nat), (k ≤ 4) → (b = fitG c (fstR v d) (sndR v d) k) → (4 - k) < n5 → Vw Ω Φ (z, sh, σ, ρ) (0, 0) 5 [(0, .ref M), (1, .int (nI c)), (2, .int (nI d)), (3, .int (bI b)), (4, .int (nI k))] [] := by
    intro n5
    induction n5 with
    | zero => intro b k hk hf hm; exact absurd hm (Nat.not_lt_zero _)
    | succ n5 ih5 =>
      intro b k hk hf hm5
      refine r_iload hc dX12_fits_5 rfl ?_
      refine r_iconst (v := nI 4) hc dX12_fits_7 rfl ?_
      refine r_icmp_ge (tgt := 67) hc dX12_fits_8 (by decide) (le_NN (by omega) (by omega)) (fun c_8 => ?_) (fun c_8 => ?_)
      ·
        refine r_iload_n hc dX12_fits_67 rfl ?_
        exact hR _ _ ⟨congrArg bI (by rw [hf, show k = 4 by omega, fitG_4]; rfl), rfl⟩ (nar_bI _) _ _ dX12_fits_68
      ·
        have hd1 := dgt_lt c (3 - k)
        have hd2 := dgt_lt (v (20 + 6 * d + 2)) (3 - k)
        have hd3 := dgt_lt (v (20 + 6 * d + 3)) (3 - k)
        refine r_iload_n hc dX12_fits_11 rfl ?_
        refine r_iload hc dX12_fits_12 rfl ?_
        refine cl_X12_56 (As := [.int (nI c), .int (nI k)]) hc (c_X12_depth (c := c) (p := k) (by omega) (by omega)) rfl ⟨by decide, by decide⟩ ⟨rfl, rfl⟩ ⟨by decide, by decide⟩ rfl (Nat.le_of_ble_eq_true rfl) dX12_fits_14 (fun r u hp => ?_)
        obtain ⟨rfl, hu⟩ := hp
        rw [hu]
        refine r_istore (ls' := [(5, .int (nI (dgt c (3 - k)))), (0, .ref M), (1, .int (nI c)), (2, .int (nI d)), (3, .int (bI b)), (4, .int (nI k))]) hc dX12_fits_17 (by decide) rfl ?_
        refine r_iload_n hc dX12_fits_19 rfl ?_
        refine r_if_eq (tgt := 59) hc dX12_fits_20 (by decide) (bI_0 _) (fun c_20 => ?_) (fun c_20 => ?_)
        ·
          refine r_iconst (v := nI 0) hc dX12_fits_59 rfl ?_
          refine r_istore_n (ls' := [(3, .int (nI 0)), (5, .int (nI (dgt c (3 - k)))), (0, .ref M), (1, .int (nI c)), (2, .int (nI d)), (4, .int (nI k))]) hc dX12_fits_60 (by decide) rfl ?_
          refine r_iinc (v := nI (k + 1)) (ls' := [(4, .int (nI (k + 1))), (3, .int (nI 0)), (5, .int (nI (dgt c (3 - k)))), (0, .ref M), (1, .int (nI c)), (2, .int (nI d))]) hc dX12_fits_61 rfl (ad_NN _ 1) (by decide) rfl ?_
          refine r_goto (tgt := 5) hc dX12_fits_64 (by decide) ?_
          refine r_locp [3, 4, 5, 1, 0] (ls' := [(0, .ref M), (1, .int (nI c)), (2, .int (nI d)), (3, .int (bI false)), (4, .int (nI (k + 1)))]) rfl ?_
          exact ih5 false (k + 1) (by omega) (by rw [fitG, ← hf, c_20]; rfl) (by omega)
        ·
          have c_20 := bnf c_20
          refine r_iload hc dX12_fits_23 rfl ?_
          refine r_aload_n hc dX12_fits_25 rfl ?_
          refine r_iload_n hc dX12_fits_26 rfl ?_
          refine r_iconst (v := nI 2) hc dX12_fits_27 rfl ?_
          refine cl_X12_67 (As := [.int (nI d), .int (nI 2)]) hc (c_X12_ofLock hM hv (d := d) (w := 2) (by omega) (by omega)) (MS0 hM) rfl ⟨by decide, by decide⟩ ⟨rfl, rfl⟩ ⟨by decide, by decide⟩ rfl (Nat.le_of_ble_eq_true rfl) dX12_fits_28 (fun r u hp => ?_)
          obtain ⟨rfl, hu⟩ := hp
          rw [hu]
          refine r_iload hc dX12_fits_31 rfl ?_
          refine cl_X12_56 (As := [.int (nI (v (20 + 6 * d + 2))), .int (nI k)]) hc (c_X12_depth (c := v (20 + 6 * d + 2)) (p := k) (by omega) (by omega)) rfl ⟨by decide, by decide⟩ ⟨rfl, rfl⟩ ⟨by decide, by decide⟩ rfl (Nat.le_of_ble_eq_true rfl) dX12_fits_33 (fun r u hp => ?_)
          obtain ⟨rfl, hu⟩ := hp
          rw [hu]
          refine r_icmp_eq (tgt := 55) hc dX12_fits_36 (by decide) (eq_NN (by omega) (by omega)) (fun c_36 => ?_) (fun c_36 => ?_)
          ·
            refine r_iconst (v := nI 1) hc dX12_fits_55 rfl ?_
            refine r_goto (tgt := 60) hc dX12_fits_56 (by decide) ?_
            refine r_istore_n (ls' := [(3, .int (nI 1)), (5, .int (nI (dgt c (3 - k)))), (0, .ref M), (1, .int (nI c)), (2, .int (nI d)), (4, .int (nI k))]) hc dX12_fits_60 (by decide) rfl ?_
            refine r_iinc (v := nI (k + 1)) (ls' := [(4, .int (nI (k + 1))), (3, .int (nI 1)), (5, .int (nI (dgt c (3 - k)))), (0, .ref M), (1, .int (nI c)), (2, .int (nI d))]) hc dX12_fits_61 rfl (ad_NN _ 1) (by decide) rfl ?_
            refine r_goto (tgt := 5) hc dX12_fits_64 (by decide) ?_
            refine r_locp [3, 4, 5, 1, 0] (ls' := [(0, .ref M), (1, .int (nI c)), (2, .int (nI d)), (3, .int (bI true)), (4, .int (nI (k + 1)))]) rfl ?_
            exact ih5 true (k + 1) (by omega) (by rw [fitG, ← hf, c_20]; simp [fitK, fstR, c_36]) (by omega)
          ·
            refine r_iload hc dX12_fits_39 rfl ?_
            refine r_aload_n hc dX12_fits_41 rfl ?_
            refine r_iload_n hc dX12_fits_42 rfl ?_
            refine r_iconst (v := nI 3) hc dX12_fits_43 rfl ?_
            refine cl_X12_67 (As := [.int (nI d), .int (nI 3)]) hc (c_X12_ofLock hM hv (d := d) (w := 3) (by omega) (by omega)) (MS0 hM) rfl ⟨by decide, by decide⟩ ⟨rfl, rfl⟩ ⟨by decide, by decide⟩ rfl (Nat.le_of_ble_eq_true rfl) dX12_fits_44 (fun r u hp => ?_)
            obtain ⟨rfl, hu⟩ := hp
            rw [hu]
            refine r_iload hc dX12_fits_47 rfl ?_
            refine cl_X12_56 (As := [.int (nI (v (20 + 6 * d + 3))), .int (nI k)]) hc (c_X12_depth (c := v (20 + 6 * d + 3)) (p := k) (by omega) (by omega)) rfl ⟨by decide, by decide⟩ ⟨rfl, rfl⟩ ⟨by decide, by decide⟩ rfl (Nat.le_of_ble_eq_true rfl) dX12_fits_49 (fun r u hp => ?_)
            obtain ⟨rfl, hu⟩ := hp
            rw [hu]
            refine r_icmp_ne (tgt := 59) hc dX12_fits_52 (by decide) (eq_NN (by omega) (by omega)) (fun c_52 => ?_) (fun c_52 => ?_)
            ·
              refine r_iconst (v := nI 0) hc dX12_fits_59 rfl ?_
              refine r_istore_n (ls' := [(3, .int (nI 0)), (5, .int (nI (dgt c (3 - k)))), (0, .ref M), (1, .int (nI c)), (2, .int (nI d)), (4, .int (nI k))]) hc dX12_fits_60 (by decide) rfl ?_
              refine r_iinc (v := nI (k + 1)) (ls' := [(4, .int (nI (k + 1))), (3, .int (nI 0)), (5, .int (nI (dgt c (3 - k)))), (0, .ref M), (1, .int (nI c)), (2, .int (nI d))]) hc dX12_fits_61 rfl (ad_NN _ 1) (by decide) rfl ?_
              refine r_goto (tgt := 5) hc dX12_fits_64 (by decide) ?_
              refine r_locp [3, 4, 5, 1, 0] (ls' := [(0, .ref M), (1, .int (nI c)), (2, .int (nI d)), (3, .int (bI false)), (4, .int (nI (k + 1)))]) rfl ?_
              exact ih5 false (k + 1) (by omega) (by rw [fitG, ← hf, c_20]; simp [fitK, fstR, sndR, c_36, c_52]) (by omega)
            ·
              refine r_iconst (v := nI 1) hc dX12_fits_55 rfl ?_
              refine r_goto (tgt := 60) hc dX12_fits_56 (by decide) ?_
              refine r_istore_n (ls' := [(3, .int (nI 1)), (5, .int (nI (dgt c (3 - k)))), (0, .ref M), (1, .int (nI c)), (2, .int (nI d)), (4, .int (nI k))]) hc dX12_fits_60 (by decide) rfl ?_
              refine r_iinc (v := nI (k + 1)) (ls' := [(4, .int (nI (k + 1))), (3, .int (nI 1)), (5, .int (nI (dgt c (3 - k)))), (0, .ref M), (1, .int (nI c)), (2, .int (nI d))]) hc dX12_fits_61 rfl (ad_NN _ 1) (by decide) rfl ?_
              refine r_goto (tgt := 5) hc dX12_fits_64 (by decide) ?_
              refine r_locp [3, 4, 5, 1, 0] (ls' := [(0, .ref M), (1, .int (nI c)), (2, .int (nI d)), (3, .int (bI true)), (4, .int (nI (k + 1)))]) rfl ?_
              exact ih5 true (k + 1) (by omega) (by rw [fitG, ← hf, c_20]; simp [fitK, sndR, c_52]) (by omega)
  refine r_locp [2, 3, 4, 1, 0] (ls' := [(0, .ref M), (1, .int (nI c)), (2, .int (nI d)), (3, .int (bI true)), (4, .int (nI 0))]) rfl ?_
  exact loop5 _ true 0 (by omega) rfl (Nat.lt_succ_self _)
set_option maxRecDepth 100000 in
set_option maxHeartbeats 4000000 in
theorem c_X12_isOpenBy {Ω : OmT} {z : Nat} {sh : Nat → Option Kd} {σ : Nat → Nat → Int32} {ρ : Nat → Nat → Option Nat} {M : Nat} {v : Nat → Nat} (hM : MSh sh ρ M) (hv : rowAt σ (M + 1) 170 v) {d ks : Nat} (hd : d < 10) (hf1 : v (20 + 6 * d + 2) < 10000) (hs1 : v (20 + 6 * d + 3) < 10000) (hks : ks < 2147483648) (h5 : v 5 ≤ 16) (hcu : ∀ k, k < v 5 → v (80 + 4 * k) < 10000) : CtI Ω yX12_isOpenBy cX12_isOpenBy 5 .boolean rm_X12_isOpenBy [.ref M, .int (nI d), .int (nI ks)] (z, sh, σ, ρ) (fun r u => r = bI (opnBy v d ks) ∧ u = (z, sh, σ, ρ)) := by
  refine CtI.enter (by decide) (Nat.le_of_ble_eq_true rfl) (fun Φ hc hR => ?_)
  show Vw Ω Φ (z, sh, σ, ρ) (0, 0) 0 [(0, .ref M), (1, .int (nI d)), (2, .int (nI ks))] []
  refine r_iconst (v := nI 0) hc dX12_isOpenBy_0 rfl ?_
  refine r_istore_n (ls' := [(3, .int (nI 0)), (0, .ref M), (1, .int (nI d)), (2, .int (nI ks))]) hc dX12_isOpenBy_1 (by decide) rfl ?_
  refine r_iconst (v := nI 0) hc dX12_isOpenBy_2 rfl ?_
  refine r_istore (ls' := [(4, .int (nI 0)), (3, .int (nI 0)), (0, .ref M), (1, .int (nI d)), (2, .int (nI ks))]) hc dX12_isOpenBy_3 (by decide) rfl ?_
  have loop5 : ∀ (n5 : Nat) (b : Bool) (k : Nat), (k ≤ v 5) → (b = anyF (fun k => ks.testBit k && opnD v (cutR v k) d) k) → (v 5 - k) < n5 → Vw Ω Φ (z, sh, σ, ρ) (0, 0) 5 [(0, .ref M), (1, .int (nI d)), (2, .int (nI ks)), (3, .int (bI b)), (4, .int (nI k))] [] := by
    intro n5
    induction n5 with
    | zero => intro b k hk hf hm; exact absurd hm (Nat.not_lt_zero _)
    | succ n5 ih5 =>
      intro b k hk hf hm5
      refine r_iload hc dX12_isOpenBy_5 rfl ?_
      refine r_aload_n hc dX12_isOpenBy_7 rfl ?_
      refine gf_X12_7 (q := M + 1) hc (MS0 hM) (MSr hM 0 1 (by decide)) dX12_isOpenBy_8 ?_
      refine r_iconst (v := nI 5) hc dX12_isOpenBy_11 rfl ?_
      refine r_iald (x := nI (v 5)) (j := 5) hc (MSa hM 1 0 170 rfl) rfl (by omega) (by decide) (hv _ (by omega)) dX12_isOpenBy_12 ?_
      refine r_icmp_ge (tgt := 56) hc dX12_isOpenBy_13 (by decide) (le_NN (by omega) (by omega)) (fun c_13 => ?_) (fun c_13 => ?_)
      ·
        refine r_iload_n hc dX12_isOpenBy_56 rfl ?_
        exact hR _ _ ⟨congrArg bI (by rw [hf, show k = v 5 by omega]; rfl), rfl⟩ (nar_bI _) _ _ dX12_isOpenBy_57
      ·
        have hck := hcu k (by omega)
        refine r_iload_n hc dX12_isOpenBy_16 rfl ?_
        refine r_if_ne (tgt := 44) hc dX12_isOpenBy_17 (by decide) (bI_0 _) (fun c_17 => ?_) (fun c_17 => ?_)
        ·
          have c_17 := bnf c_17
          refine r_iconst (v := nI 1) hc dX12_isOpenBy_44 rfl ?_
          refine r_goto (tgt := 49) hc dX12_isOpenBy_45 (by decide) ?_
          refine r_istore_n (ls' := [(3, .int (nI 1)), (0, .ref M), (1, .int (nI d)), (2, .int (nI ks)), (4, .int (nI k))]) hc dX12_isOpenBy_49 (by decide) rfl ?_
          refine r_iinc (v := nI (k + 1)) (ls' := [(4, .int (nI (k + 1))), (3, .int (nI 1)), (0, .ref M), (1, .int (nI d)), (2, .int (nI ks))]) hc dX12_isOpenBy_50 rfl (ad_NN _ 1) (by decide) rfl ?_
          refine r_goto (tgt := 5) hc dX12_isOpenBy_53 (by decide) ?_
          refine r_locp [2, 3, 4, 1, 0] (ls' := [(0, .ref M), (1, .int (nI d)), (2, .int (nI ks)), (3, .int (bI true)), (4, .int (nI (k + 1)))]) rfl ?_
          exact ih5 true (k + 1) (by omega) (by rw [anyF, ← hf, c_17]; rfl) (by omega)
        ·
          refine r_iload_n hc dX12_isOpenBy_20 rfl ?_
          refine r_iload hc dX12_isOpenBy_21 rfl ?_
          refine r_ishr (v := nI (ks / 2 ^ k)) hc dX12_isOpenBy_23 (sr_NN _ _ (by omega) (by omega)) ?_
          refine r_iconst (v := nI 1) hc dX12_isOpenBy_24 rfl ?_
          refine r_iand (v := nI ((ks / 2 ^ k) &&& 1)) hc dX12_isOpenBy_25 (an_NN _ _) ?_
          refine r_iconst (v := nI 1) hc dX12_isOpenBy_26 rfl ?_
          refine r_icmp_ne (tgt := 48) hc dX12_isOpenBy_27 (by decide) (eq_NN (Nat.lt_of_le_of_lt Nat.and_le_right (by decide)) (by omega)) (fun c_27 => ?_) (fun c_27 => ?_)
          ·
            refine r_iconst (v := nI 0) hc dX12_isOpenBy_48 rfl ?_
            refine r_istore_n (ls' := [(3, .int (nI 0)), (0, .ref M), (1, .int (nI d)), (2, .int (nI ks)), (4, .int (nI k))]) hc dX12_isOpenBy_49 (by decide) rfl ?_
            refine r_iinc (v := nI (k + 1)) (ls' := [(4, .int (nI (k + 1))), (3, .int (nI 0)), (0, .ref M), (1, .int (nI d)), (2, .int (nI ks))]) hc dX12_isOpenBy_50 rfl (ad_NN _ 1) (by decide) rfl ?_
            refine r_goto (tgt := 5) hc dX12_isOpenBy_53 (by decide) ?_
            refine r_locp [2, 3, 4, 1, 0] (ls' := [(0, .ref M), (1, .int (nI d)), (2, .int (nI ks)), (3, .int (bI false)), (4, .int (nI (k + 1)))]) rfl ?_
            exact ih5 false (k + 1) (by omega) (by rw [tb_1] at c_27; rw [anyF, ← hf, c_17, Bool.eq_false_iff.mpr c_27]; rfl) (by omega)
          ·
            refine r_aload_n hc dX12_isOpenBy_30 rfl ?_
            refine r_aload_n hc dX12_isOpenBy_31 rfl ?_
            refine r_iload hc dX12_isOpenBy_32 rfl ?_
            refine cl_X12_90 (As := [.int (nI k)]) hc (c_X12_cutsOf hM hv (k := k) (by omega)) (MS0 hM) rfl ⟨by decide, by decide⟩ ⟨rfl, rfl⟩ ⟨by decide, by decide⟩ rfl (Nat.le_of_ble_eq_true rfl) dX12_isOpenBy_34 (fun r u hp => ?_)
            obtain ⟨rfl, hu⟩ := hp
            rw [hu]
            refine r_iload_n hc dX12_isOpenBy_37 rfl ?_
            refine cl_X12_112 (As := [.int (nI (v (80 + 4 * k))), .int (nI d)]) hc (c_X12_fits hM hv (c := v (80 + 4 * k)) (d := d) (by omega) (by omega) (by omega) (by omega)) (MS0 hM) rfl ⟨by decide, by decide⟩ ⟨rfl, rfl⟩ ⟨by decide, by decide⟩ rfl (Nat.le_of_ble_eq_true rfl) dX12_isOpenBy_38 (fun r u hp => ?_)
            obtain ⟨rfl, hu⟩ := hp
            rw [hu]
            refine r_if_eq (tgt := 48) hc dX12_isOpenBy_41 (by decide) (bI_0 _) (fun c_41 => ?_) (fun c_41 => ?_)
            ·
              refine r_iconst (v := nI 0) hc dX12_isOpenBy_48 rfl ?_
              refine r_istore_n (ls' := [(3, .int (nI 0)), (0, .ref M), (1, .int (nI d)), (2, .int (nI ks)), (4, .int (nI k))]) hc dX12_isOpenBy_49 (by decide) rfl ?_
              refine r_iinc (v := nI (k + 1)) (ls' := [(4, .int (nI (k + 1))), (3, .int (nI 0)), (0, .ref M), (1, .int (nI d)), (2, .int (nI ks))]) hc dX12_isOpenBy_50 rfl (ad_NN _ 1) (by decide) rfl ?_
              refine r_goto (tgt := 5) hc dX12_isOpenBy_53 (by decide) ?_
              refine r_locp [2, 3, 4, 1, 0] (ls' := [(0, .ref M), (1, .int (nI d)), (2, .int (nI ks)), (3, .int (bI false)), (4, .int (nI (k + 1)))]) rfl ?_
              exact ih5 false (k + 1) (by omega) (by rw [anyF, ← hf, c_17]; simp [cutR, c_41]) (by omega)
            ·
              have c_41 := bnf c_41
              refine r_iconst (v := nI 1) hc dX12_isOpenBy_44 rfl ?_
              refine r_goto (tgt := 49) hc dX12_isOpenBy_45 (by decide) ?_
              refine r_istore_n (ls' := [(3, .int (nI 1)), (0, .ref M), (1, .int (nI d)), (2, .int (nI ks)), (4, .int (nI k))]) hc dX12_isOpenBy_49 (by decide) rfl ?_
              refine r_iinc (v := nI (k + 1)) (ls' := [(4, .int (nI (k + 1))), (3, .int (nI 1)), (0, .ref M), (1, .int (nI d)), (2, .int (nI ks))]) hc dX12_isOpenBy_50 rfl (ad_NN _ 1) (by decide) rfl ?_
              refine r_goto (tgt := 5) hc dX12_isOpenBy_53 (by decide) ?_
              refine r_locp [2, 3, 4, 1, 0] (ls' := [(0, .ref M), (1, .int (nI d)), (2, .int (nI ks)), (3, .int (bI true)), (4, .int (nI (k + 1)))]) rfl ?_
              exact ih5 true (k + 1) (by omega) (by rw [tb_1] at c_27; rw [anyF, ← hf, c_17, c_27]; simp [cutR, c_41]) (by omega)
  refine r_locp [2, 3, 4, 1, 0] (ls' := [(0, .ref M), (1, .int (nI d)), (2, .int (nI ks)), (3, .int (bI false)), (4, .int (nI 0))]) rfl ?_
  exact loop5 _ false 0 (by omega) rfl (Nat.lt_succ_self _)
set_option maxRecDepth 100000 in
set_option maxHeartbeats 4000000 in
theorem c_X12_behind {Ω : OmT} {z : Nat} {sh : Nat → Option Kd} {σ : Nat → Nat → Int32} {ρ : Nat → Nat → Option Nat} {M : Nat} {v : Nat → Nat} (hM : MSh sh ρ M) (hv : rowAt σ (M + 1) 170 v) {d r : Nat} (hd : d < 10) (h1 : v (20 + 6 * d) < 8) (h2 : v (20 + 6 * d + 1) < 8) (hr : r < 8) : CtI Ω yX12_behind cX12_behind 3 .int rm_X12_behind [.ref M, .int (nI d), .int (nI r)] (z, sh, σ, ρ) (fun r1 u => r1 = zI (behR v d r) ∧ u = (z, sh, σ, ρ)) := by
  refine CtI.enter (by decide) (Nat.le_of_ble_eq_true rfl) (fun Φ hc hR => ?_)
  show Vw Ω Φ (z, sh, σ, ρ) (0, 0) 0 [(0, .ref M), (1, .int (nI d)), (2, .int (nI r))] []
  refine r_aload_n hc dX12_behind_0 rfl ?_
  refine r_iload_n hc dX12_behind_1 rfl ?_
  refine r_iconst (v := nI 0) hc dX12_behind_2 rfl ?_
  refine cl_X12_67 (As := [.int (nI d), .int (nI 0)]) hc (c_X12_ofLock0 hM hv (d := d) (by omega)) (MS0 hM) rfl ⟨by decide, by decide⟩ ⟨rfl, rfl⟩ ⟨by decide, by decide⟩ rfl (Nat.le_of_ble_eq_true rfl) dX12_behind_3 (fun r u hp => ?_)
  obtain ⟨rfl, hu⟩ := hp
  rw [hu]
  refine r_iload_n hc dX12_behind_6 rfl ?_
  refine r_icmp_ne (tgt := 19) hc dX12_behind_7 (by decide) (eq_NN (by omega) (by omega)) (fun c_7 => ?_) (fun c_7 => ?_)
  ·
    refine r_aload_n hc dX12_behind_19 rfl ?_
    refine r_iload_n hc dX12_behind_20 rfl ?_
    refine r_iconst (v := nI 1) hc dX12_behind_21 rfl ?_
    refine cl_X12_67 (As := [.int (nI d), .int (nI 1)]) hc (c_X12_ofLock hM hv (d := d) (w := 1) (by omega) (by omega)) (MS0 hM) rfl ⟨by decide, by decide⟩ ⟨rfl, rfl⟩ ⟨by decide, by decide⟩ rfl (Nat.le_of_ble_eq_true rfl) dX12_behind_22 (fun r u hp => ?_)
    obtain ⟨rfl, hu⟩ := hp
    rw [hu]
    refine r_iload_n hc dX12_behind_25 rfl ?_
    refine r_icmp_ne (tgt := 38) hc dX12_behind_26 (by decide) (eq_NN (by omega) (by omega)) (fun c_26 => ?_) (fun c_26 => ?_)
    ·
      refine r_bipush (v := zI (-6)) hc dX12_behind_38 rfl ?_
      exact hR _ _ ⟨(by unfold behR; rw [if_neg c_7, if_neg c_26]), rfl⟩ rfl _ _ dX12_behind_40
    ·
      refine r_aload_n hc dX12_behind_29 rfl ?_
      refine r_iload_n hc dX12_behind_30 rfl ?_
      refine r_iconst (v := nI 0) hc dX12_behind_31 rfl ?_
      refine cl_X12_67 (As := [.int (nI d), .int (nI 0)]) hc (c_X12_ofLock0 hM hv (d := d) (by omega)) (MS0 hM) rfl ⟨by decide, by decide⟩ ⟨rfl, rfl⟩ ⟨by decide, by decide⟩ rfl (Nat.le_of_ble_eq_true rfl) dX12_behind_32 (fun r u hp => ?_)
      obtain ⟨rfl, hu⟩ := hp
      rw [hu]
      refine r_goto (tgt := 40) hc dX12_behind_35 (by decide) ?_
      exact hR _ _ ⟨(by unfold behR; rw [if_neg c_7, if_pos c_26, nz]), rfl⟩ rfl _ _ dX12_behind_40
  ·
    refine r_aload_n hc dX12_behind_10 rfl ?_
    refine r_iload_n hc dX12_behind_11 rfl ?_
    refine r_iconst (v := nI 1) hc dX12_behind_12 rfl ?_
    refine cl_X12_67 (As := [.int (nI d), .int (nI 1)]) hc (c_X12_ofLock hM hv (d := d) (w := 1) (by omega) (by omega)) (MS0 hM) rfl ⟨by decide, by decide⟩ ⟨rfl, rfl⟩ ⟨by decide, by decide⟩ rfl (Nat.le_of_ble_eq_true rfl) dX12_behind_13 (fun r u hp => ?_)
    obtain ⟨rfl, hu⟩ := hp
    rw [hu]
    refine r_goto (tgt := 40) hc dX12_behind_16 (by decide) ?_
    exact hR _ _ ⟨(by unfold behR; rw [if_pos c_7, nz]), rfl⟩ rfl _ _ dX12_behind_40
set_option maxRecDepth 100000 in
set_option maxHeartbeats 4000000 in
theorem c_X12_placeOf {Ω : OmT} {z : Nat} {sh : Nat → Option Kd} {σ : Nat → Nat → Int32} {ρ : Nat → Nat → Option Nat} {M : Nat} {v : Nat → Nat} (hM : MSh sh ρ M) (hv : rowAt σ (M + 1) 170 v) {d : Nat} (hd : d < 10) (h9 : v 9 ≤ 6) (hpl : ∀ p, p < v 9 → v (150 + 3 * p) < 10) : CtI Ω yX12_placeOf cX12_placeOf 4 .int rm_X12_placeOf [.ref M, .int (nI d)] (z, sh, σ, ρ) (fun r u => r = zI (plcO v d) ∧ u = (z, sh, σ, ρ)) := by
  refine CtI.enter (by decide) (Nat.le_of_ble_eq_true rfl) (fun Φ hc hR => ?_)
  show Vw Ω Φ (z, sh, σ, ρ) (0, 0) 0 [(0, .ref M), (1, .int (nI d))] []
  refine r_bipush (v := zI (-6)) hc dX12_placeOf_0 rfl ?_
  refine r_istore_n (ls' := [(2, .int (zI (-6))), (0, .ref M), (1, .int (nI d))]) hc dX12_placeOf_2 (by decide) rfl ?_
  refine r_iconst (v := nI 0) hc dX12_placeOf_3 rfl ?_
  refine r_istore_n (ls' := [(3, .int (nI 0)), (2, .int (zI (-6))), (0, .ref M), (1, .int (nI d))]) hc dX12_placeOf_4 (by decide) rfl ?_
  have loop5 : ∀ (n5 : Nat) (a : Int) (k : Nat), (k ≤ v 9) → (a = plcF v d k) → (v 9 - k) < n5 → Vw Ω Φ (z, sh, σ, ρ) (0, 0) 5 [(0, .ref M), (1, .int (nI d)), (2, .int (zI a)), (3, .int (nI k))] [] := by
    intro n5
    induction n5 with
    | zero => intro a k hk hf hm; exact absurd hm (Nat.not_lt_zero _)
    | succ n5 ih5 =>
      intro a k hk hf hm5
      refine r_iload_n hc dX12_placeOf_5 rfl ?_
      refine r_aload_n hc dX12_placeOf_6 rfl ?_
      refine gf_X12_7 (q := M + 1) hc (MS0 hM) (MSr hM 0 1 (by decide)) dX12_placeOf_7 ?_
      refine r_bipush (v := nI 9) hc dX12_placeOf_10 rfl ?_
      refine r_iald (x := nI (v 9)) (j := 9) hc (MSa hM 1 0 170 rfl) rfl (by omega) (by decide) (hv _ (by omega)) dX12_placeOf_12 ?_
      refine r_icmp_ge (tgt := 44) hc dX12_placeOf_13 (by decide) (le_NN (by omega) (by omega)) (fun c_13 => ?_) (fun c_13 => ?_)
      ·
        refine r_iload_n hc dX12_placeOf_44 rfl ?_
        exact hR _ _ ⟨congrArg zI (by rw [hf, show k = v 9 by omega]; rfl), rfl⟩ rfl _ _ dX12_placeOf_45
      ·
        have hpk := hpl k (by omega)
        refine r_aload_n hc dX12_placeOf_16 rfl ?_
        refine gf_X12_7 (q := M + 1) hc (MS0 hM) (MSr hM 0 1 (by decide)) dX12_placeOf_17 ?_
        refine r_sipush (v := nI 150) hc dX12_placeOf_20 rfl ?_
        refine r_iconst (v := nI 3) hc dX12_placeOf_23 rfl ?_
        refine r_iload_n hc dX12_placeOf_24 rfl ?_
        refine r_imul (v := nI (3 * k)) hc dX12_placeOf_25 (ml_NN _ _) ?_
        refine r_iadd (v := nI (150 + (3 * k))) hc dX12_placeOf_26 (ad_NN _ _) ?_
        refine r_iald (x := nI (v (150 + (3 * k)))) (j := 150 + (3 * k)) hc (MSa hM 1 0 170 rfl) rfl (by omega) (by decide) (hv _ (by omega)) dX12_placeOf_27 ?_
        refine r_iload_n hc dX12_placeOf_28 rfl ?_
        refine r_icmp_ne (tgt := 36) hc dX12_placeOf_29 (by decide) (eq_NN (by omega) (by omega)) (fun c_29 => ?_) (fun c_29 => ?_)
        ·
          refine r_iload_n hc dX12_placeOf_36 rfl ?_
          refine r_istore_n (ls' := [(2, .int (zI a)), (0, .ref M), (1, .int (nI d)), (3, .int (nI k))]) hc dX12_placeOf_37 (by decide) rfl ?_
          refine r_iinc (v := nI (k + 1)) (ls' := [(3, .int (nI (k + 1))), (2, .int (zI a)), (0, .ref M), (1, .int (nI d))]) hc dX12_placeOf_38 rfl (ad_NN _ 1) (by decide) rfl ?_
          refine r_goto (tgt := 5) hc dX12_placeOf_41 (by decide) ?_
          refine r_locp [2, 3, 1, 0] (ls' := [(0, .ref M), (1, .int (nI d)), (2, .int (zI a)), (3, .int (nI (k + 1)))]) rfl ?_
          exact ih5 a (k + 1) (by omega) (by rw [plcF, if_neg c_29]; exact hf) (by omega)
        ·
          refine r_iload_n hc dX12_placeOf_32 rfl ?_
          refine r_goto (tgt := 37) hc dX12_placeOf_33 (by decide) ?_
          refine r_istore_n (ls' := [(2, .int (nI k)), (0, .ref M), (1, .int (nI d)), (3, .int (nI k))]) hc dX12_placeOf_37 (by decide) rfl ?_
          refine r_iinc (v := nI (k + 1)) (ls' := [(3, .int (nI (k + 1))), (2, .int (nI k)), (0, .ref M), (1, .int (nI d))]) hc dX12_placeOf_38 rfl (ad_NN _ 1) (by decide) rfl ?_
          refine r_goto (tgt := 5) hc dX12_placeOf_41 (by decide) ?_
          rw [nz k]
          refine r_locp [2, 3, 1, 0] (ls' := [(0, .ref M), (1, .int (nI d)), (2, .int (zI (((k : Nat) : Int)))), (3, .int (nI (k + 1)))]) rfl ?_
          exact ih5 (((k : Nat) : Int)) (k + 1) (by omega) (by rw [plcF, if_pos c_29]) (by omega)
  refine r_locp [2, 3, 1, 0] (ls' := [(0, .ref M), (1, .int (nI d)), (2, .int (zI (-6))), (3, .int (nI 0))]) rfl ?_
  exact loop5 _ (-6) 0 (by omega) rfl (Nat.lt_succ_self _)
