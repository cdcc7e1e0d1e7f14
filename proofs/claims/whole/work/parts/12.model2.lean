set_option maxRecDepth 100000 in
set_option maxHeartbeats 4000000 in
theorem c_X12_keysFor {Ω : OmT} {z : Nat} {sh : Nat → Option Kd} {σ : Nat → Nat → Int32} {ρ : Nat → Nat → Option Nat} {M : Nat} {v : Nat → Nat} (hM : MSh sh ρ M) (hv : rowAt σ (M + 1) 170 v) {d : Nat} (hd : d < 10) (hf1 : v (20 + 6 * d + 2) < 10000) (hs1 : v (20 + 6 * d + 3) < 10000) (h5 : v 5 ≤ 16) (hcu : ∀ k, k < v 5 → v (80 + 4 * k) < 10000) (hwh : ∀ k, k < v 5 → v (80 + 4 * k + 2) ≤ 9) : CtI Ω yX12_keysFor cX12_keysFor 4 .int rm_X12_keysFor [.ref M, .int (nI d)] (z, sh, σ, ρ) (fun r u => r = nI (keysFor v d) ∧ u = (z, sh, σ, ρ)) := by
  refine CtI.enter (by decide) (Nat.le_of_ble_eq_true rfl) (fun Φ hc hR => ?_)
  show Vw Ω Φ (z, sh, σ, ρ) (0, 0) 0 [(0, .ref M), (1, .int (nI d))] []
  refine r_iconst (v := nI 0) hc dX12_keysFor_0 rfl ?_
  refine r_istore_n (ls' := [(2, .int (nI 0)), (0, .ref M), (1, .int (nI d))]) hc dX12_keysFor_1 (by decide) rfl ?_
  refine r_iconst (v := nI 0) hc dX12_keysFor_2 rfl ?_
  refine r_istore_n (ls' := [(3, .int (nI 0)), (2, .int (nI 0)), (0, .ref M), (1, .int (nI d))]) hc dX12_keysFor_3 (by decide) rfl ?_
  have loop4 : ∀ (n4 : Nat) (a : Nat) (k : Nat), (k ≤ v 5) → (a = bitsF (fun k => !decide (whrR v k = 9) && opnD v (cutR v k) d) k) → (v 5 - k) < n4 → Vw Ω Φ (z, sh, σ, ρ) (0, 0) 4 [(0, .ref M), (1, .int (nI d)), (2, .int (nI a)), (3, .int (nI k))] [] := by
    intro n4
    induction n4 with
    | zero => intro a k hk hf hm; exact absurd hm (Nat.not_lt_zero _)
    | succ n4 ih4 =>
      intro a k hk hf hm4
      refine r_iload_n hc dX12_keysFor_4 rfl ?_
      refine r_aload_n hc dX12_keysFor_5 rfl ?_
      refine gf_X12_7 (q := M + 1) hc (MS0 hM) (MSr hM 0 1 (by decide)) dX12_keysFor_6 ?_
      refine r_iconst (v := nI 5) hc dX12_keysFor_9 rfl ?_
      refine r_iald (x := nI (v 5)) (j := 5) hc (MSa hM 1 0 170 rfl) rfl (by omega) (by decide) (hv _ (by omega)) dX12_keysFor_10 ?_
      refine r_icmp_ge (tgt := 53) hc dX12_keysFor_11 (by decide) (le_NN (by omega) (by omega)) (fun c_11 => ?_) (fun c_11 => ?_)
      ·
        refine r_iload_n hc dX12_keysFor_53 rfl ?_
        exact hR _ _ ⟨congrArg nI (by rw [hf, show k = v 5 by omega]; rfl), rfl⟩ rfl _ _ dX12_keysFor_54
      ·
        have hck := hcu k (by omega)
        have hwk := hwh k (by omega)
        refine r_iload_n hc dX12_keysFor_14 rfl ?_
        refine r_aload_n hc dX12_keysFor_15 rfl ?_
        refine r_iload_n hc dX12_keysFor_16 rfl ?_
        refine cl_X12_87 (As := [.int (nI k)]) hc (c_X12_whereIs hM hv (k := k) (by omega)) (MS0 hM) rfl ⟨by decide, by decide⟩ ⟨rfl, rfl⟩ ⟨by decide, by decide⟩ rfl (Nat.le_of_ble_eq_true rfl) dX12_keysFor_17 (fun r u hp => ?_)
        obtain ⟨rfl, hu⟩ := hp
        rw [hu]
        refine r_bipush (v := nI 9) hc dX12_keysFor_20 rfl ?_
        refine r_icmp_eq (tgt := 44) hc dX12_keysFor_22 (by decide) (eq_NN (by omega) (by omega)) (fun c_22 => ?_) (fun c_22 => ?_)
        ·
          refine r_iconst (v := nI 0) hc dX12_keysFor_44 rfl ?_
          refine r_ior (v := nI (a ||| 0)) hc dX12_keysFor_45 (or_NN _ _) ?_
          refine r_istore_n (ls' := [(2, .int (nI (a ||| 0))), (0, .ref M), (1, .int (nI d)), (3, .int (nI k))]) hc dX12_keysFor_46 (by decide) rfl ?_
          refine r_iinc (v := nI (k + 1)) (ls' := [(3, .int (nI (k + 1))), (2, .int (nI (a ||| 0))), (0, .ref M), (1, .int (nI d))]) hc dX12_keysFor_47 rfl (ad_NN _ 1) (by decide) rfl ?_
          refine r_goto (tgt := 4) hc dX12_keysFor_50 (by decide) ?_
          refine r_locp [2, 3, 1, 0] (ls' := [(0, .ref M), (1, .int (nI d)), (2, .int (nI (a ||| 0))), (3, .int (nI (k + 1)))]) rfl ?_
          exact ih4 (a ||| 0) (k + 1) (by omega) (by rw [bitsF, ← hf]; simp [whrR, cutR, c_22]) (by omega)
        ·
          refine r_aload_n hc dX12_keysFor_25 rfl ?_
          refine r_aload_n hc dX12_keysFor_26 rfl ?_
          refine r_iload_n hc dX12_keysFor_27 rfl ?_
          refine cl_X12_90 (As := [.int (nI k)]) hc (c_X12_cutsOf hM hv (k := k) (by omega)) (MS0 hM) rfl ⟨by decide, by decide⟩ ⟨rfl, rfl⟩ ⟨by decide, by decide⟩ rfl (Nat.le_of_ble_eq_true rfl) dX12_keysFor_28 (fun r u hp => ?_)
          obtain ⟨rfl, hu⟩ := hp
          rw [hu]
          refine r_iload_n hc dX12_keysFor_31 rfl ?_
          refine cl_X12_112 (As := [.int (nI (v (80 + 4 * k))), .int (nI d)]) hc (c_X12_fits hM hv (c := v (80 + 4 * k)) (d := d) (by omega) (by omega) (by omega) (by omega)) (MS0 hM) rfl ⟨by decide, by decide⟩ ⟨rfl, rfl⟩ ⟨by decide, by decide⟩ rfl (Nat.le_of_ble_eq_true rfl) dX12_keysFor_32 (fun r u hp => ?_)
          obtain ⟨rfl, hu⟩ := hp
          rw [hu]
          refine r_if_eq (tgt := 44) hc dX12_keysFor_35 (by decide) (bI_0 _) (fun c_35 => ?_) (fun c_35 => ?_)
          ·
            refine r_iconst (v := nI 0) hc dX12_keysFor_44 rfl ?_
            refine r_ior (v := nI (a ||| 0)) hc dX12_keysFor_45 (or_NN _ _) ?_
            refine r_istore_n (ls' := [(2, .int (nI (a ||| 0))), (0, .ref M), (1, .int (nI d)), (3, .int (nI k))]) hc dX12_keysFor_46 (by decide) rfl ?_
            refine r_iinc (v := nI (k + 1)) (ls' := [(3, .int (nI (k + 1))), (2, .int (nI (a ||| 0))), (0, .ref M), (1, .int (nI d))]) hc dX12_keysFor_47 rfl (ad_NN _ 1) (by decide) rfl ?_
            refine r_goto (tgt := 4) hc dX12_keysFor_50 (by decide) ?_
            refine r_locp [2, 3, 1, 0] (ls' := [(0, .ref M), (1, .int (nI d)), (2, .int (nI (a ||| 0))), (3, .int (nI (k + 1)))]) rfl ?_
            exact ih4 (a ||| 0) (k + 1) (by omega) (by rw [bitsF, ← hf]; simp [whrR, cutR, c_22, c_35]) (by omega)
          ·
            have c_35 := bnf c_35
            refine r_iconst (v := nI 1) hc dX12_keysFor_38 rfl ?_
            refine r_iload_n hc dX12_keysFor_39 rfl ?_
            refine r_ishl (v := nI (2 ^ k)) hc dX12_keysFor_40 (sl_1 _ (by omega)) ?_
            refine r_goto (tgt := 45) hc dX12_keysFor_41 (by decide) ?_
            refine r_ior (v := nI (a ||| (2 ^ k))) hc dX12_keysFor_45 (or_NN _ _) ?_
            refine r_istore_n (ls' := [(2, .int (nI (a ||| (2 ^ k)))), (0, .ref M), (1, .int (nI d)), (3, .int (nI k))]) hc dX12_keysFor_46 (by decide) rfl ?_
            refine r_iinc (v := nI (k + 1)) (ls' := [(3, .int (nI (k + 1))), (2, .int (nI (a ||| (2 ^ k)))), (0, .ref M), (1, .int (nI d))]) hc dX12_keysFor_47 rfl (ad_NN _ 1) (by decide) rfl ?_
            refine r_goto (tgt := 4) hc dX12_keysFor_50 (by decide) ?_
            refine r_locp [2, 3, 1, 0] (ls' := [(0, .ref M), (1, .int (nI d)), (2, .int (nI (a ||| (2 ^ k)))), (3, .int (nI (k + 1)))]) rfl ?_
            exact ih4 (a ||| (2 ^ k)) (k + 1) (by omega) (by rw [bitsF, ← hf]; simp [whrR, cutR, c_22, c_35]) (by omega)
  refine r_locp [2, 3, 1, 0] (ls' := [(0, .ref M), (1, .int (nI d)), (2, .int (nI 0)), (3, .int (nI 0))]) rfl ?_
  exact loop4 _ 0 0 (by omega) rfl (Nat.lt_succ_self _)
set_option maxRecDepth 100000 in
set_option maxHeartbeats 4000000 in
theorem c_X12_doorsOf {Ω : OmT} {z : Nat} {sh : Nat → Option Kd} {σ : Nat → Nat → Int32} {ρ : Nat → Nat → Option Nat} {M : Nat} {v : Nat → Nat} (hM : MSh sh ρ M) (hv : rowAt σ (M + 1) 170 v) {k1 : Nat} (hk1 : k1 < 16) (hcu : v (80 + 4 * k1) < 10000) (hwh : v (80 + 4 * k1 + 2) ≤ 9) (h4 : v 4 ≤ 10) (hdr : ∀ d, d < v 4 → v (20 + 6 * d + 2) < 10000 ∧ v (20 + 6 * d + 3) < 10000) : CtI Ω yX12_doorsOf cX12_doorsOf 4 .int rm_X12_doorsOf [.ref M, .int (nI k1)] (z, sh, σ, ρ) (fun r u => r = nI (doorsOf v k1) ∧ u = (z, sh, σ, ρ)) := by
  refine CtI.enter (by decide) (Nat.le_of_ble_eq_true rfl) (fun Φ hc hR => ?_)
  show Vw Ω Φ (z, sh, σ, ρ) (0, 0) 0 [(0, .ref M), (1, .int (nI k1))] []
  refine r_iconst (v := nI 0) hc dX12_doorsOf_0 rfl ?_
  refine r_istore_n (ls' := [(2, .int (nI 0)), (0, .ref M), (1, .int (nI k1))]) hc dX12_doorsOf_1 (by decide) rfl ?_
  refine r_iconst (v := nI 0) hc dX12_doorsOf_2 rfl ?_
  refine r_istore_n (ls' := [(3, .int (nI 0)), (2, .int (nI 0)), (0, .ref M), (1, .int (nI k1))]) hc dX12_doorsOf_3 (by decide) rfl ?_
  have loop4 : ∀ (n4 : Nat) (a : Nat) (k : Nat), (k ≤ v 4) → (a = bitsF (fun d => !decide (whrR v k1 = 9) && opnD v (cutR v k1) d) k) → (v 4 - k) < n4 → Vw Ω Φ (z, sh, σ, ρ) (0, 0) 4 [(0, .ref M), (1, .int (nI k1)), (2, .int (nI a)), (3, .int (nI k))] [] := by
    intro n4
    induction n4 with
    | zero => intro a k hk hf hm; exact absurd hm (Nat.not_lt_zero _)
    | succ n4 ih4 =>
      intro a k hk hf hm4
      refine r_iload_n hc dX12_doorsOf_4 rfl ?_
      refine r_aload_n hc dX12_doorsOf_5 rfl ?_
      refine gf_X12_7 (q := M + 1) hc (MS0 hM) (MSr hM 0 1 (by decide)) dX12_doorsOf_6 ?_
      refine r_iconst (v := nI 4) hc dX12_doorsOf_9 rfl ?_
      refine r_iald (x := nI (v 4)) (j := 4) hc (MSa hM 1 0 170 rfl) rfl (by omega) (by decide) (hv _ (by omega)) dX12_doorsOf_10 ?_
      refine r_icmp_ge (tgt := 53) hc dX12_doorsOf_11 (by decide) (le_NN (by omega) (by omega)) (fun c_11 => ?_) (fun c_11 => ?_)
      ·
        refine r_iload_n hc dX12_doorsOf_53 rfl ?_
        exact hR _ _ ⟨congrArg nI (by rw [hf, show k = v 4 by omega]; rfl), rfl⟩ rfl _ _ dX12_doorsOf_54
      ·
        have hdk := hdr k (by omega)
        refine r_iload_n hc dX12_doorsOf_14 rfl ?_
        refine r_aload_n hc dX12_doorsOf_15 rfl ?_
        refine r_iload_n hc dX12_doorsOf_16 rfl ?_
        refine cl_X12_87 (As := [.int (nI k1)]) hc (c_X12_whereIs hM hv (k := k1) (by omega)) (MS0 hM) rfl ⟨by decide, by decide⟩ ⟨rfl, rfl⟩ ⟨by decide, by decide⟩ rfl (Nat.le_of_ble_eq_true rfl) dX12_doorsOf_17 (fun r u hp => ?_)
        obtain ⟨rfl, hu⟩ := hp
        rw [hu]
        refine r_bipush (v := nI 9) hc dX12_doorsOf_20 rfl ?_
        refine r_icmp_eq (tgt := 44) hc dX12_doorsOf_22 (by decide) (eq_NN (by omega) (by omega)) (fun c_22 => ?_) (fun c_22 => ?_)
        ·
          refine r_iconst (v := nI 0) hc dX12_doorsOf_44 rfl ?_
          refine r_ior (v := nI (a ||| 0)) hc dX12_doorsOf_45 (or_NN _ _) ?_
          refine r_istore_n (ls' := [(2, .int (nI (a ||| 0))), (0, .ref M), (1, .int (nI k1)), (3, .int (nI k))]) hc dX12_doorsOf_46 (by decide) rfl ?_
          refine r_iinc (v := nI (k + 1)) (ls' := [(3, .int (nI (k + 1))), (2, .int (nI (a ||| 0))), (0, .ref M), (1, .int (nI k1))]) hc dX12_doorsOf_47 rfl (ad_NN _ 1) (by decide) rfl ?_
          refine r_goto (tgt := 4) hc dX12_doorsOf_50 (by decide) ?_
          refine r_locp [2, 3, 1, 0] (ls' := [(0, .ref M), (1, .int (nI k1)), (2, .int (nI (a ||| 0))), (3, .int (nI (k + 1)))]) rfl ?_
          exact ih4 (a ||| 0) (k + 1) (by omega) (by rw [bitsF, ← hf]; simp [whrR, cutR, c_22]) (by omega)
        ·
          refine r_aload_n hc dX12_doorsOf_25 rfl ?_
          refine r_aload_n hc dX12_doorsOf_26 rfl ?_
          refine r_iload_n hc dX12_doorsOf_27 rfl ?_
          refine cl_X12_90 (As := [.int (nI k1)]) hc (c_X12_cutsOf hM hv (k := k1) (by omega)) (MS0 hM) rfl ⟨by decide, by decide⟩ ⟨rfl, rfl⟩ ⟨by decide, by decide⟩ rfl (Nat.le_of_ble_eq_true rfl) dX12_doorsOf_28 (fun r u hp => ?_)
          obtain ⟨rfl, hu⟩ := hp
          rw [hu]
          refine r_iload_n hc dX12_doorsOf_31 rfl ?_
          refine cl_X12_112 (As := [.int (nI (v (80 + 4 * k1))), .int (nI k)]) hc (c_X12_fits hM hv (c := v (80 + 4 * k1)) (d := k) (by omega) (by omega) (by omega) (by omega)) (MS0 hM) rfl ⟨by decide, by decide⟩ ⟨rfl, rfl⟩ ⟨by decide, by decide⟩ rfl (Nat.le_of_ble_eq_true rfl) dX12_doorsOf_32 (fun r u hp => ?_)
          obtain ⟨rfl, hu⟩ := hp
          rw [hu]
          refine r_if_eq (tgt := 44) hc dX12_doorsOf_35 (by decide) (bI_0 _) (fun c_35 => ?_) (fun c_35 => ?_)
          ·
            refine r_iconst (v := nI 0) hc dX12_doorsOf_44 rfl ?_
            refine r_ior (v := nI (a ||| 0)) hc dX12_doorsOf_45 (or_NN _ _) ?_
            refine r_istore_n (ls' := [(2, .int (nI (a ||| 0))), (0, .ref M), (1, .int (nI k1)), (3, .int (nI k))]) hc dX12_doorsOf_46 (by decide) rfl ?_
            refine r_iinc (v := nI (k + 1)) (ls' := [(3, .int (nI (k + 1))), (2, .int (nI (a ||| 0))), (0, .ref M), (1, .int (nI k1))]) hc dX12_doorsOf_47 rfl (ad_NN _ 1) (by decide) rfl ?_
            refine r_goto (tgt := 4) hc dX12_doorsOf_50 (by decide) ?_
            refine r_locp [2, 3, 1, 0] (ls' := [(0, .ref M), (1, .int (nI k1)), (2, .int (nI (a ||| 0))), (3, .int (nI (k + 1)))]) rfl ?_
            exact ih4 (a ||| 0) (k + 1) (by omega) (by rw [bitsF, ← hf]; simp [whrR, cutR, c_22, c_35]) (by omega)
          ·
            have c_35 := bnf c_35
            refine r_iconst (v := nI 1) hc dX12_doorsOf_38 rfl ?_
            refine r_iload_n hc dX12_doorsOf_39 rfl ?_
            refine r_ishl (v := nI (2 ^ k)) hc dX12_doorsOf_40 (sl_1 _ (by omega)) ?_
            refine r_goto (tgt := 45) hc dX12_doorsOf_41 (by decide) ?_
            refine r_ior (v := nI (a ||| (2 ^ k))) hc dX12_doorsOf_45 (or_NN _ _) ?_
            refine r_istore_n (ls' := [(2, .int (nI (a ||| (2 ^ k)))), (0, .ref M), (1, .int (nI k1)), (3, .int (nI k))]) hc dX12_doorsOf_46 (by decide) rfl ?_
            refine r_iinc (v := nI (k + 1)) (ls' := [(3, .int (nI (k + 1))), (2, .int (nI (a ||| (2 ^ k)))), (0, .ref M), (1, .int (nI k1))]) hc dX12_doorsOf_47 rfl (ad_NN _ 1) (by decide) rfl ?_
            refine r_goto (tgt := 4) hc dX12_doorsOf_50 (by decide) ?_
            refine r_locp [2, 3, 1, 0] (ls' := [(0, .ref M), (1, .int (nI k1)), (2, .int (nI (a ||| (2 ^ k)))), (3, .int (nI (k + 1)))]) rfl ?_
            exact ih4 (a ||| (2 ^ k)) (k + 1) (by omega) (by rw [bitsF, ← hf]; simp [whrR, cutR, c_22, c_35]) (by omega)
  refine r_locp [2, 3, 1, 0] (ls' := [(0, .ref M), (1, .int (nI k1)), (2, .int (nI 0)), (3, .int (nI 0))]) rfl ?_
  exact loop4 _ 0 0 (by omega) rfl (Nat.lt_succ_self _)
set_option maxRecDepth 100000 in
set_option maxHeartbeats 4000000 in
theorem c_X12_openedBy {Ω : OmT} {z : Nat} {sh : Nat → Option Kd} {σ : Nat → Nat → Int32} {ρ : Nat → Nat → Option Nat} {M : Nat} {v : Nat → Nat} (hM : MSh sh ρ M) (hv : rowAt σ (M + 1) 170 v) {c : Nat} (hc0 : c < 10000) (h4 : v 4 ≤ 10) (hdr : ∀ d, d < v 4 → v (20 + 6 * d + 2) < 10000 ∧ v (20 + 6 * d + 3) < 10000) : CtI Ω yX12_openedBy cX12_openedBy 4 .int rm_X12_openedBy [.ref M, .int (nI c)] (z, sh, σ, ρ) (fun r u => r = nI (doorsBy v c) ∧ u = (z, sh, σ, ρ)) := by
  refine CtI.enter (by decide) (Nat.le_of_ble_eq_true rfl) (fun Φ hc hR => ?_)
  show Vw Ω Φ (z, sh, σ, ρ) (0, 0) 0 [(0, .ref M), (1, .int (nI c))] []
  refine r_iconst (v := nI 0) hc dX12_openedBy_0 rfl ?_
  refine r_istore_n (ls' := [(2, .int (nI 0)), (0, .ref M), (1, .int (nI c))]) hc dX12_openedBy_1 (by decide) rfl ?_
  refine r_iconst (v := nI 0) hc dX12_openedBy_2 rfl ?_
  refine r_istore_n (ls' := [(3, .int (nI 0)), (2, .int (nI 0)), (0, .ref M), (1, .int (nI c))]) hc dX12_openedBy_3 (by decide) rfl ?_
  have loop4 : ∀ (n4 : Nat) (a : Nat) (k : Nat), (k ≤ v 4) → (a = bitsF (fun d => opnD v c d) k) → (v 4 - k) < n4 → Vw Ω Φ (z, sh, σ, ρ) (0, 0) 4 [(0, .ref M), (1, .int (nI c)), (2, .int (nI a)), (3, .int (nI k))] [] := by
    intro n4
    induction n4 with
    | zero => intro a k hk hf hm; exact absurd hm (Nat.not_lt_zero _)
    | succ n4 ih4 =>
      intro a k hk hf hm4
      refine r_iload_n hc dX12_openedBy_4 rfl ?_
      refine r_aload_n hc dX12_openedBy_5 rfl ?_
      refine gf_X12_7 (q := M + 1) hc (MS0 hM) (MSr hM 0 1 (by decide)) dX12_openedBy_6 ?_
      refine r_iconst (v := nI 4) hc dX12_openedBy_9 rfl ?_
      refine r_iald (x := nI (v 4)) (j := 4) hc (MSa hM 1 0 170 rfl) rfl (by omega) (by decide) (hv _ (by omega)) dX12_openedBy_10 ?_
      refine r_icmp_ge (tgt := 39) hc dX12_openedBy_11 (by decide) (le_NN (by omega) (by omega)) (fun c_11 => ?_) (fun c_11 => ?_)
      ·
        refine r_iload_n hc dX12_openedBy_39 rfl ?_
        exact hR _ _ ⟨congrArg nI (by rw [hf, show k = v 4 by omega]; rfl), rfl⟩ rfl _ _ dX12_openedBy_40
      ·
        have hdk := hdr k (by omega)
        refine r_iload_n hc dX12_openedBy_14 rfl ?_
        refine r_aload_n hc dX12_openedBy_15 rfl ?_
        refine r_iload_n hc dX12_openedBy_16 rfl ?_
        refine r_iload_n hc dX12_openedBy_17 rfl ?_
        refine cl_X12_112 (As := [.int (nI c), .int (nI k)]) hc (c_X12_fits hM hv (c := c) (d := k) (by omega) (by omega) (by omega) (by omega)) (MS0 hM) rfl ⟨by decide, by decide⟩ ⟨rfl, rfl⟩ ⟨by decide, by decide⟩ rfl (Nat.le_of_ble_eq_true rfl) dX12_openedBy_18 (fun r u hp => ?_)
        obtain ⟨rfl, hu⟩ := hp
        rw [hu]
        refine r_if_eq (tgt := 30) hc dX12_openedBy_21 (by decide) (bI_0 _) (fun c_21 => ?_) (fun c_21 => ?_)
        ·
          refine r_iconst (v := nI 0) hc dX12_openedBy_30 rfl ?_
          refine r_ior (v := nI (a ||| 0)) hc dX12_openedBy_31 (or_NN _ _) ?_
          refine r_istore_n (ls' := [(2, .int (nI (a ||| 0))), (0, .ref M), (1, .int (nI c)), (3, .int (nI k))]) hc dX12_openedBy_32 (by decide) rfl ?_
          refine r_iinc (v := nI (k + 1)) (ls' := [(3, .int (nI (k + 1))), (2, .int (nI (a ||| 0))), (0, .ref M), (1, .int (nI c))]) hc dX12_openedBy_33 rfl (ad_NN _ 1) (by decide) rfl ?_
          refine r_goto (tgt := 4) hc dX12_openedBy_36 (by decide) ?_
          refine r_locp [2, 3, 1, 0] (ls' := [(0, .ref M), (1, .int (nI c)), (2, .int (nI (a ||| 0))), (3, .int (nI (k + 1)))]) rfl ?_
          exact ih4 (a ||| 0) (k + 1) (by omega) (by rw [bitsF, ← hf]; simp [c_21]) (by omega)
        ·
          have c_21 := bnf c_21
          refine r_iconst (v := nI 1) hc dX12_openedBy_24 rfl ?_
          refine r_iload_n hc dX12_openedBy_25 rfl ?_
          refine r_ishl (v := nI (2 ^ k)) hc dX12_openedBy_26 (sl_1 _ (by omega)) ?_
          refine r_goto (tgt := 31) hc dX12_openedBy_27 (by decide) ?_
          refine r_ior (v := nI (a ||| (2 ^ k))) hc dX12_openedBy_31 (or_NN _ _) ?_
          refine r_istore_n (ls' := [(2, .int (nI (a ||| (2 ^ k)))), (0, .ref M), (1, .int (nI c)), (3, .int (nI k))]) hc dX12_openedBy_32 (by decide) rfl ?_
          refine r_iinc (v := nI (k + 1)) (ls' := [(3, .int (nI (k + 1))), (2, .int (nI (a ||| (2 ^ k)))), (0, .ref M), (1, .int (nI c))]) hc dX12_openedBy_33 rfl (ad_NN _ 1) (by decide) rfl ?_
          refine r_goto (tgt := 4) hc dX12_openedBy_36 (by decide) ?_
          refine r_locp [2, 3, 1, 0] (ls' := [(0, .ref M), (1, .int (nI c)), (2, .int (nI (a ||| (2 ^ k)))), (3, .int (nI (k + 1)))]) rfl ?_
          exact ih4 (a ||| (2 ^ k)) (k + 1) (by omega) (by rw [bitsF, ← hf]; simp [c_21]) (by omega)
  refine r_locp [2, 3, 1, 0] (ls' := [(0, .ref M), (1, .int (nI c)), (2, .int (nI 0)), (3, .int (nI 0))]) rfl ?_
  exact loop4 _ 0 0 (by omega) rfl (Nat.lt_succ_self _)
set_option maxRecDepth 100000 in
set_option maxHeartbeats 4000000 in
theorem c_X12_inLocks {Ω : OmT} {z : Nat} {sh : Nat → Option Kd} {σ : Nat → Nat → Int32} {ρ : Nat → Nat → Option Nat} {M : Nat} {v : Nat → Nat} (hM : MSh sh ρ M) (hv : rowAt σ (M + 1) 170 v) (h4 : v 4 ≤ 10) (hdr : ∀ d, d < v 4 → v (20 + 6 * d + 2) < 10000 ∧ v (20 + 6 * d + 3) < 10000) : CtI Ω yX12_inLocks cX12_inLocks 3 .int rm_X12_inLocks [.ref M] (z, sh, σ, ρ) (fun r u => r = nI (inLk v) ∧ u = (z, sh, σ, ρ)) := by
  refine CtI.enter (by decide) (Nat.le_of_ble_eq_true rfl) (fun Φ hc hR => ?_)
  show Vw Ω Φ (z, sh, σ, ρ) (0, 0) 0 [(0, .ref M)] []
  refine r_iconst (v := nI 0) hc dX12_inLocks_0 rfl ?_
  refine r_istore_n (ls' := [(1, .int (nI 0)), (0, .ref M)]) hc dX12_inLocks_1 (by decide) rfl ?_
  refine r_iconst (v := nI 0) hc dX12_inLocks_2 rfl ?_
  refine r_istore_n (ls' := [(2, .int (nI 0)), (1, .int (nI 0)), (0, .ref M)]) hc dX12_inLocks_3 (by decide) rfl ?_
  have loop4 : ∀ (n4 : Nat) (a : Nat) (k : Nat), (k ≤ v 4) → (a = sumN (lockWt v) k) → (v 4 - k) < n4 → Vw Ω Φ (z, sh, σ, ρ) (0, 0) 4 [(0, .ref M), (1, .int (nI a)), (2, .int (nI k))] [] := by
    intro n4
    induction n4 with
    | zero => intro a k hk hf hm; exact absurd hm (Nat.not_lt_zero _)
    | succ n4 ih4 =>
      intro a k hk hf hm4
      refine r_iload_n hc dX12_inLocks_4 rfl ?_
      refine r_aload_n hc dX12_inLocks_5 rfl ?_
      refine gf_X12_7 (q := M + 1) hc (MS0 hM) (MSr hM 0 1 (by decide)) dX12_inLocks_6 ?_
      refine r_iconst (v := nI 4) hc dX12_inLocks_9 rfl ?_
      refine r_iald (x := nI (v 4)) (j := 4) hc (MSa hM 1 0 170 rfl) rfl (by omega) (by decide) (hv _ (by omega)) dX12_inLocks_10 ?_
      refine r_icmp_ge (tgt := 28) hc dX12_inLocks_11 (by decide) (le_NN (by omega) (by omega)) (fun c_11 => ?_) (fun c_11 => ?_)
      ·
        refine r_iload_n hc dX12_inLocks_28 rfl ?_
        exact hR _ _ ⟨congrArg nI (by rw [hf, show k = v 4 by omega]; rfl), rfl⟩ rfl _ _ dX12_inLocks_29
      ·
        have hdk := hdr k (by omega)
        refine r_iload_n hc dX12_inLocks_14 rfl ?_
        refine r_aload_n hc dX12_inLocks_15 rfl ?_
        refine r_iload_n hc dX12_inLocks_16 rfl ?_
        refine cl_X12_70 (As := [.int (nI k)]) hc (c_X12_lockWeight hM hv (d := k) (by omega) (by omega) (by omega)) (MS0 hM) rfl ⟨by decide, by decide⟩ ⟨rfl, rfl⟩ ⟨by decide, by decide⟩ rfl (Nat.le_of_ble_eq_true rfl) dX12_inLocks_17 (fun r u hp => ?_)
        obtain ⟨rfl, hu⟩ := hp
        rw [hu]
        refine r_iadd (v := nI (a + (lockWt v k))) hc dX12_inLocks_20 (ad_NN _ _) ?_
        refine r_istore_n (ls' := [(1, .int (nI (a + (lockWt v k)))), (0, .ref M), (2, .int (nI k))]) hc dX12_inLocks_21 (by decide) rfl ?_
        refine r_iinc (v := nI (k + 1)) (ls' := [(2, .int (nI (k + 1))), (1, .int (nI (a + (lockWt v k)))), (0, .ref M)]) hc dX12_inLocks_22 rfl (ad_NN _ 1) (by decide) rfl ?_
        refine r_goto (tgt := 4) hc dX12_inLocks_25 (by decide) ?_
        refine r_locp [2, 1, 0] (ls' := [(0, .ref M), (1, .int (nI (a + (lockWt v k)))), (2, .int (nI (k + 1)))]) rfl ?_
        exact ih4 (a + (lockWt v k)) (k + 1) (by omega) (by rw [sumN, ← hf]) (by omega)
  refine r_locp [2, 1, 0] (ls' := [(0, .ref M), (1, .int (nI 0)), (2, .int (nI 0))]) rfl ?_
  exact loop4 _ 0 0 (by omega) rfl (Nat.lt_succ_self _)
set_option maxRecDepth 100000 in
set_option maxHeartbeats 4000000 in
theorem c_X12_inKeys {Ω : OmT} {z : Nat} {sh : Nat → Option Kd} {σ : Nat → Nat → Int32} {ρ : Nat → Nat → Option Nat} {M : Nat} {v : Nat → Nat} (hM : MSh sh ρ M) (hv : rowAt σ (M + 1) 170 v) (h5 : v 5 ≤ 16) (hky : ∀ k, k < v 5 → v (80 + 4 * k) < 10000 ∧ v (80 + 4 * k + 2) ≤ 9 ∧ 40 ≤ v (80 + 4 * k + 1) ∧ v (80 + 4 * k + 1) ≤ 90) : CtI Ω yX12_inKeys cX12_inKeys 3 .int rm_X12_inKeys [.ref M] (z, sh, σ, ρ) (fun r u => r = nI (inKy v) ∧ u = (z, sh, σ, ρ)) := by
  refine CtI.enter (by decide) (Nat.le_of_ble_eq_true rfl) (fun Φ hc hR => ?_)
  show Vw Ω Φ (z, sh, σ, ρ) (0, 0) 0 [(0, .ref M)] []
  refine r_iconst (v := nI 0) hc dX12_inKeys_0 rfl ?_
  refine r_istore_n (ls' := [(1, .int (nI 0)), (0, .ref M)]) hc dX12_inKeys_1 (by decide) rfl ?_
  refine r_iconst (v := nI 0) hc dX12_inKeys_2 rfl ?_
  refine r_istore_n (ls' := [(2, .int (nI 0)), (1, .int (nI 0)), (0, .ref M)]) hc dX12_inKeys_3 (by decide) rfl ?_
  have loop4 : ∀ (n4 : Nat) (a : Nat) (k : Nat), (k ≤ v 5) → (a = sumN (keyWt v) k) → (v 5 - k) < n4 → Vw Ω Φ (z, sh, σ, ρ) (0, 0) 4 [(0, .ref M), (1, .int (nI a)), (2, .int (nI k))] [] := by
    intro n4
    induction n4 with
    | zero => intro a k hk hf hm; exact absurd hm (Nat.not_lt_zero _)
    | succ n4 ih4 =>
      intro a k hk hf hm4
      refine r_iload_n hc dX12_inKeys_4 rfl ?_
      refine r_aload_n hc dX12_inKeys_5 rfl ?_
      refine gf_X12_7 (q := M + 1) hc (MS0 hM) (MSr hM 0 1 (by decide)) dX12_inKeys_6 ?_
      refine r_iconst (v := nI 5) hc dX12_inKeys_9 rfl ?_
      refine r_iald (x := nI (v 5)) (j := 5) hc (MSa hM 1 0 170 rfl) rfl (by omega) (by decide) (hv _ (by omega)) dX12_inKeys_10 ?_
      refine r_icmp_ge (tgt := 28) hc dX12_inKeys_11 (by decide) (le_NN (by omega) (by omega)) (fun c_11 => ?_) (fun c_11 => ?_)
      ·
        refine r_iload_n hc dX12_inKeys_28 rfl ?_
        exact hR _ _ ⟨congrArg nI (by rw [hf, show k = v 5 by omega]; rfl), rfl⟩ rfl _ _ dX12_inKeys_29
      ·
        have hkk := hky k (by omega)
        refine r_iload_n hc dX12_inKeys_14 rfl ?_
        refine r_aload_n hc dX12_inKeys_15 rfl ?_
        refine r_iload_n hc dX12_inKeys_16 rfl ?_
        refine cl_X12_102 (As := [.int (nI k)]) hc (c_X12_keyWeight hM hv (k := k) (by omega) (by omega) (by omega) (by omega)) (MS0 hM) rfl ⟨by decide, by decide⟩ ⟨rfl, rfl⟩ ⟨by decide, by decide⟩ rfl (Nat.le_of_ble_eq_true rfl) dX12_inKeys_17 (fun r u hp => ?_)
        obtain ⟨rfl, hu⟩ := hp
        rw [hu]
        refine r_iadd (v := nI (a + (keyWt v k))) hc dX12_inKeys_20 (ad_NN _ _) ?_
        refine r_istore_n (ls' := [(1, .int (nI (a + (keyWt v k)))), (0, .ref M), (2, .int (nI k))]) hc dX12_inKeys_21 (by decide) rfl ?_
        refine r_iinc (v := nI (k + 1)) (ls' := [(2, .int (nI (k + 1))), (1, .int (nI (a + (keyWt v k)))), (0, .ref M)]) hc dX12_inKeys_22 rfl (ad_NN _ 1) (by decide) rfl ?_
        refine r_goto (tgt := 4) hc dX12_inKeys_25 (by decide) ?_
        refine r_locp [2, 1, 0] (ls' := [(0, .ref M), (1, .int (nI (a + (keyWt v k)))), (2, .int (nI (k + 1)))]) rfl ?_
        exact ih4 (a + (keyWt v k)) (k + 1) (by omega) (by rw [sumN, ← hf]) (by omega)
  refine r_locp [2, 1, 0] (ls' := [(0, .ref M), (1, .int (nI 0)), (2, .int (nI 0))]) rfl ?_
  exact loop4 _ 0 0 (by omega) rfl (Nat.lt_succ_self _)
set_option maxRecDepth 100000 in
set_option maxHeartbeats 4000000 in
theorem c_X12_areDoors {Ω : OmT} {z : Nat} {sh : Nat → Option Kd} {σ : Nat → Nat → Int32} {ρ : Nat → Nat → Option Nat} {M : Nat} {v : Nat → Nat} (hM : MSh sh ρ M) (hv : rowAt σ (M + 1) 170 v) {x : Int} (hx : -2147483648 ≤ x ∧ x < 2147483648) (h4 : v 4 ≤ 10) : CtI Ω yX12_areDoors cX12_areDoors 2 .boolean rm_X12_areDoors [.ref M, .int (zI x)] (z, sh, σ, ρ) (fun r u => r = bI (areD v x) ∧ u = (z, sh, σ, ρ)) := by
  refine CtI.enter (by decide) (Nat.le_of_ble_eq_true rfl) (fun Φ hc hR => ?_)
  show Vw Ω Φ (z, sh, σ, ρ) (0, 0) 0 [(0, .ref M), (1, .int (zI x))] []
  refine r_iload_n hc dX12_areDoors_0 rfl ?_
  refine r_if_lt (tgt := 19) hc dX12_areDoors_1 (by decide) (l0_Z (by omega)) (fun c_1 => ?_) (fun c_1 => ?_)
  ·
    refine r_iconst (v := nI 0) hc dX12_areDoors_19 rfl ?_
    exact hR _ _ ⟨bI_f (by unfold areD; simp; omega), rfl⟩ rfl _ _ dX12_areDoors_20
  ·
    obtain ⟨X, rfl⟩ := Int.eq_ofNat_of_zero_le (show 0 ≤ x by omega)
    rw [← nz X]
    refine r_iload_n hc dX12_areDoors_4 rfl ?_
    refine r_aload_n hc dX12_areDoors_5 rfl ?_
    refine gf_X12_7 (q := M + 1) hc (MS0 hM) (MSr hM 0 1 (by decide)) dX12_areDoors_6 ?_
    refine r_iconst (v := nI 4) hc dX12_areDoors_9 rfl ?_
    refine r_iald (x := nI (v 4)) (j := 4) hc (MSa hM 1 0 170 rfl) rfl (by omega) (by decide) (hv _ (by omega)) dX12_areDoors_10 ?_
    refine r_ishr (v := nI (X / 2 ^ (v 4))) hc dX12_areDoors_11 (sr_NN _ _ (by omega) (by omega)) ?_
    refine r_if_ne (tgt := 19) hc dX12_areDoors_12 (by decide) (e0_N (Nat.lt_of_le_of_lt (Nat.div_le_self _ _) (by omega))) (fun c_12 => ?_) (fun c_12 => ?_)
    ·
      refine r_iconst (v := nI 0) hc dX12_areDoors_19 rfl ?_
      exact hR _ _ ⟨bI_f (by unfold areD; rw [Int.toNat_natCast]; exact decide_eq_false (fun q => c_12 q.2)), rfl⟩ rfl _ _ dX12_areDoors_20
    ·
      refine r_iconst (v := nI 1) hc dX12_areDoors_15 rfl ?_
      refine r_goto (tgt := 20) hc dX12_areDoors_16 (by decide) ?_
      exact hR _ _ ⟨bI_t (by unfold areD; rw [Int.toNat_natCast]; exact decide_eq_true ⟨by omega, c_12⟩), rfl⟩ rfl _ _ dX12_areDoors_20
set_option maxRecDepth 100000 in
set_option maxHeartbeats 4000000 in
theorem c_X12_chanceKeys {Ω : OmT} {z : Nat} {sh : Nat → Option Kd} {σ : Nat → Nat → Int32} {ρ : Nat → Nat → Option Nat} {M : Nat} {v : Nat → Nat} (hM : MSh sh ρ M) (hv : rowAt σ (M + 1) 170 v) {x : Int} (hx : -2147483648 ≤ x ∧ x < 2147483648) (h0 : v 0 ≤ 9) (h4 : v 4 ≤ 10) (hdr : ∀ d, d < v 4 → v (20 + 6 * d + 2) < 10000 ∧ v (20 + 6 * d + 3) < 10000) : CtI Ω yX12_chanceKeys cX12_chanceKeys 4 .int rm_X12_chanceKeys [.ref M, .int (zI x)] (z, sh, σ, ρ) (fun r u => r = zI (sChance v x) ∧ u = (z, sh, σ, ρ)) := by
  refine CtI.enter (by decide) (Nat.le_of_ble_eq_true rfl) (fun Φ hc hR => ?_)
  show Vw Ω Φ (z, sh, σ, ρ) (0, 0) 0 [(0, .ref M), (1, .int (zI x))] []
  refine r_aload_n hc dX12_chanceKeys_0 rfl ?_
  refine r_iload_n hc dX12_chanceKeys_1 rfl ?_
  refine cl_X12_160 (As := [.int (zI x)]) hc (c_X12_areDoors hM hv (x := x) (by omega) (by omega)) (MS0 hM) rfl ⟨by decide, by decide⟩ ⟨rfl, rfl⟩ ⟨by decide, by decide⟩ rfl (Nat.le_of_ble_eq_true rfl) dX12_chanceKeys_2 (fun r u hp => ?_)
  obtain ⟨rfl, hu⟩ := hp
  rw [hu]
  refine r_if_ne (tgt := 10) hc dX12_chanceKeys_5 (by decide) (bI_0 _) (fun c_5 => ?_) (fun c_5 => ?_)
  ·
    have c_5 := bnf c_5
    have hx0 : 0 ≤ x := (of_decide_eq_true c_5).1
    obtain ⟨X, rfl⟩ := Int.eq_ofNat_of_zero_le (show 0 ≤ x by omega)
    rw [← nz X]
    have hX : X / 2 ^ v 4 = 0 := by have h := (of_decide_eq_true c_5).2; rwa [Int.toNat_natCast] at h
    refine r_iconst (v := nI 0) hc dX12_chanceKeys_10 rfl ?_
    refine r_istore_n (ls' := [(2, .int (nI 0)), (0, .ref M), (1, .int (nI X))]) hc dX12_chanceKeys_11 (by decide) rfl ?_
    refine r_iconst (v := nI 0) hc dX12_chanceKeys_12 rfl ?_
    refine r_istore_n (ls' := [(3, .int (nI 0)), (2, .int (nI 0)), (0, .ref M), (1, .int (nI X))]) hc dX12_chanceKeys_13 (by decide) rfl ?_
    have loop14 : ∀ (n14 : Nat) (a : Nat) (k : Nat), (k ≤ 10000) → (a = cntF (chkP v X) k) → (10000 - k) < n14 → Vw Ω Φ (z, sh, σ, ρ) (0, 0) 14 [(0, .ref M), (1, .int (nI X)), (2, .int (nI a)), (3, .int (nI k))] [] := by
      intro n14
      induction n14 with
      | zero => intro a k hk hf hm; exact absurd hm (Nat.not_lt_zero _)
      | succ n14 ih14 =>
        intro a k hk hf hm14
        refine r_iload_n hc dX12_chanceKeys_14 rfl ?_
        refine r_sipush (v := nI 10000) hc dX12_chanceKeys_15 rfl ?_
        refine r_icmp_ge (tgt := 54) hc dX12_chanceKeys_18 (by decide) (le_NN (by omega) (by omega)) (fun c_18 => ?_) (fun c_18 => ?_)
        ·
          refine r_iload_n hc dX12_chanceKeys_54 rfl ?_
          exact hR _ _ ⟨(by rw [hf, show k = 10000 by omega, nz]; refine congrArg zI ?_; unfold sChance; rw [if_pos c_5]; rfl), rfl⟩ rfl _ _ dX12_chanceKeys_55
        ·
          have hdb := doorsBy_lt v k h4
          refine r_iload_n hc dX12_chanceKeys_21 rfl ?_
          refine r_aload_n hc dX12_chanceKeys_22 rfl ?_
          refine r_iload_n hc dX12_chanceKeys_23 rfl ?_
          refine cl_X12_96 (As := [.int (nI k)]) hc (c_X12_canBeKey hM hv (c := k) (by omega) (by omega)) (MS0 hM) rfl ⟨by decide, by decide⟩ ⟨rfl, rfl⟩ ⟨by decide, by decide⟩ rfl (Nat.le_of_ble_eq_true rfl) dX12_chanceKeys_24 (fun r u hp => ?_)
          obtain ⟨rfl, hu⟩ := hp
          rw [hu]
          refine r_if_eq (tgt := 45) hc dX12_chanceKeys_27 (by decide) (bI_0 _) (fun c_27 => ?_) (fun c_27 => ?_)
          ·
            refine r_iconst (v := nI 0) hc dX12_chanceKeys_45 rfl ?_
            refine r_iadd (v := nI a) hc dX12_chanceKeys_46 (ad_NN _ 0) ?_
            refine r_istore_n (ls' := [(2, .int (nI a)), (0, .ref M), (1, .int (nI X)), (3, .int (nI k))]) hc dX12_chanceKeys_47 (by decide) rfl ?_
            refine r_iinc (v := nI (k + 1)) (ls' := [(3, .int (nI (k + 1))), (2, .int (nI a)), (0, .ref M), (1, .int (nI X))]) hc dX12_chanceKeys_48 rfl (ad_NN _ 1) (by decide) rfl ?_
            refine r_goto (tgt := 14) hc dX12_chanceKeys_51 (by decide) ?_
            refine r_locp [2, 3, 1, 0] (ls' := [(0, .ref M), (1, .int (nI X)), (2, .int (nI a)), (3, .int (nI (k + 1)))]) rfl ?_
            exact ih14 a (k + 1) (by omega) (by rw [cntF, ← hf]; simp [chkP, c_27]) (by omega)
          ·
            have c_27 := bnf c_27
            refine r_aload_n hc dX12_chanceKeys_30 rfl ?_
            refine r_iload_n hc dX12_chanceKeys_31 rfl ?_
            refine cl_X12_163 (As := [.int (nI k)]) hc (c_X12_openedBy hM hv (c := k) (by omega) (by omega) hdr) (MS0 hM) rfl ⟨by decide, by decide⟩ ⟨rfl, rfl⟩ ⟨by decide, by decide⟩ rfl (Nat.le_of_ble_eq_true rfl) dX12_chanceKeys_32 (fun r u hp => ?_)
            obtain ⟨rfl, hu⟩ := hp
            rw [hu]
            refine r_iload_n hc dX12_chanceKeys_35 rfl ?_
            refine r_iand (v := nI ((doorsBy v k) &&& X)) hc dX12_chanceKeys_36 (an_NN _ _) ?_
            refine r_iload_n hc dX12_chanceKeys_37 rfl ?_
            refine r_icmp_ne (tgt := 45) hc dX12_chanceKeys_38 (by decide) (eq_NN (Nat.lt_of_le_of_lt Nat.and_le_left (by omega)) (by omega)) (fun c_38 => ?_) (fun c_38 => ?_)
            ·
              refine r_iconst (v := nI 0) hc dX12_chanceKeys_45 rfl ?_
              refine r_iadd (v := nI a) hc dX12_chanceKeys_46 (ad_NN _ 0) ?_
              refine r_istore_n (ls' := [(2, .int (nI a)), (0, .ref M), (1, .int (nI X)), (3, .int (nI k))]) hc dX12_chanceKeys_47 (by decide) rfl ?_
              refine r_iinc (v := nI (k + 1)) (ls' := [(3, .int (nI (k + 1))), (2, .int (nI a)), (0, .ref M), (1, .int (nI X))]) hc dX12_chanceKeys_48 rfl (ad_NN _ 1) (by decide) rfl ?_
              refine r_goto (tgt := 14) hc dX12_chanceKeys_51 (by decide) ?_
              refine r_locp [2, 3, 1, 0] (ls' := [(0, .ref M), (1, .int (nI X)), (2, .int (nI a)), (3, .int (nI (k + 1)))]) rfl ?_
              exact ih14 a (k + 1) (by omega) (by rw [cntF, ← hf]; simp [chkP, c_27, c_38]) (by omega)
            ·
              refine r_iconst (v := nI 1) hc dX12_chanceKeys_41 rfl ?_
              refine r_goto (tgt := 46) hc dX12_chanceKeys_42 (by decide) ?_
              refine r_iadd (v := nI (a + 1)) hc dX12_chanceKeys_46 (ad_NN _ _) ?_
              refine r_istore_n (ls' := [(2, .int (nI (a + 1))), (0, .ref M), (1, .int (nI X)), (3, .int (nI k))]) hc dX12_chanceKeys_47 (by decide) rfl ?_
              refine r_iinc (v := nI (k + 1)) (ls' := [(3, .int (nI (k + 1))), (2, .int (nI (a + 1))), (0, .ref M), (1, .int (nI X))]) hc dX12_chanceKeys_48 rfl (ad_NN _ 1) (by decide) rfl ?_
              refine r_goto (tgt := 14) hc dX12_chanceKeys_51 (by decide) ?_
              refine r_locp [2, 3, 1, 0] (ls' := [(0, .ref M), (1, .int (nI X)), (2, .int (nI (a + 1))), (3, .int (nI (k + 1)))]) rfl ?_
              exact ih14 (a + 1) (k + 1) (by omega) (by rw [cntF, ← hf]; simp [chkP, c_27, c_38]) (by omega)
    refine r_locp [2, 3, 1, 0] (ls' := [(0, .ref M), (1, .int (nI X)), (2, .int (nI 0)), (3, .int (nI 0))]) rfl ?_
    exact loop14 _ 0 0 (by omega) rfl (Nat.lt_succ_self _)
  ·
    have c_5 : ¬ areD v x = true := by rw [c_5]; decide
    refine r_iconst (v := zI (-1)) hc dX12_chanceKeys_8 rfl ?_
    exact hR _ _ ⟨(by refine congrArg zI ?_; unfold sChance; (try simp only [Int.toNat_natCast]); rw [if_neg c_5] <;> rfl), rfl⟩ rfl _ _ dX12_chanceKeys_9
set_option maxRecDepth 100000 in
set_option maxHeartbeats 4000000 in
theorem c_X12_justFor {Ω : OmT} {z : Nat} {sh : Nat → Option Kd} {σ : Nat → Nat → Int32} {ρ : Nat → Nat → Option Nat} {M : Nat} {v : Nat → Nat} (hM : MSh sh ρ M) (hv : rowAt σ (M + 1) 170 v) {x : Int} (hx : -2147483648 ≤ x ∧ x < 2147483648) (h0 : v 0 ≤ 9) (h4 : v 4 ≤ 10) (hdr : ∀ d, d < v 4 → v (20 + 6 * d + 2) < 10000 ∧ v (20 + 6 * d + 3) < 10000) : CtI Ω yX12_justFor cX12_justFor 3 .int rm_X12_justFor [.ref M, .int (zI x)] (z, sh, σ, ρ) (fun r u => r = zI (sJust v x) ∧ u = (z, sh, σ, ρ)) := by
  refine CtI.enter (by decide) (Nat.le_of_ble_eq_true rfl) (fun Φ hc hR => ?_)
  show Vw Ω Φ (z, sh, σ, ρ) (0, 0) 0 [(0, .ref M), (1, .int (zI x))] []
  refine r_aload_n hc dX12_justFor_0 rfl ?_
  refine r_iload_n hc dX12_justFor_1 rfl ?_
  refine cl_X12_160 (As := [.int (zI x)]) hc (c_X12_areDoors hM hv (x := x) (by omega) (by omega)) (MS0 hM) rfl ⟨by decide, by decide⟩ ⟨rfl, rfl⟩ ⟨by decide, by decide⟩ rfl (Nat.le_of_ble_eq_true rfl) dX12_justFor_2 (fun r u hp => ?_)
  obtain ⟨rfl, hu⟩ := hp
  rw [hu]
  refine r_if_ne (tgt := 10) hc dX12_justFor_5 (by decide) (bI_0 _) (fun c_5 => ?_) (fun c_5 => ?_)
  ·
    have c_5 := bnf c_5
    have hx0 : 0 ≤ x := (of_decide_eq_true c_5).1
    obtain ⟨X, rfl⟩ := Int.eq_ofNat_of_zero_le (show 0 ≤ x by omega)
    rw [← nz X]
    have hX : X / 2 ^ v 4 = 0 := by have h := (of_decide_eq_true c_5).2; rwa [Int.toNat_natCast] at h
    refine r_iconst (v := nI 0) hc dX12_justFor_10 rfl ?_
    refine r_istore_n (ls' := [(2, .int (nI 0)), (0, .ref M), (1, .int (nI X))]) hc dX12_justFor_11 (by decide) rfl ?_
    have loop12 : ∀ (n12 : Nat) (k : Nat), (k ≤ 10000) → (ffF (jstP v X) k = -6) → (10000 - k) < n12 → Vw Ω Φ (z, sh, σ, ρ) (0, 0) 12 [(0, .ref M), (1, .int (nI X)), (2, .int (nI k))] [] := by
      intro n12
      induction n12 with
      | zero => intro k hk hf hm; exact absurd hm (Nat.not_lt_zero _)
      | succ n12 ih12 =>
        intro k hk hf hm12
        refine r_iload_n hc dX12_justFor_12 rfl ?_
        refine r_sipush (v := nI 10000) hc dX12_justFor_13 rfl ?_
        refine r_icmp_ge (tgt := 44) hc dX12_justFor_16 (by decide) (le_NN (by omega) (by omega)) (fun c_16 => ?_) (fun c_16 => ?_)
        ·
          refine r_bipush (v := zI (-6)) hc dX12_justFor_44 rfl ?_
          exact hR _ _ ⟨(by refine congrArg zI ?_; unfold sJust; rw [if_pos c_5, Int.toNat_natCast, ← hf, show k = 10000 by omega]), rfl⟩ rfl _ _ dX12_justFor_46
        ·
          have hdb := doorsBy_lt v k h4
          refine r_aload_n hc dX12_justFor_19 rfl ?_
          refine r_iload_n hc dX12_justFor_20 rfl ?_
          refine cl_X12_96 (As := [.int (nI k)]) hc (c_X12_canBeKey hM hv (c := k) (by omega) (by omega)) (MS0 hM) rfl ⟨by decide, by decide⟩ ⟨rfl, rfl⟩ ⟨by decide, by decide⟩ rfl (Nat.le_of_ble_eq_true rfl) dX12_justFor_21 (fun r u hp => ?_)
          obtain ⟨rfl, hu⟩ := hp
          rw [hu]
          refine r_if_eq (tgt := 38) hc dX12_justFor_24 (by decide) (bI_0 _) (fun c_24 => ?_) (fun c_24 => ?_)
          ·
            refine r_iinc (v := nI (k + 1)) (ls' := [(2, .int (nI (k + 1))), (0, .ref M), (1, .int (nI X))]) hc dX12_justFor_38 rfl (ad_NN _ 1) (by decide) rfl ?_
            refine r_goto (tgt := 12) hc dX12_justFor_41 (by decide) ?_
            refine r_locp [1, 2, 0] (ls' := [(0, .ref M), (1, .int (nI X)), (2, .int (nI (k + 1)))]) rfl ?_
            exact ih12 (k + 1) (by omega) (by rw [ffF, if_pos hf, if_neg (by simp [jstP, c_24])]) (by omega)
          ·
            have c_24 := bnf c_24
            refine r_aload_n hc dX12_justFor_27 rfl ?_
            refine r_iload_n hc dX12_justFor_28 rfl ?_
            refine cl_X12_163 (As := [.int (nI k)]) hc (c_X12_openedBy hM hv (c := k) (by omega) (by omega) hdr) (MS0 hM) rfl ⟨by decide, by decide⟩ ⟨rfl, rfl⟩ ⟨by decide, by decide⟩ rfl (Nat.le_of_ble_eq_true rfl) dX12_justFor_29 (fun r u hp => ?_)
            obtain ⟨rfl, hu⟩ := hp
            rw [hu]
            refine r_iload_n hc dX12_justFor_32 rfl ?_
            refine r_icmp_ne (tgt := 38) hc dX12_justFor_33 (by decide) (eq_NN (by omega) (by omega)) (fun c_33 => ?_) (fun c_33 => ?_)
            ·
              refine r_iinc (v := nI (k + 1)) (ls' := [(2, .int (nI (k + 1))), (0, .ref M), (1, .int (nI X))]) hc dX12_justFor_38 rfl (ad_NN _ 1) (by decide) rfl ?_
              refine r_goto (tgt := 12) hc dX12_justFor_41 (by decide) ?_
              refine r_locp [1, 2, 0] (ls' := [(0, .ref M), (1, .int (nI X)), (2, .int (nI (k + 1)))]) rfl ?_
              exact ih12 (k + 1) (by omega) (by rw [ffF, if_pos hf, if_neg (by simp [jstP, c_24, c_33])]) (by omega)
            ·
              refine r_iload_n hc dX12_justFor_36 rfl ?_
              exact hR _ _ ⟨(by rw [nz]; refine congrArg zI ?_; unfold sJust; rw [if_pos c_5, Int.toNat_natCast]; have h1 : ffF (jstP v X) (k + 1) = (k : Int) := by { rw [ffF, if_pos hf, if_pos (by simp [jstP, c_24, c_33])] }; have h2 := ffF_stay (jstP v X) (k + 1) (10000 - (k + 1)) (by rw [h1]; omega); rw [show k + 1 + (10000 - (k + 1)) = 10000 by omega] at h2; rw [h2, h1]), rfl⟩ rfl _ _ dX12_justFor_37
    refine r_locp [1, 2, 0] (ls' := [(0, .ref M), (1, .int (nI X)), (2, .int (nI 0))]) rfl ?_
    exact loop12 _ 0 (by omega) rfl (Nat.lt_succ_self _)
  ·
    have c_5 : ¬ areD v x = true := by rw [c_5]; decide
    refine r_iconst (v := zI (-1)) hc dX12_justFor_8 rfl ?_
    exact hR _ _ ⟨(by refine congrArg zI ?_; unfold sJust; (try simp only [Int.toNat_natCast]); rw [if_neg c_5] <;> rfl), rfl⟩ rfl _ _ dX12_justFor_9
set_option maxRecDepth 100000 in
set_option maxHeartbeats 4000000 in
theorem c_X12_keysOf {Ω : OmT} {z : Nat} {sh : Nat → Option Kd} {σ : Nat → Nat → Int32} {ρ : Nat → Nat → Option Nat} {M : Nat} {v : Nat → Nat} (hM : MSh sh ρ M) (hv : rowAt σ (M + 1) 170 v) {rm : Nat} (hrm : rm < 256) (h5 : v 5 ≤ 16) (hwh : ∀ k, k < v 5 → v (80 + 4 * k + 2) ≤ 9) : CtI Ω yX12_keysOf cX12_keysOf 4 .int rm_X12_keysOf [.ref M, .int (nI rm)] (z, sh, σ, ρ) (fun r u => r = nI (ksOf v rm) ∧ u = (z, sh, σ, ρ)) := by
  refine CtI.enter (by decide) (Nat.le_of_ble_eq_true rfl) (fun Φ hc hR => ?_)
  show Vw Ω Φ (z, sh, σ, ρ) (0, 0) 0 [(0, .ref M), (1, .int (nI rm))] []
  refine r_aload_n hc dX12_keysOf_0 rfl ?_
  refine r_bipush (v := nI 8) hc dX12_keysOf_1 rfl ?_
  refine cl_X12_105 (As := [.int (nI 8)]) hc (c_X12_keysIn hM hv (r := 8) (by omega) (by omega) hwh) (MS0 hM) rfl ⟨by decide, by decide⟩ ⟨rfl, rfl⟩ ⟨by decide, by decide⟩ rfl (Nat.le_of_ble_eq_true rfl) dX12_keysOf_3 (fun r u hp => ?_)
  obtain ⟨rfl, hu⟩ := hp
  rw [hu]
  refine r_istore_n (ls' := [(2, .int (nI (keysAt v 8))), (0, .ref M), (1, .int (nI rm))]) hc dX12_keysOf_6 (by decide) rfl ?_
  refine r_iconst (v := nI 0) hc dX12_keysOf_7 rfl ?_
  refine r_istore_n (ls' := [(3, .int (nI 0)), (2, .int (nI (keysAt v 8))), (0, .ref M), (1, .int (nI rm))]) hc dX12_keysOf_8 (by decide) rfl ?_
  have loop9 : ∀ (n9 : Nat) (a : Nat) (k : Nat), (k ≤ 8) → (a = ksF v rm k) → (8 - k) < n9 → Vw Ω Φ (z, sh, σ, ρ) (0, 0) 9 [(0, .ref M), (1, .int (nI rm)), (2, .int (nI a)), (3, .int (nI k))] [] := by
    intro n9
    induction n9 with
    | zero => intro a k hk hf hm; exact absurd hm (Nat.not_lt_zero _)
    | succ n9 ih9 =>
      intro a k hk hf hm9
      refine r_iload_n hc dX12_keysOf_9 rfl ?_
      refine r_bipush (v := nI 8) hc dX12_keysOf_10 rfl ?_
      refine r_icmp_ge (tgt := 42) hc dX12_keysOf_12 (by decide) (le_NN (by omega) (by omega)) (fun c_12 => ?_) (fun c_12 => ?_)
      ·
        refine r_iload_n hc dX12_keysOf_42 rfl ?_
        exact hR _ _ ⟨congrArg nI (by rw [hf, show k = 8 by omega]; rfl), rfl⟩ rfl _ _ dX12_keysOf_43
      ·
        refine r_iload_n hc dX12_keysOf_15 rfl ?_
        refine r_iload_n hc dX12_keysOf_16 rfl ?_
        refine r_iload_n hc dX12_keysOf_17 rfl ?_
        refine r_ishr (v := nI (rm / 2 ^ k)) hc dX12_keysOf_18 (sr_NN _ _ (by omega) (by omega)) ?_
        refine r_iconst (v := nI 1) hc dX12_keysOf_19 rfl ?_
        refine r_iand (v := nI ((rm / 2 ^ k) &&& 1)) hc dX12_keysOf_20 (an_NN _ _) ?_
        refine r_iconst (v := nI 1) hc dX12_keysOf_21 rfl ?_
        refine r_icmp_ne (tgt := 33) hc dX12_keysOf_22 (by decide) (eq_NN (Nat.lt_of_le_of_lt Nat.and_le_right (by decide)) (by omega)) (fun c_22 => ?_) (fun c_22 => ?_)
        ·
          refine r_iconst (v := nI 0) hc dX12_keysOf_33 rfl ?_
          refine r_ior (v := nI (a ||| 0)) hc dX12_keysOf_34 (or_NN _ _) ?_
          refine r_istore_n (ls' := [(2, .int (nI (a ||| 0))), (0, .ref M), (1, .int (nI rm)), (3, .int (nI k))]) hc dX12_keysOf_35 (by decide) rfl ?_
          refine r_iinc (v := nI (k + 1)) (ls' := [(3, .int (nI (k + 1))), (2, .int (nI (a ||| 0))), (0, .ref M), (1, .int (nI rm))]) hc dX12_keysOf_36 rfl (ad_NN _ 1) (by decide) rfl ?_
          refine r_goto (tgt := 9) hc dX12_keysOf_39 (by decide) ?_
          refine r_locp [2, 3, 1, 0] (ls' := [(0, .ref M), (1, .int (nI rm)), (2, .int (nI (a ||| 0))), (3, .int (nI (k + 1)))]) rfl ?_
          exact ih9 (a ||| 0) (k + 1) (by omega) (by rw [tb_1] at c_22; rw [ksF, ← hf]; simp [c_22]) (by omega)
        ·
          refine r_aload_n hc dX12_keysOf_25 rfl ?_
          refine r_iload_n hc dX12_keysOf_26 rfl ?_
          refine cl_X12_105 (As := [.int (nI k)]) hc (c_X12_keysIn hM hv (r := k) (by omega) (by omega) hwh) (MS0 hM) rfl ⟨by decide, by decide⟩ ⟨rfl, rfl⟩ ⟨by decide, by decide⟩ rfl (Nat.le_of_ble_eq_true rfl) dX12_keysOf_27 (fun r u hp => ?_)
          obtain ⟨rfl, hu⟩ := hp
          rw [hu]
          refine r_goto (tgt := 34) hc dX12_keysOf_30 (by decide) ?_
          refine r_ior (v := nI (a ||| (keysAt v k))) hc dX12_keysOf_34 (or_NN _ _) ?_
          refine r_istore_n (ls' := [(2, .int (nI (a ||| (keysAt v k)))), (0, .ref M), (1, .int (nI rm)), (3, .int (nI k))]) hc dX12_keysOf_35 (by decide) rfl ?_
          refine r_iinc (v := nI (k + 1)) (ls' := [(3, .int (nI (k + 1))), (2, .int (nI (a ||| (keysAt v k)))), (0, .ref M), (1, .int (nI rm))]) hc dX12_keysOf_36 rfl (ad_NN _ 1) (by decide) rfl ?_
          refine r_goto (tgt := 9) hc dX12_keysOf_39 (by decide) ?_
          refine r_locp [2, 3, 1, 0] (ls' := [(0, .ref M), (1, .int (nI rm)), (2, .int (nI (a ||| (keysAt v k)))), (3, .int (nI (k + 1)))]) rfl ?_
          exact ih9 (a ||| (keysAt v k)) (k + 1) (by omega) (by rw [tb_1] at c_22; rw [ksF, ← hf]; simp [c_22]) (by omega)
  refine r_locp [2, 3, 1, 0] (ls' := [(0, .ref M), (1, .int (nI rm)), (2, .int (nI (keysAt v 8))), (3, .int (nI 0))]) rfl ?_
  exact loop9 _ (keysAt v 8) 0 (by omega) rfl (Nat.lt_succ_self _)
set_option maxRecDepth 100000 in
set_option maxHeartbeats 4000000 in
theorem c_X12_opens {Ω : OmT} {z : Nat} {sh : Nat → Option Kd} {σ : Nat → Nat → Int32} {ρ : Nat → Nat → Option Nat} {M : Nat} {v : Nat → Nat} (hM : MSh sh ρ M) (hv : rowAt σ (M + 1) 170 v) {c d : Int} (hc0 : -2147483648 ≤ c ∧ c < 2147483648) (hd0 : -2147483648 ≤ d ∧ d < 2147483648) (h4 : v 4 ≤ 10) (hdr : ∀ d, d < v 4 → v (20 + 6 * d + 2) < 10000 ∧ v (20 + 6 * d + 3) < 10000) : CtI Ω yX12_opens cX12_opens 3 .int rm_X12_opens [.ref M, .int (zI c), .int (zI d)] (z, sh, σ, ρ) (fun r u => r = zI (sOpens v c d) ∧ u = (z, sh, σ, ρ)) := by
  refine CtI.enter (by decide) (Nat.le_of_ble_eq_true rfl) (fun Φ hc hR => ?_)
  show Vw Ω Φ (z, sh, σ, ρ) (0, 0) 0 [(0, .ref M), (1, .int (zI c)), (2, .int (zI d))] []
  refine r_aload_n hc dX12_opens_0 rfl ?_
  refine r_iload_n hc dX12_opens_1 rfl ?_
  refine cl_X12_80 (As := [.int (zI d)]) hc (c_X12_isDoor hM hv (x := d) (by omega) (by omega)) (MS0 hM) rfl ⟨by decide, by decide⟩ ⟨rfl, rfl⟩ ⟨by decide, by decide⟩ rfl (Nat.le_of_ble_eq_true rfl) dX12_opens_2 (fun r u hp => ?_)
  obtain ⟨rfl, hu⟩ := hp
  rw [hu]
  refine r_if_ne (tgt := 10) hc dX12_opens_5 (by decide) (bI_0 _) (fun c_5 => ?_) (fun c_5 => ?_)
  ·
    have c_5 := bnf c_5
    have c_5 := of_decide_eq_true c_5
    refine r_iload_n hc dX12_opens_10 rfl ?_
    refine cl_X12_60 (As := [.int (zI c)]) hc (c_X12_isRow (x := c) (by omega)) rfl ⟨by decide, by decide⟩ ⟨rfl, rfl⟩ ⟨by decide, by decide⟩ rfl (Nat.le_of_ble_eq_true rfl) dX12_opens_11 (fun r u hp => ?_)
    obtain ⟨rfl, hu⟩ := hp
    rw [hu]
    refine r_if_ne (tgt := 20) hc dX12_opens_14 (by decide) (bI_0 _) (fun c_14 => ?_) (fun c_14 => ?_)
    ·
      have c_14 := bnf c_14
      have c_14 := of_decide_eq_true c_14
      obtain ⟨D, rfl⟩ := Int.eq_ofNat_of_zero_le (show 0 ≤ d by omega)
      rw [← nz D]
      obtain ⟨C, rfl⟩ := Int.eq_ofNat_of_zero_le (show 0 ≤ c by omega)
      rw [← nz C]
      have hdk := hdr D (by omega)
      refine r_aload_n hc dX12_opens_20 rfl ?_
      refine r_iload_n hc dX12_opens_21 rfl ?_
      refine r_iload_n hc dX12_opens_22 rfl ?_
      refine cl_X12_112 (As := [.int (nI C), .int (nI D)]) hc (c_X12_fits hM hv (c := C) (d := D) (by omega) (by omega) (by omega) (by omega)) (MS0 hM) rfl ⟨by decide, by decide⟩ ⟨rfl, rfl⟩ ⟨by decide, by decide⟩ rfl (Nat.le_of_ble_eq_true rfl) dX12_opens_23 (fun r u hp => ?_)
      obtain ⟨rfl, hu⟩ := hp
      rw [hu]
      refine r_if_eq (tgt := 33) hc dX12_opens_26 (by decide) (bI_0 _) (fun c_26 => ?_) (fun c_26 => ?_)
      ·
        refine r_iconst (v := nI 0) hc dX12_opens_33 rfl ?_
        exact hR _ _ ⟨(by rw [nz]; refine congrArg zI ?_; unfold sOpens; (try simp only [Int.toNat_natCast]); rw [if_pos c_5, if_pos c_14, if_neg (by rw [c_26]; decide)] <;> rfl), rfl⟩ rfl _ _ dX12_opens_34
      ·
        have c_26 := bnf c_26
        refine r_iconst (v := nI 1) hc dX12_opens_29 rfl ?_
        refine r_goto (tgt := 34) hc dX12_opens_30 (by decide) ?_
        exact hR _ _ ⟨(by rw [nz]; refine congrArg zI ?_; unfold sOpens; (try simp only [Int.toNat_natCast]); rw [if_pos c_5, if_pos c_14, if_pos c_26] <;> rfl), rfl⟩ rfl _ _ dX12_opens_34
    ·
      have c_14 := of_decide_eq_false c_14
      refine r_bipush (v := zI (-2)) hc dX12_opens_17 rfl ?_
      exact hR _ _ ⟨(by refine congrArg zI ?_; unfold sOpens; (try simp only [Int.toNat_natCast]); rw [if_pos c_5, if_neg c_14] <;> rfl), rfl⟩ rfl _ _ dX12_opens_19
  ·
    have c_5 := of_decide_eq_false c_5
    refine r_iconst (v := zI (-1)) hc dX12_opens_8 rfl ?_
    exact hR _ _ ⟨(by refine congrArg zI ?_; unfold sOpens; (try simp only [Int.toNat_natCast]); rw [if_neg c_5] <;> rfl), rfl⟩ rfl _ _ dX12_opens_9
