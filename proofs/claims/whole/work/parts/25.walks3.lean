/-! ===== the model's ways ===== -/
def MQu (τ : Nat → Nat → Int32) (M : Nat) (s : BfT) : Prop := rowAt τ (M + 9) s.2.1 s.1 ∧ ∀ x, x < 2048 → τ (M + 8) x = zI (s.2.2 x)
theorem MQu.enq {τ : Nat → Nat → Int32} {M : Nat} {s : BfT} (h : MQu τ M s) {x : Nat} {e : Int} (hx : s.2.2 x < 0) : MQu (s2 (s2 τ (M + 8) x (zI e)) (M + 9) s.2.1 (nI x)) M (bfE s x e) := by
  obtain ⟨h1, h2⟩ := h
  unfold bfE
  rw [if_pos hx]
  refine ⟨?_, fun y hy => ?_⟩
  · intro j hj
    have hj2 : j < s.2.1 + 1 := hj
    show s2 (s2 τ (M + 8) x (zI e)) (M + 9) s.2.1 (nI x) (M + 9) j = nI (va_up s.1 s.2.1 x j)
    by_cases q : j = s.2.1
    · subst q; rw [s2_same, va_up_at]
    · rw [s2_nk q, s2_na (by omega), va_up_off q]; exact h1 j (by omega)
  · show s2 (s2 τ (M + 8) x (zI e)) (M + 9) s.2.1 (nI x) (M + 8) y = zI (fI_up s.2.2 x e y)
    rw [s2_na (by omega)]
    by_cases q : y = x
    · subst q; rw [s2_same, fI_at]
    · rw [s2_nk q, fI_off q]; exact h2 y hy
set_option maxRecDepth 100000 in
set_option maxHeartbeats 4000000 in
theorem c_X12_reach {Ω : OmT} {z : Nat} {sh : Nat → Option Kd} {σ : Nat → Nat → Int32} {ρ : Nat → Nat → Option Nat} {M : Nat} {v : Nat → Nat} (hM : MSh sh ρ M) (hv : rowAt σ (M + 1) 170 v) (hok : okR v)  : CtI Ω yX12_reach cX12_reach 5 .int rm_X12_reach [.ref M] (z, sh, σ, ρ) (fun r u => r = nI (sReach v) ∧ u = (z, sh, σ, ρ)) := by
  have hok1 := hok
  obtain ⟨⟨h01, h02⟩, hl1, ⟨h21, h22⟩, h3, h4, h5, h9, hdo, hke, hpn, hpd, htc⟩ := hok1
  have hdr : ∀ d, d < v 4 → v (20 + 6 * d + 2) < 10000 ∧ v (20 + 6 * d + 3) < 10000 := fun d hd => ⟨(hdo d hd).2.2.1, (hdo d hd).2.2.2⟩
  have hcu : ∀ k, k < v 5 → v (80 + 4 * k) < 10000 := fun k hk => (hke k hk).1
  have hwh : ∀ k, k < v 5 → v (80 + 4 * k + 2) ≤ 9 := fun k hk => (hke k hk).2.2
  have hky : ∀ k, k < v 5 → v (80 + 4 * k) < 10000 ∧ v (80 + 4 * k + 2) ≤ 9 ∧ 40 ≤ v (80 + 4 * k + 1) ∧ v (80 + 4 * k + 1) ≤ 90 := fun k hk => ⟨(hke k hk).1, (hke k hk).2.2, (hke k hk).2.1⟩
  have hpl : ∀ p, p < v 9 → v (150 + 3 * p) < 10 := fun p hp => by have := (hpn p hp).1; omega
  have hb : ∀ d, d < v 4 → bothR v d < 256 := fun d hd => bothR_lt (hdo d hd).1 (hdo d hd).2.1
  have h238 : 2 ^ v 3 < 256 := (Nat.pow_lt_pow_right (by decide) h3 : 2 ^ v 3 < 2 ^ 8)
  refine CtI.enter (by decide) (Nat.le_of_ble_eq_true rfl) (fun Φ hc hR => ?_)
  show Vw Ω Φ (z, sh, σ, ρ) (0, 0) 0 [(0, .ref M)] []
  refine r_iconst (v := nI 1) hc dX12_reach_0 rfl ?_
  refine r_aload_n hc dX12_reach_1 rfl ?_
  refine gf_X12_7 (q := M + 1) hc (MS0 hM) (MSr hM 0 1 (by decide)) dX12_reach_2 ?_
  refine r_iconst (v := nI 3) hc dX12_reach_5 rfl ?_
  refine r_iald (x := nI (v 3)) (j := 3) hc (MSa hM 1 0 170 rfl) rfl (by omega) (by decide) (hv _ (by omega)) dX12_reach_6 ?_
  refine r_ishl (v := nI (2 ^ (v 3))) hc dX12_reach_7 (sl_1 _ (by omega)) ?_
  refine r_istore_n (ls' := [(1, .int (nI (2 ^ (v 3)))), (0, .ref M)]) hc dX12_reach_8 (by decide) rfl ?_
  refine r_iconst (v := nI 0) hc dX12_reach_9 rfl ?_
  refine r_istore_n (ls' := [(2, .int (nI 0)), (1, .int (nI (2 ^ (v 3)))), (0, .ref M)]) hc dX12_reach_10 (by decide) rfl ?_
  have loop11 : ∀ (n11 : Nat) (rm : Nat) (had : Nat), (rm < 256) → (had ≤ rm) → (sbs (2 ^ v 3) rm) → (∀ C, closR v C → sbs (2 ^ v 3) C → sbs rm C) → (had = rm → closR v rm) → (256 - had) < n11 → Vw Ω Φ (z, sh, σ, ρ) (0, 0) 11 [(0, .ref M), (1, .int (nI rm)), (2, .int (nI had))] [] := by
    intro n11
    induction n11 with
    | zero => intro rm had hrm hle hs hC hd hm; exact absurd hm (Nat.not_lt_zero _)
    | succ n11 ih11 =>
      intro rm had hrm hle hs hC hd hm11
      refine r_iload_n hc dX12_reach_11 rfl ?_
      refine r_iload_n hc dX12_reach_12 rfl ?_
      refine r_icmp_eq (tgt := 87) hc dX12_reach_13 (by decide) (eq_NN (by omega) (by omega)) (fun c_13 => ?_) (fun c_13 => ?_)
      ·
        refine r_iload_n hc dX12_reach_87 rfl ?_
        exact hR _ _ ⟨congrArg nI (reach_uniq hb h3 hs (hd c_13) hC), rfl⟩ rfl _ _ dX12_reach_88
      ·
        refine r_iload_n hc dX12_reach_16 rfl ?_
        refine r_istore_n (ls' := [(2, .int (nI rm)), (0, .ref M), (1, .int (nI rm))]) hc dX12_reach_17 (by decide) rfl ?_
        refine r_iconst (v := nI 0) hc dX12_reach_18 rfl ?_
        refine r_istore_n (ls' := [(3, .int (nI 0)), (2, .int (nI rm)), (0, .ref M), (1, .int (nI rm))]) hc dX12_reach_19 (by decide) rfl ?_
        have loop20 : ∀ (n20 : Nat) (x : Nat) (k : Nat), (k ≤ v 4) → (x = rchP v rm k) → (x < 256) → (v 4 - k) < n20 → Vw Ω Φ (z, sh, σ, ρ) (0, 0) 20 [(0, .ref M), (1, .int (nI x)), (2, .int (nI rm)), (3, .int (nI k))] [] := by
          intro n20
          induction n20 with
          | zero => intro x k hk hf hx hm; exact absurd hm (Nat.not_lt_zero _)
          | succ n20 ih20 =>
            intro x k hk hf hx hm20
            refine r_iload_n hc dX12_reach_20 rfl ?_
            refine r_aload_n hc dX12_reach_21 rfl ?_
            refine gf_X12_7 (q := M + 1) hc (MS0 hM) (MSr hM 0 1 (by decide)) dX12_reach_22 ?_
            refine r_iconst (v := nI 4) hc dX12_reach_25 rfl ?_
            refine r_iald (x := nI (v 4)) (j := 4) hc (MSa hM 1 0 170 rfl) rfl (by omega) (by decide) (hv _ (by omega)) dX12_reach_26 ?_
            refine r_icmp_ge (tgt := 84) hc dX12_reach_27 (by decide) (le_NN (by omega) (by omega)) (fun c_27 => ?_) (fun c_27 => ?_)
            ·
              refine r_goto (tgt := 11) hc dX12_reach_84 (by decide) ?_
              refine r_locp [0, 1, 2] (ls' := [(0, .ref M), (1, .int (nI x)), (2, .int (nI rm))]) rfl ?_
              exact ih11 x rm hx (by rw [hf]; exact rchP_ge v rm k) (by rw [hf]; exact hs.trans (rchP_has v rm k)) (fun C h1 h2 => by rw [hf]; exact rchP_in h1 (hC C h1 h2) k hk) (fun h => by have h7 : rm = rchP v rm (v 4) := by { rw [show v 4 = k by omega, ← hf]; exact h }; rw [← h]; exact rchP_end h7) (by omega)
            ·
              have hdk := hdo k (by omega)
              have hdk2 := hdr k (by omega)
              have hks : ksOf v x < 65536 := ksF_lt v x 8 h5
              refine r_iconst (v := nI 1) hc dX12_reach_30 rfl ?_
              refine r_aload_n hc dX12_reach_31 rfl ?_
              refine r_iload_n hc dX12_reach_32 rfl ?_
              refine r_iconst (v := nI 0) hc dX12_reach_33 rfl ?_
              refine cl_X12_67 (As := [.int (nI k), .int (nI 0)]) hc (c_X12_ofLock0 hM hv (d := k) (by omega)) (MS0 hM) rfl ⟨by decide, by decide⟩ ⟨rfl, rfl⟩ ⟨by decide, by decide⟩ rfl (Nat.le_of_ble_eq_true rfl) dX12_reach_34 (fun r u hp => ?_)
              obtain ⟨rfl, hu⟩ := hp
              rw [hu]
              refine r_ishl (v := nI (2 ^ (v (20 + 6 * k)))) hc dX12_reach_37 (sl_1 _ (by omega)) ?_
              refine r_iconst (v := nI 1) hc dX12_reach_38 rfl ?_
              refine r_aload_n hc dX12_reach_39 rfl ?_
              refine r_iload_n hc dX12_reach_40 rfl ?_
              refine r_iconst (v := nI 1) hc dX12_reach_41 rfl ?_
              refine cl_X12_67 (As := [.int (nI k), .int (nI 1)]) hc (c_X12_ofLock hM hv (d := k) (w := 1) (by omega) (by omega)) (MS0 hM) rfl ⟨by decide, by decide⟩ ⟨rfl, rfl⟩ ⟨by decide, by decide⟩ rfl (Nat.le_of_ble_eq_true rfl) dX12_reach_42 (fun r u hp => ?_)
              obtain ⟨rfl, hu⟩ := hp
              rw [hu]
              refine r_ishl (v := nI (2 ^ (v (20 + 6 * k + 1)))) hc dX12_reach_45 (sl_1 _ (by omega)) ?_
              refine r_ior (v := nI ((2 ^ (v (20 + 6 * k))) ||| (2 ^ (v (20 + 6 * k + 1))))) hc dX12_reach_46 (or_NN _ _) ?_
              refine r_istore (ls' := [(4, .int (nI ((2 ^ (v (20 + 6 * k))) ||| (2 ^ (v (20 + 6 * k + 1)))))), (0, .ref M), (1, .int (nI x)), (2, .int (nI rm)), (3, .int (nI k))]) hc dX12_reach_47 (by decide) rfl ?_
              refine r_iload_n hc dX12_reach_49 rfl ?_
              refine r_iload_n hc dX12_reach_50 rfl ?_
              refine r_iload hc dX12_reach_51 rfl ?_
              refine r_iand (v := nI (x &&& ((2 ^ (v (20 + 6 * k))) ||| (2 ^ (v (20 + 6 * k + 1)))))) hc dX12_reach_53 (an_NN _ _) ?_
              refine r_if_eq (tgt := 75) hc dX12_reach_54 (by decide) (e0_N (Nat.lt_of_le_of_lt Nat.and_le_left (by omega))) (fun c_54 => ?_) (fun c_54 => ?_)
              ·
                refine r_iconst (v := nI 0) hc dX12_reach_75 rfl ?_
                refine r_ior (v := nI (x ||| 0)) hc dX12_reach_76 (or_NN _ _) ?_
                refine r_istore_n (ls' := [(1, .int (nI (x ||| 0))), (4, .int (nI ((2 ^ (v (20 + 6 * k))) ||| (2 ^ (v (20 + 6 * k + 1)))))), (0, .ref M), (2, .int (nI rm)), (3, .int (nI k))]) hc dX12_reach_77 (by decide) rfl ?_
                refine r_iinc (v := nI (k + 1)) (ls' := [(3, .int (nI (k + 1))), (1, .int (nI (x ||| 0))), (4, .int (nI ((2 ^ (v (20 + 6 * k))) ||| (2 ^ (v (20 + 6 * k + 1)))))), (0, .ref M), (2, .int (nI rm))]) hc dX12_reach_78 rfl (ad_NN _ 1) (by decide) rfl ?_
                refine r_goto (tgt := 20) hc dX12_reach_81 (by decide) ?_
                refine r_locp [3, 1, 4, 0] (ls' := [(0, .ref M), (1, .int (nI (x ||| 0))), (2, .int (nI rm)), (3, .int (nI (k + 1)))]) rfl ?_
                exact ih20 (x ||| 0) (k + 1) (by omega) (by rw [rchP, rchS, ← hf, if_neg (by unfold goesR; rw [decide_eq_false (show ¬ ¬ x &&& bothR v k = 0 from fun q => q c_54)]; simp)]) (by have h9 := rchP_lt hb hrm (k + 1) (by omega); have h8 := (show x ||| 0 = rchP v rm (k + 1) from (by rw [rchP, rchS, ← hf, if_neg (by unfold goesR; rw [decide_eq_false (show ¬ ¬ x &&& bothR v k = 0 from fun q => q c_54)]; simp)])); exact h8 ▸ h9) (by omega)
              ·
                refine r_aload_n hc dX12_reach_57 rfl ?_
                refine r_iload_n hc dX12_reach_58 rfl ?_
                refine r_aload_n hc dX12_reach_59 rfl ?_
                refine r_iload_n hc dX12_reach_60 rfl ?_
                refine cl_X12_166 (As := [.int (nI x)]) hc (c_X12_keysOf hM hv (rm := x) (by omega) (by omega) hwh) (MS0 hM) rfl ⟨by decide, by decide⟩ ⟨rfl, rfl⟩ ⟨by decide, by decide⟩ rfl (Nat.le_of_ble_eq_true rfl) dX12_reach_61 (fun r u hp => ?_)
                obtain ⟨rfl, hu⟩ := hp
                rw [hu]
                refine cl_X12_119 (As := [.int (nI k), .int (nI (ksOf v x))]) hc (c_X12_isOpenBy hM hv (d := k) (ks := ksOf v x) (by omega) (by omega) (by omega) (by omega) (by omega) hcu) (MS0 hM) rfl ⟨by decide, by decide⟩ ⟨rfl, rfl⟩ ⟨by decide, by decide⟩ rfl (Nat.le_of_ble_eq_true rfl) dX12_reach_64 (fun r u hp => ?_)
                obtain ⟨rfl, hu⟩ := hp
                rw [hu]
                refine r_if_eq (tgt := 75) hc dX12_reach_67 (by decide) (bI_0 _) (fun c_67 => ?_) (fun c_67 => ?_)
                ·
                  refine r_iconst (v := nI 0) hc dX12_reach_75 rfl ?_
                  refine r_ior (v := nI (x ||| 0)) hc dX12_reach_76 (or_NN _ _) ?_
                  refine r_istore_n (ls' := [(1, .int (nI (x ||| 0))), (4, .int (nI ((2 ^ (v (20 + 6 * k))) ||| (2 ^ (v (20 + 6 * k + 1)))))), (0, .ref M), (2, .int (nI rm)), (3, .int (nI k))]) hc dX12_reach_77 (by decide) rfl ?_
                  refine r_iinc (v := nI (k + 1)) (ls' := [(3, .int (nI (k + 1))), (1, .int (nI (x ||| 0))), (4, .int (nI ((2 ^ (v (20 + 6 * k))) ||| (2 ^ (v (20 + 6 * k + 1)))))), (0, .ref M), (2, .int (nI rm))]) hc dX12_reach_78 rfl (ad_NN _ 1) (by decide) rfl ?_
                  refine r_goto (tgt := 20) hc dX12_reach_81 (by decide) ?_
                  refine r_locp [3, 1, 4, 0] (ls' := [(0, .ref M), (1, .int (nI (x ||| 0))), (2, .int (nI rm)), (3, .int (nI (k + 1)))]) rfl ?_
                  exact ih20 (x ||| 0) (k + 1) (by omega) (by rw [rchP, rchS, ← hf, if_neg (by unfold goesR; rw [c_67]; simp)]) (by have h9 := rchP_lt hb hrm (k + 1) (by omega); have h8 := (show x ||| 0 = rchP v rm (k + 1) from (by rw [rchP, rchS, ← hf, if_neg (by unfold goesR; rw [c_67]; simp)])); exact h8 ▸ h9) (by omega)
                ·
                  have c_67 := bnf c_67
                  refine r_iload hc dX12_reach_70 rfl ?_
                  refine r_goto (tgt := 76) hc dX12_reach_72 (by decide) ?_
                  refine r_ior (v := nI (x ||| ((2 ^ (v (20 + 6 * k))) ||| (2 ^ (v (20 + 6 * k + 1)))))) hc dX12_reach_76 (or_NN _ _) ?_
                  refine r_istore_n (ls' := [(1, .int (nI (x ||| ((2 ^ (v (20 + 6 * k))) ||| (2 ^ (v (20 + 6 * k + 1))))))), (4, .int (nI ((2 ^ (v (20 + 6 * k))) ||| (2 ^ (v (20 + 6 * k + 1)))))), (0, .ref M), (2, .int (nI rm)), (3, .int (nI k))]) hc dX12_reach_77 (by decide) rfl ?_
                  refine r_iinc (v := nI (k + 1)) (ls' := [(3, .int (nI (k + 1))), (1, .int (nI (x ||| ((2 ^ (v (20 + 6 * k))) ||| (2 ^ (v (20 + 6 * k + 1))))))), (4, .int (nI ((2 ^ (v (20 + 6 * k))) ||| (2 ^ (v (20 + 6 * k + 1)))))), (0, .ref M), (2, .int (nI rm))]) hc dX12_reach_78 rfl (ad_NN _ 1) (by decide) rfl ?_
                  refine r_goto (tgt := 20) hc dX12_reach_81 (by decide) ?_
                  refine r_locp [3, 1, 4, 0] (ls' := [(0, .ref M), (1, .int (nI (x ||| ((2 ^ (v (20 + 6 * k))) ||| (2 ^ (v (20 + 6 * k + 1))))))), (2, .int (nI rm)), (3, .int (nI (k + 1)))]) rfl ?_
                  exact ih20 (x ||| ((2 ^ (v (20 + 6 * k))) ||| (2 ^ (v (20 + 6 * k + 1))))) (k + 1) (by omega) (by rw [rchP, rchS, ← hf, if_pos (by unfold goesR; rw [decide_eq_true (show ¬ x &&& bothR v k = 0 from c_54), c_67]; rfl)]; rfl) (by have h9 := rchP_lt hb hrm (k + 1) (by omega); have h8 := (show x ||| ((2 ^ (v (20 + 6 * k))) ||| (2 ^ (v (20 + 6 * k + 1)))) = rchP v rm (k + 1) from (by rw [rchP, rchS, ← hf, if_pos (by unfold goesR; rw [decide_eq_true (show ¬ x &&& bothR v k = 0 from c_54), c_67]; rfl)]; rfl)); exact h8 ▸ h9) (by omega)
        refine r_locp [2, 3, 1, 0] (ls' := [(0, .ref M), (1, .int (nI rm)), (2, .int (nI rm)), (3, .int (nI 0))]) rfl ?_
        exact loop20 _ rm 0 (by omega) rfl hrm (Nat.lt_succ_self _)
  refine r_locp [2, 1, 0] (ls' := [(0, .ref M), (1, .int (nI (2 ^ (v 3)))), (2, .int (nI 0))]) rfl ?_
  exact loop11 _ (2 ^ (v 3)) 0 (by omega) (Nat.zero_le _) (sbs.refl _) (fun C _ h => h) (fun h => absurd h (Nat.ne_of_lt (Nat.two_pow_pos _))) (Nat.lt_succ_self _)
set_option maxRecDepth 100000 in
set_option maxHeartbeats 4000000 in
theorem c_X12_doorsTo {Ω : OmT} {z : Nat} {sh : Nat → Option Kd} {σ : Nat → Nat → Int32} {ρ : Nat → Nat → Option Nat} {M : Nat} {v : Nat → Nat} (hM : MSh sh ρ M) (hv : rowAt σ (M + 1) 170 v) (hok : okR v) {t : Int} (hx : -2147483648 ≤ t ∧ t < 2147483648) : CtI Ω yX12_doorsTo cX12_doorsTo 10 .int rm_X12_doorsTo [.ref M, .int (zI t)] (z, sh, σ, ρ) (fun r u => ∃ τ : Nat → Nat → Int32, u = (z, sh, τ, ρ) ∧ r = zI (sDoorsTo v t) ∧ ∀ q, q ≠ M + 8 → q ≠ M + 9 → τ q = σ q) := by
  have hok1 := hok
  obtain ⟨⟨h01, h02⟩, hl1, ⟨h21, h22⟩, h3, h4, h5, h9, hdo, hke, hpn, hpd, htc⟩ := hok1
  have hdr : ∀ d, d < v 4 → v (20 + 6 * d + 2) < 10000 ∧ v (20 + 6 * d + 3) < 10000 := fun d hd => ⟨(hdo d hd).2.2.1, (hdo d hd).2.2.2⟩
  have hcu : ∀ k, k < v 5 → v (80 + 4 * k) < 10000 := fun k hk => (hke k hk).1
  have hwh : ∀ k, k < v 5 → v (80 + 4 * k + 2) ≤ 9 := fun k hk => (hke k hk).2.2
  have hky : ∀ k, k < v 5 → v (80 + 4 * k) < 10000 ∧ v (80 + 4 * k + 2) ≤ 9 ∧ 40 ≤ v (80 + 4 * k + 1) ∧ v (80 + 4 * k + 1) ≤ 90 := fun k hk => ⟨(hke k hk).1, (hke k hk).2.2, (hke k hk).2.1⟩
  have hpl : ∀ p, p < v 9 → v (150 + 3 * p) < 10 := fun p hp => by have := (hpn p hp).1; omega
  have h238 : 2 ^ v 3 < 256 := (Nat.pow_lt_pow_right (by decide) h3 : 2 ^ v 3 < 2 ^ 8)
  have hI0 : BInv (bf0 (v 3)) := BInv.zero.step (by omega) ⟨Int.le_refl 0, Int.le_refl 0⟩
  refine CtI.enter (by decide) (Nat.le_of_ble_eq_true rfl) (fun Φ hc hR => ?_)
  show Vw Ω Φ (z, sh, σ, ρ) (0, 0) 0 [(0, .ref M), (1, .int (zI t))] []
  refine r_iload_n hc dX12_doorsTo_0 rfl ?_
  refine r_iconst (v := nI 0) hc dX12_doorsTo_1 rfl ?_
  refine r_bipush (v := nI 7) hc dX12_doorsTo_2 rfl ?_
  refine cl_X12_41 (As := [.int (zI t), .int (nI 0), .int (nI 7)]) hc (by simp only [nz]; exact c_X12_in (by omega) (by omega) (by omega)) rfl ⟨by decide, by decide⟩ ⟨rfl, rfl⟩ ⟨by decide, by decide⟩ rfl (Nat.le_of_ble_eq_true rfl) dX12_doorsTo_4 (fun r u hp => ?_)
  obtain ⟨rfl, hu⟩ := hp
  rw [hu]
  refine r_if_ne (tgt := 13) hc dX12_doorsTo_7 (by decide) (bI_0 _) (fun c_7 => ?_) (fun c_7 => ?_)
  ·
    have c_7 := bnf c_7
    have c_7 := of_decide_eq_true c_7
    obtain ⟨X, rfl⟩ := Int.eq_ofNat_of_zero_le (show 0 ≤ t by omega)
    rw [← nz X]
    refine r_iconst (v := nI 0) hc dX12_doorsTo_13 rfl ?_
    refine r_istore_n (ls' := [(2, .int (nI 0)), (0, .ref M), (1, .int (nI X))]) hc dX12_doorsTo_14 (by decide) rfl ?_
    have loop15 : ∀ (n15 : Nat) (τ : Nat → Nat → Int32) (k : Nat), (k ≤ 2048) → (∀ x, x < k → τ (M + 8) x = zI (-6)) → (rowAt τ (M + 1) 170 v) → (∀ q, q ≠ M + 8 → q ≠ M + 9 → τ q = σ q) → (2048 - k) < n15 → Vw Ω Φ (z, sh, τ, ρ) (0, 0) 15 [(0, .ref M), (1, .int (nI X)), (2, .int (nI k))] [] := by
      intro n15
      induction n15 with
      | zero => intro τ k hk hz hv hfr hm; exact absurd hm (Nat.not_lt_zero _)
      | succ n15 ih15 =>
        intro τ k hk hz hv hfr hm15
        refine r_iload_n hc dX12_doorsTo_15 rfl ?_
        refine r_sipush (v := nI 2048) hc dX12_doorsTo_16 rfl ?_
        refine r_icmp_ge (tgt := 36) hc dX12_doorsTo_19 (by decide) (le_NN (by omega) (by omega)) (fun c_19 => ?_) (fun c_19 => ?_)
        ·
          refine r_bipush (v := nI 8) hc dX12_doorsTo_36 rfl ?_
          refine r_iconst (v := nI 1) hc dX12_doorsTo_38 rfl ?_
          refine r_aload_n hc dX12_doorsTo_39 rfl ?_
          refine gf_X12_7 (q := M + 1) hc (MS0 hM) (MSr hM 0 1 (by decide)) dX12_doorsTo_40 ?_
          refine r_iconst (v := nI 3) hc dX12_doorsTo_43 rfl ?_
          refine r_iald (x := nI (v 3)) (j := 3) hc (MSa hM 1 0 170 rfl) rfl (by omega) (by decide) (hv _ (by omega)) dX12_doorsTo_44 ?_
          refine r_ishl (v := nI (2 ^ (v 3))) hc dX12_doorsTo_45 (sl_1 _ (by omega)) ?_
          refine r_imul (v := nI (8 * (2 ^ (v 3)))) hc dX12_doorsTo_46 (ml_NN _ _) ?_
          refine r_aload_n hc dX12_doorsTo_47 rfl ?_
          refine gf_X12_7 (q := M + 1) hc (MS0 hM) (MSr hM 0 1 (by decide)) dX12_doorsTo_48 ?_
          refine r_iconst (v := nI 3) hc dX12_doorsTo_51 rfl ?_
          refine r_iald (x := nI (v 3)) (j := 3) hc (MSa hM 1 0 170 rfl) rfl (by omega) (by decide) (hv _ (by omega)) dX12_doorsTo_52 ?_
          refine r_iadd (v := nI (8 * (2 ^ (v 3)) + (v 3))) hc dX12_doorsTo_53 (ad_NN _ _) ?_
          refine r_istore_n (ls' := [(2, .int (nI (8 * (2 ^ (v 3)) + (v 3)))), (0, .ref M), (1, .int (nI X))]) hc dX12_doorsTo_54 (by decide) rfl ?_
          refine r_iconst (v := nI 0) hc dX12_doorsTo_55 rfl ?_
          refine r_istore_n (ls' := [(3, .int (nI 0)), (2, .int (nI (8 * (2 ^ (v 3)) + (v 3)))), (0, .ref M), (1, .int (nI X))]) hc dX12_doorsTo_56 (by decide) rfl ?_
          refine r_iconst (v := nI 1) hc dX12_doorsTo_57 rfl ?_
          refine r_istore (ls' := [(4, .int (nI 1)), (3, .int (nI 0)), (2, .int (nI (8 * (2 ^ (v 3)) + (v 3)))), (0, .ref M), (1, .int (nI X))]) hc dX12_doorsTo_58 (by decide) rfl ?_
          refine r_aload_n hc dX12_doorsTo_60 rfl ?_
          refine gf_X12_35 (q := M + 9) hc (MS0 hM) (MSr hM 14 9 (by decide)) dX12_doorsTo_61 ?_
          refine r_iconst (v := nI 0) hc dX12_doorsTo_64 rfl ?_
          refine r_iload_n hc dX12_doorsTo_65 rfl ?_
          refine r_iast (j := 0) hc (MSa hM 9 0 2048 rfl) rfl (by omega) (by decide) dX12_doorsTo_66 ?_
          generalize hσ1 : s2 τ (M + 9) 0 (nI (8 * (2 ^ (v 3)) + (v 3))) = σ1
          have hv : rowAt σ1 (M + 1) 170 v := by rw [← hσ1]; exact hv.keep (by omega) _ _
          refine r_aload_n hc dX12_doorsTo_67 rfl ?_
          refine gf_X12_32 (q := M + 8) hc (MS0 hM) (MSr hM 13 8 (by decide)) dX12_doorsTo_68 ?_
          refine r_iload_n hc dX12_doorsTo_71 rfl ?_
          refine r_iconst (v := nI 0) hc dX12_doorsTo_72 rfl ?_
          refine r_iast (j := 8 * (2 ^ (v 3)) + (v 3)) hc (MSa hM 8 0 2048 rfl) rfl (by omega) (by decide) dX12_doorsTo_73 ?_
          generalize hσ2 : s2 σ1 (M + 8) (8 * (2 ^ (v 3)) + (v 3)) (nI 0) = σ2
          have hv : rowAt σ2 (M + 1) 170 v := by rw [← hσ2]; exact hv.keep (by omega) _ _
          have hQ0 : MQu σ2 M (bf0 (v 3)) := by
            rw [bf0_eq]
            refine ⟨?_, fun y hy => ?_⟩
            · intro j hj
              have hj1 : j < 1 := hj
              have hj2 : j = 0 := by omega
              subst hj2
              rw [← hσ2, ← hσ1, s2_na (by omega), s2_same]
              show _ = nI (va_up (fun _ => 0) 0 (8 * 2 ^ v 3 + v 3) 0)
              rw [va_up_at]
            · show _ = zI (fI_up (fun _ => -6) (8 * 2 ^ v 3 + v 3) 0 y)
              rw [← hσ2, ← hσ1]
              by_cases q : y = 8 * 2 ^ v 3 + v 3
              · rw [q, s2_same, fI_at]; rfl
              · rw [s2_nk q, s2_na (by omega), fI_off q]; exact hz y (by omega)
          have hfr74 : ∀ q, q ≠ M + 8 → q ≠ M + 9 → σ2 q = σ q := (fun q q1 q2 => by rw [← hσ2, s2_ne q1, ← hσ1, s2_ne q2]; exact hfr q q1 q2)
          have loop74 : ∀ (n74 : Nat) (τ : Nat → Nat → Int32) (s : BfT) (T : Nat) (n : Nat), (rowAt τ (M + 1) 170 v) → (∀ q, q ≠ M + 8 → q ≠ M + 9 → τ q = σ q) → (MQu τ M s) → (BInv s) → (n = s.2.1) → (T ≤ n) → (bfR v X (2049 - T) T s = bfR v X 2049 0 (bf0 (v 3))) → (2049 - T) < n74 → Vw Ω Φ (z, sh, τ, ρ) (0, 0) 74 [(0, .ref M), (1, .int (nI X)), (2, .int (nI (8 * (2 ^ (v 3)) + v 3))), (3, .int (nI T)), (4, .int (nI n))] [] := by
            intro n74
            induction n74 with
            | zero => intro τ s T n hv hfr hQ hI hn hT hb hm; exact absurd hm (Nat.not_lt_zero _)
            | succ n74 ih74 =>
              intro τ s T n hv hfr hQ hI hn hT hb hm74
              have hQ1 := hQ
              obtain ⟨hqu, hfa⟩ := hQ1
              have hle := hI.le
              refine r_iload_n hc dX12_doorsTo_74 rfl ?_
              refine r_iload hc dX12_doorsTo_75 rfl ?_
              refine r_icmp_ge (tgt := 227) hc dX12_doorsTo_77 (by decide) (le_NN (by omega) (by omega)) (fun c_77 => ?_) (fun c_77 => ?_)
              ·
                refine r_bipush (v := zI (-6)) hc dX12_doorsTo_227 rfl ?_
                exact hR _ _ ⟨_, rfl, (by refine congrArg zI ?_; unfold sDoorsTo; rw [if_pos (by omega), Int.toNat_natCast, ← hb, show 2049 - T = (2049 - (T + 1)) + 1 by omega, bfR, if_neg (by omega)]), hfr⟩ rfl _ _ dX12_doorsTo_229
              ·
                refine r_aload_n hc dX12_doorsTo_80 rfl ?_
                refine gf_X12_35 (q := M + 9) hc (MS0 hM) (MSr hM 14 9 (by decide)) dX12_doorsTo_81 ?_
                refine r_iload_n hc dX12_doorsTo_84 rfl ?_
                refine r_iald (x := nI (s.1 T)) (j := T) hc (MSa hM 9 0 2048 rfl) rfl (by omega) (by decide) (hqu _ (by omega)) dX12_doorsTo_85 ?_
                refine r_istore (ls' := [(5, .int (nI (s.1 T))), (0, .ref M), (1, .int (nI X)), (2, .int (nI (8 * (2 ^ (v 3)) + v 3))), (3, .int (nI T)), (4, .int (nI n))]) hc dX12_doorsTo_86 (by decide) rfl ?_
                have hq2 := hI.2.1 T (by omega)
                refine r_iinc (v := nI (T + 1)) (ls' := [(3, .int (nI (T + 1))), (5, .int (nI (s.1 T))), (0, .ref M), (1, .int (nI X)), (2, .int (nI (8 * (2 ^ (v 3)) + v 3))), (4, .int (nI n))]) hc dX12_doorsTo_88 rfl (ad_NN _ 1) (by decide) rfl ?_
                refine r_iload hc dX12_doorsTo_91 rfl ?_
                refine r_bipush (v := nI 8) hc dX12_doorsTo_93 rfl ?_
                refine r_irem (v := nI ((s.1 T) % 8)) hc dX12_doorsTo_95 (nu_ne0 (by omega) (by omega)) (rm_NN _ _ (by omega) (by omega) (by omega)) ?_
                refine r_iload_n hc dX12_doorsTo_96 rfl ?_
                refine r_icmp_ne (tgt := 108) hc dX12_doorsTo_97 (by decide) (eq_NN (by omega) (by omega)) (fun c_97 => ?_) (fun c_97 => ?_)
                ·
                  have hbd4 := bfD_all (v := v) hI hq2.1 hq2.2 (fun d hd => ⟨(hdo d hd).1, (hdo d hd).2.1⟩) (v 4) (Nat.le_refl _)
                  have hks : ksOf v (s.1 T / 8) < 65536 := ksF_lt v (s.1 T / 8) 8 h5
                  have hb2 : bfR v X (2049 - (T + 1)) (T + 1) (bfD v (s.1 T) s (v 4)) = bfR v X 2049 0 (bf0 (v 3)) := by rw [← hb, show 2049 - T = (2049 - (T + 1)) + 1 by omega, bfR, if_pos (by omega), if_neg c_97]
                  refine r_aload_n hc dX12_doorsTo_108 rfl ?_
                  refine r_iload hc dX12_doorsTo_109 rfl ?_
                  refine r_bipush (v := nI 8) hc dX12_doorsTo_111 rfl ?_
                  refine r_idiv (v := nI ((s.1 T) / 8)) hc dX12_doorsTo_113 (nu_ne0 (by omega) (by omega)) (dv_NN _ _ (by omega) (by omega) (by omega)) ?_
                  refine cl_X12_166 (As := [.int (nI ((s.1 T) / 8))]) hc (c_X12_keysOf hM hv (rm := (s.1 T) / 8) (by omega) (by omega) hwh) (MS0 hM) rfl ⟨by decide, by decide⟩ ⟨rfl, rfl⟩ ⟨by decide, by decide⟩ rfl (Nat.le_of_ble_eq_true rfl) dX12_doorsTo_114 (fun r u hp => ?_)
                  obtain ⟨rfl, hu⟩ := hp
                  rw [hu]
                  refine r_istore (ls' := [(6, .int (nI (ksOf v ((s.1 T) / 8)))), (3, .int (nI (T + 1))), (5, .int (nI (s.1 T))), (0, .ref M), (1, .int (nI X)), (2, .int (nI (8 * (2 ^ (v 3)) + v 3))), (4, .int (nI n))]) hc dX12_doorsTo_117 (by decide) rfl ?_
                  refine r_iconst (v := nI 0) hc dX12_doorsTo_119 rfl ?_
                  refine r_istore (ls' := [(7, .int (nI 0)), (6, .int (nI (ksOf v ((s.1 T) / 8)))), (3, .int (nI (T + 1))), (5, .int (nI (s.1 T))), (0, .ref M), (1, .int (nI X)), (2, .int (nI (8 * (2 ^ (v 3)) + v 3))), (4, .int (nI n))]) hc dX12_doorsTo_120 (by decide) rfl ?_
                  have loop122 : ∀ (n122 : Nat) (τ : Nat → Nat → Int32) (k : Nat) (n2 : Nat), (rowAt τ (M + 1) 170 v) → (∀ q, q ≠ M + 8 → q ≠ M + 9 → τ q = σ q) → (k ≤ v 4) → (MQu τ M (bfD v (s.1 T) s k)) → (n2 = (bfD v (s.1 T) s k).2.1) → (v 4 - k) < n122 → Vw Ω Φ (z, sh, τ, ρ) (0, 0) 122 [(0, .ref M), (1, .int (nI X)), (2, .int (nI (8 * (2 ^ (v 3)) + v 3))), (3, .int (nI (T + 1))), (4, .int (nI n2)), (5, .int (nI (s.1 T))), (6, .int (nI (ksOf v (s.1 T / 8)))), (7, .int (nI k))] [] := by
                    intro n122
                    induction n122 with
                    | zero => intro τ k n2 hv hfr hk hQ hn hm; exact absurd hm (Nat.not_lt_zero _)
                    | succ n122 ih122 =>
                      intro τ k n2 hv hfr hk hQ hn hm122
                      have hQ1 := hQ
                      obtain ⟨hqu, hfa⟩ := hQ1
                      refine r_iload hc dX12_doorsTo_122 rfl ?_
                      refine r_aload_n hc dX12_doorsTo_124 rfl ?_
                      refine gf_X12_7 (q := M + 1) hc (MS0 hM) (MSr hM 0 1 (by decide)) dX12_doorsTo_125 ?_
                      refine r_iconst (v := nI 4) hc dX12_doorsTo_128 rfl ?_
                      refine r_iald (x := nI (v 4)) (j := 4) hc (MSa hM 1 0 170 rfl) rfl (by omega) (by decide) (hv _ (by omega)) dX12_doorsTo_129 ?_
                      refine r_icmp_ge (tgt := 224) hc dX12_doorsTo_130 (by decide) (le_NN (by omega) (by omega)) (fun c_130 => ?_) (fun c_130 => ?_)
                      ·
                        refine r_goto (tgt := 74) hc dX12_doorsTo_224 (by decide) ?_
                        refine r_locp [0, 1, 2, 3, 4] (ls' := [(0, .ref M), (1, .int (nI X)), (2, .int (nI (8 * (2 ^ (v 3)) + v 3))), (3, .int (nI (T + 1))), (4, .int (nI n2))]) rfl ?_
                        exact ih74 τ (bfD v (s.1 T) s (v 4)) (T + 1) n2 hv hfr (by rw [show v 4 = k by omega]; exact hQ) hbd4.1 (by rw [show v 4 = k by omega]; exact hn) (by have := hbd4.2.1; rw [show k = v 4 by omega] at hn; omega) hb2 (by omega)
                      ·
                        have hdk := hdo k (by omega)
                        have hdk2 := hdr k (by omega)
                        have hbd := bfD_all (v := v) hI hq2.1 hq2.2 (fun d hd => ⟨(hdo d hd).1, (hdo d hd).2.1⟩) k (by omega)
                        have hbr := behR_rng (v := v) (d := k) (r := s.1 T % 8) hdk.1 hdk.2.1
                        have hle2 := hbd.1.le
                        refine r_aload_n hc dX12_doorsTo_133 rfl ?_
                        refine r_iload hc dX12_doorsTo_134 rfl ?_
                        refine r_iload hc dX12_doorsTo_136 rfl ?_
                        refine r_bipush (v := nI 8) hc dX12_doorsTo_138 rfl ?_
                        refine r_irem (v := nI ((s.1 T) % 8)) hc dX12_doorsTo_140 (nu_ne0 (by omega) (by omega)) (rm_NN _ _ (by omega) (by omega) (by omega)) ?_
                        refine cl_X12_116 (As := [.int (nI k), .int (nI ((s.1 T) % 8))]) hc (c_X12_behind hM hv (d := k) (r := (s.1 T) % 8) (by omega) (by omega) (by omega) (by omega)) (MS0 hM) rfl ⟨by decide, by decide⟩ ⟨rfl, rfl⟩ ⟨by decide, by decide⟩ rfl (Nat.le_of_ble_eq_true rfl) dX12_doorsTo_141 (fun r u hp => ?_)
                        obtain ⟨rfl, hu⟩ := hp
                        rw [hu]
                        refine r_istore (ls' := [(8, .int (zI (behR v k ((s.1 T) % 8)))), (0, .ref M), (1, .int (nI X)), (2, .int (nI (8 * (2 ^ (v 3)) + v 3))), (3, .int (nI (T + 1))), (4, .int (nI n2)), (5, .int (nI (s.1 T))), (6, .int (nI (ksOf v (s.1 T / 8)))), (7, .int (nI k))]) hc dX12_doorsTo_144 (by decide) rfl ?_
                        refine r_iload hc dX12_doorsTo_146 rfl ?_
                        refine r_if_lt (tgt := 218) hc dX12_doorsTo_148 (by decide) (l0_Z (by omega)) (fun c_148 => ?_) (fun c_148 => ?_)
                        ·
                          refine r_iinc (v := nI (k + 1)) (ls' := [(7, .int (nI (k + 1))), (8, .int (zI (behR v k ((s.1 T) % 8)))), (0, .ref M), (1, .int (nI X)), (2, .int (nI (8 * (2 ^ (v 3)) + v 3))), (3, .int (nI (T + 1))), (4, .int (nI n2)), (5, .int (nI (s.1 T))), (6, .int (nI (ksOf v (s.1 T / 8))))]) hc dX12_doorsTo_218 rfl (ad_NN _ 1) (by decide) rfl ?_
                          refine r_goto (tgt := 122) hc dX12_doorsTo_221 (by decide) ?_
                          refine r_locp [2, 3, 4, 5, 6, 7, 8, 0] (ls' := [(0, .ref M), (1, .int (nI X)), (2, .int (nI (8 * (2 ^ (v 3)) + v 3))), (3, .int (nI (T + 1))), (4, .int (nI n2)), (5, .int (nI (s.1 T))), (6, .int (nI (ksOf v (s.1 T / 8)))), (7, .int (nI (k + 1)))]) rfl ?_
                          exact ih122 τ (k + 1) n2 hv hfr (by omega) (by rw [bfD, bfS, if_neg (by unfold bfGo; rw [decide_eq_false (by omega)]; simp)]; exact hQ) (by rw [hn, bfD, bfS, if_neg (by unfold bfGo; rw [decide_eq_false (by omega)]; simp)]) (by omega)
                        ·
                          have hbg : 0 ≤ behR v k (s.1 T % 8) := by omega
                          rw [zn (show behR v k (s.1 T % 8) = ((((behR v k (s.1 T % 8)).toNat : Nat)) : Int) by omega)]
                          have h61 : 2 ^ (behR v k (s.1 T % 8)).toNat < 2 ^ 8 := Nat.pow_lt_pow_right (by decide) (by omega)
                          have h62 : s.1 T / 8 ||| 2 ^ (behR v k (s.1 T % 8)).toNat < 2 ^ 8 := Nat.or_lt_two_pow (by omega) h61
                          refine r_aload_n hc dX12_doorsTo_151 rfl ?_
                          refine r_iload hc dX12_doorsTo_152 rfl ?_
                          refine r_iload hc dX12_doorsTo_154 rfl ?_
                          refine cl_X12_119 (As := [.int (nI k), .int (nI (ksOf v (s.1 T / 8)))]) hc (c_X12_isOpenBy hM hv (d := k) (ks := ksOf v (s.1 T / 8)) (by omega) (by omega) (by omega) (by omega) (by omega) hcu) (MS0 hM) rfl ⟨by decide, by decide⟩ ⟨rfl, rfl⟩ ⟨by decide, by decide⟩ rfl (Nat.le_of_ble_eq_true rfl) dX12_doorsTo_156 (fun r u hp => ?_)
                          obtain ⟨rfl, hu⟩ := hp
                          rw [hu]
                          refine r_if_eq (tgt := 218) hc dX12_doorsTo_159 (by decide) (bI_0 _) (fun c_159 => ?_) (fun c_159 => ?_)
                          ·
                            refine r_iinc (v := nI (k + 1)) (ls' := [(7, .int (nI (k + 1))), (8, .int (nI ((behR v k (s.1 T % 8)).toNat))), (0, .ref M), (1, .int (nI X)), (2, .int (nI (8 * (2 ^ (v 3)) + v 3))), (3, .int (nI (T + 1))), (4, .int (nI n2)), (5, .int (nI (s.1 T))), (6, .int (nI (ksOf v (s.1 T / 8))))]) hc dX12_doorsTo_218 rfl (ad_NN _ 1) (by decide) rfl ?_
                            refine r_goto (tgt := 122) hc dX12_doorsTo_221 (by decide) ?_
                            refine r_locp [2, 3, 4, 5, 6, 7, 8, 0] (ls' := [(0, .ref M), (1, .int (nI X)), (2, .int (nI (8 * (2 ^ (v 3)) + v 3))), (3, .int (nI (T + 1))), (4, .int (nI n2)), (5, .int (nI (s.1 T))), (6, .int (nI (ksOf v (s.1 T / 8)))), (7, .int (nI (k + 1)))]) rfl ?_
                            exact ih122 τ (k + 1) n2 hv hfr (by omega) (by rw [bfD, bfS, if_neg (by unfold bfGo; rw [c_159]; simp)]; exact hQ) (by rw [hn, bfD, bfS, if_neg (by unfold bfGo; rw [c_159]; simp)]) (by omega)
                          ·
                            have c_159 := bnf c_159
                            refine r_bipush (v := nI 8) hc dX12_doorsTo_162 rfl ?_
                            refine r_iload hc dX12_doorsTo_164 rfl ?_
                            refine r_bipush (v := nI 8) hc dX12_doorsTo_166 rfl ?_
                            refine r_idiv (v := nI ((s.1 T) / 8)) hc dX12_doorsTo_168 (nu_ne0 (by omega) (by omega)) (dv_NN _ _ (by omega) (by omega) (by omega)) ?_
                            refine r_iconst (v := nI 1) hc dX12_doorsTo_169 rfl ?_
                            refine r_iload hc dX12_doorsTo_170 rfl ?_
                            refine r_ishl (v := nI (2 ^ ((behR v k (s.1 T % 8)).toNat))) hc dX12_doorsTo_172 (sl_1 _ (by omega)) ?_
                            refine r_ior (v := nI (((s.1 T) / 8) ||| (2 ^ ((behR v k (s.1 T % 8)).toNat)))) hc dX12_doorsTo_173 (or_NN _ _) ?_
                            refine r_imul (v := nI (8 * (((s.1 T) / 8) ||| (2 ^ ((behR v k (s.1 T % 8)).toNat))))) hc dX12_doorsTo_174 (ml_NN _ _) ?_
                            refine r_iload hc dX12_doorsTo_175 rfl ?_
                            refine r_iadd (v := nI (8 * (((s.1 T) / 8) ||| (2 ^ ((behR v k (s.1 T % 8)).toNat))) + ((behR v k (s.1 T % 8)).toNat))) hc dX12_doorsTo_177 (ad_NN _ _) ?_
                            refine r_istore (ls' := [(9, .int (nI (8 * (((s.1 T) / 8) ||| (2 ^ ((behR v k (s.1 T % 8)).toNat))) + ((behR v k (s.1 T % 8)).toNat)))), (8, .int (nI ((behR v k (s.1 T % 8)).toNat))), (0, .ref M), (1, .int (nI X)), (2, .int (nI (8 * (2 ^ (v 3)) + v 3))), (3, .int (nI (T + 1))), (4, .int (nI n2)), (5, .int (nI (s.1 T))), (6, .int (nI (ksOf v (s.1 T / 8)))), (7, .int (nI k))]) hc dX12_doorsTo_178 (by decide) rfl ?_
                            have hrg := hbd.1.2.2 (8 * (s.1 T / 8 ||| 2 ^ (behR v k (s.1 T % 8)).toNat) + (behR v k (s.1 T % 8)).toNat) (by omega)
                            refine r_aload_n hc dX12_doorsTo_180 rfl ?_
                            refine gf_X12_32 (q := M + 8) hc (MS0 hM) (MSr hM 13 8 (by decide)) dX12_doorsTo_181 ?_
                            refine r_iload hc dX12_doorsTo_184 rfl ?_
                            refine r_iald (x := zI ((bfD v (s.1 T) s k).2.2 (8 * (((s.1 T) / 8) ||| (2 ^ ((behR v k (s.1 T % 8)).toNat))) + ((behR v k (s.1 T % 8)).toNat)))) (j := 8 * (((s.1 T) / 8) ||| (2 ^ ((behR v k (s.1 T % 8)).toNat))) + ((behR v k (s.1 T % 8)).toNat)) hc (MSa hM 8 0 2048 rfl) rfl (by omega) (by decide) (hfa _ (by omega)) dX12_doorsTo_186 ?_
                            refine r_if_ge (tgt := 218) hc dX12_doorsTo_187 (by decide) (ge0_Z (by omega)) (fun c_187 => ?_) (fun c_187 => ?_)
                            ·
                              have hgo : bfGo v (s.1 T) k = true := by unfold bfGo; rw [decide_eq_true hbg, c_159]; rfl
                              have hpos : ¬ (bfD v (s.1 T) s k).2.2 (nxS v (s.1 T) k) < 0 := by have h9 : ¬ (bfD v (s.1 T) s k).2.2 (8 * (s.1 T / 8 ||| 2 ^ (behR v k (s.1 T % 8)).toNat) + (behR v k (s.1 T % 8)).toNat) < 0 := (by omega); exact h9
                              refine r_iinc (v := nI (k + 1)) (ls' := [(7, .int (nI (k + 1))), (9, .int (nI (8 * (((s.1 T) / 8) ||| (2 ^ ((behR v k (s.1 T % 8)).toNat))) + ((behR v k (s.1 T % 8)).toNat)))), (8, .int (nI ((behR v k (s.1 T % 8)).toNat))), (0, .ref M), (1, .int (nI X)), (2, .int (nI (8 * (2 ^ (v 3)) + v 3))), (3, .int (nI (T + 1))), (4, .int (nI n2)), (5, .int (nI (s.1 T))), (6, .int (nI (ksOf v (s.1 T / 8))))]) hc dX12_doorsTo_218 rfl (ad_NN _ 1) (by decide) rfl ?_
                              refine r_goto (tgt := 122) hc dX12_doorsTo_221 (by decide) ?_
                              refine r_locp [3, 4, 5, 6, 7, 8, 9, 0] (ls' := [(0, .ref M), (1, .int (nI X)), (2, .int (nI (8 * (2 ^ (v 3)) + v 3))), (3, .int (nI (T + 1))), (4, .int (nI n2)), (5, .int (nI (s.1 T))), (6, .int (nI (ksOf v (s.1 T / 8)))), (7, .int (nI (k + 1)))]) rfl ?_
                              exact ih122 τ (k + 1) n2 hv hfr (by omega) (by rw [bfD, bfS, if_pos hgo, bfE, if_neg hpos]; exact hQ) (by rw [hn, bfD, bfS, if_pos hgo, bfE, if_neg hpos]) (by omega)
                            ·
                              have hgo : bfGo v (s.1 T) k = true := by unfold bfGo; rw [decide_eq_true hbg, c_159]; rfl
                              have hneg : (bfD v (s.1 T) s k).2.2 (nxS v (s.1 T) k) < 0 := by have h9 : (bfD v (s.1 T) s k).2.2 (8 * (s.1 T / 8 ||| 2 ^ (behR v k (s.1 T % 8)).toNat) + (behR v k (s.1 T % 8)).toNat) < 0 := (by omega); exact h9
                              have hlt := hbd.1.lt (x := 8 * (s.1 T / 8 ||| 2 ^ (behR v k (s.1 T % 8)).toNat) + (behR v k (s.1 T % 8)).toNat) (by omega) hneg
                              refine r_aload_n hc dX12_doorsTo_190 rfl ?_
                              refine gf_X12_32 (q := M + 8) hc (MS0 hM) (MSr hM 13 8 (by decide)) dX12_doorsTo_191 ?_
                              refine r_iload hc dX12_doorsTo_194 rfl ?_
                              refine r_aload_n hc dX12_doorsTo_196 rfl ?_
                              refine gf_X12_32 (q := M + 8) hc (MS0 hM) (MSr hM 13 8 (by decide)) dX12_doorsTo_197 ?_
                              refine r_iload hc dX12_doorsTo_200 rfl ?_
                              refine r_iald (x := zI ((bfD v (s.1 T) s k).2.2 (s.1 T))) (j := s.1 T) hc (MSa hM 8 0 2048 rfl) rfl (by omega) (by decide) (hfa _ (by omega)) dX12_doorsTo_202 ?_
                              refine r_iconst (v := nI 1) hc dX12_doorsTo_203 rfl ?_
                              refine r_iadd (v := zI (((bfD v (s.1 T) s k).2.2 (s.1 T)) + ((1 : Nat) : Int))) hc dX12_doorsTo_204 (ad_ZN _ _) ?_
                              refine r_iast (j := 8 * (((s.1 T) / 8) ||| (2 ^ ((behR v k (s.1 T % 8)).toNat))) + ((behR v k (s.1 T % 8)).toNat)) hc (MSa hM 8 0 2048 rfl) rfl (by omega) (by decide) dX12_doorsTo_205 ?_
                              generalize hσ3 : s2 τ (M + 8) (8 * (((s.1 T) / 8) ||| (2 ^ ((behR v k (s.1 T % 8)).toNat))) + ((behR v k (s.1 T % 8)).toNat)) (zI (((bfD v (s.1 T) s k).2.2 (s.1 T)) + ((1 : Nat) : Int))) = σ3
                              have hv : rowAt σ3 (M + 1) 170 v := by rw [← hσ3]; exact hv.keep (by omega) _ _
                              refine r_aload_n hc dX12_doorsTo_206 rfl ?_
                              refine gf_X12_35 (q := M + 9) hc (MS0 hM) (MSr hM 14 9 (by decide)) dX12_doorsTo_207 ?_
                              refine r_iload hc dX12_doorsTo_210 rfl ?_
                              refine r_iload hc dX12_doorsTo_212 rfl ?_
                              refine r_iast (j := n2) hc (MSa hM 9 0 2048 rfl) rfl (by omega) (by decide) dX12_doorsTo_214 ?_
                              generalize hσ4 : s2 σ3 (M + 9) n2 (nI (8 * (((s.1 T) / 8) ||| (2 ^ ((behR v k (s.1 T % 8)).toNat))) + ((behR v k (s.1 T % 8)).toNat))) = σ4
                              have hv : rowAt σ4 (M + 1) 170 v := by rw [← hσ4]; exact hv.keep (by omega) _ _
                              refine r_iinc (v := nI (n2 + 1)) (ls' := [(4, .int (nI (n2 + 1))), (9, .int (nI (8 * (((s.1 T) / 8) ||| (2 ^ ((behR v k (s.1 T % 8)).toNat))) + ((behR v k (s.1 T % 8)).toNat)))), (8, .int (nI ((behR v k (s.1 T % 8)).toNat))), (0, .ref M), (1, .int (nI X)), (2, .int (nI (8 * (2 ^ (v 3)) + v 3))), (3, .int (nI (T + 1))), (5, .int (nI (s.1 T))), (6, .int (nI (ksOf v (s.1 T / 8)))), (7, .int (nI k))]) hc dX12_doorsTo_215 rfl (ad_NN _ 1) (by decide) rfl ?_
                              refine r_iinc (v := nI (k + 1)) (ls' := [(7, .int (nI (k + 1))), (4, .int (nI (n2 + 1))), (9, .int (nI (8 * (((s.1 T) / 8) ||| (2 ^ ((behR v k (s.1 T % 8)).toNat))) + ((behR v k (s.1 T % 8)).toNat)))), (8, .int (nI ((behR v k (s.1 T % 8)).toNat))), (0, .ref M), (1, .int (nI X)), (2, .int (nI (8 * (2 ^ (v 3)) + v 3))), (3, .int (nI (T + 1))), (5, .int (nI (s.1 T))), (6, .int (nI (ksOf v (s.1 T / 8))))]) hc dX12_doorsTo_218 rfl (ad_NN _ 1) (by decide) rfl ?_
                              refine r_goto (tgt := 122) hc dX12_doorsTo_221 (by decide) ?_
                              refine r_locp [4, 5, 6, 7, 1, 8, 9, 0] (ls' := [(0, .ref M), (1, .int (nI X)), (2, .int (nI (8 * (2 ^ (v 3)) + v 3))), (3, .int (nI (T + 1))), (4, .int (nI (n2 + 1))), (5, .int (nI (s.1 T))), (6, .int (nI (ksOf v (s.1 T / 8)))), (7, .int (nI (k + 1)))]) rfl ?_
                              exact ih122 σ4 (k + 1) (n2 + 1) hv (fun q q1 q2 => by rw [← hσ4, s2_ne q2, ← hσ3, s2_ne q1]; exact hfr q q1 q2) (by omega) (by rw [bfD, bfS, if_pos hgo, ← hσ4, ← hσ3, hn]; exact hQ.enq hneg) (by rw [hn, bfD, bfS, if_pos hgo, bfE, if_pos hneg]) (by omega)
                  refine r_locp [4, 5, 6, 2, 7, 3, 1, 0] (ls' := [(0, .ref M), (1, .int (nI X)), (2, .int (nI (8 * (2 ^ (v 3)) + v 3))), (3, .int (nI (T + 1))), (4, .int (nI n)), (5, .int (nI (s.1 T))), (6, .int (nI (ksOf v ((s.1 T) / 8)))), (7, .int (nI 0))]) rfl ?_
                  exact loop122 _ τ 0 n hv hfr (by omega) hQ hn (Nat.lt_succ_self _)
                ·
                  refine r_aload_n hc dX12_doorsTo_100 rfl ?_
                  refine gf_X12_32 (q := M + 8) hc (MS0 hM) (MSr hM 13 8 (by decide)) dX12_doorsTo_101 ?_
                  refine r_iload hc dX12_doorsTo_104 rfl ?_
                  refine r_iald (x := zI (s.2.2 (s.1 T))) (j := s.1 T) hc (MSa hM 8 0 2048 rfl) rfl (by omega) (by decide) (hfa _ (by omega)) dX12_doorsTo_106 ?_
                  exact hR _ _ ⟨_, rfl, (by refine congrArg zI ?_; unfold sDoorsTo; rw [if_pos (by omega), Int.toNat_natCast, ← hb, show 2049 - T = (2049 - (T + 1)) + 1 by omega, bfR, if_pos (by omega), if_pos c_97]), hfr⟩ rfl _ _ dX12_doorsTo_107
          refine r_locp [3, 4, 2, 1, 0] (ls' := [(0, .ref M), (1, .int (nI X)), (2, .int (nI (8 * (2 ^ (v 3)) + (v 3)))), (3, .int (nI 0)), (4, .int (nI 1))]) rfl ?_
          exact loop74 _ σ2 (bf0 (v 3)) 0 1 hv hfr74 hQ0 hI0 (by rw [bf0_eq]) (by omega) rfl (Nat.lt_succ_self _)
        ·
          refine r_aload_n hc dX12_doorsTo_22 rfl ?_
          refine gf_X12_32 (q := M + 8) hc (MS0 hM) (MSr hM 13 8 (by decide)) dX12_doorsTo_23 ?_
          refine r_iload_n hc dX12_doorsTo_26 rfl ?_
          refine r_bipush (v := zI (-6)) hc dX12_doorsTo_27 rfl ?_
          refine r_iast (j := k) hc (MSa hM 8 0 2048 rfl) rfl (by omega) (by decide) dX12_doorsTo_29 ?_
          generalize hσ5 : s2 τ (M + 8) k (zI (-6)) = σ5
          have hv : rowAt σ5 (M + 1) 170 v := by rw [← hσ5]; exact hv.keep (by omega) _ _
          refine r_iinc (v := nI (k + 1)) (ls' := [(2, .int (nI (k + 1))), (0, .ref M), (1, .int (nI X))]) hc dX12_doorsTo_30 rfl (ad_NN _ 1) (by decide) rfl ?_
          refine r_goto (tgt := 15) hc dX12_doorsTo_33 (by decide) ?_
          refine r_locp [1, 2, 0] (ls' := [(0, .ref M), (1, .int (nI X)), (2, .int (nI (k + 1)))]) rfl ?_
          exact ih15 σ5 (k + 1) (by omega) (fun x hx => by rw [← hσ5]; exact fill_step hz hx) hv (fun q q1 q2 => by rw [← hσ5, s2_ne q1]; exact hfr q q1 q2) (by omega)
    refine r_locp [1, 2, 0] (ls' := [(0, .ref M), (1, .int (nI X)), (2, .int (nI 0))]) rfl ?_
    exact loop15 _ σ 0 (by omega) (fun x hx => absurd hx (Nat.not_lt_zero _)) hv (fun _ _ _ => rfl) (Nat.lt_succ_self _)
  ·
    have c_7 := of_decide_eq_false c_7
    refine r_bipush (v := zI (-2)) hc dX12_doorsTo_10 rfl ?_
    exact hR _ _ ⟨_, rfl, (by refine congrArg zI ?_; unfold sDoorsTo; rw [if_neg (by omega)]), fun _ _ _ => rfl⟩ rfl _ _ dX12_doorsTo_12
