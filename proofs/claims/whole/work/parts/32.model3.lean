/-! ===== the model's changes ===== -/
def recC (nu : Nat) : Nat := if nu = 6 then 5 else nu
def recB (nu : Nat) (hf : Nat → Nat) : Nat → Nat := if nu = 6 then fun j => hf (j + 170) else hf
def recH (nu : Nat) (hf v : Nat → Nat) : Nat → Nat := fun j => if j < recC nu * 170 then recB nu hf j else v (j - recC nu * 170)
def mH (W : Bool) (x : Int) (nu : Nat) (hf v : Nat → Nat) : Nat × (Nat → Nat) := if W = false ∧ 0 ≤ x then (recC nu + 1, recH nu hf v) else (nu, hf)
theorem mH_neg {W : Bool} {x : Int} {nu : Nat} {hf v : Nat → Nat} (h : x < 0) : mH W x nu hf v = (nu, hf) := if_neg (fun q => by have := q.2; omega)
theorem mH_pos {W : Bool} {x : Int} {nu : Nat} {hf v : Nat → Nat} (h : 0 ≤ x) : mH W x nu hf v = mH W 0 nu hf v := by
  unfold mH
  cases W with
  | true => rw [if_neg (fun q => Bool.noConfusion q.1), if_neg (fun q => Bool.noConfusion q.1)]
  | false => rw [if_pos ⟨rfl, h⟩, if_pos ⟨rfl, Int.le_refl 0⟩]
def HstP (σ : Nat → Nat → Int32) (M : Nat) (P : Nat × (Nat → Nat)) : Prop := σ M 2 = nI P.1 ∧ rowAt σ (M + 2) (P.1 * 170) P.2
abbrev MPost (z : Nat) (sh : Nat → Option Kd) (σ : Nat → Nat → Int32) (ρ : Nat → Nat → Option Nat) (M nu : Nat) (hf v : Nat → Nat) (W : Bool) (X : Int × (Nat → Nat)) : Int32 → StT → Prop := fun r u => ∃ τ : Nat → Nat → Int32, u = (z, sh, τ, ρ) ∧ r = zI X.1 ∧ rowAt τ (M + 1) 170 X.2 ∧ HstP τ M (mH W X.1 nu hf v) ∧ (∀ q, q ≠ M → q ≠ M + 1 → q ≠ M + 2 → τ q = σ q) ∧ ∀ k, k ≠ 2 → τ M k = σ M k
theorem givW_cong {v v1 : Nat → Nat} {d : Nat} (h1 : v1 1 = v 1) (h2 : v1 (20 + 6 * d + 2) = v (20 + 6 * d + 2)) (h3 : v1 (20 + 6 * d + 3) = v (20 + 6 * d + 3)) : givW v1 d = givW v d := by
  unfold givW lockWt fstR sndR
  rw [h1, h2, h3]
set_option maxRecDepth 100000 in
set_option maxHeartbeats 4000000 in
theorem c_X12_record {Ω : OmT} {z : Nat} {sh : Nat → Option Kd} {σ : Nat → Nat → Int32} {ρ : Nat → Nat → Option Nat} {M : Nat} {v : Nat → Nat} (hM : MSh sh ρ M) (hv : rowAt σ (M + 1) 170 v) {W : Bool} (hW : σ M 7 = bI W) {nu : Nat} {hf : Nat → Nat} (hH : HstP σ M (nu, hf)) (hnu : nu ≤ 6)  : CtV Ω yX12_record cX12_record 2 rm_X12_record [.ref M] (z, sh, σ, ρ) (fun u => ∃ τ : Nat → Nat → Int32, u = (z, sh, τ, ρ) ∧ HstP τ M (mH W 0 nu hf v) ∧ (∀ q, q ≠ M → q ≠ M + 2 → τ q = σ q) ∧ ∀ k, k ≠ 2 → τ M k = σ M k) := by
  obtain ⟨h2, hh0⟩ := hH
  have hH : HstP σ M (nu, hf) := ⟨h2, hh0⟩
  have h2 : σ M 2 = nI nu := h2
  have hh0 : rowAt σ (M + 2) (nu * 170) hf := hh0
  refine CtV.enter (by decide) (Nat.le_of_ble_eq_true rfl) (fun Φ hc hi hR => ?_)
  show Vw Ω Φ (z, sh, σ, ρ) (0, 0) 0 [(0, .ref M)] []
  refine r_aload_n hc dX12_record_0 rfl ?_
  refine gf_X12_45 (x := bI W) hc (MS0 hM) hW dX12_record_1 ?_
  refine r_if_eq (tgt := 8) hc dX12_record_4 (by decide) (bI_0 _) (fun c_4 => ?_) (fun c_4 => ?_)
  ·
    refine r_aload_n hc dX12_record_8 rfl ?_
    refine gf_X12_49 (x := nI nu) hc (MS0 hM) h2 dX12_record_9 ?_
    refine r_bipush (v := nI 6) hc dX12_record_12 rfl ?_
    refine r_icmp_ne (tgt := 53) hc dX12_record_14 (by decide) (eq_NN (by omega) (by omega)) (fun c_14 => ?_) (fun c_14 => ?_)
    ·
      have hC : recC nu = nu := if_neg c_14
      have hB : recB nu hf = hf := if_neg c_14
      refine r_iconst (v := nI 0) hc dX12_record_53 rfl ?_
      refine r_istore_n (ls' := [(1, .int (nI 0)), (0, .ref M)]) hc dX12_record_54 (by decide) rfl ?_
      have loop55 : ∀ (n55 : Nat) (τ : Nat → Nat → Int32) (k : Nat), (k ≤ 170) → (rowAt τ (M + 2) (recC nu * 170 + k) (recH nu hf v)) → (τ M 2 = nI (recC nu)) → (rowAt τ (M + 1) 170 v) → ((∀ q, q ≠ M → q ≠ M + 2 → τ q = σ q) ∧ ∀ k, k ≠ 2 → τ M k = σ M k) → (170 - k) < n55 → Vw Ω Φ (z, sh, τ, ρ) (0, 0) 55 [(0, .ref M), (1, .int (nI k))] [] := by
        intro n55
        induction n55 with
        | zero => intro τ k hk hrow h2 hv hfr hm; exact absurd hm (Nat.not_lt_zero _)
        | succ n55 ih55 =>
          intro τ k hk hrow h2 hv hfr hm55
          refine r_iload_n hc dX12_record_55 rfl ?_
          refine r_sipush (v := nI 170) hc dX12_record_56 rfl ?_
          refine r_icmp_ge (tgt := 89) hc dX12_record_59 (by decide) (le_NN (by omega) (by omega)) (fun c_59 => ?_) (fun c_59 => ?_)
          ·
            refine r_aload_n hc dX12_record_89 rfl ?_
            refine r_dup hc dX12_record_90 rfl ?_
            refine gf_X12_49 (x := nI (recC nu)) hc (MS0 hM) h2 dX12_record_91 ?_
            refine r_iconst (v := nI 1) hc dX12_record_94 rfl ?_
            refine r_iadd (v := nI (recC nu + 1)) hc dX12_record_95 (ad_NN _ _) ?_
            refine pf_X12_49 hc (MS0 hM) dX12_record_96 ?_
            generalize hσ1 : s2 τ M 2 (nI (recC nu + 1)) = σ1
            have hv : rowAt σ1 (M + 1) 170 v := by rw [← hσ1]; exact hv.keep (by omega) _ _
            have h2 : σ1 M 2 = nI (recC nu + 1) := by rw [← hσ1]; exact s2_same _ _ _ _
            have hE : mH W 0 nu hf v = (recC nu + 1, recH nu hf v) := if_pos ⟨c_4, Int.le_refl 0⟩
            rw [hE] at hR
            refine hR _ ⟨_, rfl, ⟨h2, ?_⟩, fun q q1 q2 => by rw [← hσ1, s2_ne q1]; exact hfr.1 q q1 q2, fun k hk => by rw [← hσ1, s2_nk hk]; exact hfr.2 k hk⟩ _ _ dX12_record_99
            rw [hC, show k = 170 by omega] at hrow
            rw [show (recC nu + 1, recH nu hf v).1 * 170 = recC nu * 170 + 170 by show (recC nu + 1) * 170 = _; omega, hC]
            exact hrow.sig (by rw [← hσ1, s2_ne (by omega)])
          ·
            refine r_aload_n hc dX12_record_62 rfl ?_
            refine gf_X12_13 (q := M + 2) hc (MS0 hM) (MSr hM 1 2 (by decide)) dX12_record_63 ?_
            refine r_aload_n hc dX12_record_66 rfl ?_
            refine gf_X12_49 (x := nI (recC nu)) hc (MS0 hM) h2 dX12_record_67 ?_
            refine r_sipush (v := nI 170) hc dX12_record_70 rfl ?_
            refine r_imul (v := nI ((recC nu) * 170)) hc dX12_record_73 (ml_NN _ _) ?_
            refine r_iload_n hc dX12_record_74 rfl ?_
            refine r_iadd (v := nI ((recC nu) * 170 + k)) hc dX12_record_75 (ad_NN _ _) ?_
            refine r_aload_n hc dX12_record_76 rfl ?_
            refine gf_X12_7 (q := M + 1) hc (MS0 hM) (MSr hM 0 1 (by decide)) dX12_record_77 ?_
            refine r_iload_n hc dX12_record_80 rfl ?_
            refine r_iald (x := nI (v k)) (j := k) hc (MSa hM 1 0 170 rfl) rfl (by omega) (by decide) (hv _ (by omega)) dX12_record_81 ?_
            refine r_iast (j := (recC nu) * 170 + k) hc (MSa hM 2 0 1020 rfl) rfl (by omega) (by decide) dX12_record_82 ?_
            generalize hσ2 : s2 τ (M + 2) ((recC nu) * 170 + k) (nI (v k)) = σ2
            have hv : rowAt σ2 (M + 1) 170 v := by rw [← hσ2]; exact hv.keep (by omega) _ _
            have h2 : σ2 M 2 = nI (recC nu) := by rw [← hσ2]; exact s2_keep h2 (by omega)
            refine r_iinc (v := nI (k + 1)) (ls' := [(1, .int (nI (k + 1))), (0, .ref M)]) hc dX12_record_83 rfl (ad_NN _ 1) (by decide) rfl ?_
            refine r_goto (tgt := 55) hc dX12_record_86 (by decide) ?_
            refine r_locp [1, 0] (ls' := [(0, .ref M), (1, .int (nI (k + 1)))]) rfl ?_
            exact ih55 σ2 (k + 1) (by omega) (by rw [← hσ2]; exact hrow.ext1 _ (by unfold recH; rw [if_neg (by omega), Nat.add_sub_cancel_left])) h2 hv ⟨fun q q1 q2 => by rw [← hσ2, s2_ne q2]; exact hfr.1 q q1 q2, fun k hk => by rw [← hσ2, s2_na (by omega)]; exact hfr.2 k hk⟩ (by omega)
      refine r_locp [1, 0] (ls' := [(0, .ref M), (1, .int (nI 0))]) rfl ?_
      exact loop55 _ σ 0 (by omega) (by rw [hC]; intro j hj; have h7 : recH nu hf v j = hf j := (by unfold recH; rw [hC, if_pos (by omega), hB]); rw [h7]; exact hh0 j (by omega)) (by rw [hC]; exact h2) hv ⟨fun _ _ _ => rfl, fun _ _ => rfl⟩ (Nat.lt_succ_self _)
    ·
      have hC : recC nu = 5 := if_pos c_14
      have hB : recB nu hf = fun j => hf (j + 170) := if_pos c_14
      refine r_iconst (v := nI 0) hc dX12_record_17 rfl ?_
      refine r_istore_n (ls' := [(1, .int (nI 0)), (0, .ref M)]) hc dX12_record_18 (by decide) rfl ?_
      have loop19 : ∀ (n19 : Nat) (τ : Nat → Nat → Int32) (k : Nat), (k ≤ 850) → (rowAt τ (M + 2) k (fun j => hf (j + 170))) → (∀ j, k ≤ j → τ (M + 2) j = σ (M + 2) j) → (rowAt τ (M + 1) 170 v) → (τ M 2 = nI nu) → (∀ q, q ≠ M + 2 → τ q = σ q) → (850 - k) < n19 → Vw Ω Φ (z, sh, τ, ρ) (0, 0) 19 [(0, .ref M), (1, .int (nI k))] [] := by
        intro n19
        induction n19 with
        | zero => intro τ k hk hg hsm hv h2 hfr hm; exact absurd hm (Nat.not_lt_zero _)
        | succ n19 ih19 =>
          intro τ k hk hg hsm hv h2 hfr hm19
          refine r_iload_n hc dX12_record_19 rfl ?_
          refine r_sipush (v := nI 850) hc dX12_record_20 rfl ?_
          refine r_icmp_ge (tgt := 48) hc dX12_record_23 (by decide) (le_NN (by omega) (by omega)) (fun c_23 => ?_) (fun c_23 => ?_)
          ·
            refine r_aload_n hc dX12_record_48 rfl ?_
            refine r_iconst (v := nI 5) hc dX12_record_49 rfl ?_
            refine pf_X12_49 hc (MS0 hM) dX12_record_50 ?_
            generalize hσ3 : s2 τ M 2 (nI 5) = σ3
            have hv : rowAt σ3 (M + 1) 170 v := by rw [← hσ3]; exact hv.keep (by omega) _ _
            have h2 : σ3 M 2 = nI 5 := by rw [← hσ3]; exact s2_same _ _ _ _
            refine r_iconst (v := nI 0) hc dX12_record_53 rfl ?_
            refine r_istore_n (ls' := [(1, .int (nI 0)), (0, .ref M)]) hc dX12_record_54 (by decide) rfl ?_
            have loop55 : ∀ (n55 : Nat) (τ : Nat → Nat → Int32) (k : Nat), (k ≤ 170) → (rowAt τ (M + 2) (recC nu * 170 + k) (recH nu hf v)) → (τ M 2 = nI (recC nu)) → (rowAt τ (M + 1) 170 v) → ((∀ q, q ≠ M → q ≠ M + 2 → τ q = σ q) ∧ ∀ k, k ≠ 2 → τ M k = σ M k) → (170 - k) < n55 → Vw Ω Φ (z, sh, τ, ρ) (0, 0) 55 [(0, .ref M), (1, .int (nI k))] [] := by
              intro n55
              induction n55 with
              | zero => intro τ k hk hrow h2 hv hfr hm; exact absurd hm (Nat.not_lt_zero _)
              | succ n55 ih55 =>
                intro τ k hk hrow h2 hv hfr hm55
                refine r_iload_n hc dX12_record_55 rfl ?_
                refine r_sipush (v := nI 170) hc dX12_record_56 rfl ?_
                refine r_icmp_ge (tgt := 89) hc dX12_record_59 (by decide) (le_NN (by omega) (by omega)) (fun c_59 => ?_) (fun c_59 => ?_)
                ·
                  refine r_aload_n hc dX12_record_89 rfl ?_
                  refine r_dup hc dX12_record_90 rfl ?_
                  refine gf_X12_49 (x := nI (recC nu)) hc (MS0 hM) h2 dX12_record_91 ?_
                  refine r_iconst (v := nI 1) hc dX12_record_94 rfl ?_
                  refine r_iadd (v := nI (recC nu + 1)) hc dX12_record_95 (ad_NN _ _) ?_
                  refine pf_X12_49 hc (MS0 hM) dX12_record_96 ?_
                  generalize hσ4 : s2 τ M 2 (nI (recC nu + 1)) = σ4
                  have hv : rowAt σ4 (M + 1) 170 v := by rw [← hσ4]; exact hv.keep (by omega) _ _
                  have h2 : σ4 M 2 = nI (recC nu + 1) := by rw [← hσ4]; exact s2_same _ _ _ _
                  have hE : mH W 0 nu hf v = (recC nu + 1, recH nu hf v) := if_pos ⟨c_4, Int.le_refl 0⟩
                  rw [hE] at hR
                  refine hR _ ⟨_, rfl, ⟨h2, ?_⟩, fun q q1 q2 => by rw [← hσ4, s2_ne q1]; exact hfr.1 q q1 q2, fun k hk => by rw [← hσ4, s2_nk hk]; exact hfr.2 k hk⟩ _ _ dX12_record_99
                  rw [hC, show k = 170 by omega] at hrow
                  rw [show (recC nu + 1, recH nu hf v).1 * 170 = recC nu * 170 + 170 by show (recC nu + 1) * 170 = _; omega, hC]
                  exact hrow.sig (by rw [← hσ4, s2_ne (by omega)])
                ·
                  refine r_aload_n hc dX12_record_62 rfl ?_
                  refine gf_X12_13 (q := M + 2) hc (MS0 hM) (MSr hM 1 2 (by decide)) dX12_record_63 ?_
                  refine r_aload_n hc dX12_record_66 rfl ?_
                  refine gf_X12_49 (x := nI (recC nu)) hc (MS0 hM) h2 dX12_record_67 ?_
                  refine r_sipush (v := nI 170) hc dX12_record_70 rfl ?_
                  refine r_imul (v := nI ((recC nu) * 170)) hc dX12_record_73 (ml_NN _ _) ?_
                  refine r_iload_n hc dX12_record_74 rfl ?_
                  refine r_iadd (v := nI ((recC nu) * 170 + k)) hc dX12_record_75 (ad_NN _ _) ?_
                  refine r_aload_n hc dX12_record_76 rfl ?_
                  refine gf_X12_7 (q := M + 1) hc (MS0 hM) (MSr hM 0 1 (by decide)) dX12_record_77 ?_
                  refine r_iload_n hc dX12_record_80 rfl ?_
                  refine r_iald (x := nI (v k)) (j := k) hc (MSa hM 1 0 170 rfl) rfl (by omega) (by decide) (hv _ (by omega)) dX12_record_81 ?_
                  refine r_iast (j := (recC nu) * 170 + k) hc (MSa hM 2 0 1020 rfl) rfl (by omega) (by decide) dX12_record_82 ?_
                  generalize hσ5 : s2 τ (M + 2) ((recC nu) * 170 + k) (nI (v k)) = σ5
                  have hv : rowAt σ5 (M + 1) 170 v := by rw [← hσ5]; exact hv.keep (by omega) _ _
                  have h2 : σ5 M 2 = nI (recC nu) := by rw [← hσ5]; exact s2_keep h2 (by omega)
                  refine r_iinc (v := nI (k + 1)) (ls' := [(1, .int (nI (k + 1))), (0, .ref M)]) hc dX12_record_83 rfl (ad_NN _ 1) (by decide) rfl ?_
                  refine r_goto (tgt := 55) hc dX12_record_86 (by decide) ?_
                  refine r_locp [1, 0] (ls' := [(0, .ref M), (1, .int (nI (k + 1)))]) rfl ?_
                  exact ih55 σ5 (k + 1) (by omega) (by rw [← hσ5]; exact hrow.ext1 _ (by unfold recH; rw [if_neg (by omega), Nat.add_sub_cancel_left])) h2 hv ⟨fun q q1 q2 => by rw [← hσ5, s2_ne q2]; exact hfr.1 q q1 q2, fun k hk => by rw [← hσ5, s2_na (by omega)]; exact hfr.2 k hk⟩ (by omega)
            refine r_locp [1, 0] (ls' := [(0, .ref M), (1, .int (nI 0))]) rfl ?_
            exact loop55 _ σ3 0 (by omega) (by rw [hC]; intro j hj; have h7 : recH nu hf v j = hf (j + 170) := (by unfold recH; rw [hC, if_pos (by omega), hB]); rw [h7, ← hσ3, s2_na (by omega)]; exact hg j (by omega)) (by rw [hC]; exact h2) hv ⟨fun q q1 q2 => by rw [← hσ3, s2_ne q1]; exact hfr q q2, fun k hk => by rw [← hσ3, s2_nk hk]; exact congrFun (hfr M (by omega)) k⟩ (Nat.lt_succ_self _)
          ·
            have hrd : τ (M + 2) (k + 170) = nI (hf (k + 170)) := by rw [hsm _ (by omega)]; exact hh0 _ (by omega)
            refine r_aload_n hc dX12_record_26 rfl ?_
            refine gf_X12_13 (q := M + 2) hc (MS0 hM) (MSr hM 1 2 (by decide)) dX12_record_27 ?_
            refine r_iload_n hc dX12_record_30 rfl ?_
            refine r_aload_n hc dX12_record_31 rfl ?_
            refine gf_X12_13 (q := M + 2) hc (MS0 hM) (MSr hM 1 2 (by decide)) dX12_record_32 ?_
            refine r_iload_n hc dX12_record_35 rfl ?_
            refine r_sipush (v := nI 170) hc dX12_record_36 rfl ?_
            refine r_iadd (v := nI (k + 170)) hc dX12_record_39 (ad_NN _ _) ?_
            refine r_iald (x := nI (hf (k + 170))) (j := k + 170) hc (MSa hM 2 0 1020 rfl) rfl (by omega) (by decide) hrd dX12_record_40 ?_
            refine r_iast (j := k) hc (MSa hM 2 0 1020 rfl) rfl (by omega) (by decide) dX12_record_41 ?_
            generalize hσ6 : s2 τ (M + 2) k (nI (hf (k + 170))) = σ6
            have hv : rowAt σ6 (M + 1) 170 v := by rw [← hσ6]; exact hv.keep (by omega) _ _
            have h2 : σ6 M 2 = nI nu := by rw [← hσ6]; exact s2_keep h2 (by omega)
            have hrd : σ6 (M + 2) (k + 170) = nI (hf (k + 170)) := by rw [← hσ6]; exact s2_keep hrd (by omega)
            refine r_iinc (v := nI (k + 1)) (ls' := [(1, .int (nI (k + 1))), (0, .ref M)]) hc dX12_record_42 rfl (ad_NN _ 1) (by decide) rfl ?_
            refine r_goto (tgt := 19) hc dX12_record_45 (by decide) ?_
            refine r_locp [1, 0] (ls' := [(0, .ref M), (1, .int (nI (k + 1)))]) rfl ?_
            exact ih19 σ6 (k + 1) (by omega) (by rw [← hσ6]; exact hg.ext1 _ rfl) (fun j hj => by rw [← hσ6, s2_nk (by omega)]; exact hsm j (by omega)) hv h2 (fun q hq => by rw [← hσ6, s2_ne hq]; exact hfr q hq) (by omega)
      refine r_locp [1, 0] (ls' := [(0, .ref M), (1, .int (nI 0))]) rfl ?_
      exact loop19 _ σ 0 (by omega) rowAt.zero (fun _ _ => rfl) hv h2 (fun _ _ => rfl) (Nat.lt_succ_self _)
  ·
    have c_4 := bnf c_4
    exact hR _ ⟨_, rfl, by rw [show mH W 0 nu hf v = (nu, hf) from if_neg (fun q => by rw [c_4] at q; exact Bool.noConfusion q.1)]; exact hH, fun _ _ _ => rfl, fun _ _ => rfl⟩ _ _ dX12_record_7
set_option maxRecDepth 100000 in
set_option maxHeartbeats 4000000 in
theorem c_X12_brass {Ω : OmT} {z : Nat} {sh : Nat → Option Kd} {σ : Nat → Nat → Int32} {ρ : Nat → Nat → Option Nat} {M : Nat} {v : Nat → Nat} (hM : MSh sh ρ M) (hv : rowAt σ (M + 1) 170 v) (hok : okR v) (hbx : v 7 ≤ 1000000000) {W : Bool} (hW : σ M 7 = bI W) {nu : Nat} {hf : Nat → Nat} (hH : HstP σ M (nu, hf)) (hnu : nu ≤ 6) {g : Int} (hg0 : -2147483648 ≤ g ∧ g < 2147483648) : CtI Ω yX12_brass cX12_brass 2 .int rm_X12_brass [.ref M, .int (zI g)] (z, sh, σ, ρ) (MPost z sh σ ρ M nu hf v W (sBrass v g)) := by
  have hok1 := hok
  obtain ⟨⟨h01, h02⟩, hl1, ⟨h21, h22⟩, h3, h4, h5, h9, hdo, hke, hpn, hpd, htc⟩ := hok1
  have hdr : ∀ d, d < v 4 → v (20 + 6 * d + 2) < 10000 ∧ v (20 + 6 * d + 3) < 10000 := fun d hd => ⟨(hdo d hd).2.2.1, (hdo d hd).2.2.2⟩
  have hcu : ∀ k, k < v 5 → v (80 + 4 * k) < 10000 := fun k hk => (hke k hk).1
  have hwh : ∀ k, k < v 5 → v (80 + 4 * k + 2) ≤ 9 := fun k hk => (hke k hk).2.2
  have hky : ∀ k, k < v 5 → v (80 + 4 * k) < 10000 ∧ v (80 + 4 * k + 2) ≤ 9 ∧ 40 ≤ v (80 + 4 * k + 1) ∧ v (80 + 4 * k + 1) ≤ 90 := fun k hk => ⟨(hke k hk).1, (hke k hk).2.2, (hke k hk).2.1⟩
  have hpl : ∀ p, p < v 9 → v (150 + 3 * p) < 10 := fun p hp => by have := (hpn p hp).1; omega
  refine CtI.enter (by decide) (Nat.le_of_ble_eq_true rfl) (fun Φ hc hR => ?_)
  show Vw Ω Φ (z, sh, σ, ρ) (0, 0) 0 [(0, .ref M), (1, .int (zI g))] []
  refine r_iload_n hc dX12_brass_0 rfl ?_
  refine r_iconst (v := nI 1) hc dX12_brass_1 rfl ?_
  refine r_sipush (v := nI 1000) hc dX12_brass_2 rfl ?_
  refine cl_X12_41 (As := [.int (zI g), .int (nI 1), .int (nI 1000)]) hc (by simp only [nz]; exact c_X12_in (by omega) (by omega) (by omega)) rfl ⟨by decide, by decide⟩ ⟨rfl, rfl⟩ ⟨by decide, by decide⟩ rfl (Nat.le_of_ble_eq_true rfl) dX12_brass_5 (fun r u hp => ?_)
  obtain ⟨rfl, hu⟩ := hp
  rw [hu]
  refine r_if_ne (tgt := 14) hc dX12_brass_8 (by decide) (bI_0 _) (fun c_8 => ?_) (fun c_8 => ?_)
  ·
    have c_8 := bnf c_8
    have c_8 := of_decide_eq_true c_8
    obtain ⟨G, rfl⟩ := Int.eq_ofNat_of_zero_le (show 0 ≤ g by omega)
    rw [← nz G]
    refine r_aload_n hc dX12_brass_14 rfl ?_
    refine cl_X12_53 (As := []) hc (c_X12_record hM hv hW hH hnu) (MS0 hM) rfl ⟨by decide, by decide⟩ ⟨rfl, rfl⟩ ⟨by decide, by decide⟩ rfl (Nat.le_of_ble_eq_true rfl) dX12_brass_15 (fun u hp => ?_)
    obtain ⟨τ0, hu, hH0, hfr0⟩ := hp
    rw [hu]
    have hv : rowAt τ0 (M + 1) 170 v := hv.sig (hfr0.1 _ (by omega) (by omega))
    refine r_aload_n hc dX12_brass_18 rfl ?_
    refine gf_X12_7 (q := M + 1) hc (MS0 hM) (MSr hM 0 1 (by decide)) dX12_brass_19 ?_
    refine r_bipush (v := nI 6) hc dX12_brass_22 rfl ?_
    refine r_dup2 hc dX12_brass_24 rfl rfl ?_
    refine r_iald (x := nI (v 6)) (j := 6) hc (MSa hM 1 0 170 rfl) rfl (by omega) (by decide) (hv _ (by omega)) dX12_brass_25 ?_
    refine r_iload_n hc dX12_brass_26 rfl ?_
    refine r_iadd (v := nI (v 6 + G)) hc dX12_brass_27 (ad_NN _ _) ?_
    refine r_iast (j := 6) hc (MSa hM 1 0 170 rfl) rfl (by omega) (by decide) dX12_brass_28 ?_
    generalize hσ1 : s2 τ0 (M + 1) 6 (nI (v 6 + G)) = σ1
    have hv : rowAt σ1 (M + 1) 170 (va_up v 6 (v 6 + G)) := by rw [← hσ1]; exact hv.upd _ _
    refine r_aload_n hc dX12_brass_29 rfl ?_
    refine gf_X12_7 (q := M + 1) hc (MS0 hM) (MSr hM 0 1 (by decide)) dX12_brass_30 ?_
    refine r_bipush (v := nI 7) hc dX12_brass_33 rfl ?_
    refine r_dup2 hc dX12_brass_35 rfl rfl ?_
    refine r_iald (x := nI (v 7)) (j := 7) hc (MSa hM 1 0 170 rfl) rfl (by omega) (by decide) ((hv _ (by omega)).trans (congrArg nI (by rw [va_up_off (by omega)]))) dX12_brass_36 ?_
    refine r_iload_n hc dX12_brass_37 rfl ?_
    refine r_iadd (v := nI (v 7 + G)) hc dX12_brass_38 (ad_NN _ _) ?_
    refine r_iast (j := 7) hc (MSa hM 1 0 170 rfl) rfl (by omega) (by decide) dX12_brass_39 ?_
    generalize hσ2 : s2 σ1 (M + 1) 7 (nI (v 7 + G)) = σ2
    have hv : rowAt σ2 (M + 1) 170 (va_up (va_up v 6 (v 6 + G)) 7 (v 7 + G)) := by rw [← hσ2]; exact hv.upd _ _
    refine r_aload_n hc dX12_brass_40 rfl ?_
    refine gf_X12_7 (q := M + 1) hc (MS0 hM) (MSr hM 0 1 (by decide)) dX12_brass_41 ?_
    refine r_bipush (v := nI 7) hc dX12_brass_44 rfl ?_
    refine r_iald (x := nI (v 7 + G)) (j := 7) hc (MSa hM 1 0 170 rfl) rfl (by omega) (by decide) ((hv _ (by omega)).trans (congrArg nI (by rw [va_up_at]))) dX12_brass_46 ?_
    have hE : sBrass v (G : Int) = (((v 7 + G : Nat) : Int), va_up (va_up v 6 (v 6 + G)) 7 (v 7 + G)) := by unfold sBrass; (try simp only [Int.toNat_natCast]); (rw [if_pos (by omega)]) <;> rfl
    rw [hE] at hR
    exact hR _ _ ⟨_, rfl, nz _, hv, (by rw [mH_pos (show (0 : Int) ≤ (((v 7 + G : Nat) : Int), va_up (va_up v 6 (v 6 + G)) 7 (v 7 + G)).1 by show (0 : Int) ≤ ((v 7 + G : Nat) : Int); omega)]; exact ⟨by rw [← hσ2, s2_na (by omega), ← hσ1, s2_na (by omega)]; exact hH0.1, hH0.2.sig (by rw [← hσ2, s2_ne (by omega), ← hσ1, s2_ne (by omega)])⟩), (fun q q1 q2 q3 => by rw [← hσ2, s2_ne q2, ← hσ1, s2_ne q2]; exact hfr0.1 q q1 q3), fun k hk => by rw [← hσ2, s2_na (by omega), ← hσ1, s2_na (by omega)]; exact hfr0.2 k hk⟩ rfl _ _ dX12_brass_47
  ·
    have c_8 := of_decide_eq_false c_8
    refine r_bipush (v := zI (-2)) hc dX12_brass_11 rfl ?_
    have hE : sBrass v g = (-2, v) := by unfold sBrass; (try simp only [Int.toNat_natCast]); (rw [if_neg (by omega)]) <;> rfl
    rw [hE] at hR
    exact hR _ _ ⟨_, rfl, rfl, hv, (by rw [mH_neg (show (-2, v).1 < (0 : Int) by show -2 < (0 : Int); omega)]; exact hH), fun _ _ _ _ => rfl, fun _ _ => rfl⟩ rfl _ _ dX12_brass_13
set_option maxRecDepth 100000 in
set_option maxHeartbeats 4000000 in
theorem c_X12_dropPlan {Ω : OmT} {z : Nat} {sh : Nat → Option Kd} {σ : Nat → Nat → Int32} {ρ : Nat → Nat → Option Nat} {M : Nat} {v : Nat → Nat} (hM : MSh sh ρ M) (hv : rowAt σ (M + 1) 170 v) (hok : okR v) (hbx : v 7 ≤ 1000000000) {W : Bool} (hW : σ M 7 = bI W) {nu : Nat} {hf : Nat → Nat} (hH : HstP σ M (nu, hf)) (hnu : nu ≤ 6)  : CtI Ω yX12_dropPlan cX12_dropPlan 2 .int rm_X12_dropPlan [.ref M] (z, sh, σ, ρ) (MPost z sh σ ρ M nu hf v W (sDrop v)) := by
  have hok1 := hok
  obtain ⟨⟨h01, h02⟩, hl1, ⟨h21, h22⟩, h3, h4, h5, h9, hdo, hke, hpn, hpd, htc⟩ := hok1
  have hdr : ∀ d, d < v 4 → v (20 + 6 * d + 2) < 10000 ∧ v (20 + 6 * d + 3) < 10000 := fun d hd => ⟨(hdo d hd).2.2.1, (hdo d hd).2.2.2⟩
  have hcu : ∀ k, k < v 5 → v (80 + 4 * k) < 10000 := fun k hk => (hke k hk).1
  have hwh : ∀ k, k < v 5 → v (80 + 4 * k + 2) ≤ 9 := fun k hk => (hke k hk).2.2
  have hky : ∀ k, k < v 5 → v (80 + 4 * k) < 10000 ∧ v (80 + 4 * k + 2) ≤ 9 ∧ 40 ≤ v (80 + 4 * k + 1) ∧ v (80 + 4 * k + 1) ≤ 90 := fun k hk => ⟨(hke k hk).1, (hke k hk).2.2, (hke k hk).2.1⟩
  have hpl : ∀ p, p < v 9 → v (150 + 3 * p) < 10 := fun p hp => by have := (hpn p hp).1; omega
  refine CtI.enter (by decide) (Nat.le_of_ble_eq_true rfl) (fun Φ hc hR => ?_)
  show Vw Ω Φ (z, sh, σ, ρ) (0, 0) 0 [(0, .ref M)] []
  refine r_aload_n hc dX12_dropPlan_0 rfl ?_
  refine cl_X12_53 (As := []) hc (c_X12_record hM hv hW hH hnu) (MS0 hM) rfl ⟨by decide, by decide⟩ ⟨rfl, rfl⟩ ⟨by decide, by decide⟩ rfl (Nat.le_of_ble_eq_true rfl) dX12_dropPlan_1 (fun u hp => ?_)
  obtain ⟨τ0, hu, hH0, hfr0⟩ := hp
  rw [hu]
  have hv : rowAt τ0 (M + 1) 170 v := hv.sig (hfr0.1 _ (by omega) (by omega))
  refine r_aload_n hc dX12_dropPlan_4 rfl ?_
  refine gf_X12_7 (q := M + 1) hc (MS0 hM) (MSr hM 0 1 (by decide)) dX12_dropPlan_5 ?_
  refine r_bipush (v := nI 9) hc dX12_dropPlan_8 rfl ?_
  refine r_iald (x := nI (v 9)) (j := 9) hc (MSa hM 1 0 170 rfl) rfl (by omega) (by decide) (hv _ (by omega)) dX12_dropPlan_10 ?_
  refine r_istore_n (ls' := [(1, .int (nI (v 9))), (0, .ref M)]) hc dX12_dropPlan_11 (by decide) rfl ?_
  refine r_aload_n hc dX12_dropPlan_12 rfl ?_
  refine gf_X12_7 (q := M + 1) hc (MS0 hM) (MSr hM 0 1 (by decide)) dX12_dropPlan_13 ?_
  refine r_bipush (v := nI 9) hc dX12_dropPlan_16 rfl ?_
  refine r_iconst (v := nI 0) hc dX12_dropPlan_18 rfl ?_
  refine r_iast (j := 9) hc (MSa hM 1 0 170 rfl) rfl (by omega) (by decide) dX12_dropPlan_19 ?_
  generalize hσ1 : s2 τ0 (M + 1) 9 (nI 0) = σ1
  have hv : rowAt σ1 (M + 1) 170 (va_up v 9 0) := by rw [← hσ1]; exact hv.upd _ _
  refine r_iload_n hc dX12_dropPlan_20 rfl ?_
  have hE : sDrop v  = (((v 9 : Nat) : Int), va_up v 9 0) := by unfold sDrop; rfl
  rw [hE] at hR
  exact hR _ _ ⟨_, rfl, nz _, hv, (by rw [mH_pos (show (0 : Int) ≤ (((v 9 : Nat) : Int), va_up v 9 0).1 by show (0 : Int) ≤ ((v 9 : Nat) : Int); omega)]; exact ⟨by rw [← hσ1, s2_na (by omega)]; exact hH0.1, hH0.2.sig (by rw [← hσ1, s2_ne (by omega)])⟩), (fun q q1 q2 q3 => by rw [← hσ1, s2_ne q2]; exact hfr0.1 q q1 q3), fun k hk => by rw [← hσ1, s2_na (by omega)]; exact hfr0.2 k hk⟩ rfl _ _ dX12_dropPlan_21
set_option maxRecDepth 100000 in
set_option maxHeartbeats 4000000 in
theorem c_X12_door {Ω : OmT} {z : Nat} {sh : Nat → Option Kd} {σ : Nat → Nat → Int32} {ρ : Nat → Nat → Option Nat} {M : Nat} {v : Nat → Nat} (hM : MSh sh ρ M) (hv : rowAt σ (M + 1) 170 v) (hok : okR v) (hbx : v 7 ≤ 1000000000) {W : Bool} (hW : σ M 7 = bI W) {nu : Nat} {hf : Nat → Nat} (hH : HstP σ M (nu, hf)) (hnu : nu ≤ 6) {a b f s : Int} (ha0 : -2147483648 ≤ a ∧ a < 2147483648) (hb0 : -2147483648 ≤ b ∧ b < 2147483648) (hf0 : -2147483648 ≤ f ∧ f < 2147483648) (hs0 : -2147483648 ≤ s ∧ s < 2147483648) : CtI Ω yX12_door cX12_door 6 .int rm_X12_door [.ref M, .int (zI a), .int (zI b), .int (zI f), .int (zI s)] (z, sh, σ, ρ) (MPost z sh σ ρ M nu hf v W (sDoor v a b f s)) := by
  have hok1 := hok
  obtain ⟨⟨h01, h02⟩, hl1, ⟨h21, h22⟩, h3, h4, h5, h9, hdo, hke, hpn, hpd, htc⟩ := hok1
  have hdr : ∀ d, d < v 4 → v (20 + 6 * d + 2) < 10000 ∧ v (20 + 6 * d + 3) < 10000 := fun d hd => ⟨(hdo d hd).2.2.1, (hdo d hd).2.2.2⟩
  have hcu : ∀ k, k < v 5 → v (80 + 4 * k) < 10000 := fun k hk => (hke k hk).1
  have hwh : ∀ k, k < v 5 → v (80 + 4 * k + 2) ≤ 9 := fun k hk => (hke k hk).2.2
  have hky : ∀ k, k < v 5 → v (80 + 4 * k) < 10000 ∧ v (80 + 4 * k + 2) ≤ 9 ∧ 40 ≤ v (80 + 4 * k + 1) ∧ v (80 + 4 * k + 1) ≤ 90 := fun k hk => ⟨(hke k hk).1, (hke k hk).2.2, (hke k hk).2.1⟩
  have hpl : ∀ p, p < v 9 → v (150 + 3 * p) < 10 := fun p hp => by have := (hpn p hp).1; omega
  refine CtI.enter (by decide) (Nat.le_of_ble_eq_true rfl) (fun Φ hc hR => ?_)
  show Vw Ω Φ (z, sh, σ, ρ) (0, 0) 0 [(0, .ref M), (1, .int (zI a)), (2, .int (zI b)), (3, .int (zI f)), (4, .int (zI s))] []
  refine r_iload_n hc dX12_door_0 rfl ?_
  refine r_iconst (v := nI 0) hc dX12_door_1 rfl ?_
  refine r_bipush (v := nI 7) hc dX12_door_2 rfl ?_
  refine cl_X12_41 (As := [.int (zI a), .int (nI 0), .int (nI 7)]) hc (by simp only [nz]; exact c_X12_in (by omega) (by omega) (by omega)) rfl ⟨by decide, by decide⟩ ⟨rfl, rfl⟩ ⟨by decide, by decide⟩ rfl (Nat.le_of_ble_eq_true rfl) dX12_door_4 (fun r u hp => ?_)
  obtain ⟨rfl, hu⟩ := hp
  rw [hu]
  refine r_if_eq (tgt := 40) hc dX12_door_7 (by decide) (bI_0 _) (fun c_7 => ?_) (fun c_7 => ?_)
  ·
    have c_7 := of_decide_eq_false c_7
    refine r_bipush (v := zI (-2)) hc dX12_door_40 rfl ?_
    have hE : sDoor v a b f s = (-2, v) := by unfold sDoor; (try simp only [Int.toNat_natCast]); (rw [if_neg (by omega)]) <;> rfl
    rw [hE] at hR
    exact hR _ _ ⟨_, rfl, rfl, hv, (by rw [mH_neg (show (-2, v).1 < (0 : Int) by show -2 < (0 : Int); omega)]; exact hH), fun _ _ _ _ => rfl, fun _ _ => rfl⟩ rfl _ _ dX12_door_42
  ·
    have c_7 := bnf c_7
    have c_7 := of_decide_eq_true c_7
    refine r_iload_n hc dX12_door_10 rfl ?_
    refine r_iconst (v := nI 0) hc dX12_door_11 rfl ?_
    refine r_bipush (v := nI 7) hc dX12_door_12 rfl ?_
    refine cl_X12_41 (As := [.int (zI b), .int (nI 0), .int (nI 7)]) hc (by simp only [nz]; exact c_X12_in (by omega) (by omega) (by omega)) rfl ⟨by decide, by decide⟩ ⟨rfl, rfl⟩ ⟨by decide, by decide⟩ rfl (Nat.le_of_ble_eq_true rfl) dX12_door_14 (fun r u hp => ?_)
    obtain ⟨rfl, hu⟩ := hp
    rw [hu]
    refine r_if_eq (tgt := 40) hc dX12_door_17 (by decide) (bI_0 _) (fun c_17 => ?_) (fun c_17 => ?_)
    ·
      have c_17 := of_decide_eq_false c_17
      refine r_bipush (v := zI (-2)) hc dX12_door_40 rfl ?_
      have hE : sDoor v a b f s = (-2, v) := by unfold sDoor; (try simp only [Int.toNat_natCast]); (rw [if_neg (by omega)]) <;> rfl
      rw [hE] at hR
      exact hR _ _ ⟨_, rfl, rfl, hv, (by rw [mH_neg (show (-2, v).1 < (0 : Int) by show -2 < (0 : Int); omega)]; exact hH), fun _ _ _ _ => rfl, fun _ _ => rfl⟩ rfl _ _ dX12_door_42
    ·
      have c_17 := bnf c_17
      have c_17 := of_decide_eq_true c_17
      refine r_iload_n hc dX12_door_20 rfl ?_
      refine r_iload_n hc dX12_door_21 rfl ?_
      refine r_icmp_eq (tgt := 40) hc dX12_door_22 (by decide) (eq_ZZ (by omega) (by omega)) (fun c_22 => ?_) (fun c_22 => ?_)
      ·
        refine r_bipush (v := zI (-2)) hc dX12_door_40 rfl ?_
        have hE : sDoor v a b f s = (-2, v) := by unfold sDoor; (try simp only [Int.toNat_natCast]); (rw [if_neg (by omega)]) <;> rfl
        rw [hE] at hR
        exact hR _ _ ⟨_, rfl, rfl, hv, (by rw [mH_neg (show (-2, v).1 < (0 : Int) by show -2 < (0 : Int); omega)]; exact hH), fun _ _ _ _ => rfl, fun _ _ => rfl⟩ rfl _ _ dX12_door_42
      ·
        refine r_iload_n hc dX12_door_25 rfl ?_
        refine cl_X12_60 (As := [.int (zI f)]) hc (c_X12_isRow (x := f) (by omega)) rfl ⟨by decide, by decide⟩ ⟨rfl, rfl⟩ ⟨by decide, by decide⟩ rfl (Nat.le_of_ble_eq_true rfl) dX12_door_26 (fun r u hp => ?_)
        obtain ⟨rfl, hu⟩ := hp
        rw [hu]
        refine r_if_eq (tgt := 40) hc dX12_door_29 (by decide) (bI_0 _) (fun c_29 => ?_) (fun c_29 => ?_)
        ·
          have c_29 := of_decide_eq_false c_29
          refine r_bipush (v := zI (-2)) hc dX12_door_40 rfl ?_
          have hE : sDoor v a b f s = (-2, v) := by unfold sDoor; (try simp only [Int.toNat_natCast]); (rw [if_neg (by omega)]) <;> rfl
          rw [hE] at hR
          exact hR _ _ ⟨_, rfl, rfl, hv, (by rw [mH_neg (show (-2, v).1 < (0 : Int) by show -2 < (0 : Int); omega)]; exact hH), fun _ _ _ _ => rfl, fun _ _ => rfl⟩ rfl _ _ dX12_door_42
        ·
          have c_29 := bnf c_29
          have c_29 := of_decide_eq_true c_29
          refine r_iload hc dX12_door_32 rfl ?_
          refine cl_X12_60 (As := [.int (zI s)]) hc (c_X12_isRow (x := s) (by omega)) rfl ⟨by decide, by decide⟩ ⟨rfl, rfl⟩ ⟨by decide, by decide⟩ rfl (Nat.le_of_ble_eq_true rfl) dX12_door_34 (fun r u hp => ?_)
          obtain ⟨rfl, hu⟩ := hp
          rw [hu]
          refine r_if_ne (tgt := 43) hc dX12_door_37 (by decide) (bI_0 _) (fun c_37 => ?_) (fun c_37 => ?_)
          ·
            have c_37 := bnf c_37
            have c_37 := of_decide_eq_true c_37
            obtain ⟨A, rfl⟩ := Int.eq_ofNat_of_zero_le (show 0 ≤ a by omega)
            rw [← nz A]
            obtain ⟨B, rfl⟩ := Int.eq_ofNat_of_zero_le (show 0 ≤ b by omega)
            rw [← nz B]
            obtain ⟨F, rfl⟩ := Int.eq_ofNat_of_zero_le (show 0 ≤ f by omega)
            rw [← nz F]
            obtain ⟨S, rfl⟩ := Int.eq_ofNat_of_zero_le (show 0 ≤ s by omega)
            rw [← nz S]
            have hlw := lockW_le F S
            refine r_aload_n hc dX12_door_43 rfl ?_
            refine gf_X12_7 (q := M + 1) hc (MS0 hM) (MSr hM 0 1 (by decide)) dX12_door_44 ?_
            refine r_iconst (v := nI 4) hc dX12_door_47 rfl ?_
            refine r_iald (x := nI (v 4)) (j := 4) hc (MSa hM 1 0 170 rfl) rfl (by omega) (by decide) (hv _ (by omega)) dX12_door_48 ?_
            refine r_bipush (v := nI 10) hc dX12_door_49 rfl ?_
            refine r_icmp_ne (tgt := 57) hc dX12_door_51 (by decide) (eq_NN (by omega) (by omega)) (fun c_51 => ?_) (fun c_51 => ?_)
            ·
              refine r_aload_n hc dX12_door_57 rfl ?_
              refine gf_X12_7 (q := M + 1) hc (MS0 hM) (MSr hM 0 1 (by decide)) dX12_door_58 ?_
              refine r_bipush (v := nI 7) hc dX12_door_61 rfl ?_
              refine r_iald (x := nI (v 7)) (j := 7) hc (MSa hM 1 0 170 rfl) rfl (by omega) (by decide) (hv _ (by omega)) dX12_door_63 ?_
              refine r_iload_n hc dX12_door_64 rfl ?_
              refine r_iload hc dX12_door_65 rfl ?_
              refine cl_X12_64 (As := [.int (nI F), .int (nI S)]) hc (c_X12_weightOf (f := F) (s := S) (by omega) (by omega)) rfl ⟨by decide, by decide⟩ ⟨rfl, rfl⟩ ⟨by decide, by decide⟩ rfl (Nat.le_of_ble_eq_true rfl) dX12_door_67 (fun r u hp => ?_)
              obtain ⟨rfl, hu⟩ := hp
              rw [hu]
              refine r_icmp_ge (tgt := 76) hc dX12_door_70 (by decide) (le_NN (by omega) (by omega)) (fun c_70 => ?_) (fun c_70 => ?_)
              ·
                refine r_aload_n hc dX12_door_76 rfl ?_
                refine cl_X12_53 (As := []) hc (c_X12_record hM hv hW hH hnu) (MS0 hM) rfl ⟨by decide, by decide⟩ ⟨rfl, rfl⟩ ⟨by decide, by decide⟩ rfl (Nat.le_of_ble_eq_true rfl) dX12_door_77 (fun u hp => ?_)
                obtain ⟨τ0, hu, hH0, hfr0⟩ := hp
                rw [hu]
                have hv : rowAt τ0 (M + 1) 170 v := hv.sig (hfr0.1 _ (by omega) (by omega))
                refine r_bipush (v := nI 20) hc dX12_door_80 rfl ?_
                refine r_bipush (v := nI 6) hc dX12_door_82 rfl ?_
                refine r_aload_n hc dX12_door_84 rfl ?_
                refine gf_X12_7 (q := M + 1) hc (MS0 hM) (MSr hM 0 1 (by decide)) dX12_door_85 ?_
                refine r_iconst (v := nI 4) hc dX12_door_88 rfl ?_
                refine r_iald (x := nI (v 4)) (j := 4) hc (MSa hM 1 0 170 rfl) rfl (by omega) (by decide) (hv _ (by omega)) dX12_door_89 ?_
                refine r_imul (v := nI (6 * (v 4))) hc dX12_door_90 (ml_NN _ _) ?_
                refine r_iadd (v := nI (20 + (6 * (v 4)))) hc dX12_door_91 (ad_NN _ _) ?_
                refine r_istore (ls' := [(5, .int (nI (20 + (6 * (v 4))))), (0, .ref M), (1, .int (nI A)), (2, .int (nI B)), (3, .int (nI F)), (4, .int (nI S))]) hc dX12_door_92 (by decide) rfl ?_
                refine r_aload_n hc dX12_door_94 rfl ?_
                refine gf_X12_7 (q := M + 1) hc (MS0 hM) (MSr hM 0 1 (by decide)) dX12_door_95 ?_
                refine r_iload hc dX12_door_98 rfl ?_
                refine r_iload_n hc dX12_door_100 rfl ?_
                refine r_iast (j := 20 + (6 * (v 4))) hc (MSa hM 1 0 170 rfl) rfl (by omega) (by decide) dX12_door_101 ?_
                generalize hσ1 : s2 τ0 (M + 1) (20 + (6 * (v 4))) (nI A) = σ1
                have hv : rowAt σ1 (M + 1) 170 (va_up v (20 + (6 * (v 4))) A) := by rw [← hσ1]; exact hv.upd _ _
                refine r_aload_n hc dX12_door_102 rfl ?_
                refine gf_X12_7 (q := M + 1) hc (MS0 hM) (MSr hM 0 1 (by decide)) dX12_door_103 ?_
                refine r_iload hc dX12_door_106 rfl ?_
                refine r_iconst (v := nI 1) hc dX12_door_108 rfl ?_
                refine r_iadd (v := nI (20 + (6 * (v 4)) + 1)) hc dX12_door_109 (ad_NN _ _) ?_
                refine r_iload_n hc dX12_door_110 rfl ?_
                refine r_iast (j := 20 + (6 * (v 4)) + 1) hc (MSa hM 1 0 170 rfl) rfl (by omega) (by decide) dX12_door_111 ?_
                generalize hσ2 : s2 σ1 (M + 1) (20 + (6 * (v 4)) + 1) (nI B) = σ2
                have hv : rowAt σ2 (M + 1) 170 (va_up (va_up v (20 + (6 * (v 4))) A) (20 + (6 * (v 4)) + 1) B) := by rw [← hσ2]; exact hv.upd _ _
                refine r_aload_n hc dX12_door_112 rfl ?_
                refine gf_X12_7 (q := M + 1) hc (MS0 hM) (MSr hM 0 1 (by decide)) dX12_door_113 ?_
                refine r_iload hc dX12_door_116 rfl ?_
                refine r_iconst (v := nI 2) hc dX12_door_118 rfl ?_
                refine r_iadd (v := nI (20 + (6 * (v 4)) + 2)) hc dX12_door_119 (ad_NN _ _) ?_
                refine r_iload_n hc dX12_door_120 rfl ?_
                refine r_iast (j := 20 + (6 * (v 4)) + 2) hc (MSa hM 1 0 170 rfl) rfl (by omega) (by decide) dX12_door_121 ?_
                generalize hσ3 : s2 σ2 (M + 1) (20 + (6 * (v 4)) + 2) (nI F) = σ3
                have hv : rowAt σ3 (M + 1) 170 (va_up (va_up (va_up v (20 + (6 * (v 4))) A) (20 + (6 * (v 4)) + 1) B) (20 + (6 * (v 4)) + 2) F) := by rw [← hσ3]; exact hv.upd _ _
                refine r_aload_n hc dX12_door_122 rfl ?_
                refine gf_X12_7 (q := M + 1) hc (MS0 hM) (MSr hM 0 1 (by decide)) dX12_door_123 ?_
                refine r_iload hc dX12_door_126 rfl ?_
                refine r_iconst (v := nI 3) hc dX12_door_128 rfl ?_
                refine r_iadd (v := nI (20 + (6 * (v 4)) + 3)) hc dX12_door_129 (ad_NN _ _) ?_
                refine r_iload hc dX12_door_130 rfl ?_
                refine r_iast (j := 20 + (6 * (v 4)) + 3) hc (MSa hM 1 0 170 rfl) rfl (by omega) (by decide) dX12_door_132 ?_
                generalize hσ4 : s2 σ3 (M + 1) (20 + (6 * (v 4)) + 3) (nI S) = σ4
                have hv : rowAt σ4 (M + 1) 170 (va_up (va_up (va_up (va_up v (20 + (6 * (v 4))) A) (20 + (6 * (v 4)) + 1) B) (20 + (6 * (v 4)) + 2) F) (20 + (6 * (v 4)) + 3) S) := by rw [← hσ4]; exact hv.upd _ _
                refine r_aload_n hc dX12_door_133 rfl ?_
                refine gf_X12_7 (q := M + 1) hc (MS0 hM) (MSr hM 0 1 (by decide)) dX12_door_134 ?_
                refine r_bipush (v := nI 7) hc dX12_door_137 rfl ?_
                refine r_dup2 hc dX12_door_139 rfl rfl ?_
                refine r_iald (x := nI (v 7)) (j := 7) hc (MSa hM 1 0 170 rfl) rfl (by omega) (by decide) ((hv _ (by omega)).trans (congrArg nI (by rw [va_up_off (by omega), va_up_off (by omega), va_up_off (by omega), va_up_off (by omega)]))) dX12_door_140 ?_
                refine r_iload_n hc dX12_door_141 rfl ?_
                refine r_iload hc dX12_door_142 rfl ?_
                refine cl_X12_64 (As := [.int (nI F), .int (nI S)]) hc (c_X12_weightOf (f := F) (s := S) (by omega) (by omega)) rfl ⟨by decide, by decide⟩ ⟨rfl, rfl⟩ ⟨by decide, by decide⟩ rfl (Nat.le_of_ble_eq_true rfl) dX12_door_144 (fun r u hp => ?_)
                obtain ⟨rfl, hu⟩ := hp
                rw [hu]
                refine r_isub (v := nI (v 7 - lockW F S)) hc dX12_door_147 (sb_N _ _ (by omega)) ?_
                refine r_iast (j := 7) hc (MSa hM 1 0 170 rfl) rfl (by omega) (by decide) dX12_door_148 ?_
                generalize hσ5 : s2 σ4 (M + 1) 7 (nI (v 7 - lockW F S)) = σ5
                have hv : rowAt σ5 (M + 1) 170 (va_up (va_up (va_up (va_up (va_up v (20 + (6 * (v 4))) A) (20 + (6 * (v 4)) + 1) B) (20 + (6 * (v 4)) + 2) F) (20 + (6 * (v 4)) + 3) S) 7 (v 7 - lockW F S)) := by rw [← hσ5]; exact hv.upd _ _
                refine r_aload_n hc dX12_door_149 rfl ?_
                refine gf_X12_7 (q := M + 1) hc (MS0 hM) (MSr hM 0 1 (by decide)) dX12_door_150 ?_
                refine r_iconst (v := nI 4) hc dX12_door_153 rfl ?_
                refine r_dup2 hc dX12_door_154 rfl rfl ?_
                refine r_iald (x := nI (v 4)) (j := 4) hc (MSa hM 1 0 170 rfl) rfl (by omega) (by decide) ((hv _ (by omega)).trans (congrArg nI (by rw [va_up_off (by omega), va_up_off (by omega), va_up_off (by omega), va_up_off (by omega), va_up_off (by omega)]))) dX12_door_155 ?_
                refine r_iconst (v := nI 1) hc dX12_door_156 rfl ?_
                refine r_iadd (v := nI (v 4 + 1)) hc dX12_door_157 (ad_NN _ _) ?_
                refine r_iast (j := 4) hc (MSa hM 1 0 170 rfl) rfl (by omega) (by decide) dX12_door_158 ?_
                generalize hσ6 : s2 σ5 (M + 1) 4 (nI (v 4 + 1)) = σ6
                have hv : rowAt σ6 (M + 1) 170 (va_up (va_up (va_up (va_up (va_up (va_up v (20 + (6 * (v 4))) A) (20 + (6 * (v 4)) + 1) B) (20 + (6 * (v 4)) + 2) F) (20 + (6 * (v 4)) + 3) S) 7 (v 7 - lockW F S)) 4 (v 4 + 1)) := by rw [← hσ6]; exact hv.upd _ _
                refine r_aload_n hc dX12_door_159 rfl ?_
                refine gf_X12_7 (q := M + 1) hc (MS0 hM) (MSr hM 0 1 (by decide)) dX12_door_160 ?_
                refine r_iconst (v := nI 4) hc dX12_door_163 rfl ?_
                refine r_iald (x := nI (v 4 + 1)) (j := 4) hc (MSa hM 1 0 170 rfl) rfl (by omega) (by decide) ((hv _ (by omega)).trans (congrArg nI (by rw [va_up_at]))) dX12_door_164 ?_
                refine r_iconst (v := nI 1) hc dX12_door_165 rfl ?_
                refine r_isub (v := nI (v 4)) hc dX12_door_166 (by rw [sb_N _ _ (by omega)]; rfl) ?_
                have hE : sDoor v (A : Int) (B : Int) (F : Int) (S : Int) = (((v 4 : Nat) : Int), rowD v A B F S) := by unfold sDoor; (try simp only [Int.toNat_natCast]); (rw [if_pos (by omega), if_pos (by omega), if_neg (by omega)]) <;> rfl
                rw [hE] at hR
                exact hR _ _ ⟨_, rfl, nz _, hv, (by rw [mH_pos (show (0 : Int) ≤ (((v 4 : Nat) : Int), rowD v A B F S).1 by show (0 : Int) ≤ ((v 4 : Nat) : Int); omega)]; exact ⟨by rw [← hσ6, s2_na (by omega), ← hσ5, s2_na (by omega), ← hσ4, s2_na (by omega), ← hσ3, s2_na (by omega), ← hσ2, s2_na (by omega), ← hσ1, s2_na (by omega)]; exact hH0.1, hH0.2.sig (by rw [← hσ6, s2_ne (by omega), ← hσ5, s2_ne (by omega), ← hσ4, s2_ne (by omega), ← hσ3, s2_ne (by omega), ← hσ2, s2_ne (by omega), ← hσ1, s2_ne (by omega)])⟩), (fun q q1 q2 q3 => by rw [← hσ6, s2_ne q2, ← hσ5, s2_ne q2, ← hσ4, s2_ne q2, ← hσ3, s2_ne q2, ← hσ2, s2_ne q2, ← hσ1, s2_ne q2]; exact hfr0.1 q q1 q3), fun k hk => by rw [← hσ6, s2_na (by omega), ← hσ5, s2_na (by omega), ← hσ4, s2_na (by omega), ← hσ3, s2_na (by omega), ← hσ2, s2_na (by omega), ← hσ1, s2_na (by omega)]; exact hfr0.2 k hk⟩ rfl _ _ dX12_door_167
              ·
                refine r_bipush (v := zI (-5)) hc dX12_door_73 rfl ?_
                have hE : sDoor v (A : Int) (B : Int) (F : Int) (S : Int) = (-5, v) := by unfold sDoor; (try simp only [Int.toNat_natCast]); (rw [if_pos (by omega), if_pos (by omega), if_pos (by omega)]) <;> rfl
                rw [hE] at hR
                exact hR _ _ ⟨_, rfl, rfl, hv, (by rw [mH_neg (show (-5, v).1 < (0 : Int) by show -5 < (0 : Int); omega)]; exact hH), fun _ _ _ _ => rfl, fun _ _ => rfl⟩ rfl _ _ dX12_door_75
            ·
              refine r_bipush (v := zI (-4)) hc dX12_door_54 rfl ?_
              have hE : sDoor v (A : Int) (B : Int) (F : Int) (S : Int) = (-4, v) := by unfold sDoor; (try simp only [Int.toNat_natCast]); (rw [if_pos (by omega), if_neg (by omega)]) <;> rfl
              rw [hE] at hR
              exact hR _ _ ⟨_, rfl, rfl, hv, (by rw [mH_neg (show (-4, v).1 < (0 : Int) by show -4 < (0 : Int); omega)]; exact hH), fun _ _ _ _ => rfl, fun _ _ => rfl⟩ rfl _ _ dX12_door_56
          ·
            have c_37 := of_decide_eq_false c_37
            refine r_bipush (v := zI (-2)) hc dX12_door_40 rfl ?_
            have hE : sDoor v a b f s = (-2, v) := by unfold sDoor; (try simp only [Int.toNat_natCast]); (rw [if_neg (by omega)]) <;> rfl
            rw [hE] at hR
            exact hR _ _ ⟨_, rfl, rfl, hv, (by rw [mH_neg (show (-2, v).1 < (0 : Int) by show -2 < (0 : Int); omega)]; exact hH), fun _ _ _ _ => rfl, fun _ _ => rfl⟩ rfl _ _ dX12_door_42
set_option maxRecDepth 100000 in
set_option maxHeartbeats 4000000 in
theorem c_X12_recut {Ω : OmT} {z : Nat} {sh : Nat → Option Kd} {σ : Nat → Nat → Int32} {ρ : Nat → Nat → Option Nat} {M : Nat} {v : Nat → Nat} (hM : MSh sh ρ M) (hv : rowAt σ (M + 1) 170 v) (hok : okR v) (hbx : v 7 ≤ 1000000000) {d f s : Nat} (hd : d < v 4) (hf0 : f < 10000) (hs0 : s < 10000) (hbw : lockW f s ≤ v 7 + givW v d) : CtV Ω yX12_recut cX12_recut 4 rm_X12_recut [.ref M, .int (nI d), .int (nI f), .int (nI s)] (z, sh, σ, ρ) (fun u => ∃ τ : Nat → Nat → Int32, u = (z, sh, τ, ρ) ∧ rowAt τ (M + 1) 170 (rowC v d f s) ∧ ∀ q, q ≠ M + 1 → τ q = σ q) := by
  have hok1 := hok
  obtain ⟨⟨h01, h02⟩, hl1, ⟨h21, h22⟩, h3, h4, h5, h9, hdo, hke, hpn, hpd, htc⟩ := hok1
  have hdr : ∀ d, d < v 4 → v (20 + 6 * d + 2) < 10000 ∧ v (20 + 6 * d + 3) < 10000 := fun d hd => ⟨(hdo d hd).2.2.1, (hdo d hd).2.2.2⟩
  have hcu : ∀ k, k < v 5 → v (80 + 4 * k) < 10000 := fun k hk => (hke k hk).1
  have hwh : ∀ k, k < v 5 → v (80 + 4 * k + 2) ≤ 9 := fun k hk => (hke k hk).2.2
  have hky : ∀ k, k < v 5 → v (80 + 4 * k) < 10000 ∧ v (80 + 4 * k + 2) ≤ 9 ∧ 40 ≤ v (80 + 4 * k + 1) ∧ v (80 + 4 * k + 1) ≤ 90 := fun k hk => ⟨(hke k hk).1, (hke k hk).2.2, (hke k hk).2.1⟩
  have hpl : ∀ p, p < v 9 → v (150 + 3 * p) < 10 := fun p hp => by have := (hpn p hp).1; omega
  have hgw := givW_le v d
  have hdk := hdr d (by omega)
  have hlw := lockW_le f s
  refine CtV.enter (by decide) (Nat.le_of_ble_eq_true rfl) (fun Φ hc hi hR => ?_)
  show Vw Ω Φ (z, sh, σ, ρ) (0, 0) 0 [(0, .ref M), (1, .int (nI d)), (2, .int (nI f)), (3, .int (nI s))] []
  refine r_aload_n hc dX12_recut_0 rfl ?_
  refine gf_X12_7 (q := M + 1) hc (MS0 hM) (MSr hM 0 1 (by decide)) dX12_recut_1 ?_
  refine r_bipush (v := nI 8) hc dX12_recut_4 rfl ?_
  refine r_dup2 hc dX12_recut_6 rfl rfl ?_
  refine r_iald (x := nI (v 8)) (j := 8) hc (MSa hM 1 0 170 rfl) rfl (by omega) (by decide) (hv _ (by omega)) dX12_recut_7 ?_
  refine r_aload_n hc dX12_recut_8 rfl ?_
  refine r_aload_n hc dX12_recut_9 rfl ?_
  refine r_iload_n hc dX12_recut_10 rfl ?_
  refine cl_X12_70 (As := [.int (nI d)]) hc (c_X12_lockWeight hM hv (d := d) (by omega) (by omega) (by omega)) (MS0 hM) rfl ⟨by decide, by decide⟩ ⟨rfl, rfl⟩ ⟨by decide, by decide⟩ rfl (Nat.le_of_ble_eq_true rfl) dX12_recut_11 (fun r u hp => ?_)
  obtain ⟨rfl, hu⟩ := hp
  rw [hu]
  refine cl_X12_74 (As := [.int (nI (lockWt v d))]) hc (c_X12_lossOf hM hv (a := lockWt v d) (Nat.le_trans (lockW_le _ _) (by decide)) (by omega)) (MS0 hM) rfl ⟨by decide, by decide⟩ ⟨rfl, rfl⟩ ⟨by decide, by decide⟩ rfl (Nat.le_of_ble_eq_true rfl) dX12_recut_14 (fun r u hp => ?_)
  obtain ⟨rfl, hu⟩ := hp
  rw [hu]
  refine r_iadd (v := nI (v 8 + (lossW (lockWt v d) (v 1)))) hc dX12_recut_17 (ad_NN _ _) ?_
  refine r_iast (j := 8) hc (MSa hM 1 0 170 rfl) rfl (by omega) (by decide) dX12_recut_18 ?_
  generalize hσ1 : s2 σ (M + 1) 8 (nI (v 8 + (lossW (lockWt v d) (v 1)))) = σ1
  have hv : rowAt σ1 (M + 1) 170 (va_up v 8 (v 8 + (lossW (lockWt v d) (v 1)))) := by rw [← hσ1]; exact hv.upd _ _
  refine r_aload_n hc dX12_recut_19 rfl ?_
  refine gf_X12_7 (q := M + 1) hc (MS0 hM) (MSr hM 0 1 (by decide)) dX12_recut_20 ?_
  refine r_bipush (v := nI 7) hc dX12_recut_23 rfl ?_
  refine r_dup2 hc dX12_recut_25 rfl rfl ?_
  refine r_iald (x := nI (v 7)) (j := 7) hc (MSa hM 1 0 170 rfl) rfl (by omega) (by decide) ((hv _ (by omega)).trans (congrArg nI (by rw [va_up_off (by omega)]))) dX12_recut_26 ?_
  refine r_aload_n hc dX12_recut_27 rfl ?_
  refine r_iload_n hc dX12_recut_28 rfl ?_
  refine cl_X12_77 (As := [.int (nI d)]) hc (c_X12_givesOf hM hv (d := d) (by omega) (by rw [va_up_off (by omega)]; omega) (by rw [va_up_off (by omega)]; omega) (by rw [va_up_off (by omega)]; omega)) (MS0 hM) rfl ⟨by decide, by decide⟩ ⟨rfl, rfl⟩ ⟨by decide, by decide⟩ rfl (Nat.le_of_ble_eq_true rfl) dX12_recut_29 (fun r u hp => ?_)
  obtain ⟨rfl, hu⟩ := hp
  rw [hu]
  rw [show givW (va_up v 8 (v 8 + (lossW (lockWt v d) (v 1)))) d = givW v d from givW_cong (va_up_off (by omega)) (va_up_off (by omega)) (va_up_off (by omega))]
  refine r_iload_n hc dX12_recut_32 rfl ?_
  refine r_iload_n hc dX12_recut_33 rfl ?_
  refine cl_X12_64 (As := [.int (nI f), .int (nI s)]) hc (c_X12_weightOf (f := f) (s := s) (by omega) (by omega)) rfl ⟨by decide, by decide⟩ ⟨rfl, rfl⟩ ⟨by decide, by decide⟩ rfl (Nat.le_of_ble_eq_true rfl) dX12_recut_34 (fun r u hp => ?_)
  obtain ⟨rfl, hu⟩ := hp
  rw [hu]
  refine r_isub (v := zI (((givW v d : Nat) : Int) - ((lockW f s : Nat) : Int))) hc dX12_recut_37 (sb_NN _ _) ?_
  refine r_iadd (v := nI (v 7 + givW v d - lockW f s)) hc dX12_recut_38 (by rw [ad_NZ]; exact zn (by omega)) ?_
  refine r_iast (j := 7) hc (MSa hM 1 0 170 rfl) rfl (by omega) (by decide) dX12_recut_39 ?_
  generalize hσ2 : s2 σ1 (M + 1) 7 (nI (v 7 + givW v d - lockW f s)) = σ2
  have hv : rowAt σ2 (M + 1) 170 (va_up (va_up v 8 (v 8 + (lossW (lockWt v d) (v 1)))) 7 (v 7 + givW v d - lockW f s)) := by rw [← hσ2]; exact hv.upd _ _
  refine r_aload_n hc dX12_recut_40 rfl ?_
  refine gf_X12_7 (q := M + 1) hc (MS0 hM) (MSr hM 0 1 (by decide)) dX12_recut_41 ?_
  refine r_bipush (v := nI 20) hc dX12_recut_44 rfl ?_
  refine r_bipush (v := nI 6) hc dX12_recut_46 rfl ?_
  refine r_iload_n hc dX12_recut_48 rfl ?_
  refine r_imul (v := nI (6 * d)) hc dX12_recut_49 (ml_NN _ _) ?_
  refine r_iadd (v := nI (20 + (6 * d))) hc dX12_recut_50 (ad_NN _ _) ?_
  refine r_iconst (v := nI 2) hc dX12_recut_51 rfl ?_
  refine r_iadd (v := nI (20 + (6 * d) + 2)) hc dX12_recut_52 (ad_NN _ _) ?_
  refine r_iload_n hc dX12_recut_53 rfl ?_
  refine r_iast (j := 20 + (6 * d) + 2) hc (MSa hM 1 0 170 rfl) rfl (by omega) (by decide) dX12_recut_54 ?_
  generalize hσ3 : s2 σ2 (M + 1) (20 + (6 * d) + 2) (nI f) = σ3
  have hv : rowAt σ3 (M + 1) 170 (va_up (va_up (va_up v 8 (v 8 + (lossW (lockWt v d) (v 1)))) 7 (v 7 + givW v d - lockW f s)) (20 + (6 * d) + 2) f) := by rw [← hσ3]; exact hv.upd _ _
  refine r_aload_n hc dX12_recut_55 rfl ?_
  refine gf_X12_7 (q := M + 1) hc (MS0 hM) (MSr hM 0 1 (by decide)) dX12_recut_56 ?_
  refine r_bipush (v := nI 20) hc dX12_recut_59 rfl ?_
  refine r_bipush (v := nI 6) hc dX12_recut_61 rfl ?_
  refine r_iload_n hc dX12_recut_63 rfl ?_
  refine r_imul (v := nI (6 * d)) hc dX12_recut_64 (ml_NN _ _) ?_
  refine r_iadd (v := nI (20 + (6 * d))) hc dX12_recut_65 (ad_NN _ _) ?_
  refine r_iconst (v := nI 3) hc dX12_recut_66 rfl ?_
  refine r_iadd (v := nI (20 + (6 * d) + 3)) hc dX12_recut_67 (ad_NN _ _) ?_
  refine r_iload_n hc dX12_recut_68 rfl ?_
  refine r_iast (j := 20 + (6 * d) + 3) hc (MSa hM 1 0 170 rfl) rfl (by omega) (by decide) dX12_recut_69 ?_
  generalize hσ4 : s2 σ3 (M + 1) (20 + (6 * d) + 3) (nI s) = σ4
  have hv : rowAt σ4 (M + 1) 170 (va_up (va_up (va_up (va_up v 8 (v 8 + (lossW (lockWt v d) (v 1)))) 7 (v 7 + givW v d - lockW f s)) (20 + (6 * d) + 2) f) (20 + (6 * d) + 3) s) := by rw [← hσ4]; exact hv.upd _ _
  refine r_aload_n hc dX12_recut_70 rfl ?_
  refine gf_X12_7 (q := M + 1) hc (MS0 hM) (MSr hM 0 1 (by decide)) dX12_recut_71 ?_
  refine r_bipush (v := nI 20) hc dX12_recut_74 rfl ?_
  refine r_bipush (v := nI 6) hc dX12_recut_76 rfl ?_
  refine r_iload_n hc dX12_recut_78 rfl ?_
  refine r_imul (v := nI (6 * d)) hc dX12_recut_79 (ml_NN _ _) ?_
  refine r_iadd (v := nI (20 + (6 * d))) hc dX12_recut_80 (ad_NN _ _) ?_
  refine r_iconst (v := nI 4) hc dX12_recut_81 rfl ?_
  refine r_iadd (v := nI (20 + (6 * d) + 4)) hc dX12_recut_82 (ad_NN _ _) ?_
  refine r_dup2 hc dX12_recut_83 rfl rfl ?_
  refine r_iald (x := nI (v (20 + (6 * d) + 4))) (j := 20 + (6 * d) + 4) hc (MSa hM 1 0 170 rfl) rfl (by omega) (by decide) ((hv _ (by omega)).trans (congrArg nI (by rw [va_up_off (by omega), va_up_off (by omega), va_up_off (by omega), va_up_off (by omega)]))) dX12_recut_84 ?_
  refine r_iconst (v := nI 1) hc dX12_recut_85 rfl ?_
  refine r_iadd (v := nI (v (20 + (6 * d) + 4) + 1)) hc dX12_recut_86 (ad_NN _ _) ?_
  refine r_iast (j := 20 + (6 * d) + 4) hc (MSa hM 1 0 170 rfl) rfl (by omega) (by decide) dX12_recut_87 ?_
  generalize hσ5 : s2 σ4 (M + 1) (20 + (6 * d) + 4) (nI (v (20 + (6 * d) + 4) + 1)) = σ5
  have hv : rowAt σ5 (M + 1) 170 (va_up (va_up (va_up (va_up (va_up v 8 (v 8 + (lossW (lockWt v d) (v 1)))) 7 (v 7 + givW v d - lockW f s)) (20 + (6 * d) + 2) f) (20 + (6 * d) + 3) s) (20 + (6 * d) + 4) (v (20 + (6 * d) + 4) + 1)) := by rw [← hσ5]; exact hv.upd _ _
  exact hR _ ⟨_, rfl, hv, fun q hq => by rw [← hσ5, s2_ne hq, ← hσ4, s2_ne hq, ← hσ3, s2_ne hq, ← hσ2, s2_ne hq, ← hσ1, s2_ne hq]⟩ _ _ dX12_recut_88
set_option maxRecDepth 100000 in
set_option maxHeartbeats 4000000 in
theorem c_X12_cut {Ω : OmT} {z : Nat} {sh : Nat → Option Kd} {σ : Nat → Nat → Int32} {ρ : Nat → Nat → Option Nat} {M : Nat} {v : Nat → Nat} (hM : MSh sh ρ M) (hv : rowAt σ (M + 1) 170 v) (hok : okR v) (hbx : v 7 ≤ 1000000000) {W : Bool} (hW : σ M 7 = bI W) {nu : Nat} {hf : Nat → Nat} (hH : HstP σ M (nu, hf)) (hnu : nu ≤ 6) {d f s : Int} (hd0 : -2147483648 ≤ d ∧ d < 2147483648) (hf0 : -2147483648 ≤ f ∧ f < 2147483648) (hs0 : -2147483648 ≤ s ∧ s < 2147483648) : CtI Ω yX12_cut cX12_cut 4 .int rm_X12_cut [.ref M, .int (zI d), .int (zI f), .int (zI s)] (z, sh, σ, ρ) (MPost z sh σ ρ M nu hf v W (sCut v d f s)) := by
  have hok1 := hok
  obtain ⟨⟨h01, h02⟩, hl1, ⟨h21, h22⟩, h3, h4, h5, h9, hdo, hke, hpn, hpd, htc⟩ := hok1
  have hdr : ∀ d, d < v 4 → v (20 + 6 * d + 2) < 10000 ∧ v (20 + 6 * d + 3) < 10000 := fun d hd => ⟨(hdo d hd).2.2.1, (hdo d hd).2.2.2⟩
  have hcu : ∀ k, k < v 5 → v (80 + 4 * k) < 10000 := fun k hk => (hke k hk).1
  have hwh : ∀ k, k < v 5 → v (80 + 4 * k + 2) ≤ 9 := fun k hk => (hke k hk).2.2
  have hky : ∀ k, k < v 5 → v (80 + 4 * k) < 10000 ∧ v (80 + 4 * k + 2) ≤ 9 ∧ 40 ≤ v (80 + 4 * k + 1) ∧ v (80 + 4 * k + 1) ≤ 90 := fun k hk => ⟨(hke k hk).1, (hke k hk).2.2, (hke k hk).2.1⟩
  have hpl : ∀ p, p < v 9 → v (150 + 3 * p) < 10 := fun p hp => by have := (hpn p hp).1; omega
  refine CtI.enter (by decide) (Nat.le_of_ble_eq_true rfl) (fun Φ hc hR => ?_)
  show Vw Ω Φ (z, sh, σ, ρ) (0, 0) 0 [(0, .ref M), (1, .int (zI d)), (2, .int (zI f)), (3, .int (zI s))] []
  refine r_aload_n hc dX12_cut_0 rfl ?_
  refine r_iload_n hc dX12_cut_1 rfl ?_
  refine cl_X12_80 (As := [.int (zI d)]) hc (c_X12_isDoor hM hv (x := d) (by omega) (by omega)) (MS0 hM) rfl ⟨by decide, by decide⟩ ⟨rfl, rfl⟩ ⟨by decide, by decide⟩ rfl (Nat.le_of_ble_eq_true rfl) dX12_cut_2 (fun r u hp => ?_)
  obtain ⟨rfl, hu⟩ := hp
  rw [hu]
  refine r_if_ne (tgt := 10) hc dX12_cut_5 (by decide) (bI_0 _) (fun c_5 => ?_) (fun c_5 => ?_)
  ·
    have c_5 := bnf c_5
    have c_5 := of_decide_eq_true c_5
    refine r_iload_n hc dX12_cut_10 rfl ?_
    refine cl_X12_60 (As := [.int (zI f)]) hc (c_X12_isRow (x := f) (by omega)) rfl ⟨by decide, by decide⟩ ⟨rfl, rfl⟩ ⟨by decide, by decide⟩ rfl (Nat.le_of_ble_eq_true rfl) dX12_cut_11 (fun r u hp => ?_)
    obtain ⟨rfl, hu⟩ := hp
    rw [hu]
    refine r_if_eq (tgt := 24) hc dX12_cut_14 (by decide) (bI_0 _) (fun c_14 => ?_) (fun c_14 => ?_)
    ·
      have c_14 := of_decide_eq_false c_14
      refine r_bipush (v := zI (-2)) hc dX12_cut_24 rfl ?_
      have hE : sCut v d f s = (-2, v) := by unfold sCut; (try simp only [Int.toNat_natCast]); (rw [if_pos (by omega), if_neg (by omega)]) <;> rfl
      rw [hE] at hR
      exact hR _ _ ⟨_, rfl, rfl, hv, (by rw [mH_neg (show (-2, v).1 < (0 : Int) by show -2 < (0 : Int); omega)]; exact hH), fun _ _ _ _ => rfl, fun _ _ => rfl⟩ rfl _ _ dX12_cut_26
    ·
      have c_14 := bnf c_14
      have c_14 := of_decide_eq_true c_14
      refine r_iload_n hc dX12_cut_17 rfl ?_
      refine cl_X12_60 (As := [.int (zI s)]) hc (c_X12_isRow (x := s) (by omega)) rfl ⟨by decide, by decide⟩ ⟨rfl, rfl⟩ ⟨by decide, by decide⟩ rfl (Nat.le_of_ble_eq_true rfl) dX12_cut_18 (fun r u hp => ?_)
      obtain ⟨rfl, hu⟩ := hp
      rw [hu]
      refine r_if_ne (tgt := 27) hc dX12_cut_21 (by decide) (bI_0 _) (fun c_21 => ?_) (fun c_21 => ?_)
      ·
        have c_21 := bnf c_21
        have c_21 := of_decide_eq_true c_21
        obtain ⟨D, rfl⟩ := Int.eq_ofNat_of_zero_le (show 0 ≤ d by omega)
        rw [← nz D]
        obtain ⟨F, rfl⟩ := Int.eq_ofNat_of_zero_le (show 0 ≤ f by omega)
        rw [← nz F]
        obtain ⟨S, rfl⟩ := Int.eq_ofNat_of_zero_le (show 0 ≤ s by omega)
        rw [← nz S]
        have hdk := hdr D (by omega)
        have hgw := givW_le v D
        have hlw := lockW_le F S
        refine r_aload_n hc dX12_cut_27 rfl ?_
        refine gf_X12_7 (q := M + 1) hc (MS0 hM) (MSr hM 0 1 (by decide)) dX12_cut_28 ?_
        refine r_bipush (v := nI 7) hc dX12_cut_31 rfl ?_
        refine r_iald (x := nI (v 7)) (j := 7) hc (MSa hM 1 0 170 rfl) rfl (by omega) (by decide) (hv _ (by omega)) dX12_cut_33 ?_
        refine r_aload_n hc dX12_cut_34 rfl ?_
        refine r_iload_n hc dX12_cut_35 rfl ?_
        refine cl_X12_77 (As := [.int (nI D)]) hc (c_X12_givesOf hM hv (d := D) (by omega) (by omega) (by omega) (by omega)) (MS0 hM) rfl ⟨by decide, by decide⟩ ⟨rfl, rfl⟩ ⟨by decide, by decide⟩ rfl (Nat.le_of_ble_eq_true rfl) dX12_cut_36 (fun r u hp => ?_)
        obtain ⟨rfl, hu⟩ := hp
        rw [hu]
        refine r_iadd (v := nI (v 7 + (givW v D))) hc dX12_cut_39 (ad_NN _ _) ?_
        refine r_iload_n hc dX12_cut_40 rfl ?_
        refine r_iload_n hc dX12_cut_41 rfl ?_
        refine cl_X12_64 (As := [.int (nI F), .int (nI S)]) hc (c_X12_weightOf (f := F) (s := S) (by omega) (by omega)) rfl ⟨by decide, by decide⟩ ⟨rfl, rfl⟩ ⟨by decide, by decide⟩ rfl (Nat.le_of_ble_eq_true rfl) dX12_cut_42 (fun r u hp => ?_)
        obtain ⟨rfl, hu⟩ := hp
        rw [hu]
        refine r_icmp_ge (tgt := 51) hc dX12_cut_45 (by decide) (le_NN (by omega) (by omega)) (fun c_45 => ?_) (fun c_45 => ?_)
        ·
          refine r_aload_n hc dX12_cut_51 rfl ?_
          refine cl_X12_53 (As := []) hc (c_X12_record hM hv hW hH hnu) (MS0 hM) rfl ⟨by decide, by decide⟩ ⟨rfl, rfl⟩ ⟨by decide, by decide⟩ rfl (Nat.le_of_ble_eq_true rfl) dX12_cut_52 (fun u hp => ?_)
          obtain ⟨τ0, hu, hH0, hfr0⟩ := hp
          rw [hu]
          have hv : rowAt τ0 (M + 1) 170 v := hv.sig (hfr0.1 _ (by omega) (by omega))
          refine r_aload_n hc dX12_cut_55 rfl ?_
          refine r_iload_n hc dX12_cut_56 rfl ?_
          refine r_iload_n hc dX12_cut_57 rfl ?_
          refine r_iload_n hc dX12_cut_58 rfl ?_
          refine cl_X12_83 (As := [.int (nI D), .int (nI F), .int (nI S)]) hc (c_X12_recut hM hv hok hbx (d := D) (f := F) (s := S) (by omega) (by omega) (by omega) (by omega)) (MS0 hM) rfl ⟨by decide, by decide⟩ ⟨rfl, rfl⟩ ⟨by decide, by decide⟩ rfl (Nat.le_of_ble_eq_true rfl) dX12_cut_59 (fun u hp => ?_)
          obtain ⟨τ1, hu, hv1, hfr1⟩ := hp
          rw [hu]
          have hH0 : HstP τ1 M (mH W 0 nu hf v) := ⟨by rw [hfr1 M (by omega)]; exact hH0.1, hH0.2.sig (hfr1 _ (by omega))⟩
          have hfr0 : (∀ q, q ≠ M → q ≠ M + 1 → q ≠ M + 2 → τ1 q = σ q) ∧ ∀ k, k ≠ 2 → τ1 M k = σ M k := ⟨fun q q1 q2 q3 => by rw [hfr1 q q2]; exact hfr0.1 q q1 q3, fun k hk => by rw [hfr1 M (by omega)]; exact hfr0.2 k hk⟩
          have h7c : rowC v D F S 7 = v 7 + givW v D - lockW F S := by unfold rowC; rw [va_up_off (by omega), va_up_off (by omega), va_up_off (by omega), va_up_at]
          refine r_aload_n hc dX12_cut_62 rfl ?_
          refine gf_X12_7 (q := M + 1) hc (MS0 hM) (MSr hM 0 1 (by decide)) dX12_cut_63 ?_
          refine r_bipush (v := nI 7) hc dX12_cut_66 rfl ?_
          refine r_iald (x := nI ((rowC v D F S) 7)) (j := 7) hc (MSa hM 1 0 170 rfl) rfl (by omega) (by decide) (hv1 _ (by omega)) dX12_cut_68 ?_
          have hE : sCut v (D : Int) (F : Int) (S : Int) = (((v 7 + givW v D - lockW F S : Nat) : Int), rowC v D F S) := by unfold sCut; (try simp only [Int.toNat_natCast]); rw [if_pos (by omega), if_pos (by omega), if_neg (by omega)]
          rw [hE] at hR
          exact hR _ _ ⟨_, rfl, by rw [← nz]; exact congrArg nI h7c, hv1, (by rw [mH_pos (Int.natCast_nonneg _)]; exact hH0), hfr0⟩ rfl _ _ dX12_cut_69
        ·
          refine r_bipush (v := zI (-5)) hc dX12_cut_48 rfl ?_
          have hE : sCut v (D : Int) (F : Int) (S : Int) = (-5, v) := by unfold sCut; (try simp only [Int.toNat_natCast]); (rw [if_pos (by omega), if_pos (by omega), if_pos (by omega)]) <;> rfl
          rw [hE] at hR
          exact hR _ _ ⟨_, rfl, rfl, hv, (by rw [mH_neg (show (-5, v).1 < (0 : Int) by show -5 < (0 : Int); omega)]; exact hH), fun _ _ _ _ => rfl, fun _ _ => rfl⟩ rfl _ _ dX12_cut_50
      ·
        have c_21 := of_decide_eq_false c_21
        refine r_bipush (v := zI (-2)) hc dX12_cut_24 rfl ?_
        have hE : sCut v d f s = (-2, v) := by unfold sCut; (try simp only [Int.toNat_natCast]); (rw [if_pos (by omega), if_neg (by omega)]) <;> rfl
        rw [hE] at hR
        exact hR _ _ ⟨_, rfl, rfl, hv, (by rw [mH_neg (show (-2, v).1 < (0 : Int) by show -2 < (0 : Int); omega)]; exact hH), fun _ _ _ _ => rfl, fun _ _ => rfl⟩ rfl _ _ dX12_cut_26
  ·
    have c_5 := of_decide_eq_false c_5
    refine r_iconst (v := zI (-1)) hc dX12_cut_8 rfl ?_
    have hE : sCut v d f s = (-1, v) := by unfold sCut; (try simp only [Int.toNat_natCast]); (rw [if_neg (by omega)]) <;> rfl
    rw [hE] at hR
    exact hR _ _ ⟨_, rfl, rfl, hv, (by rw [mH_neg (show (-1, v).1 < (0 : Int) by show -1 < (0 : Int); omega)]; exact hH), fun _ _ _ _ => rfl, fun _ _ => rfl⟩ rfl _ _ dX12_cut_9
set_option maxRecDepth 100000 in
set_option maxHeartbeats 4000000 in
theorem c_X12_key {Ω : OmT} {z : Nat} {sh : Nat → Option Kd} {σ : Nat → Nat → Int32} {ρ : Nat → Nat → Option Nat} {M : Nat} {v : Nat → Nat} (hM : MSh sh ρ M) (hv : rowAt σ (M + 1) 170 v) (hok : okR v) (hbx : v 7 ≤ 1000000000) {W : Bool} (hW : σ M 7 = bI W) {nu : Nat} {hf : Nat → Nat} (hH : HstP σ M (nu, hf)) (hnu : nu ≤ 6) {c r : Int} (hc0 : -2147483648 ≤ c ∧ c < 2147483648) (hr0 : -2147483648 ≤ r ∧ r < 2147483648) : CtI Ω yX12_key cX12_key 4 .int rm_X12_key [.ref M, .int (zI c), .int (zI r)] (z, sh, σ, ρ) (MPost z sh σ ρ M nu hf v W (sKey v c r)) := by
  have hok1 := hok
  obtain ⟨⟨h01, h02⟩, hl1, ⟨h21, h22⟩, h3, h4, h5, h9, hdo, hke, hpn, hpd, htc⟩ := hok1
  have hdr : ∀ d, d < v 4 → v (20 + 6 * d + 2) < 10000 ∧ v (20 + 6 * d + 3) < 10000 := fun d hd => ⟨(hdo d hd).2.2.1, (hdo d hd).2.2.2⟩
  have hcu : ∀ k, k < v 5 → v (80 + 4 * k) < 10000 := fun k hk => (hke k hk).1
  have hwh : ∀ k, k < v 5 → v (80 + 4 * k + 2) ≤ 9 := fun k hk => (hke k hk).2.2
  have hky : ∀ k, k < v 5 → v (80 + 4 * k) < 10000 ∧ v (80 + 4 * k + 2) ≤ 9 ∧ 40 ≤ v (80 + 4 * k + 1) ∧ v (80 + 4 * k + 1) ≤ 90 := fun k hk => ⟨(hke k hk).1, (hke k hk).2.2, (hke k hk).2.1⟩
  have hpl : ∀ p, p < v 9 → v (150 + 3 * p) < 10 := fun p hp => by have := (hpn p hp).1; omega
  refine CtI.enter (by decide) (Nat.le_of_ble_eq_true rfl) (fun Φ hc hR => ?_)
  show Vw Ω Φ (z, sh, σ, ρ) (0, 0) 0 [(0, .ref M), (1, .int (zI c)), (2, .int (zI r))] []
  refine r_iload_n hc dX12_key_0 rfl ?_
  refine cl_X12_60 (As := [.int (zI c)]) hc (c_X12_isRow (x := c) (by omega)) rfl ⟨by decide, by decide⟩ ⟨rfl, rfl⟩ ⟨by decide, by decide⟩ rfl (Nat.le_of_ble_eq_true rfl) dX12_key_1 (fun r u hp => ?_)
  obtain ⟨rfl, hu⟩ := hp
  rw [hu]
  refine r_if_eq (tgt := 17) hc dX12_key_4 (by decide) (bI_0 _) (fun c_4 => ?_) (fun c_4 => ?_)
  ·
    have c_4 := of_decide_eq_false c_4
    refine r_bipush (v := zI (-2)) hc dX12_key_17 rfl ?_
    have hE : sKey v c r = (-2, v) := by unfold sKey; (try simp only [Int.toNat_natCast]); (rw [if_neg (by omega)]) <;> rfl
    rw [hE] at hR
    exact hR _ _ ⟨_, rfl, rfl, hv, (by rw [mH_neg (show (-2, v).1 < (0 : Int) by show -2 < (0 : Int); omega)]; exact hH), fun _ _ _ _ => rfl, fun _ _ => rfl⟩ rfl _ _ dX12_key_19
  ·
    have c_4 := bnf c_4
    have c_4 := of_decide_eq_true c_4
    refine r_iload_n hc dX12_key_7 rfl ?_
    refine r_iconst (v := nI 0) hc dX12_key_8 rfl ?_
    refine r_bipush (v := nI 7) hc dX12_key_9 rfl ?_
    refine cl_X12_41 (As := [.int (zI r), .int (nI 0), .int (nI 7)]) hc (by simp only [nz]; exact c_X12_in (by omega) (by omega) (by omega)) rfl ⟨by decide, by decide⟩ ⟨rfl, rfl⟩ ⟨by decide, by decide⟩ rfl (Nat.le_of_ble_eq_true rfl) dX12_key_11 (fun r u hp => ?_)
    obtain ⟨rfl, hu⟩ := hp
    rw [hu]
    refine r_if_ne (tgt := 20) hc dX12_key_14 (by decide) (bI_0 _) (fun c_14 => ?_) (fun c_14 => ?_)
    ·
      have c_14 := bnf c_14
      have c_14 := of_decide_eq_true c_14
      obtain ⟨C, rfl⟩ := Int.eq_ofNat_of_zero_le (show 0 ≤ c by omega)
      rw [← nz C]
      obtain ⟨R, rfl⟩ := Int.eq_ofNat_of_zero_le (show 0 ≤ r by omega)
      rw [← nz R]
      refine r_aload_n hc dX12_key_20 rfl ?_
      refine gf_X12_7 (q := M + 1) hc (MS0 hM) (MSr hM 0 1 (by decide)) dX12_key_21 ?_
      refine r_iconst (v := nI 5) hc dX12_key_24 rfl ?_
      refine r_iald (x := nI (v 5)) (j := 5) hc (MSa hM 1 0 170 rfl) rfl (by omega) (by decide) (hv _ (by omega)) dX12_key_25 ?_
      refine r_bipush (v := nI 16) hc dX12_key_26 rfl ?_
      refine r_icmp_ne (tgt := 34) hc dX12_key_28 (by decide) (eq_NN (by omega) (by omega)) (fun c_28 => ?_) (fun c_28 => ?_)
      ·
        refine r_aload_n hc dX12_key_34 rfl ?_
        refine r_iload_n hc dX12_key_35 rfl ?_
        refine cl_X12_96 (As := [.int (nI C)]) hc (c_X12_canBeKey hM hv (c := C) (by omega) (by omega)) (MS0 hM) rfl ⟨by decide, by decide⟩ ⟨rfl, rfl⟩ ⟨by decide, by decide⟩ rfl (Nat.le_of_ble_eq_true rfl) dX12_key_36 (fun r u hp => ?_)
        obtain ⟨rfl, hu⟩ := hp
        rw [hu]
        refine r_if_ne (tgt := 45) hc dX12_key_39 (by decide) (bI_0 _) (fun c_39 => ?_) (fun c_39 => ?_)
        ·
          have c_39 := bnf c_39
          refine r_aload_n hc dX12_key_45 rfl ?_
          refine cl_X12_53 (As := []) hc (c_X12_record hM hv hW hH hnu) (MS0 hM) rfl ⟨by decide, by decide⟩ ⟨rfl, rfl⟩ ⟨by decide, by decide⟩ rfl (Nat.le_of_ble_eq_true rfl) dX12_key_46 (fun u hp => ?_)
          obtain ⟨τ0, hu, hH0, hfr0⟩ := hp
          rw [hu]
          have hv : rowAt τ0 (M + 1) 170 v := hv.sig (hfr0.1 _ (by omega) (by omega))
          refine r_bipush (v := nI 80) hc dX12_key_49 rfl ?_
          refine r_iconst (v := nI 4) hc dX12_key_51 rfl ?_
          refine r_aload_n hc dX12_key_52 rfl ?_
          refine gf_X12_7 (q := M + 1) hc (MS0 hM) (MSr hM 0 1 (by decide)) dX12_key_53 ?_
          refine r_iconst (v := nI 5) hc dX12_key_56 rfl ?_
          refine r_iald (x := nI (v 5)) (j := 5) hc (MSa hM 1 0 170 rfl) rfl (by omega) (by decide) (hv _ (by omega)) dX12_key_57 ?_
          refine r_imul (v := nI (4 * (v 5))) hc dX12_key_58 (ml_NN _ _) ?_
          refine r_iadd (v := nI (80 + (4 * (v 5)))) hc dX12_key_59 (ad_NN _ _) ?_
          refine r_istore_n (ls' := [(3, .int (nI (80 + (4 * (v 5))))), (0, .ref M), (1, .int (nI C)), (2, .int (nI R))]) hc dX12_key_60 (by decide) rfl ?_
          refine r_aload_n hc dX12_key_61 rfl ?_
          refine gf_X12_7 (q := M + 1) hc (MS0 hM) (MSr hM 0 1 (by decide)) dX12_key_62 ?_
          refine r_iload_n hc dX12_key_65 rfl ?_
          refine r_iload_n hc dX12_key_66 rfl ?_
          refine r_iast (j := 80 + (4 * (v 5))) hc (MSa hM 1 0 170 rfl) rfl (by omega) (by decide) dX12_key_67 ?_
          generalize hσ1 : s2 τ0 (M + 1) (80 + (4 * (v 5))) (nI C) = σ1
          have hv : rowAt σ1 (M + 1) 170 (va_up v (80 + (4 * (v 5))) C) := by rw [← hσ1]; exact hv.upd _ _
          refine r_aload_n hc dX12_key_68 rfl ?_
          refine gf_X12_7 (q := M + 1) hc (MS0 hM) (MSr hM 0 1 (by decide)) dX12_key_69 ?_
          refine r_iload_n hc dX12_key_72 rfl ?_
          refine r_iconst (v := nI 1) hc dX12_key_73 rfl ?_
          refine r_iadd (v := nI (80 + (4 * (v 5)) + 1)) hc dX12_key_74 (ad_NN _ _) ?_
          refine r_aload_n hc dX12_key_75 rfl ?_
          refine gf_X12_7 (q := M + 1) hc (MS0 hM) (MSr hM 0 1 (by decide)) dX12_key_76 ?_
          refine r_iconst (v := nI 2) hc dX12_key_79 rfl ?_
          refine r_iald (x := nI (v 2)) (j := 2) hc (MSa hM 1 0 170 rfl) rfl (by omega) (by decide) ((hv _ (by omega)).trans (congrArg nI (by rw [va_up_off (by omega)]))) dX12_key_80 ?_
          refine r_iast (j := 80 + (4 * (v 5)) + 1) hc (MSa hM 1 0 170 rfl) rfl (by omega) (by decide) dX12_key_81 ?_
          generalize hσ2 : s2 σ1 (M + 1) (80 + (4 * (v 5)) + 1) (nI (v 2)) = σ2
          have hv : rowAt σ2 (M + 1) 170 (va_up (va_up v (80 + (4 * (v 5))) C) (80 + (4 * (v 5)) + 1) (v 2)) := by rw [← hσ2]; exact hv.upd _ _
          refine r_aload_n hc dX12_key_82 rfl ?_
          refine gf_X12_7 (q := M + 1) hc (MS0 hM) (MSr hM 0 1 (by decide)) dX12_key_83 ?_
          refine r_iload_n hc dX12_key_86 rfl ?_
          refine r_iconst (v := nI 2) hc dX12_key_87 rfl ?_
          refine r_iadd (v := nI (80 + (4 * (v 5)) + 2)) hc dX12_key_88 (ad_NN _ _) ?_
          refine r_iload_n hc dX12_key_89 rfl ?_
          refine r_iast (j := 80 + (4 * (v 5)) + 2) hc (MSa hM 1 0 170 rfl) rfl (by omega) (by decide) dX12_key_90 ?_
          generalize hσ3 : s2 σ2 (M + 1) (80 + (4 * (v 5)) + 2) (nI R) = σ3
          have hv : rowAt σ3 (M + 1) 170 (va_up (va_up (va_up v (80 + (4 * (v 5))) C) (80 + (4 * (v 5)) + 1) (v 2)) (80 + (4 * (v 5)) + 2) R) := by rw [← hσ3]; exact hv.upd _ _
          refine r_aload_n hc dX12_key_91 rfl ?_
          refine gf_X12_7 (q := M + 1) hc (MS0 hM) (MSr hM 0 1 (by decide)) dX12_key_92 ?_
          refine r_bipush (v := nI 6) hc dX12_key_95 rfl ?_
          refine r_dup2 hc dX12_key_97 rfl rfl ?_
          refine r_iald (x := nI (v 6)) (j := 6) hc (MSa hM 1 0 170 rfl) rfl (by omega) (by decide) ((hv _ (by omega)).trans (congrArg nI (by rw [va_up_off (by omega), va_up_off (by omega), va_up_off (by omega)]))) dX12_key_98 ?_
          refine r_aload_n hc dX12_key_99 rfl ?_
          refine gf_X12_7 (q := M + 1) hc (MS0 hM) (MSr hM 0 1 (by decide)) dX12_key_100 ?_
          refine r_iconst (v := nI 2) hc dX12_key_103 rfl ?_
          refine r_iald (x := nI (v 2)) (j := 2) hc (MSa hM 1 0 170 rfl) rfl (by omega) (by decide) ((hv _ (by omega)).trans (congrArg nI (by rw [va_up_off (by omega), va_up_off (by omega), va_up_off (by omega)]))) dX12_key_104 ?_
          refine r_iadd (v := nI (v 6 + (v 2))) hc dX12_key_105 (ad_NN _ _) ?_
          refine r_iast (j := 6) hc (MSa hM 1 0 170 rfl) rfl (by omega) (by decide) dX12_key_106 ?_
          generalize hσ4 : s2 σ3 (M + 1) 6 (nI (v 6 + (v 2))) = σ4
          have hv : rowAt σ4 (M + 1) 170 (va_up (va_up (va_up (va_up v (80 + (4 * (v 5))) C) (80 + (4 * (v 5)) + 1) (v 2)) (80 + (4 * (v 5)) + 2) R) 6 (v 6 + (v 2))) := by rw [← hσ4]; exact hv.upd _ _
          refine r_aload_n hc dX12_key_107 rfl ?_
          refine gf_X12_7 (q := M + 1) hc (MS0 hM) (MSr hM 0 1 (by decide)) dX12_key_108 ?_
          refine r_bipush (v := nI 7) hc dX12_key_111 rfl ?_
          refine r_dup2 hc dX12_key_113 rfl rfl ?_
          refine r_iald (x := nI (v 7)) (j := 7) hc (MSa hM 1 0 170 rfl) rfl (by omega) (by decide) ((hv _ (by omega)).trans (congrArg nI (by rw [va_up_off (by omega), va_up_off (by omega), va_up_off (by omega), va_up_off (by omega)]))) dX12_key_114 ?_
          refine r_iload_n hc dX12_key_115 rfl ?_
          refine cl_X12_93 (As := [.int (nI C)]) hc (c_X12_depths (c := C) (by omega)) rfl ⟨by decide, by decide⟩ ⟨rfl, rfl⟩ ⟨by decide, by decide⟩ rfl (Nat.le_of_ble_eq_true rfl) dX12_key_116 (fun r u hp => ?_)
          obtain ⟨rfl, hu⟩ := hp
          rw [hu]
          refine r_iadd (v := nI (v 7 + (sumD C))) hc dX12_key_119 (ad_NN _ _) ?_
          refine r_iast (j := 7) hc (MSa hM 1 0 170 rfl) rfl (by omega) (by decide) dX12_key_120 ?_
          generalize hσ5 : s2 σ4 (M + 1) 7 (nI (v 7 + (sumD C))) = σ5
          have hv : rowAt σ5 (M + 1) 170 (va_up (va_up (va_up (va_up (va_up v (80 + (4 * (v 5))) C) (80 + (4 * (v 5)) + 1) (v 2)) (80 + (4 * (v 5)) + 2) R) 6 (v 6 + (v 2))) 7 (v 7 + (sumD C))) := by rw [← hσ5]; exact hv.upd _ _
          refine r_aload_n hc dX12_key_121 rfl ?_
          refine gf_X12_7 (q := M + 1) hc (MS0 hM) (MSr hM 0 1 (by decide)) dX12_key_122 ?_
          refine r_iconst (v := nI 5) hc dX12_key_125 rfl ?_
          refine r_dup2 hc dX12_key_126 rfl rfl ?_
          refine r_iald (x := nI (v 5)) (j := 5) hc (MSa hM 1 0 170 rfl) rfl (by omega) (by decide) ((hv _ (by omega)).trans (congrArg nI (by rw [va_up_off (by omega), va_up_off (by omega), va_up_off (by omega), va_up_off (by omega), va_up_off (by omega)]))) dX12_key_127 ?_
          refine r_iconst (v := nI 1) hc dX12_key_128 rfl ?_
          refine r_iadd (v := nI (v 5 + 1)) hc dX12_key_129 (ad_NN _ _) ?_
          refine r_iast (j := 5) hc (MSa hM 1 0 170 rfl) rfl (by omega) (by decide) dX12_key_130 ?_
          generalize hσ6 : s2 σ5 (M + 1) 5 (nI (v 5 + 1)) = σ6
          have hv : rowAt σ6 (M + 1) 170 (va_up (va_up (va_up (va_up (va_up (va_up v (80 + (4 * (v 5))) C) (80 + (4 * (v 5)) + 1) (v 2)) (80 + (4 * (v 5)) + 2) R) 6 (v 6 + (v 2))) 7 (v 7 + (sumD C))) 5 (v 5 + 1)) := by rw [← hσ6]; exact hv.upd _ _
          refine r_aload_n hc dX12_key_131 rfl ?_
          refine gf_X12_7 (q := M + 1) hc (MS0 hM) (MSr hM 0 1 (by decide)) dX12_key_132 ?_
          refine r_iconst (v := nI 5) hc dX12_key_135 rfl ?_
          refine r_iald (x := nI (v 5 + 1)) (j := 5) hc (MSa hM 1 0 170 rfl) rfl (by omega) (by decide) ((hv _ (by omega)).trans (congrArg nI (by rw [va_up_at]))) dX12_key_136 ?_
          refine r_iconst (v := nI 1) hc dX12_key_137 rfl ?_
          refine r_isub (v := nI (v 5)) hc dX12_key_138 (by rw [sb_N _ _ (by omega)]; rfl) ?_
          have hE : sKey v (C : Int) (R : Int) = (((v 5 : Nat) : Int), rowK v C R) := by unfold sKey; (try simp only [Int.toNat_natCast]); (rw [if_pos (by omega), if_pos (by omega), if_pos c_39]) <;> rfl
          rw [hE] at hR
          exact hR _ _ ⟨_, rfl, nz _, hv, (by rw [mH_pos (show (0 : Int) ≤ (((v 5 : Nat) : Int), rowK v C R).1 by show (0 : Int) ≤ ((v 5 : Nat) : Int); omega)]; exact ⟨by rw [← hσ6, s2_na (by omega), ← hσ5, s2_na (by omega), ← hσ4, s2_na (by omega), ← hσ3, s2_na (by omega), ← hσ2, s2_na (by omega), ← hσ1, s2_na (by omega)]; exact hH0.1, hH0.2.sig (by rw [← hσ6, s2_ne (by omega), ← hσ5, s2_ne (by omega), ← hσ4, s2_ne (by omega), ← hσ3, s2_ne (by omega), ← hσ2, s2_ne (by omega), ← hσ1, s2_ne (by omega)])⟩), (fun q q1 q2 q3 => by rw [← hσ6, s2_ne q2, ← hσ5, s2_ne q2, ← hσ4, s2_ne q2, ← hσ3, s2_ne q2, ← hσ2, s2_ne q2, ← hσ1, s2_ne q2]; exact hfr0.1 q q1 q3), fun k hk => by rw [← hσ6, s2_na (by omega), ← hσ5, s2_na (by omega), ← hσ4, s2_na (by omega), ← hσ3, s2_na (by omega), ← hσ2, s2_na (by omega), ← hσ1, s2_na (by omega)]; exact hfr0.2 k hk⟩ rfl _ _ dX12_key_139
        ·
          refine r_bipush (v := zI (-5)) hc dX12_key_42 rfl ?_
          have hE : sKey v (C : Int) (R : Int) = (-5, v) := by unfold sKey; (try simp only [Int.toNat_natCast]); (rw [if_pos (by omega), if_pos (by omega), if_neg (by rw [c_39]; decide)]) <;> rfl
          rw [hE] at hR
          exact hR _ _ ⟨_, rfl, rfl, hv, (by rw [mH_neg (show (-5, v).1 < (0 : Int) by show -5 < (0 : Int); omega)]; exact hH), fun _ _ _ _ => rfl, fun _ _ => rfl⟩ rfl _ _ dX12_key_44
      ·
        refine r_bipush (v := zI (-4)) hc dX12_key_31 rfl ?_
        have hE : sKey v (C : Int) (R : Int) = (-4, v) := by unfold sKey; (try simp only [Int.toNat_natCast]); (rw [if_pos (by omega), if_neg (by omega)]) <;> rfl
        rw [hE] at hR
        exact hR _ _ ⟨_, rfl, rfl, hv, (by rw [mH_neg (show (-4, v).1 < (0 : Int) by show -4 < (0 : Int); omega)]; exact hH), fun _ _ _ _ => rfl, fun _ _ => rfl⟩ rfl _ _ dX12_key_33
    ·
      have c_14 := of_decide_eq_false c_14
      refine r_bipush (v := zI (-2)) hc dX12_key_17 rfl ?_
      have hE : sKey v c r = (-2, v) := by unfold sKey; (try simp only [Int.toNat_natCast]); (rw [if_neg (by omega)]) <;> rfl
      rw [hE] at hR
      exact hR _ _ ⟨_, rfl, rfl, hv, (by rw [mH_neg (show (-2, v).1 < (0 : Int) by show -2 < (0 : Int); omega)]; exact hH), fun _ _ _ _ => rfl, fun _ _ => rfl⟩ rfl _ _ dX12_key_19
set_option maxRecDepth 100000 in
set_option maxHeartbeats 4000000 in
theorem c_X12_melt {Ω : OmT} {z : Nat} {sh : Nat → Option Kd} {σ : Nat → Nat → Int32} {ρ : Nat → Nat → Option Nat} {M : Nat} {v : Nat → Nat} (hM : MSh sh ρ M) (hv : rowAt σ (M + 1) 170 v) (hok : okR v) (hbx : v 7 ≤ 1000000000) {W : Bool} (hW : σ M 7 = bI W) {nu : Nat} {hf : Nat → Nat} (hH : HstP σ M (nu, hf)) (hnu : nu ≤ 6) {k : Int} (hk0 : -2147483648 ≤ k ∧ k < 2147483648) : CtI Ω yX12_melt cX12_melt 3 .int rm_X12_melt [.ref M, .int (zI k)] (z, sh, σ, ρ) (MPost z sh σ ρ M nu hf v W (sMelt v k)) := by
  have hok1 := hok
  obtain ⟨⟨h01, h02⟩, hl1, ⟨h21, h22⟩, h3, h4, h5, h9, hdo, hke, hpn, hpd, htc⟩ := hok1
  have hdr : ∀ d, d < v 4 → v (20 + 6 * d + 2) < 10000 ∧ v (20 + 6 * d + 3) < 10000 := fun d hd => ⟨(hdo d hd).2.2.1, (hdo d hd).2.2.2⟩
  have hcu : ∀ k, k < v 5 → v (80 + 4 * k) < 10000 := fun k hk => (hke k hk).1
  have hwh : ∀ k, k < v 5 → v (80 + 4 * k + 2) ≤ 9 := fun k hk => (hke k hk).2.2
  have hky : ∀ k, k < v 5 → v (80 + 4 * k) < 10000 ∧ v (80 + 4 * k + 2) ≤ 9 ∧ 40 ≤ v (80 + 4 * k + 1) ∧ v (80 + 4 * k + 1) ≤ 90 := fun k hk => ⟨(hke k hk).1, (hke k hk).2.2, (hke k hk).2.1⟩
  have hpl : ∀ p, p < v 9 → v (150 + 3 * p) < 10 := fun p hp => by have := (hpn p hp).1; omega
  refine CtI.enter (by decide) (Nat.le_of_ble_eq_true rfl) (fun Φ hc hR => ?_)
  show Vw Ω Φ (z, sh, σ, ρ) (0, 0) 0 [(0, .ref M), (1, .int (zI k))] []
  refine r_aload_n hc dX12_melt_0 rfl ?_
  refine r_iload_n hc dX12_melt_1 rfl ?_
  refine cl_X12_99 (As := [.int (zI k)]) hc (c_X12_isKey hM hv (x := k) (by omega) (by omega)) (MS0 hM) rfl ⟨by decide, by decide⟩ ⟨rfl, rfl⟩ ⟨by decide, by decide⟩ rfl (Nat.le_of_ble_eq_true rfl) dX12_melt_2 (fun r u hp => ?_)
  obtain ⟨rfl, hu⟩ := hp
  rw [hu]
  refine r_if_ne (tgt := 10) hc dX12_melt_5 (by decide) (bI_0 _) (fun c_5 => ?_) (fun c_5 => ?_)
  ·
    have c_5 := bnf c_5
    have c_5 := of_decide_eq_true c_5
    obtain ⟨K, rfl⟩ := Int.eq_ofNat_of_zero_le (show 0 ≤ k by omega)
    rw [← nz K]
    have hwk := hky K (by omega)
    refine r_aload_n hc dX12_melt_10 rfl ?_
    refine r_iload_n hc dX12_melt_11 rfl ?_
    refine cl_X12_87 (As := [.int (nI K)]) hc (c_X12_whereIs hM hv (k := K) (by omega)) (MS0 hM) rfl ⟨by decide, by decide⟩ ⟨rfl, rfl⟩ ⟨by decide, by decide⟩ rfl (Nat.le_of_ble_eq_true rfl) dX12_melt_12 (fun r u hp => ?_)
    obtain ⟨rfl, hu⟩ := hp
    rw [hu]
    refine r_bipush (v := nI 9) hc dX12_melt_15 rfl ?_
    refine r_icmp_ne (tgt := 23) hc dX12_melt_17 (by decide) (eq_NN (by omega) (by omega)) (fun c_17 => ?_) (fun c_17 => ?_)
    ·
      refine r_aload_n hc dX12_melt_23 rfl ?_
      refine cl_X12_53 (As := []) hc (c_X12_record hM hv hW hH hnu) (MS0 hM) rfl ⟨by decide, by decide⟩ ⟨rfl, rfl⟩ ⟨by decide, by decide⟩ rfl (Nat.le_of_ble_eq_true rfl) dX12_melt_24 (fun u hp => ?_)
      obtain ⟨τ0, hu, hH0, hfr0⟩ := hp
      rw [hu]
      have hv : rowAt τ0 (M + 1) 170 v := hv.sig (hfr0.1 _ (by omega) (by omega))
      have hkl : keyWt v K ≤ 90 := by unfold keyWt cutR; split <;> omega
      have hll : lossW (keyWt v K) (v 1) ≤ keyWt v K := lossW_le (by omega) (by omega)
      refine r_aload_n hc dX12_melt_27 rfl ?_
      refine r_iload_n hc dX12_melt_28 rfl ?_
      refine cl_X12_102 (As := [.int (nI K)]) hc (c_X12_keyWeight hM hv (k := K) (by omega) (by omega) (by omega) (by omega)) (MS0 hM) rfl ⟨by decide, by decide⟩ ⟨rfl, rfl⟩ ⟨by decide, by decide⟩ rfl (Nat.le_of_ble_eq_true rfl) dX12_melt_29 (fun r u hp => ?_)
      obtain ⟨rfl, hu⟩ := hp
      rw [hu]
      refine r_istore_n (ls' := [(2, .int (nI (keyWt v K))), (0, .ref M), (1, .int (nI K))]) hc dX12_melt_32 (by decide) rfl ?_
      refine r_aload_n hc dX12_melt_33 rfl ?_
      refine gf_X12_7 (q := M + 1) hc (MS0 hM) (MSr hM 0 1 (by decide)) dX12_melt_34 ?_
      refine r_bipush (v := nI 8) hc dX12_melt_37 rfl ?_
      refine r_dup2 hc dX12_melt_39 rfl rfl ?_
      refine r_iald (x := nI (v 8)) (j := 8) hc (MSa hM 1 0 170 rfl) rfl (by omega) (by decide) (hv _ (by omega)) dX12_melt_40 ?_
      refine r_aload_n hc dX12_melt_41 rfl ?_
      refine r_iload_n hc dX12_melt_42 rfl ?_
      refine cl_X12_74 (As := [.int (nI (keyWt v K))]) hc (c_X12_lossOf hM hv (a := keyWt v K) (by omega) (by omega)) (MS0 hM) rfl ⟨by decide, by decide⟩ ⟨rfl, rfl⟩ ⟨by decide, by decide⟩ rfl (Nat.le_of_ble_eq_true rfl) dX12_melt_43 (fun r u hp => ?_)
      obtain ⟨rfl, hu⟩ := hp
      rw [hu]
      refine r_iadd (v := nI (v 8 + (lossW (keyWt v K) (v 1)))) hc dX12_melt_46 (ad_NN _ _) ?_
      refine r_iast (j := 8) hc (MSa hM 1 0 170 rfl) rfl (by omega) (by decide) dX12_melt_47 ?_
      generalize hσ1 : s2 τ0 (M + 1) 8 (nI (v 8 + (lossW (keyWt v K) (v 1)))) = σ1
      have hv : rowAt σ1 (M + 1) 170 (va_up v 8 (v 8 + (lossW (keyWt v K) (v 1)))) := by rw [← hσ1]; exact hv.upd _ _
      refine r_aload_n hc dX12_melt_48 rfl ?_
      refine gf_X12_7 (q := M + 1) hc (MS0 hM) (MSr hM 0 1 (by decide)) dX12_melt_49 ?_
      refine r_bipush (v := nI 7) hc dX12_melt_52 rfl ?_
      refine r_dup2 hc dX12_melt_54 rfl rfl ?_
      refine r_iald (x := nI (v 7)) (j := 7) hc (MSa hM 1 0 170 rfl) rfl (by omega) (by decide) ((hv _ (by omega)).trans (congrArg nI (by rw [va_up_off (by omega)]))) dX12_melt_55 ?_
      refine r_iload_n hc dX12_melt_56 rfl ?_
      refine r_aload_n hc dX12_melt_57 rfl ?_
      refine r_iload_n hc dX12_melt_58 rfl ?_
      refine cl_X12_74 (As := [.int (nI (keyWt v K))]) hc (c_X12_lossOf hM hv (a := keyWt v K) (by omega) (by rw [va_up_off (by omega)]; omega)) (MS0 hM) rfl ⟨by decide, by decide⟩ ⟨rfl, rfl⟩ ⟨by decide, by decide⟩ rfl (Nat.le_of_ble_eq_true rfl) dX12_melt_59 (fun r u hp => ?_)
      obtain ⟨rfl, hu⟩ := hp
      rw [hu]
      rw [show (va_up v 8 (v 8 + (lossW (keyWt v K) (v 1)))) 1 = v 1 from va_up_off (by omega)]
      refine r_isub (v := nI (keyWt v K - lossW (keyWt v K) (v 1))) hc dX12_melt_62 (sb_N _ _ (by omega)) ?_
      refine r_iadd (v := nI (v 7 + (keyWt v K - lossW (keyWt v K) (v 1)))) hc dX12_melt_63 (ad_NN _ _) ?_
      refine r_iast (j := 7) hc (MSa hM 1 0 170 rfl) rfl (by omega) (by decide) dX12_melt_64 ?_
      generalize hσ2 : s2 σ1 (M + 1) 7 (nI (v 7 + (keyWt v K - lossW (keyWt v K) (v 1)))) = σ2
      have hv : rowAt σ2 (M + 1) 170 (va_up (va_up v 8 (v 8 + (lossW (keyWt v K) (v 1)))) 7 (v 7 + (keyWt v K - lossW (keyWt v K) (v 1)))) := by rw [← hσ2]; exact hv.upd _ _
      refine r_aload_n hc dX12_melt_65 rfl ?_
      refine gf_X12_7 (q := M + 1) hc (MS0 hM) (MSr hM 0 1 (by decide)) dX12_melt_66 ?_
      refine r_bipush (v := nI 80) hc dX12_melt_69 rfl ?_
      refine r_iconst (v := nI 4) hc dX12_melt_71 rfl ?_
      refine r_iload_n hc dX12_melt_72 rfl ?_
      refine r_imul (v := nI (4 * K)) hc dX12_melt_73 (ml_NN _ _) ?_
      refine r_iadd (v := nI (80 + (4 * K))) hc dX12_melt_74 (ad_NN _ _) ?_
      refine r_iconst (v := nI 2) hc dX12_melt_75 rfl ?_
      refine r_iadd (v := nI (80 + (4 * K) + 2)) hc dX12_melt_76 (ad_NN _ _) ?_
      refine r_bipush (v := nI 9) hc dX12_melt_77 rfl ?_
      refine r_iast (j := 80 + (4 * K) + 2) hc (MSa hM 1 0 170 rfl) rfl (by omega) (by decide) dX12_melt_79 ?_
      generalize hσ3 : s2 σ2 (M + 1) (80 + (4 * K) + 2) (nI 9) = σ3
      have hv : rowAt σ3 (M + 1) 170 (va_up (va_up (va_up v 8 (v 8 + (lossW (keyWt v K) (v 1)))) 7 (v 7 + (keyWt v K - lossW (keyWt v K) (v 1)))) (80 + (4 * K) + 2) 9) := by rw [← hσ3]; exact hv.upd _ _
      refine r_aload_n hc dX12_melt_80 rfl ?_
      refine gf_X12_7 (q := M + 1) hc (MS0 hM) (MSr hM 0 1 (by decide)) dX12_melt_81 ?_
      refine r_bipush (v := nI 7) hc dX12_melt_84 rfl ?_
      refine r_iald (x := nI (v 7 + (keyWt v K - lossW (keyWt v K) (v 1)))) (j := 7) hc (MSa hM 1 0 170 rfl) rfl (by omega) (by decide) ((hv _ (by omega)).trans (congrArg nI (by rw [va_up_off (by omega), va_up_at]))) dX12_melt_86 ?_
      have hE : sMelt v (K : Int) = (((v 7 + (keyWt v K - lossW (keyWt v K) (v 1)) : Nat) : Int), rowM v K) := by unfold sMelt; (try simp only [Int.toNat_natCast]); (rw [if_pos (by omega), if_neg (by omega)]) <;> rfl
      rw [hE] at hR
      exact hR _ _ ⟨_, rfl, nz _, hv, (by rw [mH_pos (show (0 : Int) ≤ (((v 7 + (keyWt v K - lossW (keyWt v K) (v 1)) : Nat) : Int), rowM v K).1 by show (0 : Int) ≤ ((v 7 + (keyWt v K - lossW (keyWt v K) (v 1)) : Nat) : Int); omega)]; exact ⟨by rw [← hσ3, s2_na (by omega), ← hσ2, s2_na (by omega), ← hσ1, s2_na (by omega)]; exact hH0.1, hH0.2.sig (by rw [← hσ3, s2_ne (by omega), ← hσ2, s2_ne (by omega), ← hσ1, s2_ne (by omega)])⟩), (fun q q1 q2 q3 => by rw [← hσ3, s2_ne q2, ← hσ2, s2_ne q2, ← hσ1, s2_ne q2]; exact hfr0.1 q q1 q3), fun k hk => by rw [← hσ3, s2_na (by omega), ← hσ2, s2_na (by omega), ← hσ1, s2_na (by omega)]; exact hfr0.2 k hk⟩ rfl _ _ dX12_melt_87
    ·
      refine r_bipush (v := zI (-5)) hc dX12_melt_20 rfl ?_
      have hE : sMelt v (K : Int) = (-5, v) := by unfold sMelt; (try simp only [Int.toNat_natCast]); (rw [if_pos (by omega), if_pos (by omega)]) <;> rfl
      rw [hE] at hR
      exact hR _ _ ⟨_, rfl, rfl, hv, (by rw [mH_neg (show (-5, v).1 < (0 : Int) by show -5 < (0 : Int); omega)]; exact hH), fun _ _ _ _ => rfl, fun _ _ => rfl⟩ rfl _ _ dX12_melt_22
  ·
    have c_5 := of_decide_eq_false c_5
    refine r_iconst (v := zI (-1)) hc dX12_melt_8 rfl ?_
    have hE : sMelt v k = (-1, v) := by unfold sMelt; (try simp only [Int.toNat_natCast]); (rw [if_neg (by omega)]) <;> rfl
    rw [hE] at hR
    exact hR _ _ ⟨_, rfl, rfl, hv, (by rw [mH_neg (show (-1, v).1 < (0 : Int) by show -1 < (0 : Int); omega)]; exact hH), fun _ _ _ _ => rfl, fun _ _ => rfl⟩ rfl _ _ dX12_melt_9
set_option maxRecDepth 100000 in
set_option maxHeartbeats 4000000 in
theorem c_X12_bring {Ω : OmT} {z : Nat} {sh : Nat → Option Kd} {σ : Nat → Nat → Int32} {ρ : Nat → Nat → Option Nat} {M : Nat} {v : Nat → Nat} (hM : MSh sh ρ M) (hv : rowAt σ (M + 1) 170 v) (hok : okR v) (hbx : v 7 ≤ 1000000000) {W : Bool} (hW : σ M 7 = bI W) {nu : Nat} {hf : Nat → Nat} (hH : HstP σ M (nu, hf)) (hnu : nu ≤ 6) {k : Int} {a b : Nat} (hk0 : -2147483648 ≤ k ∧ k < 2147483648) (ha0 : a ≤ 8) (hb0 : b ≤ 8) : CtI Ω yX12_bring cX12_bring 4 .int rm_X12_bring [.ref M, .int (zI k), .int (nI a), .int (nI b)] (z, sh, σ, ρ) (MPost z sh σ ρ M nu hf v W (sMove v k a b)) := by
  have hok1 := hok
  obtain ⟨⟨h01, h02⟩, hl1, ⟨h21, h22⟩, h3, h4, h5, h9, hdo, hke, hpn, hpd, htc⟩ := hok1
  have hdr : ∀ d, d < v 4 → v (20 + 6 * d + 2) < 10000 ∧ v (20 + 6 * d + 3) < 10000 := fun d hd => ⟨(hdo d hd).2.2.1, (hdo d hd).2.2.2⟩
  have hcu : ∀ k, k < v 5 → v (80 + 4 * k) < 10000 := fun k hk => (hke k hk).1
  have hwh : ∀ k, k < v 5 → v (80 + 4 * k + 2) ≤ 9 := fun k hk => (hke k hk).2.2
  have hky : ∀ k, k < v 5 → v (80 + 4 * k) < 10000 ∧ v (80 + 4 * k + 2) ≤ 9 ∧ 40 ≤ v (80 + 4 * k + 1) ∧ v (80 + 4 * k + 1) ≤ 90 := fun k hk => ⟨(hke k hk).1, (hke k hk).2.2, (hke k hk).2.1⟩
  have hpl : ∀ p, p < v 9 → v (150 + 3 * p) < 10 := fun p hp => by have := (hpn p hp).1; omega
  refine CtI.enter (by decide) (Nat.le_of_ble_eq_true rfl) (fun Φ hc hR => ?_)
  show Vw Ω Φ (z, sh, σ, ρ) (0, 0) 0 [(0, .ref M), (1, .int (zI k)), (2, .int (nI a)), (3, .int (nI b))] []
  refine r_aload_n hc dX12_bring_0 rfl ?_
  refine r_iload_n hc dX12_bring_1 rfl ?_
  refine cl_X12_99 (As := [.int (zI k)]) hc (c_X12_isKey hM hv (x := k) (by omega) (by omega)) (MS0 hM) rfl ⟨by decide, by decide⟩ ⟨rfl, rfl⟩ ⟨by decide, by decide⟩ rfl (Nat.le_of_ble_eq_true rfl) dX12_bring_2 (fun r u hp => ?_)
  obtain ⟨rfl, hu⟩ := hp
  rw [hu]
  refine r_if_ne (tgt := 10) hc dX12_bring_5 (by decide) (bI_0 _) (fun c_5 => ?_) (fun c_5 => ?_)
  ·
    have c_5 := bnf c_5
    have c_5 := of_decide_eq_true c_5
    obtain ⟨K, rfl⟩ := Int.eq_ofNat_of_zero_le (show 0 ≤ k by omega)
    rw [← nz K]
    have hwk := hwh K (by omega)
    refine r_aload_n hc dX12_bring_10 rfl ?_
    refine r_iload_n hc dX12_bring_11 rfl ?_
    refine cl_X12_87 (As := [.int (nI K)]) hc (c_X12_whereIs hM hv (k := K) (by omega)) (MS0 hM) rfl ⟨by decide, by decide⟩ ⟨rfl, rfl⟩ ⟨by decide, by decide⟩ rfl (Nat.le_of_ble_eq_true rfl) dX12_bring_12 (fun r u hp => ?_)
    obtain ⟨rfl, hu⟩ := hp
    rw [hu]
    refine r_iload_n hc dX12_bring_15 rfl ?_
    refine r_icmp_eq (tgt := 22) hc dX12_bring_16 (by decide) (eq_NN (by omega) (by omega)) (fun c_16 => ?_) (fun c_16 => ?_)
    ·
      refine r_aload_n hc dX12_bring_22 rfl ?_
      refine cl_X12_53 (As := []) hc (c_X12_record hM hv hW hH hnu) (MS0 hM) rfl ⟨by decide, by decide⟩ ⟨rfl, rfl⟩ ⟨by decide, by decide⟩ rfl (Nat.le_of_ble_eq_true rfl) dX12_bring_23 (fun u hp => ?_)
      obtain ⟨τ0, hu, hH0, hfr0⟩ := hp
      rw [hu]
      have hv : rowAt τ0 (M + 1) 170 v := hv.sig (hfr0.1 _ (by omega) (by omega))
      refine r_aload_n hc dX12_bring_26 rfl ?_
      refine gf_X12_7 (q := M + 1) hc (MS0 hM) (MSr hM 0 1 (by decide)) dX12_bring_27 ?_
      refine r_bipush (v := nI 80) hc dX12_bring_30 rfl ?_
      refine r_iconst (v := nI 4) hc dX12_bring_32 rfl ?_
      refine r_iload_n hc dX12_bring_33 rfl ?_
      refine r_imul (v := nI (4 * K)) hc dX12_bring_34 (ml_NN _ _) ?_
      refine r_iadd (v := nI (80 + (4 * K))) hc dX12_bring_35 (ad_NN _ _) ?_
      refine r_iconst (v := nI 2) hc dX12_bring_36 rfl ?_
      refine r_iadd (v := nI (80 + (4 * K) + 2)) hc dX12_bring_37 (ad_NN _ _) ?_
      refine r_iload_n hc dX12_bring_38 rfl ?_
      refine r_iast (j := 80 + (4 * K) + 2) hc (MSa hM 1 0 170 rfl) rfl (by omega) (by decide) dX12_bring_39 ?_
      generalize hσ1 : s2 τ0 (M + 1) (80 + (4 * K) + 2) (nI b) = σ1
      have hv : rowAt σ1 (M + 1) 170 (va_up v (80 + (4 * K) + 2) b) := by rw [← hσ1]; exact hv.upd _ _
      refine r_aload_n hc dX12_bring_40 rfl ?_
      refine r_bipush (v := nI 8) hc dX12_bring_41 rfl ?_
      have hwh : ∀ q, q < va_up v (80 + 4 * K + 2) b 5 → va_up v (80 + 4 * K + 2) b (80 + 4 * q + 2) ≤ 9 := by
        intro q hq
        rw [va_up_off (by omega)] at hq
        by_cases e : q = K
        · rw [e, va_up_at]; omega
        · rw [va_up_off (by omega)]; exact hwh q hq
      refine cl_X12_105 (As := [.int (nI 8)]) hc (c_X12_keysIn hM hv (r := 8) (by omega) (by rw [va_up_off (by omega)]; omega) hwh) (MS0 hM) rfl ⟨by decide, by decide⟩ ⟨rfl, rfl⟩ ⟨by decide, by decide⟩ rfl (Nat.le_of_ble_eq_true rfl) dX12_bring_43 (fun r u hp => ?_)
      obtain ⟨rfl, hu⟩ := hp
      rw [hu]
      have hE : sMove v (K : Int) a b = (((keysAt (va_up v (80 + 4 * K + 2) b) 8 : Nat) : Int), va_up v (80 + 4 * K + 2) b) := by unfold sMove; (try simp only [Int.toNat_natCast]); (rw [if_pos (by omega), if_pos (by omega)]) <;> rfl
      rw [hE] at hR
      exact hR _ _ ⟨_, rfl, nz _, hv, (by rw [mH_pos (show (0 : Int) ≤ (((keysAt (va_up v (80 + 4 * K + 2) b) 8 : Nat) : Int), va_up v (80 + 4 * K + 2) b).1 by show (0 : Int) ≤ ((keysAt (va_up v (80 + 4 * K + 2) b) 8 : Nat) : Int); omega)]; exact ⟨by rw [← hσ1, s2_na (by omega)]; exact hH0.1, hH0.2.sig (by rw [← hσ1, s2_ne (by omega)])⟩), (fun q q1 q2 q3 => by rw [← hσ1, s2_ne q2]; exact hfr0.1 q q1 q3), fun k hk => by rw [← hσ1, s2_na (by omega)]; exact hfr0.2 k hk⟩ rfl _ _ dX12_bring_46
    ·
      refine r_bipush (v := zI (-5)) hc dX12_bring_19 rfl ?_
      have hE : sMove v (K : Int) a b = (-5, v) := by unfold sMove; (try simp only [Int.toNat_natCast]); (rw [if_pos (by omega), if_neg (by omega)]) <;> rfl
      rw [hE] at hR
      exact hR _ _ ⟨_, rfl, rfl, hv, (by rw [mH_neg (show (-5, v).1 < (0 : Int) by show -5 < (0 : Int); omega)]; exact hH), fun _ _ _ _ => rfl, fun _ _ => rfl⟩ rfl _ _ dX12_bring_21
  ·
    have c_5 := of_decide_eq_false c_5
    refine r_iconst (v := zI (-1)) hc dX12_bring_8 rfl ?_
    have hE : sMove v k a b = (-1, v) := by unfold sMove; (try simp only [Int.toNat_natCast]); (rw [if_neg (by omega)]) <;> rfl
    rw [hE] at hR
    exact hR _ _ ⟨_, rfl, rfl, hv, (by rw [mH_neg (show (-1, v).1 < (0 : Int) by show -1 < (0 : Int); omega)]; exact hH), fun _ _ _ _ => rfl, fun _ _ => rfl⟩ rfl _ _ dX12_bring_9
set_option maxRecDepth 100000 in
set_option maxHeartbeats 4000000 in
theorem c_X12_take {Ω : OmT} {z : Nat} {sh : Nat → Option Kd} {σ : Nat → Nat → Int32} {ρ : Nat → Nat → Option Nat} {M : Nat} {v : Nat → Nat} (hM : MSh sh ρ M) (hv : rowAt σ (M + 1) 170 v) (hok : okR v) (hbx : v 7 ≤ 1000000000) {W : Bool} (hW : σ M 7 = bI W) {nu : Nat} {hf : Nat → Nat} (hH : HstP σ M (nu, hf)) (hnu : nu ≤ 6) {k : Int} (hk0 : -2147483648 ≤ k ∧ k < 2147483648) : CtI Ω yX12_take cX12_take 2 .int rm_X12_take [.ref M, .int (zI k)] (z, sh, σ, ρ) (MPost z sh σ ρ M nu hf v W (sMove v k (v 3) 8)) := by
  have hok1 := hok
  obtain ⟨⟨h01, h02⟩, hl1, ⟨h21, h22⟩, h3, h4, h5, h9, hdo, hke, hpn, hpd, htc⟩ := hok1
  have hdr : ∀ d, d < v 4 → v (20 + 6 * d + 2) < 10000 ∧ v (20 + 6 * d + 3) < 10000 := fun d hd => ⟨(hdo d hd).2.2.1, (hdo d hd).2.2.2⟩
  have hcu : ∀ k, k < v 5 → v (80 + 4 * k) < 10000 := fun k hk => (hke k hk).1
  have hwh : ∀ k, k < v 5 → v (80 + 4 * k + 2) ≤ 9 := fun k hk => (hke k hk).2.2
  have hky : ∀ k, k < v 5 → v (80 + 4 * k) < 10000 ∧ v (80 + 4 * k + 2) ≤ 9 ∧ 40 ≤ v (80 + 4 * k + 1) ∧ v (80 + 4 * k + 1) ≤ 90 := fun k hk => ⟨(hke k hk).1, (hke k hk).2.2, (hke k hk).2.1⟩
  have hpl : ∀ p, p < v 9 → v (150 + 3 * p) < 10 := fun p hp => by have := (hpn p hp).1; omega
  refine CtI.enter (by decide) (Nat.le_of_ble_eq_true rfl) (fun Φ hc hR => ?_)
  show Vw Ω Φ (z, sh, σ, ρ) (0, 0) 0 [(0, .ref M), (1, .int (zI k))] []
  refine r_aload_n hc dX12_take_0 rfl ?_
  refine r_iload_n hc dX12_take_1 rfl ?_
  refine r_aload_n hc dX12_take_2 rfl ?_
  refine gf_X12_7 (q := M + 1) hc (MS0 hM) (MSr hM 0 1 (by decide)) dX12_take_3 ?_
  refine r_iconst (v := nI 3) hc dX12_take_6 rfl ?_
  refine r_iald (x := nI (v 3)) (j := 3) hc (MSa hM 1 0 170 rfl) rfl (by omega) (by decide) (hv _ (by omega)) dX12_take_7 ?_
  refine r_bipush (v := nI 8) hc dX12_take_8 rfl ?_
  refine cl_X12_108 (As := [.int (zI k), .int (nI (v 3)), .int (nI 8)]) hc (c_X12_bring hM hv hok hbx hW hH hnu (k := k) (by omega) (by omega) (by omega)) (MS0 hM) rfl ⟨by decide, by decide⟩ ⟨rfl, rfl⟩ ⟨by decide, by decide⟩ rfl (Nat.le_of_ble_eq_true rfl) dX12_take_10 (fun r u hp => ?_)
  obtain ⟨τ1, hu, hr, hrest⟩ := hp
  subst hr
  rw [hu]
  exact hR _ _ ⟨_, rfl, rfl, hrest⟩ rfl _ _ dX12_take_13
set_option maxRecDepth 100000 in
set_option maxHeartbeats 4000000 in
theorem c_X12_putDown {Ω : OmT} {z : Nat} {sh : Nat → Option Kd} {σ : Nat → Nat → Int32} {ρ : Nat → Nat → Option Nat} {M : Nat} {v : Nat → Nat} (hM : MSh sh ρ M) (hv : rowAt σ (M + 1) 170 v) (hok : okR v) (hbx : v 7 ≤ 1000000000) {W : Bool} (hW : σ M 7 = bI W) {nu : Nat} {hf : Nat → Nat} (hH : HstP σ M (nu, hf)) (hnu : nu ≤ 6) {k : Int} (hk0 : -2147483648 ≤ k ∧ k < 2147483648) : CtI Ω yX12_putDown cX12_putDown 2 .int rm_X12_putDown [.ref M, .int (zI k)] (z, sh, σ, ρ) (MPost z sh σ ρ M nu hf v W (sMove v k 8 (v 3))) := by
  have hok1 := hok
  obtain ⟨⟨h01, h02⟩, hl1, ⟨h21, h22⟩, h3, h4, h5, h9, hdo, hke, hpn, hpd, htc⟩ := hok1
  have hdr : ∀ d, d < v 4 → v (20 + 6 * d + 2) < 10000 ∧ v (20 + 6 * d + 3) < 10000 := fun d hd => ⟨(hdo d hd).2.2.1, (hdo d hd).2.2.2⟩
  have hcu : ∀ k, k < v 5 → v (80 + 4 * k) < 10000 := fun k hk => (hke k hk).1
  have hwh : ∀ k, k < v 5 → v (80 + 4 * k + 2) ≤ 9 := fun k hk => (hke k hk).2.2
  have hky : ∀ k, k < v 5 → v (80 + 4 * k) < 10000 ∧ v (80 + 4 * k + 2) ≤ 9 ∧ 40 ≤ v (80 + 4 * k + 1) ∧ v (80 + 4 * k + 1) ≤ 90 := fun k hk => ⟨(hke k hk).1, (hke k hk).2.2, (hke k hk).2.1⟩
  have hpl : ∀ p, p < v 9 → v (150 + 3 * p) < 10 := fun p hp => by have := (hpn p hp).1; omega
  refine CtI.enter (by decide) (Nat.le_of_ble_eq_true rfl) (fun Φ hc hR => ?_)
  show Vw Ω Φ (z, sh, σ, ρ) (0, 0) 0 [(0, .ref M), (1, .int (zI k))] []
  refine r_aload_n hc dX12_putDown_0 rfl ?_
  refine r_iload_n hc dX12_putDown_1 rfl ?_
  refine r_bipush (v := nI 8) hc dX12_putDown_2 rfl ?_
  refine r_aload_n hc dX12_putDown_4 rfl ?_
  refine gf_X12_7 (q := M + 1) hc (MS0 hM) (MSr hM 0 1 (by decide)) dX12_putDown_5 ?_
  refine r_iconst (v := nI 3) hc dX12_putDown_8 rfl ?_
  refine r_iald (x := nI (v 3)) (j := 3) hc (MSa hM 1 0 170 rfl) rfl (by omega) (by decide) (hv _ (by omega)) dX12_putDown_9 ?_
  refine cl_X12_108 (As := [.int (zI k), .int (nI 8), .int (nI (v 3))]) hc (c_X12_bring hM hv hok hbx hW hH hnu (k := k) (by omega) (by omega) (by omega)) (MS0 hM) rfl ⟨by decide, by decide⟩ ⟨rfl, rfl⟩ ⟨by decide, by decide⟩ rfl (Nat.le_of_ble_eq_true rfl) dX12_putDown_10 (fun r u hp => ?_)
  obtain ⟨τ1, hu, hr, hrest⟩ := hp
  subst hr
  rw [hu]
  exact hR _ _ ⟨_, rfl, rfl, hrest⟩ rfl _ _ dX12_putDown_13
set_option maxRecDepth 100000 in
set_option maxHeartbeats 4000000 in
theorem c_X12_go {Ω : OmT} {z : Nat} {sh : Nat → Option Kd} {σ : Nat → Nat → Int32} {ρ : Nat → Nat → Option Nat} {M : Nat} {v : Nat → Nat} (hM : MSh sh ρ M) (hv : rowAt σ (M + 1) 170 v) (hok : okR v) (hbx : v 7 ≤ 1000000000) {W : Bool} (hW : σ M 7 = bI W) {nu : Nat} {hf : Nat → Nat} (hH : HstP σ M (nu, hf)) (hnu : nu ≤ 6) {d : Int} (hd0 : -2147483648 ≤ d ∧ d < 2147483648) : CtI Ω yX12_go cX12_go 2 .int rm_X12_go [.ref M, .int (zI d)] (z, sh, σ, ρ) (MPost z sh σ ρ M nu hf v W (sGo v d)) := by
  have hok1 := hok
  obtain ⟨⟨h01, h02⟩, hl1, ⟨h21, h22⟩, h3, h4, h5, h9, hdo, hke, hpn, hpd, htc⟩ := hok1
  have hdr : ∀ d, d < v 4 → v (20 + 6 * d + 2) < 10000 ∧ v (20 + 6 * d + 3) < 10000 := fun d hd => ⟨(hdo d hd).2.2.1, (hdo d hd).2.2.2⟩
  have hcu : ∀ k, k < v 5 → v (80 + 4 * k) < 10000 := fun k hk => (hke k hk).1
  have hwh : ∀ k, k < v 5 → v (80 + 4 * k + 2) ≤ 9 := fun k hk => (hke k hk).2.2
  have hky : ∀ k, k < v 5 → v (80 + 4 * k) < 10000 ∧ v (80 + 4 * k + 2) ≤ 9 ∧ 40 ≤ v (80 + 4 * k + 1) ∧ v (80 + 4 * k + 1) ≤ 90 := fun k hk => ⟨(hke k hk).1, (hke k hk).2.2, (hke k hk).2.1⟩
  have hpl : ∀ p, p < v 9 → v (150 + 3 * p) < 10 := fun p hp => by have := (hpn p hp).1; omega
  refine CtI.enter (by decide) (Nat.le_of_ble_eq_true rfl) (fun Φ hc hR => ?_)
  show Vw Ω Φ (z, sh, σ, ρ) (0, 0) 0 [(0, .ref M), (1, .int (zI d))] []
  refine r_aload_n hc dX12_go_0 rfl ?_
  refine r_iload_n hc dX12_go_1 rfl ?_
  refine cl_X12_80 (As := [.int (zI d)]) hc (c_X12_isDoor hM hv (x := d) (by omega) (by omega)) (MS0 hM) rfl ⟨by decide, by decide⟩ ⟨rfl, rfl⟩ ⟨by decide, by decide⟩ rfl (Nat.le_of_ble_eq_true rfl) dX12_go_2 (fun r u hp => ?_)
  obtain ⟨rfl, hu⟩ := hp
  rw [hu]
  refine r_if_ne (tgt := 10) hc dX12_go_5 (by decide) (bI_0 _) (fun c_5 => ?_) (fun c_5 => ?_)
  ·
    have c_5 := bnf c_5
    have c_5 := of_decide_eq_true c_5
    obtain ⟨D, rfl⟩ := Int.eq_ofNat_of_zero_le (show 0 ≤ d by omega)
    rw [← nz D]
    have hdd := hdo D (by omega)
    have hdk := hdr D (by omega)
    have hbr := behR_rng (v := v) (d := D) (r := v 3) hdd.1 hdd.2.1
    have hk8 := keysAt_lt v 8 h5
    refine r_aload_n hc dX12_go_10 rfl ?_
    refine r_iload_n hc dX12_go_11 rfl ?_
    refine r_aload_n hc dX12_go_12 rfl ?_
    refine gf_X12_7 (q := M + 1) hc (MS0 hM) (MSr hM 0 1 (by decide)) dX12_go_13 ?_
    refine r_iconst (v := nI 3) hc dX12_go_16 rfl ?_
    refine r_iald (x := nI (v 3)) (j := 3) hc (MSa hM 1 0 170 rfl) rfl (by omega) (by decide) (hv _ (by omega)) dX12_go_17 ?_
    refine cl_X12_116 (As := [.int (nI D), .int (nI (v 3))]) hc (c_X12_behind hM hv (d := D) (r := v 3) (by omega) (by omega) (by omega) (by omega)) (MS0 hM) rfl ⟨by decide, by decide⟩ ⟨rfl, rfl⟩ ⟨by decide, by decide⟩ rfl (Nat.le_of_ble_eq_true rfl) dX12_go_18 (fun r u hp => ?_)
    obtain ⟨rfl, hu⟩ := hp
    rw [hu]
    refine r_if_lt (tgt := 38) hc dX12_go_21 (by decide) (l0_Z (by omega)) (fun c_21 => ?_) (fun c_21 => ?_)
    ·
      refine r_bipush (v := zI (-5)) hc dX12_go_38 rfl ?_
      have hE : sGo v (D : Int) = (-5, v) := by unfold sGo; (try simp only [Int.toNat_natCast]); (rw [if_pos (by omega), if_neg (by omega)]) <;> rfl
      rw [hE] at hR
      exact hR _ _ ⟨_, rfl, rfl, hv, (by rw [mH_neg (show (-5, v).1 < (0 : Int) by show -5 < (0 : Int); omega)]; exact hH), fun _ _ _ _ => rfl, fun _ _ => rfl⟩ rfl _ _ dX12_go_40
    ·
      refine r_aload_n hc dX12_go_24 rfl ?_
      refine r_iload_n hc dX12_go_25 rfl ?_
      refine r_aload_n hc dX12_go_26 rfl ?_
      refine r_bipush (v := nI 8) hc dX12_go_27 rfl ?_
      refine cl_X12_105 (As := [.int (nI 8)]) hc (c_X12_keysIn hM hv (r := 8) (by omega) (by omega) hwh) (MS0 hM) rfl ⟨by decide, by decide⟩ ⟨rfl, rfl⟩ ⟨by decide, by decide⟩ rfl (Nat.le_of_ble_eq_true rfl) dX12_go_29 (fun r u hp => ?_)
      obtain ⟨rfl, hu⟩ := hp
      rw [hu]
      refine cl_X12_119 (As := [.int (nI D), .int (nI (keysAt v 8))]) hc (c_X12_isOpenBy hM hv (d := D) (ks := keysAt v 8) (by omega) (by omega) (by omega) (by omega) (by omega) hcu) (MS0 hM) rfl ⟨by decide, by decide⟩ ⟨rfl, rfl⟩ ⟨by decide, by decide⟩ rfl (Nat.le_of_ble_eq_true rfl) dX12_go_32 (fun r u hp => ?_)
      obtain ⟨rfl, hu⟩ := hp
      rw [hu]
      refine r_if_ne (tgt := 41) hc dX12_go_35 (by decide) (bI_0 _) (fun c_35 => ?_) (fun c_35 => ?_)
      ·
        have c_35 := bnf c_35
        refine r_aload_n hc dX12_go_41 rfl ?_
        refine cl_X12_53 (As := []) hc (c_X12_record hM hv hW hH hnu) (MS0 hM) rfl ⟨by decide, by decide⟩ ⟨rfl, rfl⟩ ⟨by decide, by decide⟩ rfl (Nat.le_of_ble_eq_true rfl) dX12_go_42 (fun u hp => ?_)
        obtain ⟨τ0, hu, hH0, hfr0⟩ := hp
        rw [hu]
        have hv : rowAt τ0 (M + 1) 170 v := hv.sig (hfr0.1 _ (by omega) (by omega))
        refine r_aload_n hc dX12_go_45 rfl ?_
        refine gf_X12_7 (q := M + 1) hc (MS0 hM) (MSr hM 0 1 (by decide)) dX12_go_46 ?_
        refine r_iconst (v := nI 3) hc dX12_go_49 rfl ?_
        refine r_aload_n hc dX12_go_50 rfl ?_
        refine r_iload_n hc dX12_go_51 rfl ?_
        refine r_aload_n hc dX12_go_52 rfl ?_
        refine gf_X12_7 (q := M + 1) hc (MS0 hM) (MSr hM 0 1 (by decide)) dX12_go_53 ?_
        refine r_iconst (v := nI 3) hc dX12_go_56 rfl ?_
        refine r_iald (x := nI (v 3)) (j := 3) hc (MSa hM 1 0 170 rfl) rfl (by omega) (by decide) (hv _ (by omega)) dX12_go_57 ?_
        refine cl_X12_116 (As := [.int (nI D), .int (nI (v 3))]) hc (c_X12_behind hM hv (d := D) (r := v 3) (by omega) (by omega) (by omega) (by omega)) (MS0 hM) rfl ⟨by decide, by decide⟩ ⟨rfl, rfl⟩ ⟨by decide, by decide⟩ rfl (Nat.le_of_ble_eq_true rfl) dX12_go_58 (fun r u hp => ?_)
        obtain ⟨rfl, hu⟩ := hp
        rw [hu]
        rw [zn (show behR v D (v 3) = (((behR v D (v 3)).toNat : Nat) : Int) by omega)]
        refine r_iast (j := 3) hc (MSa hM 1 0 170 rfl) rfl (by omega) (by decide) dX12_go_61 ?_
        generalize hσ1 : s2 τ0 (M + 1) 3 (nI ((behR v D (v 3)).toNat)) = σ1
        have hv : rowAt σ1 (M + 1) 170 (va_up v 3 ((behR v D (v 3)).toNat)) := by rw [← hσ1]; exact hv.upd _ _
        refine r_aload_n hc dX12_go_62 rfl ?_
        refine gf_X12_7 (q := M + 1) hc (MS0 hM) (MSr hM 0 1 (by decide)) dX12_go_63 ?_
        refine r_bipush (v := nI 10) hc dX12_go_66 rfl ?_
        refine r_dup2 hc dX12_go_68 rfl rfl ?_
        refine r_iald (x := nI (v 10)) (j := 10) hc (MSa hM 1 0 170 rfl) rfl (by omega) (by decide) ((hv _ (by omega)).trans (congrArg nI (by rw [va_up_off (by omega)]))) dX12_go_69 ?_
        refine r_iconst (v := nI 1) hc dX12_go_70 rfl ?_
        refine r_iadd (v := nI (v 10 + 1)) hc dX12_go_71 (ad_NN _ _) ?_
        refine r_iast (j := 10) hc (MSa hM 1 0 170 rfl) rfl (by omega) (by decide) dX12_go_72 ?_
        generalize hσ2 : s2 σ1 (M + 1) 10 (nI (v 10 + 1)) = σ2
        have hv : rowAt σ2 (M + 1) 170 (va_up (va_up v 3 ((behR v D (v 3)).toNat)) 10 (v 10 + 1)) := by rw [← hσ2]; exact hv.upd _ _
        refine r_aload_n hc dX12_go_73 rfl ?_
        refine gf_X12_7 (q := M + 1) hc (MS0 hM) (MSr hM 0 1 (by decide)) dX12_go_74 ?_
        refine r_iconst (v := nI 3) hc dX12_go_77 rfl ?_
        refine r_iald (x := nI ((behR v D (v 3)).toNat)) (j := 3) hc (MSa hM 1 0 170 rfl) rfl (by omega) (by decide) ((hv _ (by omega)).trans (congrArg nI (by rw [va_up_off (by omega), va_up_at]))) dX12_go_78 ?_
        have hE : sGo v (D : Int) = (behR v D (v 3), va_up (va_up v 3 (behR v D (v 3)).toNat) 10 (v 10 + 1)) := by unfold sGo; (try simp only [Int.toNat_natCast]); (rw [if_pos (by omega), if_pos ⟨by omega, c_35⟩]) <;> rfl
        rw [hE] at hR
        exact hR _ _ ⟨_, rfl, (zn (by omega)).symm, hv, (by rw [mH_pos (show (0 : Int) ≤ (behR v D (v 3), va_up (va_up v 3 (behR v D (v 3)).toNat) 10 (v 10 + 1)).1 by show (0 : Int) ≤ behR v D (v 3); omega)]; exact ⟨by rw [← hσ2, s2_na (by omega), ← hσ1, s2_na (by omega)]; exact hH0.1, hH0.2.sig (by rw [← hσ2, s2_ne (by omega), ← hσ1, s2_ne (by omega)])⟩), (fun q q1 q2 q3 => by rw [← hσ2, s2_ne q2, ← hσ1, s2_ne q2]; exact hfr0.1 q q1 q3), fun k hk => by rw [← hσ2, s2_na (by omega), ← hσ1, s2_na (by omega)]; exact hfr0.2 k hk⟩ rfl _ _ dX12_go_79
      ·
        refine r_bipush (v := zI (-5)) hc dX12_go_38 rfl ?_
        have hE : sGo v (D : Int) = (-5, v) := by unfold sGo; (try simp only [Int.toNat_natCast]); (rw [if_pos (by omega), if_neg (fun q => by rw [c_35] at q; exact Bool.noConfusion q.2)]) <;> rfl
        rw [hE] at hR
        exact hR _ _ ⟨_, rfl, rfl, hv, (by rw [mH_neg (show (-5, v).1 < (0 : Int) by show -5 < (0 : Int); omega)]; exact hH), fun _ _ _ _ => rfl, fun _ _ => rfl⟩ rfl _ _ dX12_go_40
  ·
    have c_5 := of_decide_eq_false c_5
    refine r_iconst (v := zI (-1)) hc dX12_go_8 rfl ?_
    have hE : sGo v d = (-1, v) := by unfold sGo; (try simp only [Int.toNat_natCast]); (rw [if_neg (by omega)]) <;> rfl
    rw [hE] at hR
    exact hR _ _ ⟨_, rfl, rfl, hv, (by rw [mH_neg (show (-1, v).1 < (0 : Int) by show -1 < (0 : Int); omega)]; exact hH), fun _ _ _ _ => rfl, fun _ _ => rfl⟩ rfl _ _ dX12_go_9
set_option maxRecDepth 100000 in
set_option maxHeartbeats 4000000 in
theorem c_X12_plan {Ω : OmT} {z : Nat} {sh : Nat → Option Kd} {σ : Nat → Nat → Int32} {ρ : Nat → Nat → Option Nat} {M : Nat} {v : Nat → Nat} (hM : MSh sh ρ M) (hv : rowAt σ (M + 1) 170 v) (hok : okR v) (hbx : v 7 ≤ 1000000000) {W : Bool} (hW : σ M 7 = bI W) {nu : Nat} {hf : Nat → Nat} (hH : HstP σ M (nu, hf)) (hnu : nu ≤ 6) {d f s : Int} (hd0 : -2147483648 ≤ d ∧ d < 2147483648) (hf0 : -2147483648 ≤ f ∧ f < 2147483648) (hs0 : -2147483648 ≤ s ∧ s < 2147483648) : CtI Ω yX12_plan cX12_plan 5 .int rm_X12_plan [.ref M, .int (zI d), .int (zI f), .int (zI s)] (z, sh, σ, ρ) (MPost z sh σ ρ M nu hf v W (sPlan v d f s)) := by
  have hok1 := hok
  obtain ⟨⟨h01, h02⟩, hl1, ⟨h21, h22⟩, h3, h4, h5, h9, hdo, hke, hpn, hpd, htc⟩ := hok1
  have hdr : ∀ d, d < v 4 → v (20 + 6 * d + 2) < 10000 ∧ v (20 + 6 * d + 3) < 10000 := fun d hd => ⟨(hdo d hd).2.2.1, (hdo d hd).2.2.2⟩
  have hcu : ∀ k, k < v 5 → v (80 + 4 * k) < 10000 := fun k hk => (hke k hk).1
  have hwh : ∀ k, k < v 5 → v (80 + 4 * k + 2) ≤ 9 := fun k hk => (hke k hk).2.2
  have hky : ∀ k, k < v 5 → v (80 + 4 * k) < 10000 ∧ v (80 + 4 * k + 2) ≤ 9 ∧ 40 ≤ v (80 + 4 * k + 1) ∧ v (80 + 4 * k + 1) ≤ 90 := fun k hk => ⟨(hke k hk).1, (hke k hk).2.2, (hke k hk).2.1⟩
  have hpl : ∀ p, p < v 9 → v (150 + 3 * p) < 10 := fun p hp => by have := (hpn p hp).1; omega
  refine CtI.enter (by decide) (Nat.le_of_ble_eq_true rfl) (fun Φ hc hR => ?_)
  show Vw Ω Φ (z, sh, σ, ρ) (0, 0) 0 [(0, .ref M), (1, .int (zI d)), (2, .int (zI f)), (3, .int (zI s))] []
  refine r_aload_n hc dX12_plan_0 rfl ?_
  refine r_iload_n hc dX12_plan_1 rfl ?_
  refine cl_X12_80 (As := [.int (zI d)]) hc (c_X12_isDoor hM hv (x := d) (by omega) (by omega)) (MS0 hM) rfl ⟨by decide, by decide⟩ ⟨rfl, rfl⟩ ⟨by decide, by decide⟩ rfl (Nat.le_of_ble_eq_true rfl) dX12_plan_2 (fun r u hp => ?_)
  obtain ⟨rfl, hu⟩ := hp
  rw [hu]
  refine r_if_ne (tgt := 10) hc dX12_plan_5 (by decide) (bI_0 _) (fun c_5 => ?_) (fun c_5 => ?_)
  ·
    have c_5 := bnf c_5
    have c_5 := of_decide_eq_true c_5
    refine r_iload_n hc dX12_plan_10 rfl ?_
    refine cl_X12_60 (As := [.int (zI f)]) hc (c_X12_isRow (x := f) (by omega)) rfl ⟨by decide, by decide⟩ ⟨rfl, rfl⟩ ⟨by decide, by decide⟩ rfl (Nat.le_of_ble_eq_true rfl) dX12_plan_11 (fun r u hp => ?_)
    obtain ⟨rfl, hu⟩ := hp
    rw [hu]
    refine r_if_eq (tgt := 24) hc dX12_plan_14 (by decide) (bI_0 _) (fun c_14 => ?_) (fun c_14 => ?_)
    ·
      have c_14 := of_decide_eq_false c_14
      refine r_bipush (v := zI (-2)) hc dX12_plan_24 rfl ?_
      have hE : sPlan v d f s = (-2, v) := by unfold sPlan; (try simp only [Int.toNat_natCast]); (rw [if_pos (by omega), if_neg (by omega)]) <;> rfl
      rw [hE] at hR
      exact hR _ _ ⟨_, rfl, rfl, hv, (by rw [mH_neg (show (-2, v).1 < (0 : Int) by show -2 < (0 : Int); omega)]; exact hH), fun _ _ _ _ => rfl, fun _ _ => rfl⟩ rfl _ _ dX12_plan_26
    ·
      have c_14 := bnf c_14
      have c_14 := of_decide_eq_true c_14
      refine r_iload_n hc dX12_plan_17 rfl ?_
      refine cl_X12_60 (As := [.int (zI s)]) hc (c_X12_isRow (x := s) (by omega)) rfl ⟨by decide, by decide⟩ ⟨rfl, rfl⟩ ⟨by decide, by decide⟩ rfl (Nat.le_of_ble_eq_true rfl) dX12_plan_18 (fun r u hp => ?_)
      obtain ⟨rfl, hu⟩ := hp
      rw [hu]
      refine r_if_ne (tgt := 27) hc dX12_plan_21 (by decide) (bI_0 _) (fun c_21 => ?_) (fun c_21 => ?_)
      ·
        have c_21 := bnf c_21
        have c_21 := of_decide_eq_true c_21
        obtain ⟨D, rfl⟩ := Int.eq_ofNat_of_zero_le (show 0 ≤ d by omega)
        rw [← nz D]
        obtain ⟨F, rfl⟩ := Int.eq_ofNat_of_zero_le (show 0 ≤ f by omega)
        rw [← nz F]
        obtain ⟨S, rfl⟩ := Int.eq_ofNat_of_zero_le (show 0 ≤ s by omega)
        rw [← nz S]
        have hpr := plcF_rng v D (v 9)
        have hpo : plcO v D = plcF v D (v 9) := rfl
        refine r_aload_n hc dX12_plan_27 rfl ?_
        refine gf_X12_7 (q := M + 1) hc (MS0 hM) (MSr hM 0 1 (by decide)) dX12_plan_28 ?_
        refine r_bipush (v := nI 9) hc dX12_plan_31 rfl ?_
        refine r_iald (x := nI (v 9)) (j := 9) hc (MSa hM 1 0 170 rfl) rfl (by omega) (by decide) (hv _ (by omega)) dX12_plan_33 ?_
        refine r_bipush (v := nI 6) hc dX12_plan_34 rfl ?_
        refine r_icmp_ne (tgt := 42) hc dX12_plan_36 (by decide) (eq_NN (by omega) (by omega)) (fun c_36 => ?_) (fun c_36 => ?_)
        ·
          refine r_aload_n hc dX12_plan_42 rfl ?_
          refine r_iload_n hc dX12_plan_43 rfl ?_
          refine cl_X12_122 (As := [.int (nI D)]) hc (c_X12_placeOf hM hv (d := D) (by omega) (by omega) hpl) (MS0 hM) rfl ⟨by decide, by decide⟩ ⟨rfl, rfl⟩ ⟨by decide, by decide⟩ rfl (Nat.le_of_ble_eq_true rfl) dX12_plan_44 (fun r u hp => ?_)
          obtain ⟨rfl, hu⟩ := hp
          rw [hu]
          refine r_if_lt (tgt := 53) hc dX12_plan_47 (by decide) (l0_Z (by omega)) (fun c_47 => ?_) (fun c_47 => ?_)
          ·
            refine r_aload_n hc dX12_plan_53 rfl ?_
            refine cl_X12_53 (As := []) hc (c_X12_record hM hv hW hH hnu) (MS0 hM) rfl ⟨by decide, by decide⟩ ⟨rfl, rfl⟩ ⟨by decide, by decide⟩ rfl (Nat.le_of_ble_eq_true rfl) dX12_plan_54 (fun u hp => ?_)
            obtain ⟨τ0, hu, hH0, hfr0⟩ := hp
            rw [hu]
            have hv : rowAt τ0 (M + 1) 170 v := hv.sig (hfr0.1 _ (by omega) (by omega))
            refine r_sipush (v := nI 150) hc dX12_plan_57 rfl ?_
            refine r_iconst (v := nI 3) hc dX12_plan_60 rfl ?_
            refine r_aload_n hc dX12_plan_61 rfl ?_
            refine gf_X12_7 (q := M + 1) hc (MS0 hM) (MSr hM 0 1 (by decide)) dX12_plan_62 ?_
            refine r_bipush (v := nI 9) hc dX12_plan_65 rfl ?_
            refine r_iald (x := nI (v 9)) (j := 9) hc (MSa hM 1 0 170 rfl) rfl (by omega) (by decide) (hv _ (by omega)) dX12_plan_67 ?_
            refine r_imul (v := nI (3 * (v 9))) hc dX12_plan_68 (ml_NN _ _) ?_
            refine r_iadd (v := nI (150 + (3 * (v 9)))) hc dX12_plan_69 (ad_NN _ _) ?_
            refine r_istore (ls' := [(4, .int (nI (150 + (3 * (v 9))))), (0, .ref M), (1, .int (nI D)), (2, .int (nI F)), (3, .int (nI S))]) hc dX12_plan_70 (by decide) rfl ?_
            refine r_aload_n hc dX12_plan_72 rfl ?_
            refine gf_X12_7 (q := M + 1) hc (MS0 hM) (MSr hM 0 1 (by decide)) dX12_plan_73 ?_
            refine r_iload hc dX12_plan_76 rfl ?_
            refine r_iload_n hc dX12_plan_78 rfl ?_
            refine r_iast (j := 150 + (3 * (v 9))) hc (MSa hM 1 0 170 rfl) rfl (by omega) (by decide) dX12_plan_79 ?_
            generalize hσ1 : s2 τ0 (M + 1) (150 + (3 * (v 9))) (nI D) = σ1
            have hv : rowAt σ1 (M + 1) 170 (va_up v (150 + (3 * (v 9))) D) := by rw [← hσ1]; exact hv.upd _ _
            refine r_aload_n hc dX12_plan_80 rfl ?_
            refine gf_X12_7 (q := M + 1) hc (MS0 hM) (MSr hM 0 1 (by decide)) dX12_plan_81 ?_
            refine r_iload hc dX12_plan_84 rfl ?_
            refine r_iconst (v := nI 1) hc dX12_plan_86 rfl ?_
            refine r_iadd (v := nI (150 + (3 * (v 9)) + 1)) hc dX12_plan_87 (ad_NN _ _) ?_
            refine r_iload_n hc dX12_plan_88 rfl ?_
            refine r_iast (j := 150 + (3 * (v 9)) + 1) hc (MSa hM 1 0 170 rfl) rfl (by omega) (by decide) dX12_plan_89 ?_
            generalize hσ2 : s2 σ1 (M + 1) (150 + (3 * (v 9)) + 1) (nI F) = σ2
            have hv : rowAt σ2 (M + 1) 170 (va_up (va_up v (150 + (3 * (v 9))) D) (150 + (3 * (v 9)) + 1) F) := by rw [← hσ2]; exact hv.upd _ _
            refine r_aload_n hc dX12_plan_90 rfl ?_
            refine gf_X12_7 (q := M + 1) hc (MS0 hM) (MSr hM 0 1 (by decide)) dX12_plan_91 ?_
            refine r_iload hc dX12_plan_94 rfl ?_
            refine r_iconst (v := nI 2) hc dX12_plan_96 rfl ?_
            refine r_iadd (v := nI (150 + (3 * (v 9)) + 2)) hc dX12_plan_97 (ad_NN _ _) ?_
            refine r_iload_n hc dX12_plan_98 rfl ?_
            refine r_iast (j := 150 + (3 * (v 9)) + 2) hc (MSa hM 1 0 170 rfl) rfl (by omega) (by decide) dX12_plan_99 ?_
            generalize hσ3 : s2 σ2 (M + 1) (150 + (3 * (v 9)) + 2) (nI S) = σ3
            have hv : rowAt σ3 (M + 1) 170 (va_up (va_up (va_up v (150 + (3 * (v 9))) D) (150 + (3 * (v 9)) + 1) F) (150 + (3 * (v 9)) + 2) S) := by rw [← hσ3]; exact hv.upd _ _
            refine r_aload_n hc dX12_plan_100 rfl ?_
            refine gf_X12_7 (q := M + 1) hc (MS0 hM) (MSr hM 0 1 (by decide)) dX12_plan_101 ?_
            refine r_bipush (v := nI 9) hc dX12_plan_104 rfl ?_
            refine r_dup2 hc dX12_plan_106 rfl rfl ?_
            refine r_iald (x := nI (v 9)) (j := 9) hc (MSa hM 1 0 170 rfl) rfl (by omega) (by decide) ((hv _ (by omega)).trans (congrArg nI (by rw [va_up_off (by omega), va_up_off (by omega), va_up_off (by omega)]))) dX12_plan_107 ?_
            refine r_iconst (v := nI 1) hc dX12_plan_108 rfl ?_
            refine r_iadd (v := nI (v 9 + 1)) hc dX12_plan_109 (ad_NN _ _) ?_
            refine r_iast (j := 9) hc (MSa hM 1 0 170 rfl) rfl (by omega) (by decide) dX12_plan_110 ?_
            generalize hσ4 : s2 σ3 (M + 1) 9 (nI (v 9 + 1)) = σ4
            have hv : rowAt σ4 (M + 1) 170 (va_up (va_up (va_up (va_up v (150 + (3 * (v 9))) D) (150 + (3 * (v 9)) + 1) F) (150 + (3 * (v 9)) + 2) S) 9 (v 9 + 1)) := by rw [← hσ4]; exact hv.upd _ _
            refine r_aload_n hc dX12_plan_111 rfl ?_
            refine gf_X12_7 (q := M + 1) hc (MS0 hM) (MSr hM 0 1 (by decide)) dX12_plan_112 ?_
            refine r_bipush (v := nI 9) hc dX12_plan_115 rfl ?_
            refine r_iald (x := nI (v 9 + 1)) (j := 9) hc (MSa hM 1 0 170 rfl) rfl (by omega) (by decide) ((hv _ (by omega)).trans (congrArg nI (by rw [va_up_at]))) dX12_plan_117 ?_
            have hE : sPlan v (D : Int) (F : Int) (S : Int) = (((v 9 + 1 : Nat) : Int), rowP v D F S) := by unfold sPlan; (try simp only [Int.toNat_natCast]); (rw [if_pos (by omega), if_pos (by omega), if_pos (by omega), if_neg (by omega)]) <;> rfl
            rw [hE] at hR
            exact hR _ _ ⟨_, rfl, nz _, hv, (by rw [mH_pos (show (0 : Int) ≤ (((v 9 + 1 : Nat) : Int), rowP v D F S).1 by show (0 : Int) ≤ ((v 9 + 1 : Nat) : Int); omega)]; exact ⟨by rw [← hσ4, s2_na (by omega), ← hσ3, s2_na (by omega), ← hσ2, s2_na (by omega), ← hσ1, s2_na (by omega)]; exact hH0.1, hH0.2.sig (by rw [← hσ4, s2_ne (by omega), ← hσ3, s2_ne (by omega), ← hσ2, s2_ne (by omega), ← hσ1, s2_ne (by omega)])⟩), (fun q q1 q2 q3 => by rw [← hσ4, s2_ne q2, ← hσ3, s2_ne q2, ← hσ2, s2_ne q2, ← hσ1, s2_ne q2]; exact hfr0.1 q q1 q3), fun k hk => by rw [← hσ4, s2_na (by omega), ← hσ3, s2_na (by omega), ← hσ2, s2_na (by omega), ← hσ1, s2_na (by omega)]; exact hfr0.2 k hk⟩ rfl _ _ dX12_plan_118
          ·
            refine r_bipush (v := zI (-5)) hc dX12_plan_50 rfl ?_
            have hE : sPlan v (D : Int) (F : Int) (S : Int) = (-5, v) := by unfold sPlan; (try simp only [Int.toNat_natCast]); (rw [if_pos (by omega), if_pos (by omega), if_pos (by omega), if_pos (by omega)]) <;> rfl
            rw [hE] at hR
            exact hR _ _ ⟨_, rfl, rfl, hv, (by rw [mH_neg (show (-5, v).1 < (0 : Int) by show -5 < (0 : Int); omega)]; exact hH), fun _ _ _ _ => rfl, fun _ _ => rfl⟩ rfl _ _ dX12_plan_52
        ·
          refine r_bipush (v := zI (-4)) hc dX12_plan_39 rfl ?_
          have hE : sPlan v (D : Int) (F : Int) (S : Int) = (-4, v) := by unfold sPlan; (try simp only [Int.toNat_natCast]); (rw [if_pos (by omega), if_pos (by omega), if_neg (by omega)]) <;> rfl
          rw [hE] at hR
          exact hR _ _ ⟨_, rfl, rfl, hv, (by rw [mH_neg (show (-4, v).1 < (0 : Int) by show -4 < (0 : Int); omega)]; exact hH), fun _ _ _ _ => rfl, fun _ _ => rfl⟩ rfl _ _ dX12_plan_41
      ·
        have c_21 := of_decide_eq_false c_21
        refine r_bipush (v := zI (-2)) hc dX12_plan_24 rfl ?_
        have hE : sPlan v d f s = (-2, v) := by unfold sPlan; (try simp only [Int.toNat_natCast]); (rw [if_pos (by omega), if_neg (by omega)]) <;> rfl
        rw [hE] at hR
        exact hR _ _ ⟨_, rfl, rfl, hv, (by rw [mH_neg (show (-2, v).1 < (0 : Int) by show -2 < (0 : Int); omega)]; exact hH), fun _ _ _ _ => rfl, fun _ _ => rfl⟩ rfl _ _ dX12_plan_26
  ·
    have c_5 := of_decide_eq_false c_5
    refine r_iconst (v := zI (-1)) hc dX12_plan_8 rfl ?_
    have hE : sPlan v d f s = (-1, v) := by unfold sPlan; (try simp only [Int.toNat_natCast]); (rw [if_neg (by omega)]) <;> rfl
    rw [hE] at hR
    exact hR _ _ ⟨_, rfl, rfl, hv, (by rw [mH_neg (show (-1, v).1 < (0 : Int) by show -1 < (0 : Int); omega)]; exact hH), fun _ _ _ _ => rfl, fun _ _ => rfl⟩ rfl _ _ dX12_plan_9
