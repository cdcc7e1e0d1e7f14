/-! ===== the model's texts ===== -/
theorem s2_pair (σ : Nat → Nat → Int32) (a k j : Nat) (x y x2 y2 : Int32) (h : k ≠ j) : s2 (s2 (s2 (s2 σ a k x) a j y) a k x2) a j y2 = s2 (s2 σ a k x2) a j y2 := by
  funext q i
  by_cases e1 : q = a
  · subst e1
    by_cases e2 : i = j
    · subst e2; rw [s2_same, s2_same]
    · rw [s2_nk e2, s2_nk e2]
      by_cases e3 : i = k
      · subst e3; rw [s2_same, s2_same]
      · rw [s2_nk e3, s2_nk e2, s2_nk e3, s2_nk e3]
  · rw [s2_na e1, s2_na e1, s2_na e1, s2_na e1, s2_na e1, s2_na e1]
/-- what an order of the text says, in the model's row of texts -/
def OrdM (σ : Nat → Nat → Int32) (M i kd : Nat) (R : Nat × Nat × Nat) : Prop := σ (M + 10) (4 * i) = nI kd ∧ σ (M + 10) (4 * i + 1) = nI R.1 ∧ (kd = 99 → σ (M + 10) (4 * i + 2) = nI R.2.1 ∧ σ (M + 10) (4 * i + 3) = nI R.2.2)
def afF (p : Nat → Nat) (ln f i s : Nat) : Int × Nat := if ln ≤ s then (-6, i) else if sgn p ln s = 59 then rdF p ln f i (s + 1) else (((s : Nat) : Int), i)
theorem rd_af (p : Nat → Nat) (ln f i t : Nat) : rdF p ln (f + 1) i t = if (pO p ln t).1 = true then afF p ln f (i + 1) (pO p ln t).2.1 else (((pO p ln t).2.1 : Nat), i) := rfl
set_option maxRecDepth 100000 in
set_option maxHeartbeats 4000000 in
theorem c_X12_sign {Ω : OmT} {z : Nat} {sh : Nat → Option Kd} {σ : Nat → Nat → Int32} {ρ : Nat → Nat → Option Nat} {M : Nat} (hM : MSh sh ρ M) {p : Nat → Nat} {ln : Nat} (hln : σ M 6 = nI ln) (hpr : rowAt σ (M + 5) ln p) (hl80 : ln ≤ 80) (hp : ∀ j, j < ln → p j < 256) {t : Nat} (hat : σ M 17 = nI t) (ht : t ≤ ln)  : CtI Ω yX12_sign cX12_sign 1 .int rm_X12_sign [.ref M] (z, sh, σ, ρ) (fun r u => r = nI (sgn p ln t) ∧ u = (z, sh, σ, ρ)) := by
  refine CtI.enter (by decide) (Nat.le_of_ble_eq_true rfl) (fun Φ hc hR => ?_)
  show Vw Ω Φ (z, sh, σ, ρ) (0, 0) 0 [(0, .ref M)] []
  refine r_aload_n hc dX12_sign_0 rfl ?_
  refine gf_X12_169 (x := nI t) hc (MS0 hM) hat dX12_sign_1 ?_
  refine r_aload_n hc dX12_sign_4 rfl ?_
  refine gf_X12_157 (x := nI ln) hc (MS0 hM) hln dX12_sign_5 ?_
  refine r_icmp_ge (tgt := 23) hc dX12_sign_8 (by decide) (le_NN (by omega) (by omega)) (fun c_8 => ?_) (fun c_8 => ?_)
  ·
    refine r_iconst (v := nI 0) hc dX12_sign_23 rfl ?_
    exact hR _ _ ⟨congrArg nI (sgn_out (by omega)).symm, rfl⟩ rfl _ _ dX12_sign_24
  ·
    refine r_aload_n hc dX12_sign_11 rfl ?_
    refine gf_X12_23 (q := M + 5) hc (MS0 hM) (MSr hM 5 5 (by decide)) dX12_sign_12 ?_
    refine r_aload_n hc dX12_sign_15 rfl ?_
    refine gf_X12_169 (x := nI t) hc (MS0 hM) hat dX12_sign_16 ?_
    refine r_iald (x := nI (p t)) (j := t) hc (MSa hM 5 0 80 rfl) rfl (by omega) (by decide) (hpr _ (by omega)) dX12_sign_19 ?_
    refine r_goto (tgt := 24) hc dX12_sign_20 (by decide) ?_
    exact hR _ _ ⟨congrArg nI (sgn_in (by omega)).symm, rfl⟩ rfl _ _ dX12_sign_24
set_option maxRecDepth 100000 in
set_option maxHeartbeats 4000000 in
theorem c_X12_one_T {Ω : OmT} {z : Nat} {sh : Nat → Option Kd} {σ : Nat → Nat → Int32} {ρ : Nat → Nat → Option Nat} {M : Nat} (hM : MSh sh ρ M) {p : Nat → Nat} {ln : Nat} (hln : σ M 6 = nI ln) (hpr : rowAt σ (M + 5) ln p) (hl80 : ln ≤ 80) (hp : ∀ j, j < ln → p j < 256) {t : Nat} (hat : σ M 17 = nI t) (ht : t ≤ ln) (hwr : σ M 18 = bI true) {lo hi : Nat} (hlo : lo < 200) : CtI Ω yX12_one cX12_one 4 .int rm_X12_one [.ref M, .int (nI lo), .int (nI hi)] (z, sh, σ, ρ) (fun r u => r = nI 0 ∧ u = (z, sh, σ, ρ)) := by
  have hwr0 := hwr
  have hat0 := hat
  refine CtI.enter (by decide) (Nat.le_of_ble_eq_true rfl) (fun Φ hc hR => ?_)
  show Vw Ω Φ (z, sh, σ, ρ) (0, 0) 0 [(0, .ref M), (1, .int (nI lo)), (2, .int (nI hi))] []
  refine r_aload_n hc dX12_one_0 rfl ?_
  refine cl_X12_172 (As := []) hc (c_X12_sign hM hln hpr hl80 hp (t := t) hat (by omega)) (MS0 hM) rfl ⟨by decide, by decide⟩ ⟨rfl, rfl⟩ ⟨by decide, by decide⟩ rfl (Nat.le_of_ble_eq_true rfl) dX12_one_1 (fun r u hp => ?_)
  obtain ⟨rfl, hu⟩ := hp
  rw [hu]
  have hs256 : sgn p ln t < 256 := by unfold sgn; split; exact hp _ (by assumption); omega
  refine r_iload_n hc dX12_one_4 rfl ?_
  refine r_isub (v := zI (((sgn p ln t : Nat) : Int) - ((lo : Nat) : Int))) hc dX12_one_5 (sb_NN _ _) ?_
  refine r_istore_n (ls' := [(3, .int (zI (((sgn p ln t : Nat) : Int) - ((lo : Nat) : Int)))), (0, .ref M), (1, .int (nI lo)), (2, .int (nI hi))]) hc dX12_one_6 (by decide) rfl ?_
  refine r_aload_n hc dX12_one_7 rfl ?_
  refine r_aload_n hc dX12_one_8 rfl ?_
  refine gf_X12_175 (x := bI true) hc (MS0 hM) hwr dX12_one_9 ?_
  refine r_if_ne (tgt := 24) hc dX12_one_12 (by decide) (bI_0 _) (fun c_12 => ?_) (fun c_12 => ?_)
  ·
    have c_12 := bnf c_12
    refine r_iconst (v := nI 1) hc dX12_one_24 rfl ?_
    refine r_goto (tgt := 29) hc dX12_one_25 (by decide) ?_
    refine pf_X12_175 hc (MS0 hM) (by rfl) (by rfl) dX12_one_29 ?_
    generalize hσ1 : s2 σ M 18 (nI 1) = σ1
    have hln : σ1 M 6 = nI ln := by rw [← hσ1]; exact s2_keep hln (by omega)
    have hpr : rowAt σ1 (M + 5) ln p := by rw [← hσ1]; exact hpr.keep (by omega) _ _
    have hat : σ1 M 17 = nI t := by rw [← hσ1]; exact s2_keep hat (by omega)
    have hwr : σ1 M 18 = nI 1 := by rw [← hσ1]; exact s2_same _ _ _ _
    have hwr : σ1 M 18 = bI true := hwr
    refine r_aload_n hc dX12_one_32 rfl ?_
    refine r_dup hc dX12_one_33 rfl ?_
    refine gf_X12_169 (x := nI t) hc (MS0 hM) hat dX12_one_34 ?_
    refine r_aload_n hc dX12_one_37 rfl ?_
    refine gf_X12_175 (x := bI true) hc (MS0 hM) hwr dX12_one_38 ?_
    refine r_if_eq (tgt := 48) hc dX12_one_41 (by decide) (bI_0 _) (fun c_41 => ?_) (fun c_41 => ?_)
    ·
      exact Bool.noConfusion c_41
    ·
      have c_41 := bnf c_41
      refine r_iconst (v := nI 0) hc dX12_one_44 rfl ?_
      refine r_goto (tgt := 49) hc dX12_one_45 (by decide) ?_
      refine r_iadd (v := nI t) hc dX12_one_49 (ad_NN _ 0) ?_
      refine pf_X12_169 hc (MS0 hM) dX12_one_50 ?_
      generalize hσ2 : s2 σ1 M 17 (nI t) = σ2
      have hln : σ2 M 6 = nI ln := by rw [← hσ2]; exact s2_keep hln (by omega)
      have hpr : rowAt σ2 (M + 5) ln p := by rw [← hσ2]; exact hpr.keep (by omega) _ _
      have hat : σ2 M 17 = nI t := by rw [← hσ2]; exact s2_same _ _ _ _
      have hwr : σ2 M 18 = bI true := by rw [← hσ2]; exact s2_keep hwr (by omega)
      refine r_aload_n hc dX12_one_53 rfl ?_
      refine gf_X12_175 (x := bI true) hc (MS0 hM) hwr dX12_one_54 ?_
      refine r_if_eq (tgt := 64) hc dX12_one_57 (by decide) (bI_0 _) (fun c_57 => ?_) (fun c_57 => ?_)
      ·
        exact Bool.noConfusion c_57
      ·
        have c_57 := bnf c_57
        refine r_iconst (v := nI 0) hc dX12_one_60 rfl ?_
        refine r_goto (tgt := 65) hc dX12_one_61 (by decide) ?_
        exact hR _ _ ⟨rfl, by rw [← hσ2, ← hσ1, show nI 1 = bI true from rfl, s2_self (show s2 σ M 18 (bI true) M 17 = nI t by rw [s2_nk (by decide)]; exact hat0), s2_self hwr0]⟩ rfl _ _ dX12_one_65
  ·
    exact Bool.noConfusion c_12
set_option maxRecDepth 100000 in
set_option maxHeartbeats 4000000 in
theorem c_X12_one {Ω : OmT} {z : Nat} {sh : Nat → Option Kd} {σ : Nat → Nat → Int32} {ρ : Nat → Nat → Option Nat} {M : Nat} (hM : MSh sh ρ M) {p : Nat → Nat} {ln : Nat} (hln : σ M 6 = nI ln) (hpr : rowAt σ (M + 5) ln p) (hl80 : ln ≤ 80) (hp : ∀ j, j < ln → p j < 256) {t : Nat} (hat : σ M 17 = nI t) (ht : t ≤ ln) (hwr : σ M 18 = bI false) {lo hi hi2 : Nat} (hlo : 0 < lo ∧ lo < 200 ∧ hi < 200) (hhi : hi2 = lo + hi) : CtI Ω yX12_one cX12_one 4 .int rm_X12_one [.ref M, .int (nI lo), .int (nI hi)] (z, sh, σ, ρ) (fun r u => r = nI (pB p ln lo hi2 t).2.2 ∧ u = (z, sh, s2 (s2 σ M 18 (bI (!(pB p ln lo hi2 t).1))) M 17 (nI (pB p ln lo hi2 t).2.1), ρ)) := by
  refine CtI.enter (by decide) (Nat.le_of_ble_eq_true rfl) (fun Φ hc hR => ?_)
  show Vw Ω Φ (z, sh, σ, ρ) (0, 0) 0 [(0, .ref M), (1, .int (nI lo)), (2, .int (nI hi))] []
  refine r_aload_n hc dX12_one_0 rfl ?_
  refine cl_X12_172 (As := []) hc (c_X12_sign hM hln hpr hl80 hp (t := t) hat (by omega)) (MS0 hM) rfl ⟨by decide, by decide⟩ ⟨rfl, rfl⟩ ⟨by decide, by decide⟩ rfl (Nat.le_of_ble_eq_true rfl) dX12_one_1 (fun r u hp => ?_)
  obtain ⟨rfl, hu⟩ := hp
  rw [hu]
  have hs256 : sgn p ln t < 256 := by unfold sgn; split; exact hp _ (by assumption); omega
  refine r_iload_n hc dX12_one_4 rfl ?_
  refine r_isub (v := zI (((sgn p ln t : Nat) : Int) - ((lo : Nat) : Int))) hc dX12_one_5 (sb_NN _ _) ?_
  refine r_istore_n (ls' := [(3, .int (zI (((sgn p ln t : Nat) : Int) - ((lo : Nat) : Int)))), (0, .ref M), (1, .int (nI lo)), (2, .int (nI hi))]) hc dX12_one_6 (by decide) rfl ?_
  refine r_aload_n hc dX12_one_7 rfl ?_
  refine r_aload_n hc dX12_one_8 rfl ?_
  refine gf_X12_175 (x := bI false) hc (MS0 hM) hwr dX12_one_9 ?_
  refine r_if_ne (tgt := 24) hc dX12_one_12 (by decide) (bI_0 _) (fun c_12 => ?_) (fun c_12 => ?_)
  ·
    exact absurd rfl c_12
  ·
    refine r_iload_n hc dX12_one_15 rfl ?_
    refine r_iconst (v := nI 0) hc dX12_one_16 rfl ?_
    refine r_iload_n hc dX12_one_17 rfl ?_
    refine cl_X12_41 (As := [.int (zI (((sgn p ln t : Nat) : Int) - ((lo : Nat) : Int))), .int (nI 0), .int (nI hi)]) hc (by simp only [nz]; exact c_X12_in (by omega) (by omega) (by omega)) rfl ⟨by decide, by decide⟩ ⟨rfl, rfl⟩ ⟨by decide, by decide⟩ rfl (Nat.le_of_ble_eq_true rfl) dX12_one_18 (fun r u hp => ?_)
    obtain ⟨rfl, hu⟩ := hp
    rw [hu]
    refine r_if_ne (tgt := 28) hc dX12_one_21 (by decide) (bI_0 _) (fun c_21 => ?_) (fun c_21 => ?_)
    ·
      have c_21 := bnf c_21
      have c_21 := of_decide_eq_true c_21
      refine r_iconst (v := nI 0) hc dX12_one_28 rfl ?_
      refine pf_X12_175 hc (MS0 hM) (by rfl) (by rfl) dX12_one_29 ?_
      generalize hσ1 : s2 σ M 18 (nI 0) = σ1
      have hln : σ1 M 6 = nI ln := by rw [← hσ1]; exact s2_keep hln (by omega)
      have hpr : rowAt σ1 (M + 5) ln p := by rw [← hσ1]; exact hpr.keep (by omega) _ _
      have hat : σ1 M 17 = nI t := by rw [← hσ1]; exact s2_keep hat (by omega)
      have hwr : σ1 M 18 = nI 0 := by rw [← hσ1]; exact s2_same _ _ _ _
      have hwr : σ1 M 18 = bI false := hwr
      refine r_aload_n hc dX12_one_32 rfl ?_
      refine r_dup hc dX12_one_33 rfl ?_
      refine gf_X12_169 (x := nI t) hc (MS0 hM) hat dX12_one_34 ?_
      refine r_aload_n hc dX12_one_37 rfl ?_
      refine gf_X12_175 (x := bI false) hc (MS0 hM) hwr dX12_one_38 ?_
      refine r_if_eq (tgt := 48) hc dX12_one_41 (by decide) (bI_0 _) (fun c_41 => ?_) (fun c_41 => ?_)
      ·
        refine r_iconst (v := nI 1) hc dX12_one_48 rfl ?_
        refine r_iadd (v := nI (t + 1)) hc dX12_one_49 (ad_NN _ _) ?_
        refine pf_X12_169 hc (MS0 hM) dX12_one_50 ?_
        generalize hσ2 : s2 σ1 M 17 (nI (t + 1)) = σ2
        have hln : σ2 M 6 = nI ln := by rw [← hσ2]; exact s2_keep hln (by omega)
        have hpr : rowAt σ2 (M + 5) ln p := by rw [← hσ2]; exact hpr.keep (by omega) _ _
        have hat : σ2 M 17 = nI (t + 1) := by rw [← hσ2]; exact s2_same _ _ _ _
        have hwr : σ2 M 18 = bI false := by rw [← hσ2]; exact s2_keep hwr (by omega)
        refine r_aload_n hc dX12_one_53 rfl ?_
        refine gf_X12_175 (x := bI false) hc (MS0 hM) hwr dX12_one_54 ?_
        refine r_if_eq (tgt := 64) hc dX12_one_57 (by decide) (bI_0 _) (fun c_57 => ?_) (fun c_57 => ?_)
        ·
          refine r_iload_n hc dX12_one_64 rfl ?_
          have hE : pB p ln lo hi2 t = (true, t + 1, sgn p ln t - lo) := by unfold pB; rw [if_pos (by omega)]
          rw [hE] at hR
          exact hR _ _ ⟨zn (show _ = ((sgn p ln t - lo : Nat) : Int) by omega), by rw [← hσ2, ← hσ1]; rfl⟩ rfl _ _ dX12_one_65
        ·
          exact absurd rfl c_57
      ·
        exact absurd rfl c_41
    ·
      have c_21 := of_decide_eq_false c_21
      refine r_iconst (v := nI 1) hc dX12_one_24 rfl ?_
      refine r_goto (tgt := 29) hc dX12_one_25 (by decide) ?_
      refine pf_X12_175 hc (MS0 hM) (by rfl) (by rfl) dX12_one_29 ?_
      generalize hσ3 : s2 σ M 18 (nI 1) = σ3
      have hln : σ3 M 6 = nI ln := by rw [← hσ3]; exact s2_keep hln (by omega)
      have hpr : rowAt σ3 (M + 5) ln p := by rw [← hσ3]; exact hpr.keep (by omega) _ _
      have hat : σ3 M 17 = nI t := by rw [← hσ3]; exact s2_keep hat (by omega)
      have hwr : σ3 M 18 = nI 1 := by rw [← hσ3]; exact s2_same _ _ _ _
      have hwr : σ3 M 18 = bI true := hwr
      refine r_aload_n hc dX12_one_32 rfl ?_
      refine r_dup hc dX12_one_33 rfl ?_
      refine gf_X12_169 (x := nI t) hc (MS0 hM) hat dX12_one_34 ?_
      refine r_aload_n hc dX12_one_37 rfl ?_
      refine gf_X12_175 (x := bI true) hc (MS0 hM) hwr dX12_one_38 ?_
      refine r_if_eq (tgt := 48) hc dX12_one_41 (by decide) (bI_0 _) (fun c_41 => ?_) (fun c_41 => ?_)
      ·
        exact Bool.noConfusion c_41
      ·
        have c_41 := bnf c_41
        refine r_iconst (v := nI 0) hc dX12_one_44 rfl ?_
        refine r_goto (tgt := 49) hc dX12_one_45 (by decide) ?_
        refine r_iadd (v := nI t) hc dX12_one_49 (ad_NN _ 0) ?_
        refine pf_X12_169 hc (MS0 hM) dX12_one_50 ?_
        generalize hσ4 : s2 σ3 M 17 (nI t) = σ4
        have hln : σ4 M 6 = nI ln := by rw [← hσ4]; exact s2_keep hln (by omega)
        have hpr : rowAt σ4 (M + 5) ln p := by rw [← hσ4]; exact hpr.keep (by omega) _ _
        have hat : σ4 M 17 = nI t := by rw [← hσ4]; exact s2_same _ _ _ _
        have hwr : σ4 M 18 = bI true := by rw [← hσ4]; exact s2_keep hwr (by omega)
        refine r_aload_n hc dX12_one_53 rfl ?_
        refine gf_X12_175 (x := bI true) hc (MS0 hM) hwr dX12_one_54 ?_
        refine r_if_eq (tgt := 64) hc dX12_one_57 (by decide) (bI_0 _) (fun c_57 => ?_) (fun c_57 => ?_)
        ·
          exact Bool.noConfusion c_57
        ·
          have c_57 := bnf c_57
          refine r_iconst (v := nI 0) hc dX12_one_60 rfl ?_
          refine r_goto (tgt := 65) hc dX12_one_61 (by decide) ?_
          have hE : pB p ln lo hi2 t = (false, t, 0) := by unfold pB; rw [if_neg (by omega)]
          rw [hE] at hR
          exact hR _ _ ⟨rfl, by rw [← hσ4, ← hσ3]; rfl⟩ rfl _ _ dX12_one_65
set_option maxRecDepth 100000 in
set_option maxHeartbeats 4000000 in
theorem c_X12_between_T {Ω : OmT} {z : Nat} {sh : Nat → Option Kd} {σ : Nat → Nat → Int32} {ρ : Nat → Nat → Option Nat} {M : Nat} (hM : MSh sh ρ M) {p : Nat → Nat} {ln : Nat} (hln : σ M 6 = nI ln) (hpr : rowAt σ (M + 5) ln p) (hl80 : ln ≤ 80) (hp : ∀ j, j < ln → p j < 256) {t : Nat} (hat : σ M 17 = nI t) (ht : t ≤ ln) (hwr : σ M 18 = bI true) {c : Nat} : CtV Ω yX12_between cX12_between 2 rm_X12_between [.ref M, .int (nI c)] (z, sh, σ, ρ) (fun u => u = (z, sh, σ, ρ)) := by
  have hwr0 := hwr
  have hat0 := hat
  refine CtV.enter (by decide) (Nat.le_of_ble_eq_true rfl) (fun Φ hc hi hR => ?_)
  show Vw Ω Φ (z, sh, σ, ρ) (0, 0) 0 [(0, .ref M), (1, .int (nI c))] []
  refine r_aload_n hc dX12_between_0 rfl ?_
  refine r_aload_n hc dX12_between_1 rfl ?_
  refine gf_X12_175 (x := bI true) hc (MS0 hM) hwr dX12_between_2 ?_
  refine r_if_ne (tgt := 16) hc dX12_between_5 (by decide) (bI_0 _) (fun c_5 => ?_) (fun c_5 => ?_)
  ·
    have c_5 := bnf c_5
    refine r_iconst (v := nI 1) hc dX12_between_16 rfl ?_
    refine r_goto (tgt := 21) hc dX12_between_17 (by decide) ?_
    refine pf_X12_175 hc (MS0 hM) (by rfl) (by rfl) dX12_between_21 ?_
    generalize hσ1 : s2 σ M 18 (nI 1) = σ1
    have hln : σ1 M 6 = nI ln := by rw [← hσ1]; exact s2_keep hln (by omega)
    have hpr : rowAt σ1 (M + 5) ln p := by rw [← hσ1]; exact hpr.keep (by omega) _ _
    have hat : σ1 M 17 = nI t := by rw [← hσ1]; exact s2_keep hat (by omega)
    have hwr : σ1 M 18 = nI 1 := by rw [← hσ1]; exact s2_same _ _ _ _
    have hwr : σ1 M 18 = bI true := hwr
    refine r_aload_n hc dX12_between_24 rfl ?_
    refine r_dup hc dX12_between_25 rfl ?_
    refine gf_X12_169 (x := nI t) hc (MS0 hM) hat dX12_between_26 ?_
    refine r_aload_n hc dX12_between_29 rfl ?_
    refine gf_X12_175 (x := bI true) hc (MS0 hM) hwr dX12_between_30 ?_
    refine r_if_eq (tgt := 40) hc dX12_between_33 (by decide) (bI_0 _) (fun c_33 => ?_) (fun c_33 => ?_)
    ·
      exact Bool.noConfusion c_33
    ·
      have c_33 := bnf c_33
      refine r_iconst (v := nI 0) hc dX12_between_36 rfl ?_
      refine r_goto (tgt := 41) hc dX12_between_37 (by decide) ?_
      refine r_iadd (v := nI t) hc dX12_between_41 (ad_NN _ 0) ?_
      refine pf_X12_169 hc (MS0 hM) dX12_between_42 ?_
      generalize hσ2 : s2 σ1 M 17 (nI t) = σ2
      have hln : σ2 M 6 = nI ln := by rw [← hσ2]; exact s2_keep hln (by omega)
      have hpr : rowAt σ2 (M + 5) ln p := by rw [← hσ2]; exact hpr.keep (by omega) _ _
      have hat : σ2 M 17 = nI t := by rw [← hσ2]; exact s2_same _ _ _ _
      have hwr : σ2 M 18 = bI true := by rw [← hσ2]; exact s2_keep hwr (by omega)
      exact hR _ (by rw [← hσ2, ← hσ1, show nI 1 = bI true from rfl, s2_self (show s2 σ M 18 (bI true) M 17 = nI t by rw [s2_nk (by decide)]; exact hat0), s2_self hwr0]) _ _ dX12_between_45
  ·
    exact Bool.noConfusion c_5
set_option maxRecDepth 100000 in
set_option maxHeartbeats 4000000 in
theorem c_X12_between {Ω : OmT} {z : Nat} {sh : Nat → Option Kd} {σ : Nat → Nat → Int32} {ρ : Nat → Nat → Option Nat} {M : Nat} (hM : MSh sh ρ M) {p : Nat → Nat} {ln : Nat} (hln : σ M 6 = nI ln) (hpr : rowAt σ (M + 5) ln p) (hl80 : ln ≤ 80) (hp : ∀ j, j < ln → p j < 256) {t : Nat} (hat : σ M 17 = nI t) (ht : t ≤ ln) (hwr : σ M 18 = bI false) {c : Nat} (hc0 : c < 200) : CtV Ω yX12_between cX12_between 2 rm_X12_between [.ref M, .int (nI c)] (z, sh, σ, ρ) (fun u => u = (z, sh, s2 (s2 σ M 18 (bI (!(pS p ln c t).1))) M 17 (nI (pS p ln c t).2), ρ)) := by
  refine CtV.enter (by decide) (Nat.le_of_ble_eq_true rfl) (fun Φ hc hi hR => ?_)
  show Vw Ω Φ (z, sh, σ, ρ) (0, 0) 0 [(0, .ref M), (1, .int (nI c))] []
  refine r_aload_n hc dX12_between_0 rfl ?_
  refine r_aload_n hc dX12_between_1 rfl ?_
  refine gf_X12_175 (x := bI false) hc (MS0 hM) hwr dX12_between_2 ?_
  refine r_if_ne (tgt := 16) hc dX12_between_5 (by decide) (bI_0 _) (fun c_5 => ?_) (fun c_5 => ?_)
  ·
    exact absurd rfl c_5
  ·
    refine r_aload_n hc dX12_between_8 rfl ?_
    refine cl_X12_172 (As := []) hc (c_X12_sign hM hln hpr hl80 hp (t := t) hat (by omega)) (MS0 hM) rfl ⟨by decide, by decide⟩ ⟨rfl, rfl⟩ ⟨by decide, by decide⟩ rfl (Nat.le_of_ble_eq_true rfl) dX12_between_9 (fun r u hp => ?_)
    obtain ⟨rfl, hu⟩ := hp
    rw [hu]
    have hs256 : sgn p ln t < 256 := by unfold sgn; split; exact hp _ (by assumption); omega
    refine r_iload_n hc dX12_between_12 rfl ?_
    refine r_icmp_eq (tgt := 20) hc dX12_between_13 (by decide) (eq_NN (by omega) (by omega)) (fun c_13 => ?_) (fun c_13 => ?_)
    ·
      refine r_iconst (v := nI 0) hc dX12_between_20 rfl ?_
      refine pf_X12_175 hc (MS0 hM) (by rfl) (by rfl) dX12_between_21 ?_
      generalize hσ1 : s2 σ M 18 (nI 0) = σ1
      have hln : σ1 M 6 = nI ln := by rw [← hσ1]; exact s2_keep hln (by omega)
      have hpr : rowAt σ1 (M + 5) ln p := by rw [← hσ1]; exact hpr.keep (by omega) _ _
      have hat : σ1 M 17 = nI t := by rw [← hσ1]; exact s2_keep hat (by omega)
      have hwr : σ1 M 18 = nI 0 := by rw [← hσ1]; exact s2_same _ _ _ _
      have hwr : σ1 M 18 = bI false := hwr
      refine r_aload_n hc dX12_between_24 rfl ?_
      refine r_dup hc dX12_between_25 rfl ?_
      refine gf_X12_169 (x := nI t) hc (MS0 hM) hat dX12_between_26 ?_
      refine r_aload_n hc dX12_between_29 rfl ?_
      refine gf_X12_175 (x := bI false) hc (MS0 hM) hwr dX12_between_30 ?_
      refine r_if_eq (tgt := 40) hc dX12_between_33 (by decide) (bI_0 _) (fun c_33 => ?_) (fun c_33 => ?_)
      ·
        refine r_iconst (v := nI 1) hc dX12_between_40 rfl ?_
        refine r_iadd (v := nI (t + 1)) hc dX12_between_41 (ad_NN _ _) ?_
        refine pf_X12_169 hc (MS0 hM) dX12_between_42 ?_
        generalize hσ2 : s2 σ1 M 17 (nI (t + 1)) = σ2
        have hln : σ2 M 6 = nI ln := by rw [← hσ2]; exact s2_keep hln (by omega)
        have hpr : rowAt σ2 (M + 5) ln p := by rw [← hσ2]; exact hpr.keep (by omega) _ _
        have hat : σ2 M 17 = nI (t + 1) := by rw [← hσ2]; exact s2_same _ _ _ _
        have hwr : σ2 M 18 = bI false := by rw [← hσ2]; exact s2_keep hwr (by omega)
        have hE : pS p ln c t = (true, t + 1) := by unfold pS; rw [if_pos (by omega)]
        rw [hE] at hR
        exact hR _ (by rw [← hσ2, ← hσ1]; rfl) _ _ dX12_between_45
      ·
        exact absurd rfl c_33
    ·
      refine r_iconst (v := nI 1) hc dX12_between_16 rfl ?_
      refine r_goto (tgt := 21) hc dX12_between_17 (by decide) ?_
      refine pf_X12_175 hc (MS0 hM) (by rfl) (by rfl) dX12_between_21 ?_
      generalize hσ3 : s2 σ M 18 (nI 1) = σ3
      have hln : σ3 M 6 = nI ln := by rw [← hσ3]; exact s2_keep hln (by omega)
      have hpr : rowAt σ3 (M + 5) ln p := by rw [← hσ3]; exact hpr.keep (by omega) _ _
      have hat : σ3 M 17 = nI t := by rw [← hσ3]; exact s2_keep hat (by omega)
      have hwr : σ3 M 18 = nI 1 := by rw [← hσ3]; exact s2_same _ _ _ _
      have hwr : σ3 M 18 = bI true := hwr
      refine r_aload_n hc dX12_between_24 rfl ?_
      refine r_dup hc dX12_between_25 rfl ?_
      refine gf_X12_169 (x := nI t) hc (MS0 hM) hat dX12_between_26 ?_
      refine r_aload_n hc dX12_between_29 rfl ?_
      refine gf_X12_175 (x := bI true) hc (MS0 hM) hwr dX12_between_30 ?_
      refine r_if_eq (tgt := 40) hc dX12_between_33 (by decide) (bI_0 _) (fun c_33 => ?_) (fun c_33 => ?_)
      ·
        exact Bool.noConfusion c_33
      ·
        have c_33 := bnf c_33
        refine r_iconst (v := nI 0) hc dX12_between_36 rfl ?_
        refine r_goto (tgt := 41) hc dX12_between_37 (by decide) ?_
        refine r_iadd (v := nI t) hc dX12_between_41 (ad_NN _ 0) ?_
        refine pf_X12_169 hc (MS0 hM) dX12_between_42 ?_
        generalize hσ4 : s2 σ3 M 17 (nI t) = σ4
        have hln : σ4 M 6 = nI ln := by rw [← hσ4]; exact s2_keep hln (by omega)
        have hpr : rowAt σ4 (M + 5) ln p := by rw [← hσ4]; exact hpr.keep (by omega) _ _
        have hat : σ4 M 17 = nI t := by rw [← hσ4]; exact s2_same _ _ _ _
        have hwr : σ4 M 18 = bI true := by rw [← hσ4]; exact s2_keep hwr (by omega)
        have hE : pS p ln c t = (false, t) := by unfold pS; rw [if_neg (by omega)]
        rw [hE] at hR
        exact hR _ (by rw [← hσ4, ← hσ3]; rfl) _ _ dX12_between_45
set_option maxRecDepth 100000 in
set_option maxHeartbeats 4000000 in
theorem c_X12_cuts_T {Ω : OmT} {z : Nat} {sh : Nat → Option Kd} {σ : Nat → Nat → Int32} {ρ : Nat → Nat → Option Nat} {M : Nat} (hM : MSh sh ρ M) {p : Nat → Nat} {ln : Nat} (hln : σ M 6 = nI ln) (hpr : rowAt σ (M + 5) ln p) (hl80 : ln ≤ 80) (hp : ∀ j, j < ln → p j < 256) {t : Nat} (hat : σ M 17 = nI t) (ht : t ≤ ln) (hwr : σ M 18 = bI true) : CtI Ω yX12_cuts cX12_cuts 3 .int rm_X12_cuts [.ref M] (z, sh, σ, ρ) (fun r u => r = nI 0 ∧ u = (z, sh, σ, ρ)) := by
  refine CtI.enter (by decide) (Nat.le_of_ble_eq_true rfl) (fun Φ hc hR => ?_)
  show Vw Ω Φ (z, sh, σ, ρ) (0, 0) 0 [(0, .ref M)] []
  refine r_iconst (v := nI 0) hc dX12_cuts_0 rfl ?_
  refine r_istore_n (ls' := [(1, .int (nI 0)), (0, .ref M)]) hc dX12_cuts_1 (by decide) rfl ?_
  refine r_iconst (v := nI 0) hc dX12_cuts_2 rfl ?_
  refine r_istore_n (ls' := [(2, .int (nI 0)), (1, .int (nI 0)), (0, .ref M)]) hc dX12_cuts_3 (by decide) rfl ?_
  have loop4 : ∀ (n4 : Nat) (x : Nat) (k : Nat), (k ≤ 4) → (x = 0) → (4 - k) < n4 → Vw Ω Φ (z, sh, σ, ρ) (0, 0) 4 [(0, .ref M), (1, .int (nI x)), (2, .int (nI k))] [] := by
    intro n4
    induction n4 with
    | zero => intro x k hk hx hm; exact absurd hm (Nat.not_lt_zero _)
    | succ n4 ih4 =>
      intro x k hk hx hm4
      refine r_iload_n hc dX12_cuts_4 rfl ?_
      refine r_iconst (v := nI 4) hc dX12_cuts_5 rfl ?_
      refine r_icmp_ge (tgt := 29) hc dX12_cuts_6 (by decide) (le_NN (by omega) (by omega)) (fun c_6 => ?_) (fun c_6 => ?_)
      ·
        refine r_iload_n hc dX12_cuts_29 rfl ?_
        exact hR _ _ ⟨congrArg nI hx, rfl⟩ rfl _ _ dX12_cuts_30
      ·
        refine r_bipush (v := nI 10) hc dX12_cuts_9 rfl ?_
        refine r_iload_n hc dX12_cuts_11 rfl ?_
        refine r_imul (v := nI (10 * x)) hc dX12_cuts_12 (ml_NN _ _) ?_
        refine r_aload_n hc dX12_cuts_13 rfl ?_
        refine r_bipush (v := nI 48) hc dX12_cuts_14 rfl ?_
        refine r_bipush (v := nI 9) hc dX12_cuts_16 rfl ?_
        refine cl_X12_178 (As := [.int (nI 48), .int (nI 9)]) hc (c_X12_one_T hM hln hpr hl80 hp (t := t) hat (by omega) hwr (lo := 48) (hi := 9) (by omega)) (MS0 hM) rfl ⟨by decide, by decide⟩ ⟨rfl, rfl⟩ ⟨by decide, by decide⟩ rfl (Nat.le_of_ble_eq_true rfl) dX12_cuts_18 (fun r u hp => ?_)
        obtain ⟨rfl, hu⟩ := hp
        rw [hu]
        refine r_iadd (v := nI (10 * x)) hc dX12_cuts_21 (ad_NN _ 0) ?_
        refine r_istore_n (ls' := [(1, .int (nI (10 * x))), (0, .ref M), (2, .int (nI k))]) hc dX12_cuts_22 (by decide) rfl ?_
        refine r_iinc (v := nI (k + 1)) (ls' := [(2, .int (nI (k + 1))), (1, .int (nI (10 * x))), (0, .ref M)]) hc dX12_cuts_23 rfl (ad_NN _ 1) (by decide) rfl ?_
        refine r_goto (tgt := 4) hc dX12_cuts_26 (by decide) ?_
        refine r_locp [2, 1, 0] (ls' := [(0, .ref M), (1, .int (nI (10 * x))), (2, .int (nI (k + 1)))]) rfl ?_
        exact ih4 (10 * x) (k + 1) (by omega) (by omega) (by omega)
  refine r_locp [2, 1, 0] (ls' := [(0, .ref M), (1, .int (nI 0)), (2, .int (nI 0))]) rfl ?_
  exact loop4 _ 0 0 (by omega) rfl (Nat.lt_succ_self _)
set_option maxRecDepth 100000 in
set_option maxHeartbeats 4000000 in
theorem c_X12_cuts {Ω : OmT} {z : Nat} {sh : Nat → Option Kd} {σ : Nat → Nat → Int32} {ρ : Nat → Nat → Option Nat} {M : Nat} (hM : MSh sh ρ M) {p : Nat → Nat} {ln : Nat} (hln : σ M 6 = nI ln) (hpr : rowAt σ (M + 5) ln p) (hl80 : ln ≤ 80) (hp : ∀ j, j < ln → p j < 256) {t : Nat} (hat : σ M 17 = nI t) (ht : t ≤ ln) (hwr : σ M 18 = bI false) : CtI Ω yX12_cuts cX12_cuts 3 .int rm_X12_cuts [.ref M] (z, sh, σ, ρ) (fun r u => ∃ x : Nat, r = nI x ∧ ((pC p ln 4 0 t).1 = true → x = (pC p ln 4 0 t).2.2) ∧ u = (z, sh, s2 (s2 σ M 18 (bI (!(pC p ln 4 0 t).1))) M 17 (nI (pC p ln 4 0 t).2.1), ρ)) := by
  refine CtI.enter (by decide) (Nat.le_of_ble_eq_true rfl) (fun Φ hc hR => ?_)
  show Vw Ω Φ (z, sh, σ, ρ) (0, 0) 0 [(0, .ref M)] []
  refine r_iconst (v := nI 0) hc dX12_cuts_0 rfl ?_
  refine r_istore_n (ls' := [(1, .int (nI 0)), (0, .ref M)]) hc dX12_cuts_1 (by decide) rfl ?_
  refine r_iconst (v := nI 0) hc dX12_cuts_2 rfl ?_
  refine r_istore_n (ls' := [(2, .int (nI 0)), (1, .int (nI 0)), (0, .ref M)]) hc dX12_cuts_3 (by decide) rfl ?_
  have loop4 : ∀ (n4 : Nat) (τ : Nat → Nat → Int32) (W : Bool) (s : Nat) (x : Nat) (k : Nat), (k ≤ 4) → (s ≤ ln) → (τ M 6 = nI ln) → (rowAt τ (M + 5) ln p) → (τ M 17 = nI s) → (τ = s2 (s2 σ M 18 (bI W)) M 17 (nI s)) → ((W = false ∧ pC p ln (4 - k) x s = pC p ln 4 0 t) ∨ (W = true ∧ (pC p ln 4 0 t).1 = false ∧ (pC p ln 4 0 t).2.1 = s)) → (4 - k) < n4 → Vw Ω Φ (z, sh, τ, ρ) (0, 0) 4 [(0, .ref M), (1, .int (nI x)), (2, .int (nI k))] [] := by
    intro n4
    induction n4 with
    | zero => intro τ W s x k hk hs hln hpr hat hst hf hm; exact absurd hm (Nat.not_lt_zero _)
    | succ n4 ih4 =>
      intro τ W s x k hk hs hln hpr hat hst hf hm4
      refine r_iload_n hc dX12_cuts_4 rfl ?_
      refine r_iconst (v := nI 4) hc dX12_cuts_5 rfl ?_
      refine r_icmp_ge (tgt := 29) hc dX12_cuts_6 (by decide) (le_NN (by omega) (by omega)) (fun c_6 => ?_) (fun c_6 => ?_)
      ·
        refine r_iload_n hc dX12_cuts_29 rfl ?_
        rcases hf with ⟨hW, hq⟩ | ⟨hW, hq1, hq2⟩
        · rw [show 4 - k = 0 by omega, pC] at hq; rw [← hq] at hR; exact hR _ _ ⟨x, rfl, fun _ => rfl, by rw [hst, hW]; rfl⟩ rfl _ _ dX12_cuts_30
        · exact hR _ _ ⟨x, rfl, fun q => by (rw [hq1] at q; exact Bool.noConfusion q), by rw [hst, hW, hq1, hq2]; rfl⟩ rfl _ _ dX12_cuts_30
      ·
        rcases hf with ⟨hW, hq⟩ | ⟨hW, hq1, hq2⟩
        ·
          subst hW
          have hwr : τ M 18 = bI false := by rw [hst, s2_nk (by decide)]; exact s2_same _ _ _ _
          refine r_bipush (v := nI 10) hc dX12_cuts_9 rfl ?_
          refine r_iload_n hc dX12_cuts_11 rfl ?_
          refine r_imul (v := nI (10 * x)) hc dX12_cuts_12 (ml_NN _ _) ?_
          refine r_aload_n hc dX12_cuts_13 rfl ?_
          refine r_bipush (v := nI 48) hc dX12_cuts_14 rfl ?_
          refine r_bipush (v := nI 9) hc dX12_cuts_16 rfl ?_
          refine cl_X12_178 (As := [.int (nI 48), .int (nI 9)]) hc (c_X12_one hM hln hpr hl80 hp (t := s) hat (by omega) hwr (lo := 48) (hi := 9) (hi2 := 57) (by omega) rfl) (MS0 hM) rfl ⟨by decide, by decide⟩ ⟨rfl, rfl⟩ ⟨by decide, by decide⟩ rfl (Nat.le_of_ble_eq_true rfl) dX12_cuts_18 (fun r u hcl => ?_)
          obtain ⟨hrr, hu⟩ := hcl
          rw [hu, hrr]
          by_cases hb18 : (pB p ln 48 57 s).1 = true
          ·
            rw [show (!(pB p ln 48 57 s).1) = false by rw [hb18]; rfl]
            generalize hσ1 : s2 τ M 18 (bI false) = σ1
            have hln : σ1 M 6 = nI ln := by rw [← hσ1]; exact s2_keep hln (by omega)
            have hpr : rowAt σ1 (M + 5) ln p := by rw [← hσ1]; exact hpr.keep (by omega) _ _
            have hat : σ1 M 17 = nI s := by rw [← hσ1]; exact s2_keep hat (by omega)
            have hwr : σ1 M 18 = bI false := by rw [← hσ1]; exact s2_same _ _ _ _
            generalize hσ2 : s2 σ1 M 17 (nI ((pB p ln 48 57 s).2.1)) = σ2
            have hln : σ2 M 6 = nI ln := by rw [← hσ2]; exact s2_keep hln (by omega)
            have hpr : rowAt σ2 (M + 5) ln p := by rw [← hσ2]; exact hpr.keep (by omega) _ _
            have hat : σ2 M 17 = nI ((pB p ln 48 57 s).2.1) := by rw [← hσ2]; exact s2_same _ _ _ _
            have hwr : σ2 M 18 = bI false := by rw [← hσ2]; exact s2_keep hwr (by omega)
            have hbo := pB_ok hb18
            have hbt : (pB p ln 48 57 s).2.1 = s + 1 := by rw [hbo.2]
            have hbv : (pB p ln 48 57 s).2.2 = sgn p ln s - 48 := by rw [hbo.2]
            have hbl := sgn_pos (p := p) (ln := ln) (t := s) (by omega)
            have hat : σ2 M 17 = nI (s + 1) := by rw [hat, hbt]
            refine r_iadd (v := nI (10 * x + ((pB p ln 48 57 s).2.2))) hc dX12_cuts_21 (ad_NN _ _) ?_
            refine r_istore_n (ls' := [(1, .int (nI (10 * x + ((pB p ln 48 57 s).2.2)))), (0, .ref M), (2, .int (nI k))]) hc dX12_cuts_22 (by decide) rfl ?_
            refine r_iinc (v := nI (k + 1)) (ls' := [(2, .int (nI (k + 1))), (1, .int (nI (10 * x + ((pB p ln 48 57 s).2.2)))), (0, .ref M)]) hc dX12_cuts_23 rfl (ad_NN _ 1) (by decide) rfl ?_
            refine r_goto (tgt := 4) hc dX12_cuts_26 (by decide) ?_
            refine r_locp [2, 1, 0] (ls' := [(0, .ref M), (1, .int (nI (10 * x + ((pB p ln 48 57 s).2.2)))), (2, .int (nI (k + 1)))]) rfl ?_
            exact ih4 σ2 false (s + 1) (10 * x + ((pB p ln 48 57 s).2.2)) (k + 1) (by omega) (by omega) hln hpr hat (by rw [← hσ2, ← hσ1, hbt, hst]; exact s2_pair _ _ _ _ _ _ _ _ (by decide)) (Or.inl ⟨rfl, by rw [← hq, show 4 - k = (4 - (k + 1)) + 1 by omega, pC_step hb18, hbt, Nat.mul_comm x 10]⟩) (by omega)
          ·
            rw [show (!(pB p ln 48 57 s).1) = true by rw [Bool.eq_false_iff.mpr hb18]; rfl]
            generalize hσ3 : s2 τ M 18 (bI true) = σ3
            have hln : σ3 M 6 = nI ln := by rw [← hσ3]; exact s2_keep hln (by omega)
            have hpr : rowAt σ3 (M + 5) ln p := by rw [← hσ3]; exact hpr.keep (by omega) _ _
            have hat : σ3 M 17 = nI s := by rw [← hσ3]; exact s2_keep hat (by omega)
            have hwr : σ3 M 18 = bI true := by rw [← hσ3]; exact s2_same _ _ _ _
            generalize hσ4 : s2 σ3 M 17 (nI ((pB p ln 48 57 s).2.1)) = σ4
            have hln : σ4 M 6 = nI ln := by rw [← hσ4]; exact s2_keep hln (by omega)
            have hpr : rowAt σ4 (M + 5) ln p := by rw [← hσ4]; exact hpr.keep (by omega) _ _
            have hat : σ4 M 17 = nI ((pB p ln 48 57 s).2.1) := by rw [← hσ4]; exact s2_same _ _ _ _
            have hwr : σ4 M 18 = bI true := by rw [← hσ4]; exact s2_keep hwr (by omega)
            have hbn := pB_no hb18
            have hbt : (pB p ln 48 57 s).2.1 = s := by rw [hbn]
            have hat : σ4 M 17 = nI (s) := by rw [hat, hbt]
            refine r_iadd (v := nI (10 * x + ((pB p ln 48 57 s).2.2))) hc dX12_cuts_21 (ad_NN _ _) ?_
            refine r_istore_n (ls' := [(1, .int (nI (10 * x + ((pB p ln 48 57 s).2.2)))), (0, .ref M), (2, .int (nI k))]) hc dX12_cuts_22 (by decide) rfl ?_
            refine r_iinc (v := nI (k + 1)) (ls' := [(2, .int (nI (k + 1))), (1, .int (nI (10 * x + ((pB p ln 48 57 s).2.2)))), (0, .ref M)]) hc dX12_cuts_23 rfl (ad_NN _ 1) (by decide) rfl ?_
            refine r_goto (tgt := 4) hc dX12_cuts_26 (by decide) ?_
            refine r_locp [2, 1, 0] (ls' := [(0, .ref M), (1, .int (nI (10 * x + ((pB p ln 48 57 s).2.2)))), (2, .int (nI (k + 1)))]) rfl ?_
            exact ih4 σ4 true s (10 * x + ((pB p ln 48 57 s).2.2)) (k + 1) (by omega) (by omega) hln hpr hat (by rw [← hσ4, ← hσ3, hbt, hst]; exact s2_pair _ _ _ _ _ _ _ _ (by decide)) (Or.inr ⟨rfl, by rw [← hq, show 4 - k = (3 - k) + 1 by omega, pC_fail hb18], by rw [← hq, show 4 - k = (3 - k) + 1 by omega, pC_fail hb18]⟩) (by omega)
        ·
          subst hW
          have hwr : τ M 18 = bI true := by rw [hst, s2_nk (by decide)]; exact s2_same _ _ _ _
          refine r_bipush (v := nI 10) hc dX12_cuts_9 rfl ?_
          refine r_iload_n hc dX12_cuts_11 rfl ?_
          refine r_imul (v := nI (10 * x)) hc dX12_cuts_12 (ml_NN _ _) ?_
          refine r_aload_n hc dX12_cuts_13 rfl ?_
          refine r_bipush (v := nI 48) hc dX12_cuts_14 rfl ?_
          refine r_bipush (v := nI 9) hc dX12_cuts_16 rfl ?_
          refine cl_X12_178 (As := [.int (nI 48), .int (nI 9)]) hc (c_X12_one_T hM hln hpr hl80 hp (t := s) hat (by omega) hwr (lo := 48) (hi := 9) (by omega)) (MS0 hM) rfl ⟨by decide, by decide⟩ ⟨rfl, rfl⟩ ⟨by decide, by decide⟩ rfl (Nat.le_of_ble_eq_true rfl) dX12_cuts_18 (fun r u hp => ?_)
          obtain ⟨rfl, hu⟩ := hp
          rw [hu]
          refine r_iadd (v := nI (10 * x)) hc dX12_cuts_21 (ad_NN _ 0) ?_
          refine r_istore_n (ls' := [(1, .int (nI (10 * x))), (0, .ref M), (2, .int (nI k))]) hc dX12_cuts_22 (by decide) rfl ?_
          refine r_iinc (v := nI (k + 1)) (ls' := [(2, .int (nI (k + 1))), (1, .int (nI (10 * x))), (0, .ref M)]) hc dX12_cuts_23 rfl (ad_NN _ 1) (by decide) rfl ?_
          refine r_goto (tgt := 4) hc dX12_cuts_26 (by decide) ?_
          refine r_locp [2, 1, 0] (ls' := [(0, .ref M), (1, .int (nI (10 * x))), (2, .int (nI (k + 1)))]) rfl ?_
          exact ih4 τ true s (10 * x) (k + 1) (by omega) (by omega) hln hpr hat hst (Or.inr ⟨rfl, hq1, hq2⟩) (by omega)
  refine r_locp [2, 1, 0] (ls' := [(0, .ref M), (1, .int (nI 0)), (2, .int (nI 0))]) rfl ?_
  exact loop4 _ σ false t 0 0 (by omega) (by omega) hln hpr hat (by rw [s2_self (show s2 σ M 18 (bI false) M 17 = nI t by rw [s2_nk (by decide)]; exact hat), s2_self hwr]) (Or.inl ⟨rfl, rfl⟩) (Nat.lt_succ_self _)
set_option maxRecDepth 100000 in
set_option maxHeartbeats 4000000 in
theorem c_X12_number {Ω : OmT} {z : Nat} {sh : Nat → Option Kd} {σ : Nat → Nat → Int32} {ρ : Nat → Nat → Option Nat} {M : Nat} (hM : MSh sh ρ M) {p : Nat → Nat} {ln : Nat} (hln : σ M 6 = nI ln) (hpr : rowAt σ (M + 5) ln p) (hl80 : ln ≤ 80) (hp : ∀ j, j < ln → p j < 256) {t : Nat} (hat : σ M 17 = nI t) (ht : t ≤ ln) (hwr : σ M 18 = bI false) : CtI Ω yX12_number cX12_number 2 .int rm_X12_number [.ref M] (z, sh, σ, ρ) (fun r u => ∃ x : Nat, r = nI x ∧ ((pNum p ln t).1 = true → x = (pNum p ln t).2.2) ∧ u = (z, sh, s2 (s2 σ M 18 (bI (!(pNum p ln t).1))) M 17 (nI (pNum p ln t).2.1), ρ)) := by
  refine CtI.enter (by decide) (Nat.le_of_ble_eq_true rfl) (fun Φ hc hR => ?_)
  show Vw Ω Φ (z, sh, σ, ρ) (0, 0) 0 [(0, .ref M)] []
  refine r_aload_n hc dX12_number_0 rfl ?_
  refine r_bipush (v := nI 48) hc dX12_number_1 rfl ?_
  refine r_bipush (v := nI 9) hc dX12_number_3 rfl ?_
  refine cl_X12_178 (As := [.int (nI 48), .int (nI 9)]) hc (c_X12_one hM hln hpr hl80 hp (t := t) hat (by omega) hwr (lo := 48) (hi := 9) (hi2 := 57) (by omega) rfl) (MS0 hM) rfl ⟨by decide, by decide⟩ ⟨rfl, rfl⟩ ⟨by decide, by decide⟩ rfl (Nat.le_of_ble_eq_true rfl) dX12_number_5 (fun r u hcl => ?_)
  obtain ⟨hrr, hu⟩ := hcl
  rw [hu, hrr]
  by_cases hb5 : (pB p ln 48 57 t).1 = true
  ·
    rw [show (!(pB p ln 48 57 t).1) = false by rw [hb5]; rfl]
    generalize hσ1 : s2 σ M 18 (bI false) = σ1
    have hln : σ1 M 6 = nI ln := by rw [← hσ1]; exact s2_keep hln (by omega)
    have hpr : rowAt σ1 (M + 5) ln p := by rw [← hσ1]; exact hpr.keep (by omega) _ _
    have hat : σ1 M 17 = nI t := by rw [← hσ1]; exact s2_keep hat (by omega)
    have hwr : σ1 M 18 = bI false := by rw [← hσ1]; exact s2_same _ _ _ _
    generalize hσ2 : s2 σ1 M 17 (nI ((pB p ln 48 57 t).2.1)) = σ2
    have hln : σ2 M 6 = nI ln := by rw [← hσ2]; exact s2_keep hln (by omega)
    have hpr : rowAt σ2 (M + 5) ln p := by rw [← hσ2]; exact hpr.keep (by omega) _ _
    have hat : σ2 M 17 = nI ((pB p ln 48 57 t).2.1) := by rw [← hσ2]; exact s2_same _ _ _ _
    have hwr : σ2 M 18 = bI false := by rw [← hσ2]; exact s2_keep hwr (by omega)
    have hbo := pB_ok hb5
    have hbt : (pB p ln 48 57 t).2.1 = t + 1 := by rw [hbo.2]
    have hbv : (pB p ln 48 57 t).2.2 = sgn p ln t - 48 := by rw [hbo.2]
    have hbl := sgn_pos (p := p) (ln := ln) (t := t) (by omega)
    have hat : σ2 M 17 = nI (t + 1) := by rw [hat, hbt]
    refine r_istore_n (ls' := [(1, .int (nI ((pB p ln 48 57 t).2.2))), (0, .ref M)]) hc dX12_number_8 (by decide) rfl ?_
    have loop9 : ∀ (n9 : Nat) (τ : Nat → Nat → Int32) (f : Nat) (s : Nat) (x : Nat), (s ≤ ln) → ((f = 2 ∧ x < 10) ∨ (f = 1 ∧ 10 ≤ x ∧ x < 100) ∨ (f = 0 ∧ 100 ≤ x ∧ x < 1000)) → (τ M 6 = nI ln) → (rowAt τ (M + 5) ln p) → (τ M 17 = nI s) → (τ M 18 = bI false) → (τ = s2 (s2 σ M 18 (bI false)) M 17 (nI s)) → (pN p ln f x s = pN p ln 2 (pB p ln 48 57 t).2.2 (t + 1)) → (f) < n9 → Vw Ω Φ (z, sh, τ, ρ) (0, 0) 9 [(0, .ref M), (1, .int (nI x))] [] := by
      intro n9
      induction n9 with
      | zero => intro τ f s x hs hx hln hpr hat hwr hst hf hm; exact absurd hm (Nat.not_lt_zero _)
      | succ n9 ih9 =>
        intro τ f s x hs hx hln hpr hat hwr hst hf hm9
        refine r_aload_n hc dX12_number_9 rfl ?_
        refine gf_X12_175 (x := bI false) hc (MS0 hM) hwr dX12_number_10 ?_
        refine r_if_ne (tgt := 78) hc dX12_number_13 (by decide) (bI_0 _) (fun c_13 => ?_) (fun c_13 => ?_)
        ·
          exact absurd rfl c_13
        ·
          refine r_iload_n hc dX12_number_16 rfl ?_
          refine r_if_le (tgt := 78) hc dX12_number_17 (by decide) (le0_N (by omega)) (fun c_17 => ?_) (fun c_17 => ?_)
          ·
            refine r_iload_n hc dX12_number_78 rfl ?_
            have hN : pN p ln 2 (pB p ln 48 57 t).2.2 (t + 1) = (s, x) := by
              rw [← hf]
              rcases (show f = 0 ∨ ∃ g, f = g + 1 from by cases f with | zero => exact Or.inl rfl | succ g => exact Or.inr ⟨g, rfl⟩) with h7 | ⟨g, h7⟩
              · rw [h7, pN]
              · rw [h7, pN, if_neg (fun q => by omega)]
            have hE : pNum p ln t = (true, s, x) := by unfold pNum; rw [if_pos hb5, hN]
            rw [hE] at hR
            exact hR _ _ ⟨_, rfl, fun _ => rfl, by rw [hst]; rfl⟩ rfl _ _ dX12_number_79
          ·
            refine r_aload_n hc dX12_number_20 rfl ?_
            refine cl_X12_172 (As := []) hc (c_X12_sign hM hln hpr hl80 hp (t := s) hat (by omega)) (MS0 hM) rfl ⟨by decide, by decide⟩ ⟨rfl, rfl⟩ ⟨by decide, by decide⟩ rfl (Nat.le_of_ble_eq_true rfl) dX12_number_21 (fun r u hp => ?_)
            obtain ⟨rfl, hu⟩ := hp
            rw [hu]
            have hs256 : sgn p ln s < 256 := by unfold sgn; split; exact hp _ (by assumption); omega
            refine r_bipush (v := nI 48) hc dX12_number_24 rfl ?_
            refine r_bipush (v := nI 57) hc dX12_number_26 rfl ?_
            refine cl_X12_41 (As := [.int (nI (sgn p ln s)), .int (nI 48), .int (nI 57)]) hc (by simp only [nz]; exact c_X12_in (by omega) (by omega) (by omega)) rfl ⟨by decide, by decide⟩ ⟨rfl, rfl⟩ ⟨by decide, by decide⟩ rfl (Nat.le_of_ble_eq_true rfl) dX12_number_28 (fun r u hp => ?_)
            obtain ⟨rfl, hu⟩ := hp
            rw [hu]
            refine r_if_eq (tgt := 78) hc dX12_number_31 (by decide) (bI_0 _) (fun c_31 => ?_) (fun c_31 => ?_)
            ·
              have c_31 := of_decide_eq_false c_31
              refine r_iload_n hc dX12_number_78 rfl ?_
              have hN : pN p ln 2 (pB p ln 48 57 t).2.2 (t + 1) = (s, x) := by
                rw [← hf]
                rcases (show f = 0 ∨ ∃ g, f = g + 1 from by cases f with | zero => exact Or.inl rfl | succ g => exact Or.inr ⟨g, rfl⟩) with h7 | ⟨g, h7⟩
                · rw [h7, pN]
                · rw [h7, pN, if_neg (fun q => by have h7 := (pB_ok q.2).1; exact c_31 (by omega))]
              have hE : pNum p ln t = (true, s, x) := by unfold pNum; rw [if_pos hb5, hN]
              rw [hE] at hR
              exact hR _ _ ⟨_, rfl, fun _ => rfl, by rw [hst]; rfl⟩ rfl _ _ dX12_number_79
            ·
              have c_31 := bnf c_31
              have c_31 := of_decide_eq_true c_31
              have hpbs : (pB p ln 48 57 s).1 = true := by unfold pB; rw [if_pos (by omega)]
              have hpbv : (pB p ln 48 57 s).2.2 = sgn p ln s - 48 := by rw [(pB_ok hpbs).2]
              have hsl := sgn_pos (p := p) (ln := ln) (t := s) (by omega)
              refine r_bipush (v := nI 10) hc dX12_number_34 rfl ?_
              refine r_iload_n hc dX12_number_36 rfl ?_
              refine r_imul (v := nI (10 * x)) hc dX12_number_37 (ml_NN _ _) ?_
              refine r_aload_n hc dX12_number_38 rfl ?_
              refine cl_X12_172 (As := []) hc (c_X12_sign hM hln hpr hl80 hp (t := s) hat (by omega)) (MS0 hM) rfl ⟨by decide, by decide⟩ ⟨rfl, rfl⟩ ⟨by decide, by decide⟩ rfl (Nat.le_of_ble_eq_true rfl) dX12_number_39 (fun r u hp => ?_)
              obtain ⟨rfl, hu⟩ := hp
              rw [hu]
              have hs256 : sgn p ln s < 256 := by unfold sgn; split; exact hp _ (by assumption); omega
              refine r_iadd (v := nI (10 * x + (sgn p ln s))) hc dX12_number_42 (ad_NN _ _) ?_
              refine r_bipush (v := nI 48) hc dX12_number_43 rfl ?_
              refine r_isub (v := nI (x * 10 + (pB p ln 48 57 s).2.2)) hc dX12_number_45 (by rw [sb_N _ _ (by omega)]; exact congrArg nI (by omega)) ?_
              refine r_sipush (v := nI 999) hc dX12_number_46 rfl ?_
              refine r_icmp_gt (tgt := 78) hc dX12_number_49 (by decide) (lt_NN (by omega) (by omega)) (fun c_49 => ?_) (fun c_49 => ?_)
              ·
                refine r_iload_n hc dX12_number_78 rfl ?_
                have hN : pN p ln 2 (pB p ln 48 57 t).2.2 (t + 1) = (s, x) := by
                  rw [← hf]
                  rcases (show f = 0 ∨ ∃ g, f = g + 1 from by cases f with | zero => exact Or.inl rfl | succ g => exact Or.inr ⟨g, rfl⟩) with h7 | ⟨g, h7⟩
                  · rw [h7, pN]
                  · rw [h7, pN, if_neg (fun q => absurd c_49 (by omega))]
                have hE : pNum p ln t = (true, s, x) := by unfold pNum; rw [if_pos hb5, hN]
                rw [hE] at hR
                exact hR _ _ ⟨_, rfl, fun _ => rfl, by rw [hst]; rfl⟩ rfl _ _ dX12_number_79
              ·
                refine r_bipush (v := nI 10) hc dX12_number_52 rfl ?_
                refine r_iload_n hc dX12_number_54 rfl ?_
                refine r_imul (v := nI (10 * x)) hc dX12_number_55 (ml_NN _ _) ?_
                refine r_aload_n hc dX12_number_56 rfl ?_
                refine cl_X12_172 (As := []) hc (c_X12_sign hM hln hpr hl80 hp (t := s) hat (by omega)) (MS0 hM) rfl ⟨by decide, by decide⟩ ⟨rfl, rfl⟩ ⟨by decide, by decide⟩ rfl (Nat.le_of_ble_eq_true rfl) dX12_number_57 (fun r u hp => ?_)
                obtain ⟨rfl, hu⟩ := hp
                rw [hu]
                have hs256 : sgn p ln s < 256 := by unfold sgn; split; exact hp _ (by assumption); omega
                refine r_iadd (v := nI (10 * x + (sgn p ln s))) hc dX12_number_60 (ad_NN _ _) ?_
                refine r_bipush (v := nI 48) hc dX12_number_61 rfl ?_
                refine r_isub (v := nI (x * 10 + (pB p ln 48 57 s).2.2)) hc dX12_number_63 (by rw [sb_N _ _ (by omega)]; exact congrArg nI (by omega)) ?_
                refine r_istore_n (ls' := [(1, .int (nI (x * 10 + (pB p ln 48 57 s).2.2))), (0, .ref M)]) hc dX12_number_64 (by decide) rfl ?_
                refine r_aload_n hc dX12_number_65 rfl ?_
                refine r_dup hc dX12_number_66 rfl ?_
                refine gf_X12_169 (x := nI s) hc (MS0 hM) hat dX12_number_67 ?_
                refine r_iconst (v := nI 1) hc dX12_number_70 rfl ?_
                refine r_iadd (v := nI (s + 1)) hc dX12_number_71 (ad_NN _ _) ?_
                refine pf_X12_169 hc (MS0 hM) dX12_number_72 ?_
                generalize hσ3 : s2 τ M 17 (nI (s + 1)) = σ3
                have hln : σ3 M 6 = nI ln := by rw [← hσ3]; exact s2_keep hln (by omega)
                have hpr : rowAt σ3 (M + 5) ln p := by rw [← hσ3]; exact hpr.keep (by omega) _ _
                have hat : σ3 M 17 = nI (s + 1) := by rw [← hσ3]; exact s2_same _ _ _ _
                have hwr : σ3 M 18 = bI false := by rw [← hσ3]; exact s2_keep hwr (by omega)
                refine r_goto (tgt := 9) hc dX12_number_75 (by decide) ?_
                refine r_locp [1, 0] (ls' := [(0, .ref M), (1, .int (nI (x * 10 + (pB p ln 48 57 s).2.2)))]) rfl ?_
                exact ih9 σ3 (f - 1) (s + 1) (x * 10 + (pB p ln 48 57 s).2.2) (by omega) (by omega) hln hpr hat hwr (by rw [← hσ3, hst]; exact s2_twice _ _ _ _ _) (by rw [← hf, show f = (f - 1) + 1 by omega, pN, if_pos ⟨by omega, hpbs⟩, Nat.add_sub_cancel]) (by omega)
    refine r_locp [1, 0] (ls' := [(0, .ref M), (1, .int (nI ((pB p ln 48 57 t).2.2)))]) rfl ?_
    exact loop9 _ σ2 2 (t + 1) ((pB p ln 48 57 t).2.2) (by omega) (by omega) hln hpr hat hwr (by rw [← hσ2, ← hσ1, hbt]) rfl (Nat.lt_succ_self _)
  ·
    rw [show (!(pB p ln 48 57 t).1) = true by rw [Bool.eq_false_iff.mpr hb5]; rfl]
    generalize hσ4 : s2 σ M 18 (bI true) = σ4
    have hln : σ4 M 6 = nI ln := by rw [← hσ4]; exact s2_keep hln (by omega)
    have hpr : rowAt σ4 (M + 5) ln p := by rw [← hσ4]; exact hpr.keep (by omega) _ _
    have hat : σ4 M 17 = nI t := by rw [← hσ4]; exact s2_keep hat (by omega)
    have hwr : σ4 M 18 = bI true := by rw [← hσ4]; exact s2_same _ _ _ _
    generalize hσ5 : s2 σ4 M 17 (nI ((pB p ln 48 57 t).2.1)) = σ5
    have hln : σ5 M 6 = nI ln := by rw [← hσ5]; exact s2_keep hln (by omega)
    have hpr : rowAt σ5 (M + 5) ln p := by rw [← hσ5]; exact hpr.keep (by omega) _ _
    have hat : σ5 M 17 = nI ((pB p ln 48 57 t).2.1) := by rw [← hσ5]; exact s2_same _ _ _ _
    have hwr : σ5 M 18 = bI true := by rw [← hσ5]; exact s2_keep hwr (by omega)
    have hbn := pB_no hb5
    have hbt : (pB p ln 48 57 t).2.1 = t := by rw [hbn]
    have hat : σ5 M 17 = nI (t) := by rw [hat, hbt]
    refine r_istore_n (ls' := [(1, .int (nI ((pB p ln 48 57 t).2.2))), (0, .ref M)]) hc dX12_number_8 (by decide) rfl ?_
    refine r_aload_n hc dX12_number_9 rfl ?_
    refine gf_X12_175 (x := bI true) hc (MS0 hM) hwr dX12_number_10 ?_
    refine r_if_ne (tgt := 78) hc dX12_number_13 (by decide) (bI_0 _) (fun c_13 => ?_) (fun c_13 => ?_)
    ·
      have c_13 := bnf c_13
      refine r_iload_n hc dX12_number_78 rfl ?_
      have hE : pNum p ln t = (false, t, 0) := by unfold pNum; rw [if_neg hb5]
      rw [hE] at hR
      exact hR _ _ ⟨_, rfl, fun q => Bool.noConfusion q, by rw [← hσ5, ← hσ4, hbt]; rfl⟩ rfl _ _ dX12_number_79
    ·
      exact Bool.noConfusion c_13
set_option maxRecDepth 100000 in
set_option maxHeartbeats 4000000 in
theorem c_X12_readOne {Ω : OmT} {z : Nat} {sh : Nat → Option Kd} {σ : Nat → Nat → Int32} {ρ : Nat → Nat → Option Nat} {M : Nat} (hM : MSh sh ρ M) {p : Nat → Nat} {ln : Nat} (hln : σ M 6 = nI ln) (hpr : rowAt σ (M + 5) ln p) (hl80 : ln ≤ 80) (hp : ∀ j, j < ln → p j < 256) {t : Nat} (hat : σ M 17 = nI t) (ht : t ≤ ln) {y18 : Int32} (hwr : σ M 18 = y18) {i : Nat} (hmn : σ M 16 = nI i) (hi : i < 40) : CtV Ω yX12_readOne cX12_readOne 3 rm_X12_readOne [.ref M] (z, sh, σ, ρ) (fun u => ∃ τ : Nat → Nat → Int32, u = (z, sh, τ, ρ) ∧ τ M 17 = nI (pO p ln t).2.1 ∧ τ M 18 = bI (!(pO p ln t).1) ∧ ((pO p ln t).1 = true → τ M 16 = nI (i + 1) ∧ OrdM τ M i (sgn p ln t) (pO p ln t).2.2) ∧ (∀ q, q ≠ M → q ≠ M + 10 → τ q = σ q) ∧ (∀ k, k < 16 ∨ 18 < k → τ M k = σ M k) ∧ ∀ j, j < 4 * i → τ (M + 10) j = σ (M + 10) j) := by
  obtain ⟨x0, hx0⟩ : ∃ x, σ (M + 10) (4 * i) = x := ⟨_, rfl⟩
  obtain ⟨x1, hx1⟩ : ∃ x, σ (M + 10) (4 * i + 1) = x := ⟨_, rfl⟩
  obtain ⟨x2, hx2⟩ : ∃ x, σ (M + 10) (4 * i + 2) = x := ⟨_, rfl⟩
  obtain ⟨x3, hx3⟩ : ∃ x, σ (M + 10) (4 * i + 3) = x := ⟨_, rfl⟩
  refine CtV.enter (by decide) (Nat.le_of_ble_eq_true rfl) (fun Φ hc hi hR => ?_)
  show Vw Ω Φ (z, sh, σ, ρ) (0, 0) 0 [(0, .ref M)] []
  refine r_iconst (v := nI 4) hc dX12_readOne_0 rfl ?_
  refine r_aload_n hc dX12_readOne_1 rfl ?_
  refine gf_X12_181 (x := nI i) hc (MS0 hM) hmn dX12_readOne_2 ?_
  refine r_imul (v := nI (4 * i)) hc dX12_readOne_5 (ml_NN _ _) ?_
  refine r_istore_n (ls' := [(1, .int (nI (4 * i))), (0, .ref M)]) hc dX12_readOne_6 (by decide) rfl ?_
  refine r_aload_n hc dX12_readOne_7 rfl ?_
  refine cl_X12_172 (As := []) hc (c_X12_sign hM hln hpr hl80 hp (t := t) hat (by omega)) (MS0 hM) rfl ⟨by decide, by decide⟩ ⟨rfl, rfl⟩ ⟨by decide, by decide⟩ rfl (Nat.le_of_ble_eq_true rfl) dX12_readOne_8 (fun r u hp => ?_)
  obtain ⟨rfl, hu⟩ := hp
  rw [hu]
  have hs256 : sgn p ln t < 256 := by unfold sgn; split; exact hp _ (by assumption); omega
  refine r_istore_n (ls' := [(2, .int (nI (sgn p ln t))), (1, .int (nI (4 * i))), (0, .ref M)]) hc dX12_readOne_11 (by decide) rfl ?_
  refine r_aload_n hc dX12_readOne_12 rfl ?_
  refine gf_X12_38 (q := M + 10) hc (MS0 hM) (MSr hM 15 10 (by decide)) dX12_readOne_13 ?_
  refine r_iload_n hc dX12_readOne_16 rfl ?_
  refine r_iload_n hc dX12_readOne_17 rfl ?_
  refine r_iast (j := 4 * i) hc (MSa hM 10 0 320 rfl) rfl (by omega) (by decide) dX12_readOne_18 ?_
  generalize hσ1 : s2 σ (M + 10) (4 * i) (nI (sgn p ln t)) = σ1
  have hln : σ1 M 6 = nI ln := by rw [← hσ1]; exact s2_keep hln (by omega)
  have hpr : rowAt σ1 (M + 5) ln p := by rw [← hσ1]; exact hpr.keep (by omega) _ _
  have hat : σ1 M 17 = nI t := by rw [← hσ1]; exact s2_keep hat (by omega)
  have hwr : σ1 M 18 = y18 := by rw [← hσ1]; exact s2_keep hwr (by omega)
  have hmn : σ1 M 16 = nI i := by rw [← hσ1]; exact s2_keep hmn (by omega)
  have hx0 : σ1 (M + 10) (4 * i) = nI (sgn p ln t) := by rw [← hσ1]; exact s2_same _ _ _ _
  have hx1 : σ1 (M + 10) (4 * i + 1) = x1 := by rw [← hσ1]; exact s2_keep hx1 (by omega)
  have hx2 : σ1 (M + 10) (4 * i + 2) = x2 := by rw [← hσ1]; exact s2_keep hx2 (by omega)
  have hx3 : σ1 (M + 10) (4 * i + 3) = x3 := by rw [← hσ1]; exact s2_keep hx3 (by omega)
  refine r_aload_n hc dX12_readOne_19 rfl ?_
  refine r_iload_n hc dX12_readOne_20 rfl ?_
  refine r_bipush (v := nI 107) hc dX12_readOne_21 rfl ?_
  refine r_icmp_eq (tgt := 60) hc dX12_readOne_23 (by decide) (eq_NN (by omega) (by omega)) (fun c_23 => ?_) (fun c_23 => ?_)
  ·
    refine r_iconst (v := nI 0) hc dX12_readOne_60 rfl ?_
    refine pf_X12_175 hc (MS0 hM) (by rfl) (by rfl) dX12_readOne_61 ?_
    generalize hσ2 : s2 σ1 M 18 (nI 0) = σ2
    have hln : σ2 M 6 = nI ln := by rw [← hσ2]; exact s2_keep hln (by omega)
    have hpr : rowAt σ2 (M + 5) ln p := by rw [← hσ2]; exact hpr.keep (by omega) _ _
    have hat : σ2 M 17 = nI t := by rw [← hσ2]; exact s2_keep hat (by omega)
    have hwr : σ2 M 18 = nI 0 := by rw [← hσ2]; exact s2_same _ _ _ _
    have hmn : σ2 M 16 = nI i := by rw [← hσ2]; exact s2_keep hmn (by omega)
    have hx0 : σ2 (M + 10) (4 * i) = nI (sgn p ln t) := by rw [← hσ2]; exact s2_keep hx0 (by omega)
    have hx1 : σ2 (M + 10) (4 * i + 1) = x1 := by rw [← hσ2]; exact s2_keep hx1 (by omega)
    have hx2 : σ2 (M + 10) (4 * i + 2) = x2 := by rw [← hσ2]; exact s2_keep hx2 (by omega)
    have hx3 : σ2 (M + 10) (4 * i + 3) = x3 := by rw [← hσ2]; exact s2_keep hx3 (by omega)
    have hwr : σ2 M 18 = bI false := hwr
    refine r_aload_n hc dX12_readOne_64 rfl ?_
    refine gf_X12_175 (x := bI false) hc (MS0 hM) hwr dX12_readOne_65 ?_
    refine r_if_eq (tgt := 72) hc dX12_readOne_68 (by decide) (bI_0 _) (fun c_68 => ?_) (fun c_68 => ?_)
    ·
      refine r_aload_n hc dX12_readOne_72 rfl ?_
      refine r_dup hc dX12_readOne_73 rfl ?_
      refine gf_X12_169 (x := nI t) hc (MS0 hM) hat dX12_readOne_74 ?_
      refine r_iconst (v := nI 1) hc dX12_readOne_77 rfl ?_
      refine r_iadd (v := nI (t + 1)) hc dX12_readOne_78 (ad_NN _ _) ?_
      refine pf_X12_169 hc (MS0 hM) dX12_readOne_79 ?_
      generalize hσ3 : s2 σ2 M 17 (nI (t + 1)) = σ3
      have hln : σ3 M 6 = nI ln := by rw [← hσ3]; exact s2_keep hln (by omega)
      have hpr : rowAt σ3 (M + 5) ln p := by rw [← hσ3]; exact hpr.keep (by omega) _ _
      have hat : σ3 M 17 = nI (t + 1) := by rw [← hσ3]; exact s2_same _ _ _ _
      have hwr : σ3 M 18 = bI false := by rw [← hσ3]; exact s2_keep hwr (by omega)
      have hmn : σ3 M 16 = nI i := by rw [← hσ3]; exact s2_keep hmn (by omega)
      have hx0 : σ3 (M + 10) (4 * i) = nI (sgn p ln t) := by rw [← hσ3]; exact s2_keep hx0 (by omega)
      have hx1 : σ3 (M + 10) (4 * i + 1) = x1 := by rw [← hσ3]; exact s2_keep hx1 (by omega)
      have hx2 : σ3 (M + 10) (4 * i + 2) = x2 := by rw [← hσ3]; exact s2_keep hx2 (by omega)
      have hx3 : σ3 (M + 10) (4 * i + 3) = x3 := by rw [← hσ3]; exact s2_keep hx3 (by omega)
      have hkl := sgn_pos (p := p) (ln := ln) (t := t) (by omega)
      refine r_iload_n hc dX12_readOne_82 rfl ?_
      refine r_tableIn (off := 53) (tgt := 136) hc dX12_readOne_83 (by rw [nz, zI_toInt (by omega) (by omega)]; omega) (by rw [nz, zI_toInt (by omega) (by omega)]; omega) (by rw [nz, zI_toInt (by omega) (by omega), show ((sgn p ln t : Nat) : Int) = 107 by omega]; rfl) (by decide) ?_
      refine r_aload_n hc dX12_readOne_136 rfl ?_
      refine gf_X12_38 (q := M + 10) hc (MS0 hM) (MSr hM 15 10 (by decide)) dX12_readOne_137 ?_
      refine r_iload_n hc dX12_readOne_140 rfl ?_
      refine r_iconst (v := nI 1) hc dX12_readOne_141 rfl ?_
      refine r_iadd (v := nI (4 * i + 1)) hc dX12_readOne_142 (ad_NN _ _) ?_
      refine r_aload_n hc dX12_readOne_143 rfl ?_
      refine cl_X12_184 (As := []) hc (c_X12_cuts hM hln hpr hl80 hp (t := t + 1) hat (by omega) hwr) (MS0 hM) rfl ⟨by decide, by decide⟩ ⟨rfl, rfl⟩ ⟨by decide, by decide⟩ rfl (Nat.le_of_ble_eq_true rfl) dX12_readOne_144 (fun r u hcl => ?_)
      obtain ⟨y144, hrr, hy144, hu⟩ := hcl
      rw [hu, hrr]
      by_cases hb144 : (pC p ln 4 0 (t + 1)).1 = true
      ·
        rw [show (!(pC p ln 4 0 (t + 1)).1) = false by rw [hb144]; rfl]
        generalize hσ4 : s2 σ3 M 18 (bI false) = σ4
        have hln : σ4 M 6 = nI ln := by rw [← hσ4]; exact s2_keep hln (by omega)
        have hpr : rowAt σ4 (M + 5) ln p := by rw [← hσ4]; exact hpr.keep (by omega) _ _
        have hat : σ4 M 17 = nI (t + 1) := by rw [← hσ4]; exact s2_keep hat (by omega)
        have hwr : σ4 M 18 = bI false := by rw [← hσ4]; exact s2_same _ _ _ _
        have hmn : σ4 M 16 = nI i := by rw [← hσ4]; exact s2_keep hmn (by omega)
        have hx0 : σ4 (M + 10) (4 * i) = nI (sgn p ln t) := by rw [← hσ4]; exact s2_keep hx0 (by omega)
        have hx1 : σ4 (M + 10) (4 * i + 1) = x1 := by rw [← hσ4]; exact s2_keep hx1 (by omega)
        have hx2 : σ4 (M + 10) (4 * i + 2) = x2 := by rw [← hσ4]; exact s2_keep hx2 (by omega)
        have hx3 : σ4 (M + 10) (4 * i + 3) = x3 := by rw [← hσ4]; exact s2_keep hx3 (by omega)
        generalize hσ5 : s2 σ4 M 17 (nI ((pC p ln 4 0 (t + 1)).2.1)) = σ5
        have hln : σ5 M 6 = nI ln := by rw [← hσ5]; exact s2_keep hln (by omega)
        have hpr : rowAt σ5 (M + 5) ln p := by rw [← hσ5]; exact hpr.keep (by omega) _ _
        have hat : σ5 M 17 = nI ((pC p ln 4 0 (t + 1)).2.1) := by rw [← hσ5]; exact s2_same _ _ _ _
        have hwr : σ5 M 18 = bI false := by rw [← hσ5]; exact s2_keep hwr (by omega)
        have hmn : σ5 M 16 = nI i := by rw [← hσ5]; exact s2_keep hmn (by omega)
        have hx0 : σ5 (M + 10) (4 * i) = nI (sgn p ln t) := by rw [← hσ5]; exact s2_keep hx0 (by omega)
        have hx1 : σ5 (M + 10) (4 * i + 1) = x1 := by rw [← hσ5]; exact s2_keep hx1 (by omega)
        have hx2 : σ5 (M + 10) (4 * i + 2) = x2 := by rw [← hσ5]; exact s2_keep hx2 (by omega)
        have hx3 : σ5 (M + 10) (4 * i + 3) = x3 := by rw [← hσ5]; exact s2_keep hx3 (by omega)
        have hcp144 := pC_ok 4 0 (t + 1) hb144 (by omega)
        refine r_iast (j := 4 * i + 1) hc (MSa hM 10 0 320 rfl) rfl (by omega) (by decide) dX12_readOne_147 ?_
        generalize hσ6 : s2 σ5 (M + 10) (4 * i + 1) (nI y144) = σ6
        have hln : σ6 M 6 = nI ln := by rw [← hσ6]; exact s2_keep hln (by omega)
        have hpr : rowAt σ6 (M + 5) ln p := by rw [← hσ6]; exact hpr.keep (by omega) _ _
        have hat : σ6 M 17 = nI ((pC p ln 4 0 (t + 1)).2.1) := by rw [← hσ6]; exact s2_keep hat (by omega)
        have hwr : σ6 M 18 = bI false := by rw [← hσ6]; exact s2_keep hwr (by omega)
        have hmn : σ6 M 16 = nI i := by rw [← hσ6]; exact s2_keep hmn (by omega)
        have hx0 : σ6 (M + 10) (4 * i) = nI (sgn p ln t) := by rw [← hσ6]; exact s2_keep hx0 (by omega)
        have hx1 : σ6 (M + 10) (4 * i + 1) = nI y144 := by rw [← hσ6]; exact s2_same _ _ _ _
        have hx2 : σ6 (M + 10) (4 * i + 2) = x2 := by rw [← hσ6]; exact s2_keep hx2 (by omega)
        have hx3 : σ6 (M + 10) (4 * i + 3) = x3 := by rw [← hσ6]; exact s2_keep hx3 (by omega)
        refine r_goto (tgt := 256) hc dX12_readOne_148 (by decide) ?_
        refine r_aload_n hc dX12_readOne_256 rfl ?_
        refine r_dup hc dX12_readOne_257 rfl ?_
        refine gf_X12_181 (x := nI i) hc (MS0 hM) hmn dX12_readOne_258 ?_
        refine r_iconst (v := nI 1) hc dX12_readOne_261 rfl ?_
        refine r_iadd (v := nI (i + 1)) hc dX12_readOne_262 (ad_NN _ _) ?_
        refine pf_X12_181 hc (MS0 hM) dX12_readOne_263 ?_
        generalize hσ7 : s2 σ6 M 16 (nI (i + 1)) = σ7
        have hln : σ7 M 6 = nI ln := by rw [← hσ7]; exact s2_keep hln (by omega)
        have hpr : rowAt σ7 (M + 5) ln p := by rw [← hσ7]; exact hpr.keep (by omega) _ _
        have hat : σ7 M 17 = nI ((pC p ln 4 0 (t + 1)).2.1) := by rw [← hσ7]; exact s2_keep hat (by omega)
        have hwr : σ7 M 18 = bI false := by rw [← hσ7]; exact s2_keep hwr (by omega)
        have hmn : σ7 M 16 = nI (i + 1) := by rw [← hσ7]; exact s2_same _ _ _ _
        have hx0 : σ7 (M + 10) (4 * i) = nI (sgn p ln t) := by rw [← hσ7]; exact s2_keep hx0 (by omega)
        have hx1 : σ7 (M + 10) (4 * i + 1) = nI y144 := by rw [← hσ7]; exact s2_keep hx1 (by omega)
        have hx2 : σ7 (M + 10) (4 * i + 2) = x2 := by rw [← hσ7]; exact s2_keep hx2 (by omega)
        have hx3 : σ7 (M + 10) (4 * i + 3) = x3 := by rw [← hσ7]; exact s2_keep hx3 (by omega)
        have hE : pO p ln t = p1 (pC p ln 4 0 (t + 1)) := by unfold pO; rw [if_pos (show sgn p ln t = 107 by omega)]
        rw [hE] at hR
        exact hR _ ⟨_, rfl, hat, by rw [show (p1 (pC p ln 4 0 (t + 1))).1 = true from hb144]; exact hwr, fun _ => ⟨hmn, hx0, by rw [hx1, hy144 hb144]; rfl, fun e => absurd e (by omega)⟩, ⟨fun q q1 q2 => by rw [← hσ7, s2_ne q1, ← hσ6, s2_ne q2, ← hσ5, s2_ne q1, ← hσ4, s2_ne q1, ← hσ3, s2_ne q1, ← hσ2, s2_ne q1, ← hσ1, s2_ne q2], fun k hk => by rw [← hσ7, s2_nk (by omega), ← hσ6, s2_na (by omega), ← hσ5, s2_nk (by omega), ← hσ4, s2_nk (by omega), ← hσ3, s2_nk (by omega), ← hσ2, s2_nk (by omega), ← hσ1, s2_na (by omega)], fun j hj => by rw [← hσ7, s2_na (by omega), ← hσ6, s2_nk (by omega), ← hσ5, s2_na (by omega), ← hσ4, s2_na (by omega), ← hσ3, s2_na (by omega), ← hσ2, s2_na (by omega), ← hσ1, s2_nk (by omega)]⟩⟩ _ _ dX12_readOne_266
      ·
        rw [show (!(pC p ln 4 0 (t + 1)).1) = true by rw [Bool.eq_false_iff.mpr hb144]; rfl]
        generalize hσ8 : s2 σ3 M 18 (bI true) = σ8
        have hln : σ8 M 6 = nI ln := by rw [← hσ8]; exact s2_keep hln (by omega)
        have hpr : rowAt σ8 (M + 5) ln p := by rw [← hσ8]; exact hpr.keep (by omega) _ _
        have hat : σ8 M 17 = nI (t + 1) := by rw [← hσ8]; exact s2_keep hat (by omega)
        have hwr : σ8 M 18 = bI true := by rw [← hσ8]; exact s2_same _ _ _ _
        have hmn : σ8 M 16 = nI i := by rw [← hσ8]; exact s2_keep hmn (by omega)
        have hx0 : σ8 (M + 10) (4 * i) = nI (sgn p ln t) := by rw [← hσ8]; exact s2_keep hx0 (by omega)
        have hx1 : σ8 (M + 10) (4 * i + 1) = x1 := by rw [← hσ8]; exact s2_keep hx1 (by omega)
        have hx2 : σ8 (M + 10) (4 * i + 2) = x2 := by rw [← hσ8]; exact s2_keep hx2 (by omega)
        have hx3 : σ8 (M + 10) (4 * i + 3) = x3 := by rw [← hσ8]; exact s2_keep hx3 (by omega)
        generalize hσ9 : s2 σ8 M 17 (nI ((pC p ln 4 0 (t + 1)).2.1)) = σ9
        have hln : σ9 M 6 = nI ln := by rw [← hσ9]; exact s2_keep hln (by omega)
        have hpr : rowAt σ9 (M + 5) ln p := by rw [← hσ9]; exact hpr.keep (by omega) _ _
        have hat : σ9 M 17 = nI ((pC p ln 4 0 (t + 1)).2.1) := by rw [← hσ9]; exact s2_same _ _ _ _
        have hwr : σ9 M 18 = bI true := by rw [← hσ9]; exact s2_keep hwr (by omega)
        have hmn : σ9 M 16 = nI i := by rw [← hσ9]; exact s2_keep hmn (by omega)
        have hx0 : σ9 (M + 10) (4 * i) = nI (sgn p ln t) := by rw [← hσ9]; exact s2_keep hx0 (by omega)
        have hx1 : σ9 (M + 10) (4 * i + 1) = x1 := by rw [← hσ9]; exact s2_keep hx1 (by omega)
        have hx2 : σ9 (M + 10) (4 * i + 2) = x2 := by rw [← hσ9]; exact s2_keep hx2 (by omega)
        have hx3 : σ9 (M + 10) (4 * i + 3) = x3 := by rw [← hσ9]; exact s2_keep hx3 (by omega)
        have hcp144 := pC_no (p := p) (ln := ln) 4 0 (t + 1) (by omega)
        refine r_iast (j := 4 * i + 1) hc (MSa hM 10 0 320 rfl) rfl (by omega) (by decide) dX12_readOne_147 ?_
        generalize hσ10 : s2 σ9 (M + 10) (4 * i + 1) (nI y144) = σ10
        have hln : σ10 M 6 = nI ln := by rw [← hσ10]; exact s2_keep hln (by omega)
        have hpr : rowAt σ10 (M + 5) ln p := by rw [← hσ10]; exact hpr.keep (by omega) _ _
        have hat : σ10 M 17 = nI ((pC p ln 4 0 (t + 1)).2.1) := by rw [← hσ10]; exact s2_keep hat (by omega)
        have hwr : σ10 M 18 = bI true := by rw [← hσ10]; exact s2_keep hwr (by omega)
        have hmn : σ10 M 16 = nI i := by rw [← hσ10]; exact s2_keep hmn (by omega)
        have hx0 : σ10 (M + 10) (4 * i) = nI (sgn p ln t) := by rw [← hσ10]; exact s2_keep hx0 (by omega)
        have hx1 : σ10 (M + 10) (4 * i + 1) = nI y144 := by rw [← hσ10]; exact s2_same _ _ _ _
        have hx2 : σ10 (M + 10) (4 * i + 2) = x2 := by rw [← hσ10]; exact s2_keep hx2 (by omega)
        have hx3 : σ10 (M + 10) (4 * i + 3) = x3 := by rw [← hσ10]; exact s2_keep hx3 (by omega)
        refine r_goto (tgt := 256) hc dX12_readOne_148 (by decide) ?_
        refine r_aload_n hc dX12_readOne_256 rfl ?_
        refine r_dup hc dX12_readOne_257 rfl ?_
        refine gf_X12_181 (x := nI i) hc (MS0 hM) hmn dX12_readOne_258 ?_
        refine r_iconst (v := nI 1) hc dX12_readOne_261 rfl ?_
        refine r_iadd (v := nI (i + 1)) hc dX12_readOne_262 (ad_NN _ _) ?_
        refine pf_X12_181 hc (MS0 hM) dX12_readOne_263 ?_
        generalize hσ11 : s2 σ10 M 16 (nI (i + 1)) = σ11
        have hln : σ11 M 6 = nI ln := by rw [← hσ11]; exact s2_keep hln (by omega)
        have hpr : rowAt σ11 (M + 5) ln p := by rw [← hσ11]; exact hpr.keep (by omega) _ _
        have hat : σ11 M 17 = nI ((pC p ln 4 0 (t + 1)).2.1) := by rw [← hσ11]; exact s2_keep hat (by omega)
        have hwr : σ11 M 18 = bI true := by rw [← hσ11]; exact s2_keep hwr (by omega)
        have hmn : σ11 M 16 = nI (i + 1) := by rw [← hσ11]; exact s2_same _ _ _ _
        have hx0 : σ11 (M + 10) (4 * i) = nI (sgn p ln t) := by rw [← hσ11]; exact s2_keep hx0 (by omega)
        have hx1 : σ11 (M + 10) (4 * i + 1) = nI y144 := by rw [← hσ11]; exact s2_keep hx1 (by omega)
        have hx2 : σ11 (M + 10) (4 * i + 2) = x2 := by rw [← hσ11]; exact s2_keep hx2 (by omega)
        have hx3 : σ11 (M + 10) (4 * i + 3) = x3 := by rw [← hσ11]; exact s2_keep hx3 (by omega)
        have hE : pO p ln t = p1 (pC p ln 4 0 (t + 1)) := by unfold pO; rw [if_pos (show sgn p ln t = 107 by omega)]
        rw [hE] at hR
        exact hR _ ⟨_, rfl, hat, by rw [show (p1 (pC p ln 4 0 (t + 1))).1 = false from Bool.eq_false_iff.mpr hb144]; exact hwr, fun q => absurd q hb144, ⟨fun q q1 q2 => by rw [← hσ11, s2_ne q1, ← hσ10, s2_ne q2, ← hσ9, s2_ne q1, ← hσ8, s2_ne q1, ← hσ3, s2_ne q1, ← hσ2, s2_ne q1, ← hσ1, s2_ne q2], fun k hk => by rw [← hσ11, s2_nk (by omega), ← hσ10, s2_na (by omega), ← hσ9, s2_nk (by omega), ← hσ8, s2_nk (by omega), ← hσ3, s2_nk (by omega), ← hσ2, s2_nk (by omega), ← hσ1, s2_na (by omega)], fun j hj => by rw [← hσ11, s2_na (by omega), ← hσ10, s2_nk (by omega), ← hσ9, s2_na (by omega), ← hσ8, s2_na (by omega), ← hσ3, s2_na (by omega), ← hσ2, s2_na (by omega), ← hσ1, s2_nk (by omega)]⟩⟩ _ _ dX12_readOne_266
    ·
      exact absurd rfl c_68
  ·
    refine r_iload_n hc dX12_readOne_26 rfl ?_
    refine r_bipush (v := nI 99) hc dX12_readOne_27 rfl ?_
    refine r_icmp_eq (tgt := 60) hc dX12_readOne_29 (by decide) (eq_NN (by omega) (by omega)) (fun c_29 => ?_) (fun c_29 => ?_)
    ·
      refine r_iconst (v := nI 0) hc dX12_readOne_60 rfl ?_
      refine pf_X12_175 hc (MS0 hM) (by rfl) (by rfl) dX12_readOne_61 ?_
      generalize hσ12 : s2 σ1 M 18 (nI 0) = σ12
      have hln : σ12 M 6 = nI ln := by rw [← hσ12]; exact s2_keep hln (by omega)
      have hpr : rowAt σ12 (M + 5) ln p := by rw [← hσ12]; exact hpr.keep (by omega) _ _
      have hat : σ12 M 17 = nI t := by rw [← hσ12]; exact s2_keep hat (by omega)
      have hwr : σ12 M 18 = nI 0 := by rw [← hσ12]; exact s2_same _ _ _ _
      have hmn : σ12 M 16 = nI i := by rw [← hσ12]; exact s2_keep hmn (by omega)
      have hx0 : σ12 (M + 10) (4 * i) = nI (sgn p ln t) := by rw [← hσ12]; exact s2_keep hx0 (by omega)
      have hx1 : σ12 (M + 10) (4 * i + 1) = x1 := by rw [← hσ12]; exact s2_keep hx1 (by omega)
      have hx2 : σ12 (M + 10) (4 * i + 2) = x2 := by rw [← hσ12]; exact s2_keep hx2 (by omega)
      have hx3 : σ12 (M + 10) (4 * i + 3) = x3 := by rw [← hσ12]; exact s2_keep hx3 (by omega)
      have hwr : σ12 M 18 = bI false := hwr
      refine r_aload_n hc dX12_readOne_64 rfl ?_
      refine gf_X12_175 (x := bI false) hc (MS0 hM) hwr dX12_readOne_65 ?_
      refine r_if_eq (tgt := 72) hc dX12_readOne_68 (by decide) (bI_0 _) (fun c_68 => ?_) (fun c_68 => ?_)
      ·
        refine r_aload_n hc dX12_readOne_72 rfl ?_
        refine r_dup hc dX12_readOne_73 rfl ?_
        refine gf_X12_169 (x := nI t) hc (MS0 hM) hat dX12_readOne_74 ?_
        refine r_iconst (v := nI 1) hc dX12_readOne_77 rfl ?_
        refine r_iadd (v := nI (t + 1)) hc dX12_readOne_78 (ad_NN _ _) ?_
        refine pf_X12_169 hc (MS0 hM) dX12_readOne_79 ?_
        generalize hσ13 : s2 σ12 M 17 (nI (t + 1)) = σ13
        have hln : σ13 M 6 = nI ln := by rw [← hσ13]; exact s2_keep hln (by omega)
        have hpr : rowAt σ13 (M + 5) ln p := by rw [← hσ13]; exact hpr.keep (by omega) _ _
        have hat : σ13 M 17 = nI (t + 1) := by rw [← hσ13]; exact s2_same _ _ _ _
        have hwr : σ13 M 18 = bI false := by rw [← hσ13]; exact s2_keep hwr (by omega)
        have hmn : σ13 M 16 = nI i := by rw [← hσ13]; exact s2_keep hmn (by omega)
        have hx0 : σ13 (M + 10) (4 * i) = nI (sgn p ln t) := by rw [← hσ13]; exact s2_keep hx0 (by omega)
        have hx1 : σ13 (M + 10) (4 * i + 1) = x1 := by rw [← hσ13]; exact s2_keep hx1 (by omega)
        have hx2 : σ13 (M + 10) (4 * i + 2) = x2 := by rw [← hσ13]; exact s2_keep hx2 (by omega)
        have hx3 : σ13 (M + 10) (4 * i + 3) = x3 := by rw [← hσ13]; exact s2_keep hx3 (by omega)
        have hkl := sgn_pos (p := p) (ln := ln) (t := t) (by omega)
        refine r_iload_n hc dX12_readOne_82 rfl ?_
        refine r_tableIn (off := 68) (tgt := 151) hc dX12_readOne_83 (by rw [nz, zI_toInt (by omega) (by omega)]; omega) (by rw [nz, zI_toInt (by omega) (by omega)]; omega) (by rw [nz, zI_toInt (by omega) (by omega), show ((sgn p ln t : Nat) : Int) = 99 by omega]; rfl) (by decide) ?_
        refine r_aload_n hc dX12_readOne_151 rfl ?_
        refine gf_X12_38 (q := M + 10) hc (MS0 hM) (MSr hM 15 10 (by decide)) dX12_readOne_152 ?_
        refine r_iload_n hc dX12_readOne_155 rfl ?_
        refine r_iconst (v := nI 1) hc dX12_readOne_156 rfl ?_
        refine r_iadd (v := nI (4 * i + 1)) hc dX12_readOne_157 (ad_NN _ _) ?_
        refine r_aload_n hc dX12_readOne_158 rfl ?_
        refine r_bipush (v := nI 48) hc dX12_readOne_159 rfl ?_
        refine r_bipush (v := nI 9) hc dX12_readOne_161 rfl ?_
        refine cl_X12_178 (As := [.int (nI 48), .int (nI 9)]) hc (c_X12_one hM hln hpr hl80 hp (t := t + 1) hat (by omega) hwr (lo := 48) (hi := 9) (hi2 := 57) (by omega) rfl) (MS0 hM) rfl ⟨by decide, by decide⟩ ⟨rfl, rfl⟩ ⟨by decide, by decide⟩ rfl (Nat.le_of_ble_eq_true rfl) dX12_readOne_163 (fun r u hcl => ?_)
        obtain ⟨hrr, hu⟩ := hcl
        rw [hu, hrr]
        by_cases hb163 : (pB p ln 48 57 (t + 1)).1 = true
        ·
          rw [show (!(pB p ln 48 57 (t + 1)).1) = false by rw [hb163]; rfl]
          generalize hσ14 : s2 σ13 M 18 (bI false) = σ14
          have hln : σ14 M 6 = nI ln := by rw [← hσ14]; exact s2_keep hln (by omega)
          have hpr : rowAt σ14 (M + 5) ln p := by rw [← hσ14]; exact hpr.keep (by omega) _ _
          have hat : σ14 M 17 = nI (t + 1) := by rw [← hσ14]; exact s2_keep hat (by omega)
          have hwr : σ14 M 18 = bI false := by rw [← hσ14]; exact s2_same _ _ _ _
          have hmn : σ14 M 16 = nI i := by rw [← hσ14]; exact s2_keep hmn (by omega)
          have hx0 : σ14 (M + 10) (4 * i) = nI (sgn p ln t) := by rw [← hσ14]; exact s2_keep hx0 (by omega)
          have hx1 : σ14 (M + 10) (4 * i + 1) = x1 := by rw [← hσ14]; exact s2_keep hx1 (by omega)
          have hx2 : σ14 (M + 10) (4 * i + 2) = x2 := by rw [← hσ14]; exact s2_keep hx2 (by omega)
          have hx3 : σ14 (M + 10) (4 * i + 3) = x3 := by rw [← hσ14]; exact s2_keep hx3 (by omega)
          generalize hσ15 : s2 σ14 M 17 (nI ((pB p ln 48 57 (t + 1)).2.1)) = σ15
          have hln : σ15 M 6 = nI ln := by rw [← hσ15]; exact s2_keep hln (by omega)
          have hpr : rowAt σ15 (M + 5) ln p := by rw [← hσ15]; exact hpr.keep (by omega) _ _
          have hat : σ15 M 17 = nI ((pB p ln 48 57 (t + 1)).2.1) := by rw [← hσ15]; exact s2_same _ _ _ _
          have hwr : σ15 M 18 = bI false := by rw [← hσ15]; exact s2_keep hwr (by omega)
          have hmn : σ15 M 16 = nI i := by rw [← hσ15]; exact s2_keep hmn (by omega)
          have hx0 : σ15 (M + 10) (4 * i) = nI (sgn p ln t) := by rw [← hσ15]; exact s2_keep hx0 (by omega)
          have hx1 : σ15 (M + 10) (4 * i + 1) = x1 := by rw [← hσ15]; exact s2_keep hx1 (by omega)
          have hx2 : σ15 (M + 10) (4 * i + 2) = x2 := by rw [← hσ15]; exact s2_keep hx2 (by omega)
          have hx3 : σ15 (M + 10) (4 * i + 3) = x3 := by rw [← hσ15]; exact s2_keep hx3 (by omega)
          have hbo := pB_ok hb163
          have hbt : (pB p ln 48 57 (t + 1)).2.1 = (t + 1) + 1 := by rw [hbo.2]
          have hbv : (pB p ln 48 57 (t + 1)).2.2 = sgn p ln (t + 1) - 48 := by rw [hbo.2]
          have hbl := sgn_pos (p := p) (ln := ln) (t := (t + 1)) (by omega)
          have hat : σ15 M 17 = nI (t + 1 + 1) := by rw [hat, hbt]
          refine r_iast (j := 4 * i + 1) hc (MSa hM 10 0 320 rfl) rfl (by omega) (by decide) dX12_readOne_166 ?_
          generalize hσ16 : s2 σ15 (M + 10) (4 * i + 1) (nI ((pB p ln 48 57 (t + 1)).2.2)) = σ16
          have hln : σ16 M 6 = nI ln := by rw [← hσ16]; exact s2_keep hln (by omega)
          have hpr : rowAt σ16 (M + 5) ln p := by rw [← hσ16]; exact hpr.keep (by omega) _ _
          have hat : σ16 M 17 = nI (t + 1 + 1) := by rw [← hσ16]; exact s2_keep hat (by omega)
          have hwr : σ16 M 18 = bI false := by rw [← hσ16]; exact s2_keep hwr (by omega)
          have hmn : σ16 M 16 = nI i := by rw [← hσ16]; exact s2_keep hmn (by omega)
          have hx0 : σ16 (M + 10) (4 * i) = nI (sgn p ln t) := by rw [← hσ16]; exact s2_keep hx0 (by omega)
          have hx1 : σ16 (M + 10) (4 * i + 1) = nI ((pB p ln 48 57 (t + 1)).2.2) := by rw [← hσ16]; exact s2_same _ _ _ _
          have hx2 : σ16 (M + 10) (4 * i + 2) = x2 := by rw [← hσ16]; exact s2_keep hx2 (by omega)
          have hx3 : σ16 (M + 10) (4 * i + 3) = x3 := by rw [← hσ16]; exact s2_keep hx3 (by omega)
          refine r_aload_n hc dX12_readOne_167 rfl ?_
          refine r_bipush (v := nI 61) hc dX12_readOne_168 rfl ?_
          refine cl_X12_187 (As := [.int (nI 61)]) hc (c_X12_between hM hln hpr hl80 hp (t := t + 1 + 1) hat (by omega) hwr (c := 61) (by omega)) (MS0 hM) rfl ⟨by decide, by decide⟩ ⟨rfl, rfl⟩ ⟨by decide, by decide⟩ rfl (Nat.le_of_ble_eq_true rfl) dX12_readOne_170 (fun u hcl => ?_)
          rw [hcl]
          by_cases hb170 : (pS p ln 61 (t + 1 + 1)).1 = true
          ·
            rw [show (!(pS p ln 61 (t + 1 + 1)).1) = false by rw [hb170]; rfl]
            generalize hσ17 : s2 σ16 M 18 (bI false) = σ17
            have hln : σ17 M 6 = nI ln := by rw [← hσ17]; exact s2_keep hln (by omega)
            have hpr : rowAt σ17 (M + 5) ln p := by rw [← hσ17]; exact hpr.keep (by omega) _ _
            have hat : σ17 M 17 = nI (t + 1 + 1) := by rw [← hσ17]; exact s2_keep hat (by omega)
            have hwr : σ17 M 18 = bI false := by rw [← hσ17]; exact s2_same _ _ _ _
            have hmn : σ17 M 16 = nI i := by rw [← hσ17]; exact s2_keep hmn (by omega)
            have hx0 : σ17 (M + 10) (4 * i) = nI (sgn p ln t) := by rw [← hσ17]; exact s2_keep hx0 (by omega)
            have hx1 : σ17 (M + 10) (4 * i + 1) = nI ((pB p ln 48 57 (t + 1)).2.2) := by rw [← hσ17]; exact s2_keep hx1 (by omega)
            have hx2 : σ17 (M + 10) (4 * i + 2) = x2 := by rw [← hσ17]; exact s2_keep hx2 (by omega)
            have hx3 : σ17 (M + 10) (4 * i + 3) = x3 := by rw [← hσ17]; exact s2_keep hx3 (by omega)
            generalize hσ18 : s2 σ17 M 17 (nI ((pS p ln 61 (t + 1 + 1)).2)) = σ18
            have hln : σ18 M 6 = nI ln := by rw [← hσ18]; exact s2_keep hln (by omega)
            have hpr : rowAt σ18 (M + 5) ln p := by rw [← hσ18]; exact hpr.keep (by omega) _ _
            have hat : σ18 M 17 = nI ((pS p ln 61 (t + 1 + 1)).2) := by rw [← hσ18]; exact s2_same _ _ _ _
            have hwr : σ18 M 18 = bI false := by rw [← hσ18]; exact s2_keep hwr (by omega)
            have hmn : σ18 M 16 = nI i := by rw [← hσ18]; exact s2_keep hmn (by omega)
            have hx0 : σ18 (M + 10) (4 * i) = nI (sgn p ln t) := by rw [← hσ18]; exact s2_keep hx0 (by omega)
            have hx1 : σ18 (M + 10) (4 * i + 1) = nI ((pB p ln 48 57 (t + 1)).2.2) := by rw [← hσ18]; exact s2_keep hx1 (by omega)
            have hx2 : σ18 (M + 10) (4 * i + 2) = x2 := by rw [← hσ18]; exact s2_keep hx2 (by omega)
            have hx3 : σ18 (M + 10) (4 * i + 3) = x3 := by rw [← hσ18]; exact s2_keep hx3 (by omega)
            have hso170 := pS_ok hb170
            have hsl170 := sgn_pos (p := p) (ln := ln) (t := t + 1 + 1) (by omega)
            have hat : σ18 M 17 = nI (t + 1 + 1 + 1) := by rw [hat, hso170.2]
            refine r_aload_n hc dX12_readOne_173 rfl ?_
            refine gf_X12_38 (q := M + 10) hc (MS0 hM) (MSr hM 15 10 (by decide)) dX12_readOne_174 ?_
            refine r_iload_n hc dX12_readOne_177 rfl ?_
            refine r_iconst (v := nI 2) hc dX12_readOne_178 rfl ?_
            refine r_iadd (v := nI (4 * i + 2)) hc dX12_readOne_179 (ad_NN _ _) ?_
            refine r_aload_n hc dX12_readOne_180 rfl ?_
            refine cl_X12_184 (As := []) hc (c_X12_cuts hM hln hpr hl80 hp (t := t + 1 + 2) hat (by omega) hwr) (MS0 hM) rfl ⟨by decide, by decide⟩ ⟨rfl, rfl⟩ ⟨by decide, by decide⟩ rfl (Nat.le_of_ble_eq_true rfl) dX12_readOne_181 (fun r u hcl => ?_)
            obtain ⟨y181, hrr, hy181, hu⟩ := hcl
            rw [hu, hrr]
            by_cases hb181 : (pC p ln 4 0 (t + 1 + 2)).1 = true
            ·
              rw [show (!(pC p ln 4 0 (t + 1 + 2)).1) = false by rw [hb181]; rfl]
              generalize hσ19 : s2 σ18 M 18 (bI false) = σ19
              have hln : σ19 M 6 = nI ln := by rw [← hσ19]; exact s2_keep hln (by omega)
              have hpr : rowAt σ19 (M + 5) ln p := by rw [← hσ19]; exact hpr.keep (by omega) _ _
              have hat : σ19 M 17 = nI (t + 1 + 2) := by rw [← hσ19]; exact s2_keep hat (by omega)
              have hwr : σ19 M 18 = bI false := by rw [← hσ19]; exact s2_same _ _ _ _
              have hmn : σ19 M 16 = nI i := by rw [← hσ19]; exact s2_keep hmn (by omega)
              have hx0 : σ19 (M + 10) (4 * i) = nI (sgn p ln t) := by rw [← hσ19]; exact s2_keep hx0 (by omega)
              have hx1 : σ19 (M + 10) (4 * i + 1) = nI ((pB p ln 48 57 (t + 1)).2.2) := by rw [← hσ19]; exact s2_keep hx1 (by omega)
              have hx2 : σ19 (M + 10) (4 * i + 2) = x2 := by rw [← hσ19]; exact s2_keep hx2 (by omega)
              have hx3 : σ19 (M + 10) (4 * i + 3) = x3 := by rw [← hσ19]; exact s2_keep hx3 (by omega)
              generalize hσ20 : s2 σ19 M 17 (nI ((pC p ln 4 0 (t + 1 + 2)).2.1)) = σ20
              have hln : σ20 M 6 = nI ln := by rw [← hσ20]; exact s2_keep hln (by omega)
              have hpr : rowAt σ20 (M + 5) ln p := by rw [← hσ20]; exact hpr.keep (by omega) _ _
              have hat : σ20 M 17 = nI ((pC p ln 4 0 (t + 1 + 2)).2.1) := by rw [← hσ20]; exact s2_same _ _ _ _
              have hwr : σ20 M 18 = bI false := by rw [← hσ20]; exact s2_keep hwr (by omega)
              have hmn : σ20 M 16 = nI i := by rw [← hσ20]; exact s2_keep hmn (by omega)
              have hx0 : σ20 (M + 10) (4 * i) = nI (sgn p ln t) := by rw [← hσ20]; exact s2_keep hx0 (by omega)
              have hx1 : σ20 (M + 10) (4 * i + 1) = nI ((pB p ln 48 57 (t + 1)).2.2) := by rw [← hσ20]; exact s2_keep hx1 (by omega)
              have hx2 : σ20 (M + 10) (4 * i + 2) = x2 := by rw [← hσ20]; exact s2_keep hx2 (by omega)
              have hx3 : σ20 (M + 10) (4 * i + 3) = x3 := by rw [← hσ20]; exact s2_keep hx3 (by omega)
              have hcp181 := pC_ok 4 0 (t + 1 + 2) hb181 (by omega)
              refine r_iast (j := 4 * i + 2) hc (MSa hM 10 0 320 rfl) rfl (by omega) (by decide) dX12_readOne_184 ?_
              generalize hσ21 : s2 σ20 (M + 10) (4 * i + 2) (nI y181) = σ21
              have hln : σ21 M 6 = nI ln := by rw [← hσ21]; exact s2_keep hln (by omega)
              have hpr : rowAt σ21 (M + 5) ln p := by rw [← hσ21]; exact hpr.keep (by omega) _ _
              have hat : σ21 M 17 = nI ((pC p ln 4 0 (t + 1 + 2)).2.1) := by rw [← hσ21]; exact s2_keep hat (by omega)
              have hwr : σ21 M 18 = bI false := by rw [← hσ21]; exact s2_keep hwr (by omega)
              have hmn : σ21 M 16 = nI i := by rw [← hσ21]; exact s2_keep hmn (by omega)
              have hx0 : σ21 (M + 10) (4 * i) = nI (sgn p ln t) := by rw [← hσ21]; exact s2_keep hx0 (by omega)
              have hx1 : σ21 (M + 10) (4 * i + 1) = nI ((pB p ln 48 57 (t + 1)).2.2) := by rw [← hσ21]; exact s2_keep hx1 (by omega)
              have hx2 : σ21 (M + 10) (4 * i + 2) = nI y181 := by rw [← hσ21]; exact s2_same _ _ _ _
              have hx3 : σ21 (M + 10) (4 * i + 3) = x3 := by rw [← hσ21]; exact s2_keep hx3 (by omega)
              refine r_aload_n hc dX12_readOne_185 rfl ?_
              refine r_bipush (v := nI 47) hc dX12_readOne_186 rfl ?_
              refine cl_X12_187 (As := [.int (nI 47)]) hc (c_X12_between hM hln hpr hl80 hp (t := (pC p ln 4 0 (t + 1 + 2)).2.1) hat (by omega) hwr (c := 47) (by omega)) (MS0 hM) rfl ⟨by decide, by decide⟩ ⟨rfl, rfl⟩ ⟨by decide, by decide⟩ rfl (Nat.le_of_ble_eq_true rfl) dX12_readOne_188 (fun u hcl => ?_)
              rw [hcl]
              by_cases hb188 : (pS p ln 47 ((pC p ln 4 0 (t + 1 + 2)).2.1)).1 = true
              ·
                rw [show (!(pS p ln 47 ((pC p ln 4 0 (t + 1 + 2)).2.1)).1) = false by rw [hb188]; rfl]
                generalize hσ22 : s2 σ21 M 18 (bI false) = σ22
                have hln : σ22 M 6 = nI ln := by rw [← hσ22]; exact s2_keep hln (by omega)
                have hpr : rowAt σ22 (M + 5) ln p := by rw [← hσ22]; exact hpr.keep (by omega) _ _
                have hat : σ22 M 17 = nI ((pC p ln 4 0 (t + 1 + 2)).2.1) := by rw [← hσ22]; exact s2_keep hat (by omega)
                have hwr : σ22 M 18 = bI false := by rw [← hσ22]; exact s2_same _ _ _ _
                have hmn : σ22 M 16 = nI i := by rw [← hσ22]; exact s2_keep hmn (by omega)
                have hx0 : σ22 (M + 10) (4 * i) = nI (sgn p ln t) := by rw [← hσ22]; exact s2_keep hx0 (by omega)
                have hx1 : σ22 (M + 10) (4 * i + 1) = nI ((pB p ln 48 57 (t + 1)).2.2) := by rw [← hσ22]; exact s2_keep hx1 (by omega)
                have hx2 : σ22 (M + 10) (4 * i + 2) = nI y181 := by rw [← hσ22]; exact s2_keep hx2 (by omega)
                have hx3 : σ22 (M + 10) (4 * i + 3) = x3 := by rw [← hσ22]; exact s2_keep hx3 (by omega)
                generalize hσ23 : s2 σ22 M 17 (nI ((pS p ln 47 ((pC p ln 4 0 (t + 1 + 2)).2.1)).2)) = σ23
                have hln : σ23 M 6 = nI ln := by rw [← hσ23]; exact s2_keep hln (by omega)
                have hpr : rowAt σ23 (M + 5) ln p := by rw [← hσ23]; exact hpr.keep (by omega) _ _
                have hat : σ23 M 17 = nI ((pS p ln 47 ((pC p ln 4 0 (t + 1 + 2)).2.1)).2) := by rw [← hσ23]; exact s2_same _ _ _ _
                have hwr : σ23 M 18 = bI false := by rw [← hσ23]; exact s2_keep hwr (by omega)
                have hmn : σ23 M 16 = nI i := by rw [← hσ23]; exact s2_keep hmn (by omega)
                have hx0 : σ23 (M + 10) (4 * i) = nI (sgn p ln t) := by rw [← hσ23]; exact s2_keep hx0 (by omega)
                have hx1 : σ23 (M + 10) (4 * i + 1) = nI ((pB p ln 48 57 (t + 1)).2.2) := by rw [← hσ23]; exact s2_keep hx1 (by omega)
                have hx2 : σ23 (M + 10) (4 * i + 2) = nI y181 := by rw [← hσ23]; exact s2_keep hx2 (by omega)
                have hx3 : σ23 (M + 10) (4 * i + 3) = x3 := by rw [← hσ23]; exact s2_keep hx3 (by omega)
                have hso188 := pS_ok hb188
                have hsl188 := sgn_pos (p := p) (ln := ln) (t := (pC p ln 4 0 (t + 1 + 2)).2.1) (by omega)
                have hat : σ23 M 17 = nI ((pC p ln 4 0 (t + 1 + 2)).2.1 + 1) := by rw [hat, hso188.2]
                refine r_aload_n hc dX12_readOne_191 rfl ?_
                refine gf_X12_38 (q := M + 10) hc (MS0 hM) (MSr hM 15 10 (by decide)) dX12_readOne_192 ?_
                refine r_iload_n hc dX12_readOne_195 rfl ?_
                refine r_iconst (v := nI 3) hc dX12_readOne_196 rfl ?_
                refine r_iadd (v := nI (4 * i + 3)) hc dX12_readOne_197 (ad_NN _ _) ?_
                refine r_aload_n hc dX12_readOne_198 rfl ?_
                refine cl_X12_184 (As := []) hc (c_X12_cuts hM hln hpr hl80 hp (t := (pC p ln 4 0 (t + 1 + 2)).2.1 + 1) hat (by omega) hwr) (MS0 hM) rfl ⟨by decide, by decide⟩ ⟨rfl, rfl⟩ ⟨by decide, by decide⟩ rfl (Nat.le_of_ble_eq_true rfl) dX12_readOne_199 (fun r u hcl => ?_)
                obtain ⟨y199, hrr, hy199, hu⟩ := hcl
                rw [hu, hrr]
                by_cases hb199 : (pC p ln 4 0 ((pC p ln 4 0 (t + 1 + 2)).2.1 + 1)).1 = true
                ·
                  rw [show (!(pC p ln 4 0 ((pC p ln 4 0 (t + 1 + 2)).2.1 + 1)).1) = false by rw [hb199]; rfl]
                  generalize hσ24 : s2 σ23 M 18 (bI false) = σ24
                  have hln : σ24 M 6 = nI ln := by rw [← hσ24]; exact s2_keep hln (by omega)
                  have hpr : rowAt σ24 (M + 5) ln p := by rw [← hσ24]; exact hpr.keep (by omega) _ _
                  have hat : σ24 M 17 = nI ((pC p ln 4 0 (t + 1 + 2)).2.1 + 1) := by rw [← hσ24]; exact s2_keep hat (by omega)
                  have hwr : σ24 M 18 = bI false := by rw [← hσ24]; exact s2_same _ _ _ _
                  have hmn : σ24 M 16 = nI i := by rw [← hσ24]; exact s2_keep hmn (by omega)
                  have hx0 : σ24 (M + 10) (4 * i) = nI (sgn p ln t) := by rw [← hσ24]; exact s2_keep hx0 (by omega)
                  have hx1 : σ24 (M + 10) (4 * i + 1) = nI ((pB p ln 48 57 (t + 1)).2.2) := by rw [← hσ24]; exact s2_keep hx1 (by omega)
                  have hx2 : σ24 (M + 10) (4 * i + 2) = nI y181 := by rw [← hσ24]; exact s2_keep hx2 (by omega)
                  have hx3 : σ24 (M + 10) (4 * i + 3) = x3 := by rw [← hσ24]; exact s2_keep hx3 (by omega)
                  generalize hσ25 : s2 σ24 M 17 (nI ((pC p ln 4 0 ((pC p ln 4 0 (t + 1 + 2)).2.1 + 1)).2.1)) = σ25
                  have hln : σ25 M 6 = nI ln := by rw [← hσ25]; exact s2_keep hln (by omega)
                  have hpr : rowAt σ25 (M + 5) ln p := by rw [← hσ25]; exact hpr.keep (by omega) _ _
                  have hat : σ25 M 17 = nI ((pC p ln 4 0 ((pC p ln 4 0 (t + 1 + 2)).2.1 + 1)).2.1) := by rw [← hσ25]; exact s2_same _ _ _ _
                  have hwr : σ25 M 18 = bI false := by rw [← hσ25]; exact s2_keep hwr (by omega)
                  have hmn : σ25 M 16 = nI i := by rw [← hσ25]; exact s2_keep hmn (by omega)
                  have hx0 : σ25 (M + 10) (4 * i) = nI (sgn p ln t) := by rw [← hσ25]; exact s2_keep hx0 (by omega)
                  have hx1 : σ25 (M + 10) (4 * i + 1) = nI ((pB p ln 48 57 (t + 1)).2.2) := by rw [← hσ25]; exact s2_keep hx1 (by omega)
                  have hx2 : σ25 (M + 10) (4 * i + 2) = nI y181 := by rw [← hσ25]; exact s2_keep hx2 (by omega)
                  have hx3 : σ25 (M + 10) (4 * i + 3) = x3 := by rw [← hσ25]; exact s2_keep hx3 (by omega)
                  have hcp199 := pC_ok 4 0 ((pC p ln 4 0 (t + 1 + 2)).2.1 + 1) hb199 (by omega)
                  refine r_iast (j := 4 * i + 3) hc (MSa hM 10 0 320 rfl) rfl (by omega) (by decide) dX12_readOne_202 ?_
                  generalize hσ26 : s2 σ25 (M + 10) (4 * i + 3) (nI y199) = σ26
                  have hln : σ26 M 6 = nI ln := by rw [← hσ26]; exact s2_keep hln (by omega)
                  have hpr : rowAt σ26 (M + 5) ln p := by rw [← hσ26]; exact hpr.keep (by omega) _ _
                  have hat : σ26 M 17 = nI ((pC p ln 4 0 ((pC p ln 4 0 (t + 1 + 2)).2.1 + 1)).2.1) := by rw [← hσ26]; exact s2_keep hat (by omega)
                  have hwr : σ26 M 18 = bI false := by rw [← hσ26]; exact s2_keep hwr (by omega)
                  have hmn : σ26 M 16 = nI i := by rw [← hσ26]; exact s2_keep hmn (by omega)
                  have hx0 : σ26 (M + 10) (4 * i) = nI (sgn p ln t) := by rw [← hσ26]; exact s2_keep hx0 (by omega)
                  have hx1 : σ26 (M + 10) (4 * i + 1) = nI ((pB p ln 48 57 (t + 1)).2.2) := by rw [← hσ26]; exact s2_keep hx1 (by omega)
                  have hx2 : σ26 (M + 10) (4 * i + 2) = nI y181 := by rw [← hσ26]; exact s2_keep hx2 (by omega)
                  have hx3 : σ26 (M + 10) (4 * i + 3) = nI y199 := by rw [← hσ26]; exact s2_same _ _ _ _
                  refine r_goto (tgt := 256) hc dX12_readOne_203 (by decide) ?_
                  refine r_aload_n hc dX12_readOne_256 rfl ?_
                  refine r_dup hc dX12_readOne_257 rfl ?_
                  refine gf_X12_181 (x := nI i) hc (MS0 hM) hmn dX12_readOne_258 ?_
                  refine r_iconst (v := nI 1) hc dX12_readOne_261 rfl ?_
                  refine r_iadd (v := nI (i + 1)) hc dX12_readOne_262 (ad_NN _ _) ?_
                  refine pf_X12_181 hc (MS0 hM) dX12_readOne_263 ?_
                  generalize hσ27 : s2 σ26 M 16 (nI (i + 1)) = σ27
                  have hln : σ27 M 6 = nI ln := by rw [← hσ27]; exact s2_keep hln (by omega)
                  have hpr : rowAt σ27 (M + 5) ln p := by rw [← hσ27]; exact hpr.keep (by omega) _ _
                  have hat : σ27 M 17 = nI ((pC p ln 4 0 ((pC p ln 4 0 (t + 1 + 2)).2.1 + 1)).2.1) := by rw [← hσ27]; exact s2_keep hat (by omega)
                  have hwr : σ27 M 18 = bI false := by rw [← hσ27]; exact s2_keep hwr (by omega)
                  have hmn : σ27 M 16 = nI (i + 1) := by rw [← hσ27]; exact s2_same _ _ _ _
                  have hx0 : σ27 (M + 10) (4 * i) = nI (sgn p ln t) := by rw [← hσ27]; exact s2_keep hx0 (by omega)
                  have hx1 : σ27 (M + 10) (4 * i + 1) = nI ((pB p ln 48 57 (t + 1)).2.2) := by rw [← hσ27]; exact s2_keep hx1 (by omega)
                  have hx2 : σ27 (M + 10) (4 * i + 2) = nI y181 := by rw [← hσ27]; exact s2_keep hx2 (by omega)
                  have hx3 : σ27 (M + 10) (4 * i + 3) = nI y199 := by rw [← hσ27]; exact s2_keep hx3 (by omega)
                  have hE : pO p ln t = pK p ln (t + 1) := by unfold pO; rw [if_neg (show ¬ sgn p ln t = 107 by omega), if_pos (show sgn p ln t = 99 by omega)]
                  rw [hE] at hR
                  have hE2 : pK p ln (t + 1) = ((pC p ln 4 0 ((pC p ln 4 0 (t + 1 + 2)).2.1 + 1)).1, (pC p ln 4 0 ((pC p ln 4 0 (t + 1 + 2)).2.1 + 1)).2.1, (pB p ln 48 57 (t + 1)).2.2, (pC p ln 4 0 (t + 1 + 2)).2.2, (pC p ln 4 0 ((pC p ln 4 0 (t + 1 + 2)).2.1 + 1)).2.2) := by unfold pK; rw [if_pos hb163, if_pos hb170, if_pos hb181, if_pos hb188]
                  rw [hE2] at hR
                  exact hR _ ⟨_, rfl, hat, by rw [hb199]; exact hwr, fun _ => ⟨hmn, hx0, hx1, fun _ => ⟨by rw [hx2, hy181 hb181], by rw [hx3, hy199 hb199]⟩⟩, ⟨fun q q1 q2 => by rw [← hσ27, s2_ne q1, ← hσ26, s2_ne q2, ← hσ25, s2_ne q1, ← hσ24, s2_ne q1, ← hσ23, s2_ne q1, ← hσ22, s2_ne q1, ← hσ21, s2_ne q2, ← hσ20, s2_ne q1, ← hσ19, s2_ne q1, ← hσ18, s2_ne q1, ← hσ17, s2_ne q1, ← hσ16, s2_ne q2, ← hσ15, s2_ne q1, ← hσ14, s2_ne q1, ← hσ13, s2_ne q1, ← hσ12, s2_ne q1, ← hσ1, s2_ne q2], fun k hk => by rw [← hσ27, s2_nk (by omega), ← hσ26, s2_na (by omega), ← hσ25, s2_nk (by omega), ← hσ24, s2_nk (by omega), ← hσ23, s2_nk (by omega), ← hσ22, s2_nk (by omega), ← hσ21, s2_na (by omega), ← hσ20, s2_nk (by omega), ← hσ19, s2_nk (by omega), ← hσ18, s2_nk (by omega), ← hσ17, s2_nk (by omega), ← hσ16, s2_na (by omega), ← hσ15, s2_nk (by omega), ← hσ14, s2_nk (by omega), ← hσ13, s2_nk (by omega), ← hσ12, s2_nk (by omega), ← hσ1, s2_na (by omega)], fun j hj => by rw [← hσ27, s2_na (by omega), ← hσ26, s2_nk (by omega), ← hσ25, s2_na (by omega), ← hσ24, s2_na (by omega), ← hσ23, s2_na (by omega), ← hσ22, s2_na (by omega), ← hσ21, s2_nk (by omega), ← hσ20, s2_na (by omega), ← hσ19, s2_na (by omega), ← hσ18, s2_na (by omega), ← hσ17, s2_na (by omega), ← hσ16, s2_nk (by omega), ← hσ15, s2_na (by omega), ← hσ14, s2_na (by omega), ← hσ13, s2_na (by omega), ← hσ12, s2_na (by omega), ← hσ1, s2_nk (by omega)]⟩⟩ _ _ dX12_readOne_266
                ·
                  rw [show (!(pC p ln 4 0 ((pC p ln 4 0 (t + 1 + 2)).2.1 + 1)).1) = true by rw [Bool.eq_false_iff.mpr hb199]; rfl]
                  generalize hσ28 : s2 σ23 M 18 (bI true) = σ28
                  have hln : σ28 M 6 = nI ln := by rw [← hσ28]; exact s2_keep hln (by omega)
                  have hpr : rowAt σ28 (M + 5) ln p := by rw [← hσ28]; exact hpr.keep (by omega) _ _
                  have hat : σ28 M 17 = nI ((pC p ln 4 0 (t + 1 + 2)).2.1 + 1) := by rw [← hσ28]; exact s2_keep hat (by omega)
                  have hwr : σ28 M 18 = bI true := by rw [← hσ28]; exact s2_same _ _ _ _
                  have hmn : σ28 M 16 = nI i := by rw [← hσ28]; exact s2_keep hmn (by omega)
                  have hx0 : σ28 (M + 10) (4 * i) = nI (sgn p ln t) := by rw [← hσ28]; exact s2_keep hx0 (by omega)
                  have hx1 : σ28 (M + 10) (4 * i + 1) = nI ((pB p ln 48 57 (t + 1)).2.2) := by rw [← hσ28]; exact s2_keep hx1 (by omega)
                  have hx2 : σ28 (M + 10) (4 * i + 2) = nI y181 := by rw [← hσ28]; exact s2_keep hx2 (by omega)
                  have hx3 : σ28 (M + 10) (4 * i + 3) = x3 := by rw [← hσ28]; exact s2_keep hx3 (by omega)
                  generalize hσ29 : s2 σ28 M 17 (nI ((pC p ln 4 0 ((pC p ln 4 0 (t + 1 + 2)).2.1 + 1)).2.1)) = σ29
                  have hln : σ29 M 6 = nI ln := by rw [← hσ29]; exact s2_keep hln (by omega)
                  have hpr : rowAt σ29 (M + 5) ln p := by rw [← hσ29]; exact hpr.keep (by omega) _ _
                  have hat : σ29 M 17 = nI ((pC p ln 4 0 ((pC p ln 4 0 (t + 1 + 2)).2.1 + 1)).2.1) := by rw [← hσ29]; exact s2_same _ _ _ _
                  have hwr : σ29 M 18 = bI true := by rw [← hσ29]; exact s2_keep hwr (by omega)
                  have hmn : σ29 M 16 = nI i := by rw [← hσ29]; exact s2_keep hmn (by omega)
                  have hx0 : σ29 (M + 10) (4 * i) = nI (sgn p ln t) := by rw [← hσ29]; exact s2_keep hx0 (by omega)
                  have hx1 : σ29 (M + 10) (4 * i + 1) = nI ((pB p ln 48 57 (t + 1)).2.2) := by rw [← hσ29]; exact s2_keep hx1 (by omega)
                  have hx2 : σ29 (M + 10) (4 * i + 2) = nI y181 := by rw [← hσ29]; exact s2_keep hx2 (by omega)
                  have hx3 : σ29 (M + 10) (4 * i + 3) = x3 := by rw [← hσ29]; exact s2_keep hx3 (by omega)
                  have hcp199 := pC_no (p := p) (ln := ln) 4 0 ((pC p ln 4 0 (t + 1 + 2)).2.1 + 1) (by omega)
                  refine r_iast (j := 4 * i + 3) hc (MSa hM 10 0 320 rfl) rfl (by omega) (by decide) dX12_readOne_202 ?_
                  generalize hσ30 : s2 σ29 (M + 10) (4 * i + 3) (nI y199) = σ30
                  have hln : σ30 M 6 = nI ln := by rw [← hσ30]; exact s2_keep hln (by omega)
                  have hpr : rowAt σ30 (M + 5) ln p := by rw [← hσ30]; exact hpr.keep (by omega) _ _
                  have hat : σ30 M 17 = nI ((pC p ln 4 0 ((pC p ln 4 0 (t + 1 + 2)).2.1 + 1)).2.1) := by rw [← hσ30]; exact s2_keep hat (by omega)
                  have hwr : σ30 M 18 = bI true := by rw [← hσ30]; exact s2_keep hwr (by omega)
                  have hmn : σ30 M 16 = nI i := by rw [← hσ30]; exact s2_keep hmn (by omega)
                  have hx0 : σ30 (M + 10) (4 * i) = nI (sgn p ln t) := by rw [← hσ30]; exact s2_keep hx0 (by omega)
                  have hx1 : σ30 (M + 10) (4 * i + 1) = nI ((pB p ln 48 57 (t + 1)).2.2) := by rw [← hσ30]; exact s2_keep hx1 (by omega)
                  have hx2 : σ30 (M + 10) (4 * i + 2) = nI y181 := by rw [← hσ30]; exact s2_keep hx2 (by omega)
                  have hx3 : σ30 (M + 10) (4 * i + 3) = nI y199 := by rw [← hσ30]; exact s2_same _ _ _ _
                  refine r_goto (tgt := 256) hc dX12_readOne_203 (by decide) ?_
                  refine r_aload_n hc dX12_readOne_256 rfl ?_
                  refine r_dup hc dX12_readOne_257 rfl ?_
                  refine gf_X12_181 (x := nI i) hc (MS0 hM) hmn dX12_readOne_258 ?_
                  refine r_iconst (v := nI 1) hc dX12_readOne_261 rfl ?_
                  refine r_iadd (v := nI (i + 1)) hc dX12_readOne_262 (ad_NN _ _) ?_
                  refine pf_X12_181 hc (MS0 hM) dX12_readOne_263 ?_
                  generalize hσ31 : s2 σ30 M 16 (nI (i + 1)) = σ31
                  have hln : σ31 M 6 = nI ln := by rw [← hσ31]; exact s2_keep hln (by omega)
                  have hpr : rowAt σ31 (M + 5) ln p := by rw [← hσ31]; exact hpr.keep (by omega) _ _
                  have hat : σ31 M 17 = nI ((pC p ln 4 0 ((pC p ln 4 0 (t + 1 + 2)).2.1 + 1)).2.1) := by rw [← hσ31]; exact s2_keep hat (by omega)
                  have hwr : σ31 M 18 = bI true := by rw [← hσ31]; exact s2_keep hwr (by omega)
                  have hmn : σ31 M 16 = nI (i + 1) := by rw [← hσ31]; exact s2_same _ _ _ _
                  have hx0 : σ31 (M + 10) (4 * i) = nI (sgn p ln t) := by rw [← hσ31]; exact s2_keep hx0 (by omega)
                  have hx1 : σ31 (M + 10) (4 * i + 1) = nI ((pB p ln 48 57 (t + 1)).2.2) := by rw [← hσ31]; exact s2_keep hx1 (by omega)
                  have hx2 : σ31 (M + 10) (4 * i + 2) = nI y181 := by rw [← hσ31]; exact s2_keep hx2 (by omega)
                  have hx3 : σ31 (M + 10) (4 * i + 3) = nI y199 := by rw [← hσ31]; exact s2_keep hx3 (by omega)
                  have hE : pO p ln t = pK p ln (t + 1) := by unfold pO; rw [if_neg (show ¬ sgn p ln t = 107 by omega), if_pos (show sgn p ln t = 99 by omega)]
                  rw [hE] at hR
                  have hE2 : pK p ln (t + 1) = ((pC p ln 4 0 ((pC p ln 4 0 (t + 1 + 2)).2.1 + 1)).1, (pC p ln 4 0 ((pC p ln 4 0 (t + 1 + 2)).2.1 + 1)).2.1, (pB p ln 48 57 (t + 1)).2.2, (pC p ln 4 0 (t + 1 + 2)).2.2, (pC p ln 4 0 ((pC p ln 4 0 (t + 1 + 2)).2.1 + 1)).2.2) := by unfold pK; rw [if_pos hb163, if_pos hb170, if_pos hb181, if_pos hb188]
                  rw [hE2] at hR
                  exact hR _ ⟨_, rfl, hat, by rw [Bool.eq_false_iff.mpr hb199]; exact hwr, fun q => absurd q hb199, ⟨fun q q1 q2 => by rw [← hσ31, s2_ne q1, ← hσ30, s2_ne q2, ← hσ29, s2_ne q1, ← hσ28, s2_ne q1, ← hσ23, s2_ne q1, ← hσ22, s2_ne q1, ← hσ21, s2_ne q2, ← hσ20, s2_ne q1, ← hσ19, s2_ne q1, ← hσ18, s2_ne q1, ← hσ17, s2_ne q1, ← hσ16, s2_ne q2, ← hσ15, s2_ne q1, ← hσ14, s2_ne q1, ← hσ13, s2_ne q1, ← hσ12, s2_ne q1, ← hσ1, s2_ne q2], fun k hk => by rw [← hσ31, s2_nk (by omega), ← hσ30, s2_na (by omega), ← hσ29, s2_nk (by omega), ← hσ28, s2_nk (by omega), ← hσ23, s2_nk (by omega), ← hσ22, s2_nk (by omega), ← hσ21, s2_na (by omega), ← hσ20, s2_nk (by omega), ← hσ19, s2_nk (by omega), ← hσ18, s2_nk (by omega), ← hσ17, s2_nk (by omega), ← hσ16, s2_na (by omega), ← hσ15, s2_nk (by omega), ← hσ14, s2_nk (by omega), ← hσ13, s2_nk (by omega), ← hσ12, s2_nk (by omega), ← hσ1, s2_na (by omega)], fun j hj => by rw [← hσ31, s2_na (by omega), ← hσ30, s2_nk (by omega), ← hσ29, s2_na (by omega), ← hσ28, s2_na (by omega), ← hσ23, s2_na (by omega), ← hσ22, s2_na (by omega), ← hσ21, s2_nk (by omega), ← hσ20, s2_na (by omega), ← hσ19, s2_na (by omega), ← hσ18, s2_na (by omega), ← hσ17, s2_na (by omega), ← hσ16, s2_nk (by omega), ← hσ15, s2_na (by omega), ← hσ14, s2_na (by omega), ← hσ13, s2_na (by omega), ← hσ12, s2_na (by omega), ← hσ1, s2_nk (by omega)]⟩⟩ _ _ dX12_readOne_266
              ·
                rw [show (!(pS p ln 47 ((pC p ln 4 0 (t + 1 + 2)).2.1)).1) = true by rw [Bool.eq_false_iff.mpr hb188]; rfl]
                generalize hσ32 : s2 σ21 M 18 (bI true) = σ32
                have hln : σ32 M 6 = nI ln := by rw [← hσ32]; exact s2_keep hln (by omega)
                have hpr : rowAt σ32 (M + 5) ln p := by rw [← hσ32]; exact hpr.keep (by omega) _ _
                have hat : σ32 M 17 = nI ((pC p ln 4 0 (t + 1 + 2)).2.1) := by rw [← hσ32]; exact s2_keep hat (by omega)
                have hwr : σ32 M 18 = bI true := by rw [← hσ32]; exact s2_same _ _ _ _
                have hmn : σ32 M 16 = nI i := by rw [← hσ32]; exact s2_keep hmn (by omega)
                have hx0 : σ32 (M + 10) (4 * i) = nI (sgn p ln t) := by rw [← hσ32]; exact s2_keep hx0 (by omega)
                have hx1 : σ32 (M + 10) (4 * i + 1) = nI ((pB p ln 48 57 (t + 1)).2.2) := by rw [← hσ32]; exact s2_keep hx1 (by omega)
                have hx2 : σ32 (M + 10) (4 * i + 2) = nI y181 := by rw [← hσ32]; exact s2_keep hx2 (by omega)
                have hx3 : σ32 (M + 10) (4 * i + 3) = x3 := by rw [← hσ32]; exact s2_keep hx3 (by omega)
                generalize hσ33 : s2 σ32 M 17 (nI ((pS p ln 47 ((pC p ln 4 0 (t + 1 + 2)).2.1)).2)) = σ33
                have hln : σ33 M 6 = nI ln := by rw [← hσ33]; exact s2_keep hln (by omega)
                have hpr : rowAt σ33 (M + 5) ln p := by rw [← hσ33]; exact hpr.keep (by omega) _ _
                have hat : σ33 M 17 = nI ((pS p ln 47 ((pC p ln 4 0 (t + 1 + 2)).2.1)).2) := by rw [← hσ33]; exact s2_same _ _ _ _
                have hwr : σ33 M 18 = bI true := by rw [← hσ33]; exact s2_keep hwr (by omega)
                have hmn : σ33 M 16 = nI i := by rw [← hσ33]; exact s2_keep hmn (by omega)
                have hx0 : σ33 (M + 10) (4 * i) = nI (sgn p ln t) := by rw [← hσ33]; exact s2_keep hx0 (by omega)
                have hx1 : σ33 (M + 10) (4 * i + 1) = nI ((pB p ln 48 57 (t + 1)).2.2) := by rw [← hσ33]; exact s2_keep hx1 (by omega)
                have hx2 : σ33 (M + 10) (4 * i + 2) = nI y181 := by rw [← hσ33]; exact s2_keep hx2 (by omega)
                have hx3 : σ33 (M + 10) (4 * i + 3) = x3 := by rw [← hσ33]; exact s2_keep hx3 (by omega)
                have hsn188 := pS_no (Bool.eq_false_iff.mpr hb188)
                have hat : σ33 M 17 = nI ((pC p ln 4 0 (t + 1 + 2)).2.1) := by rw [hat, hsn188]
                refine r_aload_n hc dX12_readOne_191 rfl ?_
                refine gf_X12_38 (q := M + 10) hc (MS0 hM) (MSr hM 15 10 (by decide)) dX12_readOne_192 ?_
                refine r_iload_n hc dX12_readOne_195 rfl ?_
                refine r_iconst (v := nI 3) hc dX12_readOne_196 rfl ?_
                refine r_iadd (v := nI (4 * i + 3)) hc dX12_readOne_197 (ad_NN _ _) ?_
                refine r_aload_n hc dX12_readOne_198 rfl ?_
                refine cl_X12_184 (As := []) hc (c_X12_cuts_T hM hln hpr hl80 hp (t := (pC p ln 4 0 (t + 1 + 2)).2.1) hat (by omega) hwr) (MS0 hM) rfl ⟨by decide, by decide⟩ ⟨rfl, rfl⟩ ⟨by decide, by decide⟩ rfl (Nat.le_of_ble_eq_true rfl) dX12_readOne_199 (fun r u hp => ?_)
                obtain ⟨rfl, hu⟩ := hp
                rw [hu]
                refine r_iast (j := 4 * i + 3) hc (MSa hM 10 0 320 rfl) rfl (by omega) (by decide) dX12_readOne_202 ?_
                generalize hσ34 : s2 σ33 (M + 10) (4 * i + 3) (nI 0) = σ34
                have hln : σ34 M 6 = nI ln := by rw [← hσ34]; exact s2_keep hln (by omega)
                have hpr : rowAt σ34 (M + 5) ln p := by rw [← hσ34]; exact hpr.keep (by omega) _ _
                have hat : σ34 M 17 = nI ((pC p ln 4 0 (t + 1 + 2)).2.1) := by rw [← hσ34]; exact s2_keep hat (by omega)
                have hwr : σ34 M 18 = bI true := by rw [← hσ34]; exact s2_keep hwr (by omega)
                have hmn : σ34 M 16 = nI i := by rw [← hσ34]; exact s2_keep hmn (by omega)
                have hx0 : σ34 (M + 10) (4 * i) = nI (sgn p ln t) := by rw [← hσ34]; exact s2_keep hx0 (by omega)
                have hx1 : σ34 (M + 10) (4 * i + 1) = nI ((pB p ln 48 57 (t + 1)).2.2) := by rw [← hσ34]; exact s2_keep hx1 (by omega)
                have hx2 : σ34 (M + 10) (4 * i + 2) = nI y181 := by rw [← hσ34]; exact s2_keep hx2 (by omega)
                have hx3 : σ34 (M + 10) (4 * i + 3) = nI 0 := by rw [← hσ34]; exact s2_same _ _ _ _
                refine r_goto (tgt := 256) hc dX12_readOne_203 (by decide) ?_
                refine r_aload_n hc dX12_readOne_256 rfl ?_
                refine r_dup hc dX12_readOne_257 rfl ?_
                refine gf_X12_181 (x := nI i) hc (MS0 hM) hmn dX12_readOne_258 ?_
                refine r_iconst (v := nI 1) hc dX12_readOne_261 rfl ?_
                refine r_iadd (v := nI (i + 1)) hc dX12_readOne_262 (ad_NN _ _) ?_
                refine pf_X12_181 hc (MS0 hM) dX12_readOne_263 ?_
                generalize hσ35 : s2 σ34 M 16 (nI (i + 1)) = σ35
                have hln : σ35 M 6 = nI ln := by rw [← hσ35]; exact s2_keep hln (by omega)
                have hpr : rowAt σ35 (M + 5) ln p := by rw [← hσ35]; exact hpr.keep (by omega) _ _
                have hat : σ35 M 17 = nI ((pC p ln 4 0 (t + 1 + 2)).2.1) := by rw [← hσ35]; exact s2_keep hat (by omega)
                have hwr : σ35 M 18 = bI true := by rw [← hσ35]; exact s2_keep hwr (by omega)
                have hmn : σ35 M 16 = nI (i + 1) := by rw [← hσ35]; exact s2_same _ _ _ _
                have hx0 : σ35 (M + 10) (4 * i) = nI (sgn p ln t) := by rw [← hσ35]; exact s2_keep hx0 (by omega)
                have hx1 : σ35 (M + 10) (4 * i + 1) = nI ((pB p ln 48 57 (t + 1)).2.2) := by rw [← hσ35]; exact s2_keep hx1 (by omega)
                have hx2 : σ35 (M + 10) (4 * i + 2) = nI y181 := by rw [← hσ35]; exact s2_keep hx2 (by omega)
                have hx3 : σ35 (M + 10) (4 * i + 3) = nI 0 := by rw [← hσ35]; exact s2_keep hx3 (by omega)
                have hE : pO p ln t = pK p ln (t + 1) := by unfold pO; rw [if_neg (show ¬ sgn p ln t = 107 by omega), if_pos (show sgn p ln t = 99 by omega)]
                rw [hE] at hR
                have hE2 : pK p ln (t + 1) = (false, (pC p ln 4 0 (t + 1 + 2)).2.1, 0, 0, 0) := by unfold pK; rw [if_pos hb163, if_pos hb170, if_pos hb181, if_neg hb188]
                rw [hE2] at hR
                exact hR _ ⟨_, rfl, hat, hwr, fun q => Bool.noConfusion q, ⟨fun q q1 q2 => by rw [← hσ35, s2_ne q1, ← hσ34, s2_ne q2, ← hσ33, s2_ne q1, ← hσ32, s2_ne q1, ← hσ21, s2_ne q2, ← hσ20, s2_ne q1, ← hσ19, s2_ne q1, ← hσ18, s2_ne q1, ← hσ17, s2_ne q1, ← hσ16, s2_ne q2, ← hσ15, s2_ne q1, ← hσ14, s2_ne q1, ← hσ13, s2_ne q1, ← hσ12, s2_ne q1, ← hσ1, s2_ne q2], fun k hk => by rw [← hσ35, s2_nk (by omega), ← hσ34, s2_na (by omega), ← hσ33, s2_nk (by omega), ← hσ32, s2_nk (by omega), ← hσ21, s2_na (by omega), ← hσ20, s2_nk (by omega), ← hσ19, s2_nk (by omega), ← hσ18, s2_nk (by omega), ← hσ17, s2_nk (by omega), ← hσ16, s2_na (by omega), ← hσ15, s2_nk (by omega), ← hσ14, s2_nk (by omega), ← hσ13, s2_nk (by omega), ← hσ12, s2_nk (by omega), ← hσ1, s2_na (by omega)], fun j hj => by rw [← hσ35, s2_na (by omega), ← hσ34, s2_nk (by omega), ← hσ33, s2_na (by omega), ← hσ32, s2_na (by omega), ← hσ21, s2_nk (by omega), ← hσ20, s2_na (by omega), ← hσ19, s2_na (by omega), ← hσ18, s2_na (by omega), ← hσ17, s2_na (by omega), ← hσ16, s2_nk (by omega), ← hσ15, s2_na (by omega), ← hσ14, s2_na (by omega), ← hσ13, s2_na (by omega), ← hσ12, s2_na (by omega), ← hσ1, s2_nk (by omega)]⟩⟩ _ _ dX12_readOne_266
            ·
              rw [show (!(pC p ln 4 0 (t + 1 + 2)).1) = true by rw [Bool.eq_false_iff.mpr hb181]; rfl]
              generalize hσ36 : s2 σ18 M 18 (bI true) = σ36
              have hln : σ36 M 6 = nI ln := by rw [← hσ36]; exact s2_keep hln (by omega)
              have hpr : rowAt σ36 (M + 5) ln p := by rw [← hσ36]; exact hpr.keep (by omega) _ _
              have hat : σ36 M 17 = nI (t + 1 + 2) := by rw [← hσ36]; exact s2_keep hat (by omega)
              have hwr : σ36 M 18 = bI true := by rw [← hσ36]; exact s2_same _ _ _ _
              have hmn : σ36 M 16 = nI i := by rw [← hσ36]; exact s2_keep hmn (by omega)
              have hx0 : σ36 (M + 10) (4 * i) = nI (sgn p ln t) := by rw [← hσ36]; exact s2_keep hx0 (by omega)
              have hx1 : σ36 (M + 10) (4 * i + 1) = nI ((pB p ln 48 57 (t + 1)).2.2) := by rw [← hσ36]; exact s2_keep hx1 (by omega)
              have hx2 : σ36 (M + 10) (4 * i + 2) = x2 := by rw [← hσ36]; exact s2_keep hx2 (by omega)
              have hx3 : σ36 (M + 10) (4 * i + 3) = x3 := by rw [← hσ36]; exact s2_keep hx3 (by omega)
              generalize hσ37 : s2 σ36 M 17 (nI ((pC p ln 4 0 (t + 1 + 2)).2.1)) = σ37
              have hln : σ37 M 6 = nI ln := by rw [← hσ37]; exact s2_keep hln (by omega)
              have hpr : rowAt σ37 (M + 5) ln p := by rw [← hσ37]; exact hpr.keep (by omega) _ _
              have hat : σ37 M 17 = nI ((pC p ln 4 0 (t + 1 + 2)).2.1) := by rw [← hσ37]; exact s2_same _ _ _ _
              have hwr : σ37 M 18 = bI true := by rw [← hσ37]; exact s2_keep hwr (by omega)
              have hmn : σ37 M 16 = nI i := by rw [← hσ37]; exact s2_keep hmn (by omega)
              have hx0 : σ37 (M + 10) (4 * i) = nI (sgn p ln t) := by rw [← hσ37]; exact s2_keep hx0 (by omega)
              have hx1 : σ37 (M + 10) (4 * i + 1) = nI ((pB p ln 48 57 (t + 1)).2.2) := by rw [← hσ37]; exact s2_keep hx1 (by omega)
              have hx2 : σ37 (M + 10) (4 * i + 2) = x2 := by rw [← hσ37]; exact s2_keep hx2 (by omega)
              have hx3 : σ37 (M + 10) (4 * i + 3) = x3 := by rw [← hσ37]; exact s2_keep hx3 (by omega)
              have hcp181 := pC_no (p := p) (ln := ln) 4 0 (t + 1 + 2) (by omega)
              refine r_iast (j := 4 * i + 2) hc (MSa hM 10 0 320 rfl) rfl (by omega) (by decide) dX12_readOne_184 ?_
              generalize hσ38 : s2 σ37 (M + 10) (4 * i + 2) (nI y181) = σ38
              have hln : σ38 M 6 = nI ln := by rw [← hσ38]; exact s2_keep hln (by omega)
              have hpr : rowAt σ38 (M + 5) ln p := by rw [← hσ38]; exact hpr.keep (by omega) _ _
              have hat : σ38 M 17 = nI ((pC p ln 4 0 (t + 1 + 2)).2.1) := by rw [← hσ38]; exact s2_keep hat (by omega)
              have hwr : σ38 M 18 = bI true := by rw [← hσ38]; exact s2_keep hwr (by omega)
              have hmn : σ38 M 16 = nI i := by rw [← hσ38]; exact s2_keep hmn (by omega)
              have hx0 : σ38 (M + 10) (4 * i) = nI (sgn p ln t) := by rw [← hσ38]; exact s2_keep hx0 (by omega)
              have hx1 : σ38 (M + 10) (4 * i + 1) = nI ((pB p ln 48 57 (t + 1)).2.2) := by rw [← hσ38]; exact s2_keep hx1 (by omega)
              have hx2 : σ38 (M + 10) (4 * i + 2) = nI y181 := by rw [← hσ38]; exact s2_same _ _ _ _
              have hx3 : σ38 (M + 10) (4 * i + 3) = x3 := by rw [← hσ38]; exact s2_keep hx3 (by omega)
              refine r_aload_n hc dX12_readOne_185 rfl ?_
              refine r_bipush (v := nI 47) hc dX12_readOne_186 rfl ?_
              refine cl_X12_187 (As := [.int (nI 47)]) hc (c_X12_between_T hM hln hpr hl80 hp (t := (pC p ln 4 0 (t + 1 + 2)).2.1) hat (by omega) hwr (c := 47)) (MS0 hM) rfl ⟨by decide, by decide⟩ ⟨rfl, rfl⟩ ⟨by decide, by decide⟩ rfl (Nat.le_of_ble_eq_true rfl) dX12_readOne_188 (fun u hcl => ?_)
              rw [hcl]
              refine r_aload_n hc dX12_readOne_191 rfl ?_
              refine gf_X12_38 (q := M + 10) hc (MS0 hM) (MSr hM 15 10 (by decide)) dX12_readOne_192 ?_
              refine r_iload_n hc dX12_readOne_195 rfl ?_
              refine r_iconst (v := nI 3) hc dX12_readOne_196 rfl ?_
              refine r_iadd (v := nI (4 * i + 3)) hc dX12_readOne_197 (ad_NN _ _) ?_
              refine r_aload_n hc dX12_readOne_198 rfl ?_
              refine cl_X12_184 (As := []) hc (c_X12_cuts_T hM hln hpr hl80 hp (t := (pC p ln 4 0 (t + 1 + 2)).2.1) hat (by omega) hwr) (MS0 hM) rfl ⟨by decide, by decide⟩ ⟨rfl, rfl⟩ ⟨by decide, by decide⟩ rfl (Nat.le_of_ble_eq_true rfl) dX12_readOne_199 (fun r u hp => ?_)
              obtain ⟨rfl, hu⟩ := hp
              rw [hu]
              refine r_iast (j := 4 * i + 3) hc (MSa hM 10 0 320 rfl) rfl (by omega) (by decide) dX12_readOne_202 ?_
              generalize hσ39 : s2 σ38 (M + 10) (4 * i + 3) (nI 0) = σ39
              have hln : σ39 M 6 = nI ln := by rw [← hσ39]; exact s2_keep hln (by omega)
              have hpr : rowAt σ39 (M + 5) ln p := by rw [← hσ39]; exact hpr.keep (by omega) _ _
              have hat : σ39 M 17 = nI ((pC p ln 4 0 (t + 1 + 2)).2.1) := by rw [← hσ39]; exact s2_keep hat (by omega)
              have hwr : σ39 M 18 = bI true := by rw [← hσ39]; exact s2_keep hwr (by omega)
              have hmn : σ39 M 16 = nI i := by rw [← hσ39]; exact s2_keep hmn (by omega)
              have hx0 : σ39 (M + 10) (4 * i) = nI (sgn p ln t) := by rw [← hσ39]; exact s2_keep hx0 (by omega)
              have hx1 : σ39 (M + 10) (4 * i + 1) = nI ((pB p ln 48 57 (t + 1)).2.2) := by rw [← hσ39]; exact s2_keep hx1 (by omega)
              have hx2 : σ39 (M + 10) (4 * i + 2) = nI y181 := by rw [← hσ39]; exact s2_keep hx2 (by omega)
              have hx3 : σ39 (M + 10) (4 * i + 3) = nI 0 := by rw [← hσ39]; exact s2_same _ _ _ _
              refine r_goto (tgt := 256) hc dX12_readOne_203 (by decide) ?_
              refine r_aload_n hc dX12_readOne_256 rfl ?_
              refine r_dup hc dX12_readOne_257 rfl ?_
              refine gf_X12_181 (x := nI i) hc (MS0 hM) hmn dX12_readOne_258 ?_
              refine r_iconst (v := nI 1) hc dX12_readOne_261 rfl ?_
              refine r_iadd (v := nI (i + 1)) hc dX12_readOne_262 (ad_NN _ _) ?_
              refine pf_X12_181 hc (MS0 hM) dX12_readOne_263 ?_
              generalize hσ40 : s2 σ39 M 16 (nI (i + 1)) = σ40
              have hln : σ40 M 6 = nI ln := by rw [← hσ40]; exact s2_keep hln (by omega)
              have hpr : rowAt σ40 (M + 5) ln p := by rw [← hσ40]; exact hpr.keep (by omega) _ _
              have hat : σ40 M 17 = nI ((pC p ln 4 0 (t + 1 + 2)).2.1) := by rw [← hσ40]; exact s2_keep hat (by omega)
              have hwr : σ40 M 18 = bI true := by rw [← hσ40]; exact s2_keep hwr (by omega)
              have hmn : σ40 M 16 = nI (i + 1) := by rw [← hσ40]; exact s2_same _ _ _ _
              have hx0 : σ40 (M + 10) (4 * i) = nI (sgn p ln t) := by rw [← hσ40]; exact s2_keep hx0 (by omega)
              have hx1 : σ40 (M + 10) (4 * i + 1) = nI ((pB p ln 48 57 (t + 1)).2.2) := by rw [← hσ40]; exact s2_keep hx1 (by omega)
              have hx2 : σ40 (M + 10) (4 * i + 2) = nI y181 := by rw [← hσ40]; exact s2_keep hx2 (by omega)
              have hx3 : σ40 (M + 10) (4 * i + 3) = nI 0 := by rw [← hσ40]; exact s2_keep hx3 (by omega)
              have hE : pO p ln t = pK p ln (t + 1) := by unfold pO; rw [if_neg (show ¬ sgn p ln t = 107 by omega), if_pos (show sgn p ln t = 99 by omega)]
              rw [hE] at hR
              have hE2 : pK p ln (t + 1) = (false, (pC p ln 4 0 (t + 1 + 2)).2.1, 0, 0, 0) := by unfold pK; rw [if_pos hb163, if_pos hb170, if_neg hb181]
              rw [hE2] at hR
              exact hR _ ⟨_, rfl, hat, hwr, fun q => Bool.noConfusion q, ⟨fun q q1 q2 => by rw [← hσ40, s2_ne q1, ← hσ39, s2_ne q2, ← hσ38, s2_ne q2, ← hσ37, s2_ne q1, ← hσ36, s2_ne q1, ← hσ18, s2_ne q1, ← hσ17, s2_ne q1, ← hσ16, s2_ne q2, ← hσ15, s2_ne q1, ← hσ14, s2_ne q1, ← hσ13, s2_ne q1, ← hσ12, s2_ne q1, ← hσ1, s2_ne q2], fun k hk => by rw [← hσ40, s2_nk (by omega), ← hσ39, s2_na (by omega), ← hσ38, s2_na (by omega), ← hσ37, s2_nk (by omega), ← hσ36, s2_nk (by omega), ← hσ18, s2_nk (by omega), ← hσ17, s2_nk (by omega), ← hσ16, s2_na (by omega), ← hσ15, s2_nk (by omega), ← hσ14, s2_nk (by omega), ← hσ13, s2_nk (by omega), ← hσ12, s2_nk (by omega), ← hσ1, s2_na (by omega)], fun j hj => by rw [← hσ40, s2_na (by omega), ← hσ39, s2_nk (by omega), ← hσ38, s2_nk (by omega), ← hσ37, s2_na (by omega), ← hσ36, s2_na (by omega), ← hσ18, s2_na (by omega), ← hσ17, s2_na (by omega), ← hσ16, s2_nk (by omega), ← hσ15, s2_na (by omega), ← hσ14, s2_na (by omega), ← hσ13, s2_na (by omega), ← hσ12, s2_na (by omega), ← hσ1, s2_nk (by omega)]⟩⟩ _ _ dX12_readOne_266
          ·
            rw [show (!(pS p ln 61 (t + 1 + 1)).1) = true by rw [Bool.eq_false_iff.mpr hb170]; rfl]
            generalize hσ41 : s2 σ16 M 18 (bI true) = σ41
            have hln : σ41 M 6 = nI ln := by rw [← hσ41]; exact s2_keep hln (by omega)
            have hpr : rowAt σ41 (M + 5) ln p := by rw [← hσ41]; exact hpr.keep (by omega) _ _
            have hat : σ41 M 17 = nI (t + 1 + 1) := by rw [← hσ41]; exact s2_keep hat (by omega)
            have hwr : σ41 M 18 = bI true := by rw [← hσ41]; exact s2_same _ _ _ _
            have hmn : σ41 M 16 = nI i := by rw [← hσ41]; exact s2_keep hmn (by omega)
            have hx0 : σ41 (M + 10) (4 * i) = nI (sgn p ln t) := by rw [← hσ41]; exact s2_keep hx0 (by omega)
            have hx1 : σ41 (M + 10) (4 * i + 1) = nI ((pB p ln 48 57 (t + 1)).2.2) := by rw [← hσ41]; exact s2_keep hx1 (by omega)
            have hx2 : σ41 (M + 10) (4 * i + 2) = x2 := by rw [← hσ41]; exact s2_keep hx2 (by omega)
            have hx3 : σ41 (M + 10) (4 * i + 3) = x3 := by rw [← hσ41]; exact s2_keep hx3 (by omega)
            generalize hσ42 : s2 σ41 M 17 (nI ((pS p ln 61 (t + 1 + 1)).2)) = σ42
            have hln : σ42 M 6 = nI ln := by rw [← hσ42]; exact s2_keep hln (by omega)
            have hpr : rowAt σ42 (M + 5) ln p := by rw [← hσ42]; exact hpr.keep (by omega) _ _
            have hat : σ42 M 17 = nI ((pS p ln 61 (t + 1 + 1)).2) := by rw [← hσ42]; exact s2_same _ _ _ _
            have hwr : σ42 M 18 = bI true := by rw [← hσ42]; exact s2_keep hwr (by omega)
            have hmn : σ42 M 16 = nI i := by rw [← hσ42]; exact s2_keep hmn (by omega)
            have hx0 : σ42 (M + 10) (4 * i) = nI (sgn p ln t) := by rw [← hσ42]; exact s2_keep hx0 (by omega)
            have hx1 : σ42 (M + 10) (4 * i + 1) = nI ((pB p ln 48 57 (t + 1)).2.2) := by rw [← hσ42]; exact s2_keep hx1 (by omega)
            have hx2 : σ42 (M + 10) (4 * i + 2) = x2 := by rw [← hσ42]; exact s2_keep hx2 (by omega)
            have hx3 : σ42 (M + 10) (4 * i + 3) = x3 := by rw [← hσ42]; exact s2_keep hx3 (by omega)
            have hsn170 := pS_no (Bool.eq_false_iff.mpr hb170)
            have hat : σ42 M 17 = nI (t + 1 + 1) := by rw [hat, hsn170]
            refine r_aload_n hc dX12_readOne_173 rfl ?_
            refine gf_X12_38 (q := M + 10) hc (MS0 hM) (MSr hM 15 10 (by decide)) dX12_readOne_174 ?_
            refine r_iload_n hc dX12_readOne_177 rfl ?_
            refine r_iconst (v := nI 2) hc dX12_readOne_178 rfl ?_
            refine r_iadd (v := nI (4 * i + 2)) hc dX12_readOne_179 (ad_NN _ _) ?_
            refine r_aload_n hc dX12_readOne_180 rfl ?_
            refine cl_X12_184 (As := []) hc (c_X12_cuts_T hM hln hpr hl80 hp (t := t + 1 + 1) hat (by omega) hwr) (MS0 hM) rfl ⟨by decide, by decide⟩ ⟨rfl, rfl⟩ ⟨by decide, by decide⟩ rfl (Nat.le_of_ble_eq_true rfl) dX12_readOne_181 (fun r u hp => ?_)
            obtain ⟨rfl, hu⟩ := hp
            rw [hu]
            refine r_iast (j := 4 * i + 2) hc (MSa hM 10 0 320 rfl) rfl (by omega) (by decide) dX12_readOne_184 ?_
            generalize hσ43 : s2 σ42 (M + 10) (4 * i + 2) (nI 0) = σ43
            have hln : σ43 M 6 = nI ln := by rw [← hσ43]; exact s2_keep hln (by omega)
            have hpr : rowAt σ43 (M + 5) ln p := by rw [← hσ43]; exact hpr.keep (by omega) _ _
            have hat : σ43 M 17 = nI (t + 1 + 1) := by rw [← hσ43]; exact s2_keep hat (by omega)
            have hwr : σ43 M 18 = bI true := by rw [← hσ43]; exact s2_keep hwr (by omega)
            have hmn : σ43 M 16 = nI i := by rw [← hσ43]; exact s2_keep hmn (by omega)
            have hx0 : σ43 (M + 10) (4 * i) = nI (sgn p ln t) := by rw [← hσ43]; exact s2_keep hx0 (by omega)
            have hx1 : σ43 (M + 10) (4 * i + 1) = nI ((pB p ln 48 57 (t + 1)).2.2) := by rw [← hσ43]; exact s2_keep hx1 (by omega)
            have hx2 : σ43 (M + 10) (4 * i + 2) = nI 0 := by rw [← hσ43]; exact s2_same _ _ _ _
            have hx3 : σ43 (M + 10) (4 * i + 3) = x3 := by rw [← hσ43]; exact s2_keep hx3 (by omega)
            refine r_aload_n hc dX12_readOne_185 rfl ?_
            refine r_bipush (v := nI 47) hc dX12_readOne_186 rfl ?_
            refine cl_X12_187 (As := [.int (nI 47)]) hc (c_X12_between_T hM hln hpr hl80 hp (t := t + 1 + 1) hat (by omega) hwr (c := 47)) (MS0 hM) rfl ⟨by decide, by decide⟩ ⟨rfl, rfl⟩ ⟨by decide, by decide⟩ rfl (Nat.le_of_ble_eq_true rfl) dX12_readOne_188 (fun u hcl => ?_)
            rw [hcl]
            refine r_aload_n hc dX12_readOne_191 rfl ?_
            refine gf_X12_38 (q := M + 10) hc (MS0 hM) (MSr hM 15 10 (by decide)) dX12_readOne_192 ?_
            refine r_iload_n hc dX12_readOne_195 rfl ?_
            refine r_iconst (v := nI 3) hc dX12_readOne_196 rfl ?_
            refine r_iadd (v := nI (4 * i + 3)) hc dX12_readOne_197 (ad_NN _ _) ?_
            refine r_aload_n hc dX12_readOne_198 rfl ?_
            refine cl_X12_184 (As := []) hc (c_X12_cuts_T hM hln hpr hl80 hp (t := t + 1 + 1) hat (by omega) hwr) (MS0 hM) rfl ⟨by decide, by decide⟩ ⟨rfl, rfl⟩ ⟨by decide, by decide⟩ rfl (Nat.le_of_ble_eq_true rfl) dX12_readOne_199 (fun r u hp => ?_)
            obtain ⟨rfl, hu⟩ := hp
            rw [hu]
            refine r_iast (j := 4 * i + 3) hc (MSa hM 10 0 320 rfl) rfl (by omega) (by decide) dX12_readOne_202 ?_
            generalize hσ44 : s2 σ43 (M + 10) (4 * i + 3) (nI 0) = σ44
            have hln : σ44 M 6 = nI ln := by rw [← hσ44]; exact s2_keep hln (by omega)
            have hpr : rowAt σ44 (M + 5) ln p := by rw [← hσ44]; exact hpr.keep (by omega) _ _
            have hat : σ44 M 17 = nI (t + 1 + 1) := by rw [← hσ44]; exact s2_keep hat (by omega)
            have hwr : σ44 M 18 = bI true := by rw [← hσ44]; exact s2_keep hwr (by omega)
            have hmn : σ44 M 16 = nI i := by rw [← hσ44]; exact s2_keep hmn (by omega)
            have hx0 : σ44 (M + 10) (4 * i) = nI (sgn p ln t) := by rw [← hσ44]; exact s2_keep hx0 (by omega)
            have hx1 : σ44 (M + 10) (4 * i + 1) = nI ((pB p ln 48 57 (t + 1)).2.2) := by rw [← hσ44]; exact s2_keep hx1 (by omega)
            have hx2 : σ44 (M + 10) (4 * i + 2) = nI 0 := by rw [← hσ44]; exact s2_keep hx2 (by omega)
            have hx3 : σ44 (M + 10) (4 * i + 3) = nI 0 := by rw [← hσ44]; exact s2_same _ _ _ _
            refine r_goto (tgt := 256) hc dX12_readOne_203 (by decide) ?_
            refine r_aload_n hc dX12_readOne_256 rfl ?_
            refine r_dup hc dX12_readOne_257 rfl ?_
            refine gf_X12_181 (x := nI i) hc (MS0 hM) hmn dX12_readOne_258 ?_
            refine r_iconst (v := nI 1) hc dX12_readOne_261 rfl ?_
            refine r_iadd (v := nI (i + 1)) hc dX12_readOne_262 (ad_NN _ _) ?_
            refine pf_X12_181 hc (MS0 hM) dX12_readOne_263 ?_
            generalize hσ45 : s2 σ44 M 16 (nI (i + 1)) = σ45
            have hln : σ45 M 6 = nI ln := by rw [← hσ45]; exact s2_keep hln (by omega)
            have hpr : rowAt σ45 (M + 5) ln p := by rw [← hσ45]; exact hpr.keep (by omega) _ _
            have hat : σ45 M 17 = nI (t + 1 + 1) := by rw [← hσ45]; exact s2_keep hat (by omega)
            have hwr : σ45 M 18 = bI true := by rw [← hσ45]; exact s2_keep hwr (by omega)
            have hmn : σ45 M 16 = nI (i + 1) := by rw [← hσ45]; exact s2_same _ _ _ _
            have hx0 : σ45 (M + 10) (4 * i) = nI (sgn p ln t) := by rw [← hσ45]; exact s2_keep hx0 (by omega)
            have hx1 : σ45 (M + 10) (4 * i + 1) = nI ((pB p ln 48 57 (t + 1)).2.2) := by rw [← hσ45]; exact s2_keep hx1 (by omega)
            have hx2 : σ45 (M + 10) (4 * i + 2) = nI 0 := by rw [← hσ45]; exact s2_keep hx2 (by omega)
            have hx3 : σ45 (M + 10) (4 * i + 3) = nI 0 := by rw [← hσ45]; exact s2_keep hx3 (by omega)
            have hE : pO p ln t = pK p ln (t + 1) := by unfold pO; rw [if_neg (show ¬ sgn p ln t = 107 by omega), if_pos (show sgn p ln t = 99 by omega)]
            rw [hE] at hR
            have hE2 : pK p ln (t + 1) = (false, t + 1 + 1, 0, 0, 0) := by unfold pK; rw [if_pos hb163, if_neg hb170]
            rw [hE2] at hR
            exact hR _ ⟨_, rfl, hat, hwr, fun q => Bool.noConfusion q, ⟨fun q q1 q2 => by rw [← hσ45, s2_ne q1, ← hσ44, s2_ne q2, ← hσ43, s2_ne q2, ← hσ42, s2_ne q1, ← hσ41, s2_ne q1, ← hσ16, s2_ne q2, ← hσ15, s2_ne q1, ← hσ14, s2_ne q1, ← hσ13, s2_ne q1, ← hσ12, s2_ne q1, ← hσ1, s2_ne q2], fun k hk => by rw [← hσ45, s2_nk (by omega), ← hσ44, s2_na (by omega), ← hσ43, s2_na (by omega), ← hσ42, s2_nk (by omega), ← hσ41, s2_nk (by omega), ← hσ16, s2_na (by omega), ← hσ15, s2_nk (by omega), ← hσ14, s2_nk (by omega), ← hσ13, s2_nk (by omega), ← hσ12, s2_nk (by omega), ← hσ1, s2_na (by omega)], fun j hj => by rw [← hσ45, s2_na (by omega), ← hσ44, s2_nk (by omega), ← hσ43, s2_nk (by omega), ← hσ42, s2_na (by omega), ← hσ41, s2_na (by omega), ← hσ16, s2_nk (by omega), ← hσ15, s2_na (by omega), ← hσ14, s2_na (by omega), ← hσ13, s2_na (by omega), ← hσ12, s2_na (by omega), ← hσ1, s2_nk (by omega)]⟩⟩ _ _ dX12_readOne_266
        ·
          rw [show (!(pB p ln 48 57 (t + 1)).1) = true by rw [Bool.eq_false_iff.mpr hb163]; rfl]
          generalize hσ46 : s2 σ13 M 18 (bI true) = σ46
          have hln : σ46 M 6 = nI ln := by rw [← hσ46]; exact s2_keep hln (by omega)
          have hpr : rowAt σ46 (M + 5) ln p := by rw [← hσ46]; exact hpr.keep (by omega) _ _
          have hat : σ46 M 17 = nI (t + 1) := by rw [← hσ46]; exact s2_keep hat (by omega)
          have hwr : σ46 M 18 = bI true := by rw [← hσ46]; exact s2_same _ _ _ _
          have hmn : σ46 M 16 = nI i := by rw [← hσ46]; exact s2_keep hmn (by omega)
          have hx0 : σ46 (M + 10) (4 * i) = nI (sgn p ln t) := by rw [← hσ46]; exact s2_keep hx0 (by omega)
          have hx1 : σ46 (M + 10) (4 * i + 1) = x1 := by rw [← hσ46]; exact s2_keep hx1 (by omega)
          have hx2 : σ46 (M + 10) (4 * i + 2) = x2 := by rw [← hσ46]; exact s2_keep hx2 (by omega)
          have hx3 : σ46 (M + 10) (4 * i + 3) = x3 := by rw [← hσ46]; exact s2_keep hx3 (by omega)
          generalize hσ47 : s2 σ46 M 17 (nI ((pB p ln 48 57 (t + 1)).2.1)) = σ47
          have hln : σ47 M 6 = nI ln := by rw [← hσ47]; exact s2_keep hln (by omega)
          have hpr : rowAt σ47 (M + 5) ln p := by rw [← hσ47]; exact hpr.keep (by omega) _ _
          have hat : σ47 M 17 = nI ((pB p ln 48 57 (t + 1)).2.1) := by rw [← hσ47]; exact s2_same _ _ _ _
          have hwr : σ47 M 18 = bI true := by rw [← hσ47]; exact s2_keep hwr (by omega)
          have hmn : σ47 M 16 = nI i := by rw [← hσ47]; exact s2_keep hmn (by omega)
          have hx0 : σ47 (M + 10) (4 * i) = nI (sgn p ln t) := by rw [← hσ47]; exact s2_keep hx0 (by omega)
          have hx1 : σ47 (M + 10) (4 * i + 1) = x1 := by rw [← hσ47]; exact s2_keep hx1 (by omega)
          have hx2 : σ47 (M + 10) (4 * i + 2) = x2 := by rw [← hσ47]; exact s2_keep hx2 (by omega)
          have hx3 : σ47 (M + 10) (4 * i + 3) = x3 := by rw [← hσ47]; exact s2_keep hx3 (by omega)
          have hbn := pB_no hb163
          have hbt : (pB p ln 48 57 (t + 1)).2.1 = (t + 1) := by rw [hbn]
          have hat : σ47 M 17 = nI (t + 1) := by rw [hat, hbt]
          refine r_iast (j := 4 * i + 1) hc (MSa hM 10 0 320 rfl) rfl (by omega) (by decide) dX12_readOne_166 ?_
          generalize hσ48 : s2 σ47 (M + 10) (4 * i + 1) (nI ((pB p ln 48 57 (t + 1)).2.2)) = σ48
          have hln : σ48 M 6 = nI ln := by rw [← hσ48]; exact s2_keep hln (by omega)
          have hpr : rowAt σ48 (M + 5) ln p := by rw [← hσ48]; exact hpr.keep (by omega) _ _
          have hat : σ48 M 17 = nI (t + 1) := by rw [← hσ48]; exact s2_keep hat (by omega)
          have hwr : σ48 M 18 = bI true := by rw [← hσ48]; exact s2_keep hwr (by omega)
          have hmn : σ48 M 16 = nI i := by rw [← hσ48]; exact s2_keep hmn (by omega)
          have hx0 : σ48 (M + 10) (4 * i) = nI (sgn p ln t) := by rw [← hσ48]; exact s2_keep hx0 (by omega)
          have hx1 : σ48 (M + 10) (4 * i + 1) = nI ((pB p ln 48 57 (t + 1)).2.2) := by rw [← hσ48]; exact s2_same _ _ _ _
          have hx2 : σ48 (M + 10) (4 * i + 2) = x2 := by rw [← hσ48]; exact s2_keep hx2 (by omega)
          have hx3 : σ48 (M + 10) (4 * i + 3) = x3 := by rw [← hσ48]; exact s2_keep hx3 (by omega)
          refine r_aload_n hc dX12_readOne_167 rfl ?_
          refine r_bipush (v := nI 61) hc dX12_readOne_168 rfl ?_
          refine cl_X12_187 (As := [.int (nI 61)]) hc (c_X12_between_T hM hln hpr hl80 hp (t := t + 1) hat (by omega) hwr (c := 61)) (MS0 hM) rfl ⟨by decide, by decide⟩ ⟨rfl, rfl⟩ ⟨by decide, by decide⟩ rfl (Nat.le_of_ble_eq_true rfl) dX12_readOne_170 (fun u hcl => ?_)
          rw [hcl]
          refine r_aload_n hc dX12_readOne_173 rfl ?_
          refine gf_X12_38 (q := M + 10) hc (MS0 hM) (MSr hM 15 10 (by decide)) dX12_readOne_174 ?_
          refine r_iload_n hc dX12_readOne_177 rfl ?_
          refine r_iconst (v := nI 2) hc dX12_readOne_178 rfl ?_
          refine r_iadd (v := nI (4 * i + 2)) hc dX12_readOne_179 (ad_NN _ _) ?_
          refine r_aload_n hc dX12_readOne_180 rfl ?_
          refine cl_X12_184 (As := []) hc (c_X12_cuts_T hM hln hpr hl80 hp (t := t + 1) hat (by omega) hwr) (MS0 hM) rfl ⟨by decide, by decide⟩ ⟨rfl, rfl⟩ ⟨by decide, by decide⟩ rfl (Nat.le_of_ble_eq_true rfl) dX12_readOne_181 (fun r u hp => ?_)
          obtain ⟨rfl, hu⟩ := hp
          rw [hu]
          refine r_iast (j := 4 * i + 2) hc (MSa hM 10 0 320 rfl) rfl (by omega) (by decide) dX12_readOne_184 ?_
          generalize hσ49 : s2 σ48 (M + 10) (4 * i + 2) (nI 0) = σ49
          have hln : σ49 M 6 = nI ln := by rw [← hσ49]; exact s2_keep hln (by omega)
          have hpr : rowAt σ49 (M + 5) ln p := by rw [← hσ49]; exact hpr.keep (by omega) _ _
          have hat : σ49 M 17 = nI (t + 1) := by rw [← hσ49]; exact s2_keep hat (by omega)
          have hwr : σ49 M 18 = bI true := by rw [← hσ49]; exact s2_keep hwr (by omega)
          have hmn : σ49 M 16 = nI i := by rw [← hσ49]; exact s2_keep hmn (by omega)
          have hx0 : σ49 (M + 10) (4 * i) = nI (sgn p ln t) := by rw [← hσ49]; exact s2_keep hx0 (by omega)
          have hx1 : σ49 (M + 10) (4 * i + 1) = nI ((pB p ln 48 57 (t + 1)).2.2) := by rw [← hσ49]; exact s2_keep hx1 (by omega)
          have hx2 : σ49 (M + 10) (4 * i + 2) = nI 0 := by rw [← hσ49]; exact s2_same _ _ _ _
          have hx3 : σ49 (M + 10) (4 * i + 3) = x3 := by rw [← hσ49]; exact s2_keep hx3 (by omega)
          refine r_aload_n hc dX12_readOne_185 rfl ?_
          refine r_bipush (v := nI 47) hc dX12_readOne_186 rfl ?_
          refine cl_X12_187 (As := [.int (nI 47)]) hc (c_X12_between_T hM hln hpr hl80 hp (t := t + 1) hat (by omega) hwr (c := 47)) (MS0 hM) rfl ⟨by decide, by decide⟩ ⟨rfl, rfl⟩ ⟨by decide, by decide⟩ rfl (Nat.le_of_ble_eq_true rfl) dX12_readOne_188 (fun u hcl => ?_)
          rw [hcl]
          refine r_aload_n hc dX12_readOne_191 rfl ?_
          refine gf_X12_38 (q := M + 10) hc (MS0 hM) (MSr hM 15 10 (by decide)) dX12_readOne_192 ?_
          refine r_iload_n hc dX12_readOne_195 rfl ?_
          refine r_iconst (v := nI 3) hc dX12_readOne_196 rfl ?_
          refine r_iadd (v := nI (4 * i + 3)) hc dX12_readOne_197 (ad_NN _ _) ?_
          refine r_aload_n hc dX12_readOne_198 rfl ?_
          refine cl_X12_184 (As := []) hc (c_X12_cuts_T hM hln hpr hl80 hp (t := t + 1) hat (by omega) hwr) (MS0 hM) rfl ⟨by decide, by decide⟩ ⟨rfl, rfl⟩ ⟨by decide, by decide⟩ rfl (Nat.le_of_ble_eq_true rfl) dX12_readOne_199 (fun r u hp => ?_)
          obtain ⟨rfl, hu⟩ := hp
          rw [hu]
          refine r_iast (j := 4 * i + 3) hc (MSa hM 10 0 320 rfl) rfl (by omega) (by decide) dX12_readOne_202 ?_
          generalize hσ50 : s2 σ49 (M + 10) (4 * i + 3) (nI 0) = σ50
          have hln : σ50 M 6 = nI ln := by rw [← hσ50]; exact s2_keep hln (by omega)
          have hpr : rowAt σ50 (M + 5) ln p := by rw [← hσ50]; exact hpr.keep (by omega) _ _
          have hat : σ50 M 17 = nI (t + 1) := by rw [← hσ50]; exact s2_keep hat (by omega)
          have hwr : σ50 M 18 = bI true := by rw [← hσ50]; exact s2_keep hwr (by omega)
          have hmn : σ50 M 16 = nI i := by rw [← hσ50]; exact s2_keep hmn (by omega)
          have hx0 : σ50 (M + 10) (4 * i) = nI (sgn p ln t) := by rw [← hσ50]; exact s2_keep hx0 (by omega)
          have hx1 : σ50 (M + 10) (4 * i + 1) = nI ((pB p ln 48 57 (t + 1)).2.2) := by rw [← hσ50]; exact s2_keep hx1 (by omega)
          have hx2 : σ50 (M + 10) (4 * i + 2) = nI 0 := by rw [← hσ50]; exact s2_keep hx2 (by omega)
          have hx3 : σ50 (M + 10) (4 * i + 3) = nI 0 := by rw [← hσ50]; exact s2_same _ _ _ _
          refine r_goto (tgt := 256) hc dX12_readOne_203 (by decide) ?_
          refine r_aload_n hc dX12_readOne_256 rfl ?_
          refine r_dup hc dX12_readOne_257 rfl ?_
          refine gf_X12_181 (x := nI i) hc (MS0 hM) hmn dX12_readOne_258 ?_
          refine r_iconst (v := nI 1) hc dX12_readOne_261 rfl ?_
          refine r_iadd (v := nI (i + 1)) hc dX12_readOne_262 (ad_NN _ _) ?_
          refine pf_X12_181 hc (MS0 hM) dX12_readOne_263 ?_
          generalize hσ51 : s2 σ50 M 16 (nI (i + 1)) = σ51
          have hln : σ51 M 6 = nI ln := by rw [← hσ51]; exact s2_keep hln (by omega)
          have hpr : rowAt σ51 (M + 5) ln p := by rw [← hσ51]; exact hpr.keep (by omega) _ _
          have hat : σ51 M 17 = nI (t + 1) := by rw [← hσ51]; exact s2_keep hat (by omega)
          have hwr : σ51 M 18 = bI true := by rw [← hσ51]; exact s2_keep hwr (by omega)
          have hmn : σ51 M 16 = nI (i + 1) := by rw [← hσ51]; exact s2_same _ _ _ _
          have hx0 : σ51 (M + 10) (4 * i) = nI (sgn p ln t) := by rw [← hσ51]; exact s2_keep hx0 (by omega)
          have hx1 : σ51 (M + 10) (4 * i + 1) = nI ((pB p ln 48 57 (t + 1)).2.2) := by rw [← hσ51]; exact s2_keep hx1 (by omega)
          have hx2 : σ51 (M + 10) (4 * i + 2) = nI 0 := by rw [← hσ51]; exact s2_keep hx2 (by omega)
          have hx3 : σ51 (M + 10) (4 * i + 3) = nI 0 := by rw [← hσ51]; exact s2_keep hx3 (by omega)
          have hE : pO p ln t = pK p ln (t + 1) := by unfold pO; rw [if_neg (show ¬ sgn p ln t = 107 by omega), if_pos (show sgn p ln t = 99 by omega)]
          rw [hE] at hR
          have hE2 : pK p ln (t + 1) = (false, t + 1, 0, 0, 0) := by unfold pK; rw [if_neg hb163]
          rw [hE2] at hR
          exact hR _ ⟨_, rfl, hat, hwr, fun q => Bool.noConfusion q, ⟨fun q q1 q2 => by rw [← hσ51, s2_ne q1, ← hσ50, s2_ne q2, ← hσ49, s2_ne q2, ← hσ48, s2_ne q2, ← hσ47, s2_ne q1, ← hσ46, s2_ne q1, ← hσ13, s2_ne q1, ← hσ12, s2_ne q1, ← hσ1, s2_ne q2], fun k hk => by rw [← hσ51, s2_nk (by omega), ← hσ50, s2_na (by omega), ← hσ49, s2_na (by omega), ← hσ48, s2_na (by omega), ← hσ47, s2_nk (by omega), ← hσ46, s2_nk (by omega), ← hσ13, s2_nk (by omega), ← hσ12, s2_nk (by omega), ← hσ1, s2_na (by omega)], fun j hj => by rw [← hσ51, s2_na (by omega), ← hσ50, s2_nk (by omega), ← hσ49, s2_nk (by omega), ← hσ48, s2_nk (by omega), ← hσ47, s2_na (by omega), ← hσ46, s2_na (by omega), ← hσ13, s2_na (by omega), ← hσ12, s2_na (by omega), ← hσ1, s2_nk (by omega)]⟩⟩ _ _ dX12_readOne_266
      ·
        exact absurd rfl c_68
    ·
      refine r_iload_n hc dX12_readOne_32 rfl ?_
      refine r_bipush (v := nI 116) hc dX12_readOne_33 rfl ?_
      refine r_icmp_eq (tgt := 60) hc dX12_readOne_35 (by decide) (eq_NN (by omega) (by omega)) (fun c_35 => ?_) (fun c_35 => ?_)
      ·
        refine r_iconst (v := nI 0) hc dX12_readOne_60 rfl ?_
        refine pf_X12_175 hc (MS0 hM) (by rfl) (by rfl) dX12_readOne_61 ?_
        generalize hσ52 : s2 σ1 M 18 (nI 0) = σ52
        have hln : σ52 M 6 = nI ln := by rw [← hσ52]; exact s2_keep hln (by omega)
        have hpr : rowAt σ52 (M + 5) ln p := by rw [← hσ52]; exact hpr.keep (by omega) _ _
        have hat : σ52 M 17 = nI t := by rw [← hσ52]; exact s2_keep hat (by omega)
        have hwr : σ52 M 18 = nI 0 := by rw [← hσ52]; exact s2_same _ _ _ _
        have hmn : σ52 M 16 = nI i := by rw [← hσ52]; exact s2_keep hmn (by omega)
        have hx0 : σ52 (M + 10) (4 * i) = nI (sgn p ln t) := by rw [← hσ52]; exact s2_keep hx0 (by omega)
        have hx1 : σ52 (M + 10) (4 * i + 1) = x1 := by rw [← hσ52]; exact s2_keep hx1 (by omega)
        have hx2 : σ52 (M + 10) (4 * i + 2) = x2 := by rw [← hσ52]; exact s2_keep hx2 (by omega)
        have hx3 : σ52 (M + 10) (4 * i + 3) = x3 := by rw [← hσ52]; exact s2_keep hx3 (by omega)
        have hwr : σ52 M 18 = bI false := hwr
        refine r_aload_n hc dX12_readOne_64 rfl ?_
        refine gf_X12_175 (x := bI false) hc (MS0 hM) hwr dX12_readOne_65 ?_
        refine r_if_eq (tgt := 72) hc dX12_readOne_68 (by decide) (bI_0 _) (fun c_68 => ?_) (fun c_68 => ?_)
        ·
          refine r_aload_n hc dX12_readOne_72 rfl ?_
          refine r_dup hc dX12_readOne_73 rfl ?_
          refine gf_X12_169 (x := nI t) hc (MS0 hM) hat dX12_readOne_74 ?_
          refine r_iconst (v := nI 1) hc dX12_readOne_77 rfl ?_
          refine r_iadd (v := nI (t + 1)) hc dX12_readOne_78 (ad_NN _ _) ?_
          refine pf_X12_169 hc (MS0 hM) dX12_readOne_79 ?_
          generalize hσ53 : s2 σ52 M 17 (nI (t + 1)) = σ53
          have hln : σ53 M 6 = nI ln := by rw [← hσ53]; exact s2_keep hln (by omega)
          have hpr : rowAt σ53 (M + 5) ln p := by rw [← hσ53]; exact hpr.keep (by omega) _ _
          have hat : σ53 M 17 = nI (t + 1) := by rw [← hσ53]; exact s2_same _ _ _ _
          have hwr : σ53 M 18 = bI false := by rw [← hσ53]; exact s2_keep hwr (by omega)
          have hmn : σ53 M 16 = nI i := by rw [← hσ53]; exact s2_keep hmn (by omega)
          have hx0 : σ53 (M + 10) (4 * i) = nI (sgn p ln t) := by rw [← hσ53]; exact s2_keep hx0 (by omega)
          have hx1 : σ53 (M + 10) (4 * i + 1) = x1 := by rw [← hσ53]; exact s2_keep hx1 (by omega)
          have hx2 : σ53 (M + 10) (4 * i + 2) = x2 := by rw [← hσ53]; exact s2_keep hx2 (by omega)
          have hx3 : σ53 (M + 10) (4 * i + 3) = x3 := by rw [← hσ53]; exact s2_keep hx3 (by omega)
          have hkl := sgn_pos (p := p) (ln := ln) (t := t) (by omega)
          refine r_iload_n hc dX12_readOne_82 rfl ?_
          refine r_tableOut (tgt := 240) hc dX12_readOne_83 (by rw [nz, zI_toInt (by omega) (by omega)]; omega) (by decide) ?_
          refine r_aload_n hc dX12_readOne_240 rfl ?_
          refine gf_X12_38 (q := M + 10) hc (MS0 hM) (MSr hM 15 10 (by decide)) dX12_readOne_241 ?_
          refine r_iload_n hc dX12_readOne_244 rfl ?_
          refine r_iconst (v := nI 1) hc dX12_readOne_245 rfl ?_
          refine r_iadd (v := nI (4 * i + 1)) hc dX12_readOne_246 (ad_NN _ _) ?_
          refine r_aload_n hc dX12_readOne_247 rfl ?_
          refine r_bipush (v := nI 65) hc dX12_readOne_248 rfl ?_
          refine r_bipush (v := nI 15) hc dX12_readOne_250 rfl ?_
          refine cl_X12_178 (As := [.int (nI 65), .int (nI 15)]) hc (c_X12_one hM hln hpr hl80 hp (t := t + 1) hat (by omega) hwr (lo := 65) (hi := 15) (hi2 := 80) (by omega) rfl) (MS0 hM) rfl ⟨by decide, by decide⟩ ⟨rfl, rfl⟩ ⟨by decide, by decide⟩ rfl (Nat.le_of_ble_eq_true rfl) dX12_readOne_252 (fun r u hcl => ?_)
          obtain ⟨hrr, hu⟩ := hcl
          rw [hu, hrr]
          by_cases hb252 : (pB p ln 65 80 (t + 1)).1 = true
          ·
            rw [show (!(pB p ln 65 80 (t + 1)).1) = false by rw [hb252]; rfl]
            generalize hσ54 : s2 σ53 M 18 (bI false) = σ54
            have hln : σ54 M 6 = nI ln := by rw [← hσ54]; exact s2_keep hln (by omega)
            have hpr : rowAt σ54 (M + 5) ln p := by rw [← hσ54]; exact hpr.keep (by omega) _ _
            have hat : σ54 M 17 = nI (t + 1) := by rw [← hσ54]; exact s2_keep hat (by omega)
            have hwr : σ54 M 18 = bI false := by rw [← hσ54]; exact s2_same _ _ _ _
            have hmn : σ54 M 16 = nI i := by rw [← hσ54]; exact s2_keep hmn (by omega)
            have hx0 : σ54 (M + 10) (4 * i) = nI (sgn p ln t) := by rw [← hσ54]; exact s2_keep hx0 (by omega)
            have hx1 : σ54 (M + 10) (4 * i + 1) = x1 := by rw [← hσ54]; exact s2_keep hx1 (by omega)
            have hx2 : σ54 (M + 10) (4 * i + 2) = x2 := by rw [← hσ54]; exact s2_keep hx2 (by omega)
            have hx3 : σ54 (M + 10) (4 * i + 3) = x3 := by rw [← hσ54]; exact s2_keep hx3 (by omega)
            generalize hσ55 : s2 σ54 M 17 (nI ((pB p ln 65 80 (t + 1)).2.1)) = σ55
            have hln : σ55 M 6 = nI ln := by rw [← hσ55]; exact s2_keep hln (by omega)
            have hpr : rowAt σ55 (M + 5) ln p := by rw [← hσ55]; exact hpr.keep (by omega) _ _
            have hat : σ55 M 17 = nI ((pB p ln 65 80 (t + 1)).2.1) := by rw [← hσ55]; exact s2_same _ _ _ _
            have hwr : σ55 M 18 = bI false := by rw [← hσ55]; exact s2_keep hwr (by omega)
            have hmn : σ55 M 16 = nI i := by rw [← hσ55]; exact s2_keep hmn (by omega)
            have hx0 : σ55 (M + 10) (4 * i) = nI (sgn p ln t) := by rw [← hσ55]; exact s2_keep hx0 (by omega)
            have hx1 : σ55 (M + 10) (4 * i + 1) = x1 := by rw [← hσ55]; exact s2_keep hx1 (by omega)
            have hx2 : σ55 (M + 10) (4 * i + 2) = x2 := by rw [← hσ55]; exact s2_keep hx2 (by omega)
            have hx3 : σ55 (M + 10) (4 * i + 3) = x3 := by rw [← hσ55]; exact s2_keep hx3 (by omega)
            have hbo := pB_ok hb252
            have hbt : (pB p ln 65 80 (t + 1)).2.1 = (t + 1) + 1 := by rw [hbo.2]
            have hbv : (pB p ln 65 80 (t + 1)).2.2 = sgn p ln (t + 1) - 65 := by rw [hbo.2]
            have hbl := sgn_pos (p := p) (ln := ln) (t := (t + 1)) (by omega)
            have hat : σ55 M 17 = nI (t + 1 + 1) := by rw [hat, hbt]
            refine r_iast (j := 4 * i + 1) hc (MSa hM 10 0 320 rfl) rfl (by omega) (by decide) dX12_readOne_255 ?_
            generalize hσ56 : s2 σ55 (M + 10) (4 * i + 1) (nI ((pB p ln 65 80 (t + 1)).2.2)) = σ56
            have hln : σ56 M 6 = nI ln := by rw [← hσ56]; exact s2_keep hln (by omega)
            have hpr : rowAt σ56 (M + 5) ln p := by rw [← hσ56]; exact hpr.keep (by omega) _ _
            have hat : σ56 M 17 = nI (t + 1 + 1) := by rw [← hσ56]; exact s2_keep hat (by omega)
            have hwr : σ56 M 18 = bI false := by rw [← hσ56]; exact s2_keep hwr (by omega)
            have hmn : σ56 M 16 = nI i := by rw [← hσ56]; exact s2_keep hmn (by omega)
            have hx0 : σ56 (M + 10) (4 * i) = nI (sgn p ln t) := by rw [← hσ56]; exact s2_keep hx0 (by omega)
            have hx1 : σ56 (M + 10) (4 * i + 1) = nI ((pB p ln 65 80 (t + 1)).2.2) := by rw [← hσ56]; exact s2_same _ _ _ _
            have hx2 : σ56 (M + 10) (4 * i + 2) = x2 := by rw [← hσ56]; exact s2_keep hx2 (by omega)
            have hx3 : σ56 (M + 10) (4 * i + 3) = x3 := by rw [← hσ56]; exact s2_keep hx3 (by omega)
            refine r_aload_n hc dX12_readOne_256 rfl ?_
            refine r_dup hc dX12_readOne_257 rfl ?_
            refine gf_X12_181 (x := nI i) hc (MS0 hM) hmn dX12_readOne_258 ?_
            refine r_iconst (v := nI 1) hc dX12_readOne_261 rfl ?_
            refine r_iadd (v := nI (i + 1)) hc dX12_readOne_262 (ad_NN _ _) ?_
            refine pf_X12_181 hc (MS0 hM) dX12_readOne_263 ?_
            generalize hσ57 : s2 σ56 M 16 (nI (i + 1)) = σ57
            have hln : σ57 M 6 = nI ln := by rw [← hσ57]; exact s2_keep hln (by omega)
            have hpr : rowAt σ57 (M + 5) ln p := by rw [← hσ57]; exact hpr.keep (by omega) _ _
            have hat : σ57 M 17 = nI (t + 1 + 1) := by rw [← hσ57]; exact s2_keep hat (by omega)
            have hwr : σ57 M 18 = bI false := by rw [← hσ57]; exact s2_keep hwr (by omega)
            have hmn : σ57 M 16 = nI (i + 1) := by rw [← hσ57]; exact s2_same _ _ _ _
            have hx0 : σ57 (M + 10) (4 * i) = nI (sgn p ln t) := by rw [← hσ57]; exact s2_keep hx0 (by omega)
            have hx1 : σ57 (M + 10) (4 * i + 1) = nI ((pB p ln 65 80 (t + 1)).2.2) := by rw [← hσ57]; exact s2_keep hx1 (by omega)
            have hx2 : σ57 (M + 10) (4 * i + 2) = x2 := by rw [← hσ57]; exact s2_keep hx2 (by omega)
            have hx3 : σ57 (M + 10) (4 * i + 3) = x3 := by rw [← hσ57]; exact s2_keep hx3 (by omega)
            have hE : pO p ln t = p1 (pB p ln 65 80 (t + 1)) := by unfold pO; rw [if_neg (show ¬ sgn p ln t = 107 by omega), if_neg (show ¬ sgn p ln t = 99 by omega), if_pos (show sgn p ln t = 116 by omega)]
            rw [hE] at hR
            exact hR _ ⟨_, rfl, hat.trans (congrArg nI hbt.symm), by rw [show (p1 (pB p ln 65 80 (t + 1))).1 = true from hb252]; exact hwr, fun _ => ⟨hmn, hx0, hx1, fun e => absurd e (by omega)⟩, ⟨fun q q1 q2 => by rw [← hσ57, s2_ne q1, ← hσ56, s2_ne q2, ← hσ55, s2_ne q1, ← hσ54, s2_ne q1, ← hσ53, s2_ne q1, ← hσ52, s2_ne q1, ← hσ1, s2_ne q2], fun k hk => by rw [← hσ57, s2_nk (by omega), ← hσ56, s2_na (by omega), ← hσ55, s2_nk (by omega), ← hσ54, s2_nk (by omega), ← hσ53, s2_nk (by omega), ← hσ52, s2_nk (by omega), ← hσ1, s2_na (by omega)], fun j hj => by rw [← hσ57, s2_na (by omega), ← hσ56, s2_nk (by omega), ← hσ55, s2_na (by omega), ← hσ54, s2_na (by omega), ← hσ53, s2_na (by omega), ← hσ52, s2_na (by omega), ← hσ1, s2_nk (by omega)]⟩⟩ _ _ dX12_readOne_266
          ·
            rw [show (!(pB p ln 65 80 (t + 1)).1) = true by rw [Bool.eq_false_iff.mpr hb252]; rfl]
            generalize hσ58 : s2 σ53 M 18 (bI true) = σ58
            have hln : σ58 M 6 = nI ln := by rw [← hσ58]; exact s2_keep hln (by omega)
            have hpr : rowAt σ58 (M + 5) ln p := by rw [← hσ58]; exact hpr.keep (by omega) _ _
            have hat : σ58 M 17 = nI (t + 1) := by rw [← hσ58]; exact s2_keep hat (by omega)
            have hwr : σ58 M 18 = bI true := by rw [← hσ58]; exact s2_same _ _ _ _
            have hmn : σ58 M 16 = nI i := by rw [← hσ58]; exact s2_keep hmn (by omega)
            have hx0 : σ58 (M + 10) (4 * i) = nI (sgn p ln t) := by rw [← hσ58]; exact s2_keep hx0 (by omega)
            have hx1 : σ58 (M + 10) (4 * i + 1) = x1 := by rw [← hσ58]; exact s2_keep hx1 (by omega)
            have hx2 : σ58 (M + 10) (4 * i + 2) = x2 := by rw [← hσ58]; exact s2_keep hx2 (by omega)
            have hx3 : σ58 (M + 10) (4 * i + 3) = x3 := by rw [← hσ58]; exact s2_keep hx3 (by omega)
            generalize hσ59 : s2 σ58 M 17 (nI ((pB p ln 65 80 (t + 1)).2.1)) = σ59
            have hln : σ59 M 6 = nI ln := by rw [← hσ59]; exact s2_keep hln (by omega)
            have hpr : rowAt σ59 (M + 5) ln p := by rw [← hσ59]; exact hpr.keep (by omega) _ _
            have hat : σ59 M 17 = nI ((pB p ln 65 80 (t + 1)).2.1) := by rw [← hσ59]; exact s2_same _ _ _ _
            have hwr : σ59 M 18 = bI true := by rw [← hσ59]; exact s2_keep hwr (by omega)
            have hmn : σ59 M 16 = nI i := by rw [← hσ59]; exact s2_keep hmn (by omega)
            have hx0 : σ59 (M + 10) (4 * i) = nI (sgn p ln t) := by rw [← hσ59]; exact s2_keep hx0 (by omega)
            have hx1 : σ59 (M + 10) (4 * i + 1) = x1 := by rw [← hσ59]; exact s2_keep hx1 (by omega)
            have hx2 : σ59 (M + 10) (4 * i + 2) = x2 := by rw [← hσ59]; exact s2_keep hx2 (by omega)
            have hx3 : σ59 (M + 10) (4 * i + 3) = x3 := by rw [← hσ59]; exact s2_keep hx3 (by omega)
            have hbn := pB_no hb252
            have hbt : (pB p ln 65 80 (t + 1)).2.1 = (t + 1) := by rw [hbn]
            have hat : σ59 M 17 = nI (t + 1) := by rw [hat, hbt]
            refine r_iast (j := 4 * i + 1) hc (MSa hM 10 0 320 rfl) rfl (by omega) (by decide) dX12_readOne_255 ?_
            generalize hσ60 : s2 σ59 (M + 10) (4 * i + 1) (nI ((pB p ln 65 80 (t + 1)).2.2)) = σ60
            have hln : σ60 M 6 = nI ln := by rw [← hσ60]; exact s2_keep hln (by omega)
            have hpr : rowAt σ60 (M + 5) ln p := by rw [← hσ60]; exact hpr.keep (by omega) _ _
            have hat : σ60 M 17 = nI (t + 1) := by rw [← hσ60]; exact s2_keep hat (by omega)
            have hwr : σ60 M 18 = bI true := by rw [← hσ60]; exact s2_keep hwr (by omega)
            have hmn : σ60 M 16 = nI i := by rw [← hσ60]; exact s2_keep hmn (by omega)
            have hx0 : σ60 (M + 10) (4 * i) = nI (sgn p ln t) := by rw [← hσ60]; exact s2_keep hx0 (by omega)
            have hx1 : σ60 (M + 10) (4 * i + 1) = nI ((pB p ln 65 80 (t + 1)).2.2) := by rw [← hσ60]; exact s2_same _ _ _ _
            have hx2 : σ60 (M + 10) (4 * i + 2) = x2 := by rw [← hσ60]; exact s2_keep hx2 (by omega)
            have hx3 : σ60 (M + 10) (4 * i + 3) = x3 := by rw [← hσ60]; exact s2_keep hx3 (by omega)
            refine r_aload_n hc dX12_readOne_256 rfl ?_
            refine r_dup hc dX12_readOne_257 rfl ?_
            refine gf_X12_181 (x := nI i) hc (MS0 hM) hmn dX12_readOne_258 ?_
            refine r_iconst (v := nI 1) hc dX12_readOne_261 rfl ?_
            refine r_iadd (v := nI (i + 1)) hc dX12_readOne_262 (ad_NN _ _) ?_
            refine pf_X12_181 hc (MS0 hM) dX12_readOne_263 ?_
            generalize hσ61 : s2 σ60 M 16 (nI (i + 1)) = σ61
            have hln : σ61 M 6 = nI ln := by rw [← hσ61]; exact s2_keep hln (by omega)
            have hpr : rowAt σ61 (M + 5) ln p := by rw [← hσ61]; exact hpr.keep (by omega) _ _
            have hat : σ61 M 17 = nI (t + 1) := by rw [← hσ61]; exact s2_keep hat (by omega)
            have hwr : σ61 M 18 = bI true := by rw [← hσ61]; exact s2_keep hwr (by omega)
            have hmn : σ61 M 16 = nI (i + 1) := by rw [← hσ61]; exact s2_same _ _ _ _
            have hx0 : σ61 (M + 10) (4 * i) = nI (sgn p ln t) := by rw [← hσ61]; exact s2_keep hx0 (by omega)
            have hx1 : σ61 (M + 10) (4 * i + 1) = nI ((pB p ln 65 80 (t + 1)).2.2) := by rw [← hσ61]; exact s2_keep hx1 (by omega)
            have hx2 : σ61 (M + 10) (4 * i + 2) = x2 := by rw [← hσ61]; exact s2_keep hx2 (by omega)
            have hx3 : σ61 (M + 10) (4 * i + 3) = x3 := by rw [← hσ61]; exact s2_keep hx3 (by omega)
            have hE : pO p ln t = p1 (pB p ln 65 80 (t + 1)) := by unfold pO; rw [if_neg (show ¬ sgn p ln t = 107 by omega), if_neg (show ¬ sgn p ln t = 99 by omega), if_pos (show sgn p ln t = 116 by omega)]
            rw [hE] at hR
            exact hR _ ⟨_, rfl, hat.trans (congrArg nI hbt.symm), by rw [show (p1 (pB p ln 65 80 (t + 1))).1 = false from Bool.eq_false_iff.mpr hb252]; exact hwr, fun q => absurd q hb252, ⟨fun q q1 q2 => by rw [← hσ61, s2_ne q1, ← hσ60, s2_ne q2, ← hσ59, s2_ne q1, ← hσ58, s2_ne q1, ← hσ53, s2_ne q1, ← hσ52, s2_ne q1, ← hσ1, s2_ne q2], fun k hk => by rw [← hσ61, s2_nk (by omega), ← hσ60, s2_na (by omega), ← hσ59, s2_nk (by omega), ← hσ58, s2_nk (by omega), ← hσ53, s2_nk (by omega), ← hσ52, s2_nk (by omega), ← hσ1, s2_na (by omega)], fun j hj => by rw [← hσ61, s2_na (by omega), ← hσ60, s2_nk (by omega), ← hσ59, s2_na (by omega), ← hσ58, s2_na (by omega), ← hσ53, s2_na (by omega), ← hσ52, s2_na (by omega), ← hσ1, s2_nk (by omega)]⟩⟩ _ _ dX12_readOne_266
        ·
          exact absurd rfl c_68
      ·
        refine r_iload_n hc dX12_readOne_38 rfl ?_
        refine r_bipush (v := nI 112) hc dX12_readOne_39 rfl ?_
        refine r_icmp_eq (tgt := 60) hc dX12_readOne_41 (by decide) (eq_NN (by omega) (by omega)) (fun c_41 => ?_) (fun c_41 => ?_)
        ·
          refine r_iconst (v := nI 0) hc dX12_readOne_60 rfl ?_
          refine pf_X12_175 hc (MS0 hM) (by rfl) (by rfl) dX12_readOne_61 ?_
          generalize hσ62 : s2 σ1 M 18 (nI 0) = σ62
          have hln : σ62 M 6 = nI ln := by rw [← hσ62]; exact s2_keep hln (by omega)
          have hpr : rowAt σ62 (M + 5) ln p := by rw [← hσ62]; exact hpr.keep (by omega) _ _
          have hat : σ62 M 17 = nI t := by rw [← hσ62]; exact s2_keep hat (by omega)
          have hwr : σ62 M 18 = nI 0 := by rw [← hσ62]; exact s2_same _ _ _ _
          have hmn : σ62 M 16 = nI i := by rw [← hσ62]; exact s2_keep hmn (by omega)
          have hx0 : σ62 (M + 10) (4 * i) = nI (sgn p ln t) := by rw [← hσ62]; exact s2_keep hx0 (by omega)
          have hx1 : σ62 (M + 10) (4 * i + 1) = x1 := by rw [← hσ62]; exact s2_keep hx1 (by omega)
          have hx2 : σ62 (M + 10) (4 * i + 2) = x2 := by rw [← hσ62]; exact s2_keep hx2 (by omega)
          have hx3 : σ62 (M + 10) (4 * i + 3) = x3 := by rw [← hσ62]; exact s2_keep hx3 (by omega)
          have hwr : σ62 M 18 = bI false := hwr
          refine r_aload_n hc dX12_readOne_64 rfl ?_
          refine gf_X12_175 (x := bI false) hc (MS0 hM) hwr dX12_readOne_65 ?_
          refine r_if_eq (tgt := 72) hc dX12_readOne_68 (by decide) (bI_0 _) (fun c_68 => ?_) (fun c_68 => ?_)
          ·
            refine r_aload_n hc dX12_readOne_72 rfl ?_
            refine r_dup hc dX12_readOne_73 rfl ?_
            refine gf_X12_169 (x := nI t) hc (MS0 hM) hat dX12_readOne_74 ?_
            refine r_iconst (v := nI 1) hc dX12_readOne_77 rfl ?_
            refine r_iadd (v := nI (t + 1)) hc dX12_readOne_78 (ad_NN _ _) ?_
            refine pf_X12_169 hc (MS0 hM) dX12_readOne_79 ?_
            generalize hσ63 : s2 σ62 M 17 (nI (t + 1)) = σ63
            have hln : σ63 M 6 = nI ln := by rw [← hσ63]; exact s2_keep hln (by omega)
            have hpr : rowAt σ63 (M + 5) ln p := by rw [← hσ63]; exact hpr.keep (by omega) _ _
            have hat : σ63 M 17 = nI (t + 1) := by rw [← hσ63]; exact s2_same _ _ _ _
            have hwr : σ63 M 18 = bI false := by rw [← hσ63]; exact s2_keep hwr (by omega)
            have hmn : σ63 M 16 = nI i := by rw [← hσ63]; exact s2_keep hmn (by omega)
            have hx0 : σ63 (M + 10) (4 * i) = nI (sgn p ln t) := by rw [← hσ63]; exact s2_keep hx0 (by omega)
            have hx1 : σ63 (M + 10) (4 * i + 1) = x1 := by rw [← hσ63]; exact s2_keep hx1 (by omega)
            have hx2 : σ63 (M + 10) (4 * i + 2) = x2 := by rw [← hσ63]; exact s2_keep hx2 (by omega)
            have hx3 : σ63 (M + 10) (4 * i + 3) = x3 := by rw [← hσ63]; exact s2_keep hx3 (by omega)
            have hkl := sgn_pos (p := p) (ln := ln) (t := t) (by omega)
            refine r_iload_n hc dX12_readOne_82 rfl ?_
            refine r_tableOut (tgt := 240) hc dX12_readOne_83 (by rw [nz, zI_toInt (by omega) (by omega)]; omega) (by decide) ?_
            refine r_aload_n hc dX12_readOne_240 rfl ?_
            refine gf_X12_38 (q := M + 10) hc (MS0 hM) (MSr hM 15 10 (by decide)) dX12_readOne_241 ?_
            refine r_iload_n hc dX12_readOne_244 rfl ?_
            refine r_iconst (v := nI 1) hc dX12_readOne_245 rfl ?_
            refine r_iadd (v := nI (4 * i + 1)) hc dX12_readOne_246 (ad_NN _ _) ?_
            refine r_aload_n hc dX12_readOne_247 rfl ?_
            refine r_bipush (v := nI 65) hc dX12_readOne_248 rfl ?_
            refine r_bipush (v := nI 15) hc dX12_readOne_250 rfl ?_
            refine cl_X12_178 (As := [.int (nI 65), .int (nI 15)]) hc (c_X12_one hM hln hpr hl80 hp (t := t + 1) hat (by omega) hwr (lo := 65) (hi := 15) (hi2 := 80) (by omega) rfl) (MS0 hM) rfl ⟨by decide, by decide⟩ ⟨rfl, rfl⟩ ⟨by decide, by decide⟩ rfl (Nat.le_of_ble_eq_true rfl) dX12_readOne_252 (fun r u hcl => ?_)
            obtain ⟨hrr, hu⟩ := hcl
            rw [hu, hrr]
            by_cases hb252 : (pB p ln 65 80 (t + 1)).1 = true
            ·
              rw [show (!(pB p ln 65 80 (t + 1)).1) = false by rw [hb252]; rfl]
              generalize hσ64 : s2 σ63 M 18 (bI false) = σ64
              have hln : σ64 M 6 = nI ln := by rw [← hσ64]; exact s2_keep hln (by omega)
              have hpr : rowAt σ64 (M + 5) ln p := by rw [← hσ64]; exact hpr.keep (by omega) _ _
              have hat : σ64 M 17 = nI (t + 1) := by rw [← hσ64]; exact s2_keep hat (by omega)
              have hwr : σ64 M 18 = bI false := by rw [← hσ64]; exact s2_same _ _ _ _
              have hmn : σ64 M 16 = nI i := by rw [← hσ64]; exact s2_keep hmn (by omega)
              have hx0 : σ64 (M + 10) (4 * i) = nI (sgn p ln t) := by rw [← hσ64]; exact s2_keep hx0 (by omega)
              have hx1 : σ64 (M + 10) (4 * i + 1) = x1 := by rw [← hσ64]; exact s2_keep hx1 (by omega)
              have hx2 : σ64 (M + 10) (4 * i + 2) = x2 := by rw [← hσ64]; exact s2_keep hx2 (by omega)
              have hx3 : σ64 (M + 10) (4 * i + 3) = x3 := by rw [← hσ64]; exact s2_keep hx3 (by omega)
              generalize hσ65 : s2 σ64 M 17 (nI ((pB p ln 65 80 (t + 1)).2.1)) = σ65
              have hln : σ65 M 6 = nI ln := by rw [← hσ65]; exact s2_keep hln (by omega)
              have hpr : rowAt σ65 (M + 5) ln p := by rw [← hσ65]; exact hpr.keep (by omega) _ _
              have hat : σ65 M 17 = nI ((pB p ln 65 80 (t + 1)).2.1) := by rw [← hσ65]; exact s2_same _ _ _ _
              have hwr : σ65 M 18 = bI false := by rw [← hσ65]; exact s2_keep hwr (by omega)
              have hmn : σ65 M 16 = nI i := by rw [← hσ65]; exact s2_keep hmn (by omega)
              have hx0 : σ65 (M + 10) (4 * i) = nI (sgn p ln t) := by rw [← hσ65]; exact s2_keep hx0 (by omega)
              have hx1 : σ65 (M + 10) (4 * i + 1) = x1 := by rw [← hσ65]; exact s2_keep hx1 (by omega)
              have hx2 : σ65 (M + 10) (4 * i + 2) = x2 := by rw [← hσ65]; exact s2_keep hx2 (by omega)
              have hx3 : σ65 (M + 10) (4 * i + 3) = x3 := by rw [← hσ65]; exact s2_keep hx3 (by omega)
              have hbo := pB_ok hb252
              have hbt : (pB p ln 65 80 (t + 1)).2.1 = (t + 1) + 1 := by rw [hbo.2]
              have hbv : (pB p ln 65 80 (t + 1)).2.2 = sgn p ln (t + 1) - 65 := by rw [hbo.2]
              have hbl := sgn_pos (p := p) (ln := ln) (t := (t + 1)) (by omega)
              have hat : σ65 M 17 = nI (t + 1 + 1) := by rw [hat, hbt]
              refine r_iast (j := 4 * i + 1) hc (MSa hM 10 0 320 rfl) rfl (by omega) (by decide) dX12_readOne_255 ?_
              generalize hσ66 : s2 σ65 (M + 10) (4 * i + 1) (nI ((pB p ln 65 80 (t + 1)).2.2)) = σ66
              have hln : σ66 M 6 = nI ln := by rw [← hσ66]; exact s2_keep hln (by omega)
              have hpr : rowAt σ66 (M + 5) ln p := by rw [← hσ66]; exact hpr.keep (by omega) _ _
              have hat : σ66 M 17 = nI (t + 1 + 1) := by rw [← hσ66]; exact s2_keep hat (by omega)
              have hwr : σ66 M 18 = bI false := by rw [← hσ66]; exact s2_keep hwr (by omega)
              have hmn : σ66 M 16 = nI i := by rw [← hσ66]; exact s2_keep hmn (by omega)
              have hx0 : σ66 (M + 10) (4 * i) = nI (sgn p ln t) := by rw [← hσ66]; exact s2_keep hx0 (by omega)
              have hx1 : σ66 (M + 10) (4 * i + 1) = nI ((pB p ln 65 80 (t + 1)).2.2) := by rw [← hσ66]; exact s2_same _ _ _ _
              have hx2 : σ66 (M + 10) (4 * i + 2) = x2 := by rw [← hσ66]; exact s2_keep hx2 (by omega)
              have hx3 : σ66 (M + 10) (4 * i + 3) = x3 := by rw [← hσ66]; exact s2_keep hx3 (by omega)
              refine r_aload_n hc dX12_readOne_256 rfl ?_
              refine r_dup hc dX12_readOne_257 rfl ?_
              refine gf_X12_181 (x := nI i) hc (MS0 hM) hmn dX12_readOne_258 ?_
              refine r_iconst (v := nI 1) hc dX12_readOne_261 rfl ?_
              refine r_iadd (v := nI (i + 1)) hc dX12_readOne_262 (ad_NN _ _) ?_
              refine pf_X12_181 hc (MS0 hM) dX12_readOne_263 ?_
              generalize hσ67 : s2 σ66 M 16 (nI (i + 1)) = σ67
              have hln : σ67 M 6 = nI ln := by rw [← hσ67]; exact s2_keep hln (by omega)
              have hpr : rowAt σ67 (M + 5) ln p := by rw [← hσ67]; exact hpr.keep (by omega) _ _
              have hat : σ67 M 17 = nI (t + 1 + 1) := by rw [← hσ67]; exact s2_keep hat (by omega)
              have hwr : σ67 M 18 = bI false := by rw [← hσ67]; exact s2_keep hwr (by omega)
              have hmn : σ67 M 16 = nI (i + 1) := by rw [← hσ67]; exact s2_same _ _ _ _
              have hx0 : σ67 (M + 10) (4 * i) = nI (sgn p ln t) := by rw [← hσ67]; exact s2_keep hx0 (by omega)
              have hx1 : σ67 (M + 10) (4 * i + 1) = nI ((pB p ln 65 80 (t + 1)).2.2) := by rw [← hσ67]; exact s2_keep hx1 (by omega)
              have hx2 : σ67 (M + 10) (4 * i + 2) = x2 := by rw [← hσ67]; exact s2_keep hx2 (by omega)
              have hx3 : σ67 (M + 10) (4 * i + 3) = x3 := by rw [← hσ67]; exact s2_keep hx3 (by omega)
              have hE : pO p ln t = p1 (pB p ln 65 80 (t + 1)) := by unfold pO; rw [if_neg (show ¬ sgn p ln t = 107 by omega), if_neg (show ¬ sgn p ln t = 99 by omega), if_neg (show ¬ sgn p ln t = 116 by omega), if_pos (show sgn p ln t = 112 by omega)]
              rw [hE] at hR
              exact hR _ ⟨_, rfl, hat.trans (congrArg nI hbt.symm), by rw [show (p1 (pB p ln 65 80 (t + 1))).1 = true from hb252]; exact hwr, fun _ => ⟨hmn, hx0, hx1, fun e => absurd e (by omega)⟩, ⟨fun q q1 q2 => by rw [← hσ67, s2_ne q1, ← hσ66, s2_ne q2, ← hσ65, s2_ne q1, ← hσ64, s2_ne q1, ← hσ63, s2_ne q1, ← hσ62, s2_ne q1, ← hσ1, s2_ne q2], fun k hk => by rw [← hσ67, s2_nk (by omega), ← hσ66, s2_na (by omega), ← hσ65, s2_nk (by omega), ← hσ64, s2_nk (by omega), ← hσ63, s2_nk (by omega), ← hσ62, s2_nk (by omega), ← hσ1, s2_na (by omega)], fun j hj => by rw [← hσ67, s2_na (by omega), ← hσ66, s2_nk (by omega), ← hσ65, s2_na (by omega), ← hσ64, s2_na (by omega), ← hσ63, s2_na (by omega), ← hσ62, s2_na (by omega), ← hσ1, s2_nk (by omega)]⟩⟩ _ _ dX12_readOne_266
            ·
              rw [show (!(pB p ln 65 80 (t + 1)).1) = true by rw [Bool.eq_false_iff.mpr hb252]; rfl]
              generalize hσ68 : s2 σ63 M 18 (bI true) = σ68
              have hln : σ68 M 6 = nI ln := by rw [← hσ68]; exact s2_keep hln (by omega)
              have hpr : rowAt σ68 (M + 5) ln p := by rw [← hσ68]; exact hpr.keep (by omega) _ _
              have hat : σ68 M 17 = nI (t + 1) := by rw [← hσ68]; exact s2_keep hat (by omega)
              have hwr : σ68 M 18 = bI true := by rw [← hσ68]; exact s2_same _ _ _ _
              have hmn : σ68 M 16 = nI i := by rw [← hσ68]; exact s2_keep hmn (by omega)
              have hx0 : σ68 (M + 10) (4 * i) = nI (sgn p ln t) := by rw [← hσ68]; exact s2_keep hx0 (by omega)
              have hx1 : σ68 (M + 10) (4 * i + 1) = x1 := by rw [← hσ68]; exact s2_keep hx1 (by omega)
              have hx2 : σ68 (M + 10) (4 * i + 2) = x2 := by rw [← hσ68]; exact s2_keep hx2 (by omega)
              have hx3 : σ68 (M + 10) (4 * i + 3) = x3 := by rw [← hσ68]; exact s2_keep hx3 (by omega)
              generalize hσ69 : s2 σ68 M 17 (nI ((pB p ln 65 80 (t + 1)).2.1)) = σ69
              have hln : σ69 M 6 = nI ln := by rw [← hσ69]; exact s2_keep hln (by omega)
              have hpr : rowAt σ69 (M + 5) ln p := by rw [← hσ69]; exact hpr.keep (by omega) _ _
              have hat : σ69 M 17 = nI ((pB p ln 65 80 (t + 1)).2.1) := by rw [← hσ69]; exact s2_same _ _ _ _
              have hwr : σ69 M 18 = bI true := by rw [← hσ69]; exact s2_keep hwr (by omega)
              have hmn : σ69 M 16 = nI i := by rw [← hσ69]; exact s2_keep hmn (by omega)
              have hx0 : σ69 (M + 10) (4 * i) = nI (sgn p ln t) := by rw [← hσ69]; exact s2_keep hx0 (by omega)
              have hx1 : σ69 (M + 10) (4 * i + 1) = x1 := by rw [← hσ69]; exact s2_keep hx1 (by omega)
              have hx2 : σ69 (M + 10) (4 * i + 2) = x2 := by rw [← hσ69]; exact s2_keep hx2 (by omega)
              have hx3 : σ69 (M + 10) (4 * i + 3) = x3 := by rw [← hσ69]; exact s2_keep hx3 (by omega)
              have hbn := pB_no hb252
              have hbt : (pB p ln 65 80 (t + 1)).2.1 = (t + 1) := by rw [hbn]
              have hat : σ69 M 17 = nI (t + 1) := by rw [hat, hbt]
              refine r_iast (j := 4 * i + 1) hc (MSa hM 10 0 320 rfl) rfl (by omega) (by decide) dX12_readOne_255 ?_
              generalize hσ70 : s2 σ69 (M + 10) (4 * i + 1) (nI ((pB p ln 65 80 (t + 1)).2.2)) = σ70
              have hln : σ70 M 6 = nI ln := by rw [← hσ70]; exact s2_keep hln (by omega)
              have hpr : rowAt σ70 (M + 5) ln p := by rw [← hσ70]; exact hpr.keep (by omega) _ _
              have hat : σ70 M 17 = nI (t + 1) := by rw [← hσ70]; exact s2_keep hat (by omega)
              have hwr : σ70 M 18 = bI true := by rw [← hσ70]; exact s2_keep hwr (by omega)
              have hmn : σ70 M 16 = nI i := by rw [← hσ70]; exact s2_keep hmn (by omega)
              have hx0 : σ70 (M + 10) (4 * i) = nI (sgn p ln t) := by rw [← hσ70]; exact s2_keep hx0 (by omega)
              have hx1 : σ70 (M + 10) (4 * i + 1) = nI ((pB p ln 65 80 (t + 1)).2.2) := by rw [← hσ70]; exact s2_same _ _ _ _
              have hx2 : σ70 (M + 10) (4 * i + 2) = x2 := by rw [← hσ70]; exact s2_keep hx2 (by omega)
              have hx3 : σ70 (M + 10) (4 * i + 3) = x3 := by rw [← hσ70]; exact s2_keep hx3 (by omega)
              refine r_aload_n hc dX12_readOne_256 rfl ?_
              refine r_dup hc dX12_readOne_257 rfl ?_
              refine gf_X12_181 (x := nI i) hc (MS0 hM) hmn dX12_readOne_258 ?_
              refine r_iconst (v := nI 1) hc dX12_readOne_261 rfl ?_
              refine r_iadd (v := nI (i + 1)) hc dX12_readOne_262 (ad_NN _ _) ?_
              refine pf_X12_181 hc (MS0 hM) dX12_readOne_263 ?_
              generalize hσ71 : s2 σ70 M 16 (nI (i + 1)) = σ71
              have hln : σ71 M 6 = nI ln := by rw [← hσ71]; exact s2_keep hln (by omega)
              have hpr : rowAt σ71 (M + 5) ln p := by rw [← hσ71]; exact hpr.keep (by omega) _ _
              have hat : σ71 M 17 = nI (t + 1) := by rw [← hσ71]; exact s2_keep hat (by omega)
              have hwr : σ71 M 18 = bI true := by rw [← hσ71]; exact s2_keep hwr (by omega)
              have hmn : σ71 M 16 = nI (i + 1) := by rw [← hσ71]; exact s2_same _ _ _ _
              have hx0 : σ71 (M + 10) (4 * i) = nI (sgn p ln t) := by rw [← hσ71]; exact s2_keep hx0 (by omega)
              have hx1 : σ71 (M + 10) (4 * i + 1) = nI ((pB p ln 65 80 (t + 1)).2.2) := by rw [← hσ71]; exact s2_keep hx1 (by omega)
              have hx2 : σ71 (M + 10) (4 * i + 2) = x2 := by rw [← hσ71]; exact s2_keep hx2 (by omega)
              have hx3 : σ71 (M + 10) (4 * i + 3) = x3 := by rw [← hσ71]; exact s2_keep hx3 (by omega)
              have hE : pO p ln t = p1 (pB p ln 65 80 (t + 1)) := by unfold pO; rw [if_neg (show ¬ sgn p ln t = 107 by omega), if_neg (show ¬ sgn p ln t = 99 by omega), if_neg (show ¬ sgn p ln t = 116 by omega), if_pos (show sgn p ln t = 112 by omega)]
              rw [hE] at hR
              exact hR _ ⟨_, rfl, hat.trans (congrArg nI hbt.symm), by rw [show (p1 (pB p ln 65 80 (t + 1))).1 = false from Bool.eq_false_iff.mpr hb252]; exact hwr, fun q => absurd q hb252, ⟨fun q q1 q2 => by rw [← hσ71, s2_ne q1, ← hσ70, s2_ne q2, ← hσ69, s2_ne q1, ← hσ68, s2_ne q1, ← hσ63, s2_ne q1, ← hσ62, s2_ne q1, ← hσ1, s2_ne q2], fun k hk => by rw [← hσ71, s2_nk (by omega), ← hσ70, s2_na (by omega), ← hσ69, s2_nk (by omega), ← hσ68, s2_nk (by omega), ← hσ63, s2_nk (by omega), ← hσ62, s2_nk (by omega), ← hσ1, s2_na (by omega)], fun j hj => by rw [← hσ71, s2_na (by omega), ← hσ70, s2_nk (by omega), ← hσ69, s2_na (by omega), ← hσ68, s2_na (by omega), ← hσ63, s2_na (by omega), ← hσ62, s2_na (by omega), ← hσ1, s2_nk (by omega)]⟩⟩ _ _ dX12_readOne_266
          ·
            exact absurd rfl c_68
        ·
          refine r_iload_n hc dX12_readOne_44 rfl ?_
          refine r_bipush (v := nI 103) hc dX12_readOne_45 rfl ?_
          refine r_icmp_eq (tgt := 60) hc dX12_readOne_47 (by decide) (eq_NN (by omega) (by omega)) (fun c_47 => ?_) (fun c_47 => ?_)
          ·
            refine r_iconst (v := nI 0) hc dX12_readOne_60 rfl ?_
            refine pf_X12_175 hc (MS0 hM) (by rfl) (by rfl) dX12_readOne_61 ?_
            generalize hσ72 : s2 σ1 M 18 (nI 0) = σ72
            have hln : σ72 M 6 = nI ln := by rw [← hσ72]; exact s2_keep hln (by omega)
            have hpr : rowAt σ72 (M + 5) ln p := by rw [← hσ72]; exact hpr.keep (by omega) _ _
            have hat : σ72 M 17 = nI t := by rw [← hσ72]; exact s2_keep hat (by omega)
            have hwr : σ72 M 18 = nI 0 := by rw [← hσ72]; exact s2_same _ _ _ _
            have hmn : σ72 M 16 = nI i := by rw [← hσ72]; exact s2_keep hmn (by omega)
            have hx0 : σ72 (M + 10) (4 * i) = nI (sgn p ln t) := by rw [← hσ72]; exact s2_keep hx0 (by omega)
            have hx1 : σ72 (M + 10) (4 * i + 1) = x1 := by rw [← hσ72]; exact s2_keep hx1 (by omega)
            have hx2 : σ72 (M + 10) (4 * i + 2) = x2 := by rw [← hσ72]; exact s2_keep hx2 (by omega)
            have hx3 : σ72 (M + 10) (4 * i + 3) = x3 := by rw [← hσ72]; exact s2_keep hx3 (by omega)
            have hwr : σ72 M 18 = bI false := hwr
            refine r_aload_n hc dX12_readOne_64 rfl ?_
            refine gf_X12_175 (x := bI false) hc (MS0 hM) hwr dX12_readOne_65 ?_
            refine r_if_eq (tgt := 72) hc dX12_readOne_68 (by decide) (bI_0 _) (fun c_68 => ?_) (fun c_68 => ?_)
            ·
              refine r_aload_n hc dX12_readOne_72 rfl ?_
              refine r_dup hc dX12_readOne_73 rfl ?_
              refine gf_X12_169 (x := nI t) hc (MS0 hM) hat dX12_readOne_74 ?_
              refine r_iconst (v := nI 1) hc dX12_readOne_77 rfl ?_
              refine r_iadd (v := nI (t + 1)) hc dX12_readOne_78 (ad_NN _ _) ?_
              refine pf_X12_169 hc (MS0 hM) dX12_readOne_79 ?_
              generalize hσ73 : s2 σ72 M 17 (nI (t + 1)) = σ73
              have hln : σ73 M 6 = nI ln := by rw [← hσ73]; exact s2_keep hln (by omega)
              have hpr : rowAt σ73 (M + 5) ln p := by rw [← hσ73]; exact hpr.keep (by omega) _ _
              have hat : σ73 M 17 = nI (t + 1) := by rw [← hσ73]; exact s2_same _ _ _ _
              have hwr : σ73 M 18 = bI false := by rw [← hσ73]; exact s2_keep hwr (by omega)
              have hmn : σ73 M 16 = nI i := by rw [← hσ73]; exact s2_keep hmn (by omega)
              have hx0 : σ73 (M + 10) (4 * i) = nI (sgn p ln t) := by rw [← hσ73]; exact s2_keep hx0 (by omega)
              have hx1 : σ73 (M + 10) (4 * i + 1) = x1 := by rw [← hσ73]; exact s2_keep hx1 (by omega)
              have hx2 : σ73 (M + 10) (4 * i + 2) = x2 := by rw [← hσ73]; exact s2_keep hx2 (by omega)
              have hx3 : σ73 (M + 10) (4 * i + 3) = x3 := by rw [← hσ73]; exact s2_keep hx3 (by omega)
              have hkl := sgn_pos (p := p) (ln := ln) (t := t) (by omega)
              refine r_iload_n hc dX12_readOne_82 rfl ?_
              refine r_tableIn (off := 123) (tgt := 206) hc dX12_readOne_83 (by rw [nz, zI_toInt (by omega) (by omega)]; omega) (by rw [nz, zI_toInt (by omega) (by omega)]; omega) (by rw [nz, zI_toInt (by omega) (by omega), show ((sgn p ln t : Nat) : Int) = 103 by omega]; rfl) (by decide) ?_
              refine r_aload_n hc dX12_readOne_206 rfl ?_
              refine gf_X12_38 (q := M + 10) hc (MS0 hM) (MSr hM 15 10 (by decide)) dX12_readOne_207 ?_
              refine r_iload_n hc dX12_readOne_210 rfl ?_
              refine r_iconst (v := nI 1) hc dX12_readOne_211 rfl ?_
              refine r_iadd (v := nI (4 * i + 1)) hc dX12_readOne_212 (ad_NN _ _) ?_
              refine r_aload_n hc dX12_readOne_213 rfl ?_
              refine r_bipush (v := nI 48) hc dX12_readOne_214 rfl ?_
              refine r_bipush (v := nI 9) hc dX12_readOne_216 rfl ?_
              refine cl_X12_178 (As := [.int (nI 48), .int (nI 9)]) hc (c_X12_one hM hln hpr hl80 hp (t := t + 1) hat (by omega) hwr (lo := 48) (hi := 9) (hi2 := 57) (by omega) rfl) (MS0 hM) rfl ⟨by decide, by decide⟩ ⟨rfl, rfl⟩ ⟨by decide, by decide⟩ rfl (Nat.le_of_ble_eq_true rfl) dX12_readOne_218 (fun r u hcl => ?_)
              obtain ⟨hrr, hu⟩ := hcl
              rw [hu, hrr]
              by_cases hb218 : (pB p ln 48 57 (t + 1)).1 = true
              ·
                rw [show (!(pB p ln 48 57 (t + 1)).1) = false by rw [hb218]; rfl]
                generalize hσ74 : s2 σ73 M 18 (bI false) = σ74
                have hln : σ74 M 6 = nI ln := by rw [← hσ74]; exact s2_keep hln (by omega)
                have hpr : rowAt σ74 (M + 5) ln p := by rw [← hσ74]; exact hpr.keep (by omega) _ _
                have hat : σ74 M 17 = nI (t + 1) := by rw [← hσ74]; exact s2_keep hat (by omega)
                have hwr : σ74 M 18 = bI false := by rw [← hσ74]; exact s2_same _ _ _ _
                have hmn : σ74 M 16 = nI i := by rw [← hσ74]; exact s2_keep hmn (by omega)
                have hx0 : σ74 (M + 10) (4 * i) = nI (sgn p ln t) := by rw [← hσ74]; exact s2_keep hx0 (by omega)
                have hx1 : σ74 (M + 10) (4 * i + 1) = x1 := by rw [← hσ74]; exact s2_keep hx1 (by omega)
                have hx2 : σ74 (M + 10) (4 * i + 2) = x2 := by rw [← hσ74]; exact s2_keep hx2 (by omega)
                have hx3 : σ74 (M + 10) (4 * i + 3) = x3 := by rw [← hσ74]; exact s2_keep hx3 (by omega)
                generalize hσ75 : s2 σ74 M 17 (nI ((pB p ln 48 57 (t + 1)).2.1)) = σ75
                have hln : σ75 M 6 = nI ln := by rw [← hσ75]; exact s2_keep hln (by omega)
                have hpr : rowAt σ75 (M + 5) ln p := by rw [← hσ75]; exact hpr.keep (by omega) _ _
                have hat : σ75 M 17 = nI ((pB p ln 48 57 (t + 1)).2.1) := by rw [← hσ75]; exact s2_same _ _ _ _
                have hwr : σ75 M 18 = bI false := by rw [← hσ75]; exact s2_keep hwr (by omega)
                have hmn : σ75 M 16 = nI i := by rw [← hσ75]; exact s2_keep hmn (by omega)
                have hx0 : σ75 (M + 10) (4 * i) = nI (sgn p ln t) := by rw [← hσ75]; exact s2_keep hx0 (by omega)
                have hx1 : σ75 (M + 10) (4 * i + 1) = x1 := by rw [← hσ75]; exact s2_keep hx1 (by omega)
                have hx2 : σ75 (M + 10) (4 * i + 2) = x2 := by rw [← hσ75]; exact s2_keep hx2 (by omega)
                have hx3 : σ75 (M + 10) (4 * i + 3) = x3 := by rw [← hσ75]; exact s2_keep hx3 (by omega)
                have hbo := pB_ok hb218
                have hbt : (pB p ln 48 57 (t + 1)).2.1 = (t + 1) + 1 := by rw [hbo.2]
                have hbv : (pB p ln 48 57 (t + 1)).2.2 = sgn p ln (t + 1) - 48 := by rw [hbo.2]
                have hbl := sgn_pos (p := p) (ln := ln) (t := (t + 1)) (by omega)
                have hat : σ75 M 17 = nI (t + 1 + 1) := by rw [hat, hbt]
                refine r_iast (j := 4 * i + 1) hc (MSa hM 10 0 320 rfl) rfl (by omega) (by decide) dX12_readOne_221 ?_
                generalize hσ76 : s2 σ75 (M + 10) (4 * i + 1) (nI ((pB p ln 48 57 (t + 1)).2.2)) = σ76
                have hln : σ76 M 6 = nI ln := by rw [← hσ76]; exact s2_keep hln (by omega)
                have hpr : rowAt σ76 (M + 5) ln p := by rw [← hσ76]; exact hpr.keep (by omega) _ _
                have hat : σ76 M 17 = nI (t + 1 + 1) := by rw [← hσ76]; exact s2_keep hat (by omega)
                have hwr : σ76 M 18 = bI false := by rw [← hσ76]; exact s2_keep hwr (by omega)
                have hmn : σ76 M 16 = nI i := by rw [← hσ76]; exact s2_keep hmn (by omega)
                have hx0 : σ76 (M + 10) (4 * i) = nI (sgn p ln t) := by rw [← hσ76]; exact s2_keep hx0 (by omega)
                have hx1 : σ76 (M + 10) (4 * i + 1) = nI ((pB p ln 48 57 (t + 1)).2.2) := by rw [← hσ76]; exact s2_same _ _ _ _
                have hx2 : σ76 (M + 10) (4 * i + 2) = x2 := by rw [← hσ76]; exact s2_keep hx2 (by omega)
                have hx3 : σ76 (M + 10) (4 * i + 3) = x3 := by rw [← hσ76]; exact s2_keep hx3 (by omega)
                refine r_goto (tgt := 256) hc dX12_readOne_222 (by decide) ?_
                refine r_aload_n hc dX12_readOne_256 rfl ?_
                refine r_dup hc dX12_readOne_257 rfl ?_
                refine gf_X12_181 (x := nI i) hc (MS0 hM) hmn dX12_readOne_258 ?_
                refine r_iconst (v := nI 1) hc dX12_readOne_261 rfl ?_
                refine r_iadd (v := nI (i + 1)) hc dX12_readOne_262 (ad_NN _ _) ?_
                refine pf_X12_181 hc (MS0 hM) dX12_readOne_263 ?_
                generalize hσ77 : s2 σ76 M 16 (nI (i + 1)) = σ77
                have hln : σ77 M 6 = nI ln := by rw [← hσ77]; exact s2_keep hln (by omega)
                have hpr : rowAt σ77 (M + 5) ln p := by rw [← hσ77]; exact hpr.keep (by omega) _ _
                have hat : σ77 M 17 = nI (t + 1 + 1) := by rw [← hσ77]; exact s2_keep hat (by omega)
                have hwr : σ77 M 18 = bI false := by rw [← hσ77]; exact s2_keep hwr (by omega)
                have hmn : σ77 M 16 = nI (i + 1) := by rw [← hσ77]; exact s2_same _ _ _ _
                have hx0 : σ77 (M + 10) (4 * i) = nI (sgn p ln t) := by rw [← hσ77]; exact s2_keep hx0 (by omega)
                have hx1 : σ77 (M + 10) (4 * i + 1) = nI ((pB p ln 48 57 (t + 1)).2.2) := by rw [← hσ77]; exact s2_keep hx1 (by omega)
                have hx2 : σ77 (M + 10) (4 * i + 2) = x2 := by rw [← hσ77]; exact s2_keep hx2 (by omega)
                have hx3 : σ77 (M + 10) (4 * i + 3) = x3 := by rw [← hσ77]; exact s2_keep hx3 (by omega)
                have hE : pO p ln t = p1 (pB p ln 48 57 (t + 1)) := by unfold pO; rw [if_neg (show ¬ sgn p ln t = 107 by omega), if_neg (show ¬ sgn p ln t = 99 by omega), if_neg (show ¬ sgn p ln t = 116 by omega), if_neg (show ¬ sgn p ln t = 112 by omega), if_pos (show sgn p ln t = 103 by omega)]
                rw [hE] at hR
                exact hR _ ⟨_, rfl, hat.trans (congrArg nI hbt.symm), by rw [show (p1 (pB p ln 48 57 (t + 1))).1 = true from hb218]; exact hwr, fun _ => ⟨hmn, hx0, hx1, fun e => absurd e (by omega)⟩, ⟨fun q q1 q2 => by rw [← hσ77, s2_ne q1, ← hσ76, s2_ne q2, ← hσ75, s2_ne q1, ← hσ74, s2_ne q1, ← hσ73, s2_ne q1, ← hσ72, s2_ne q1, ← hσ1, s2_ne q2], fun k hk => by rw [← hσ77, s2_nk (by omega), ← hσ76, s2_na (by omega), ← hσ75, s2_nk (by omega), ← hσ74, s2_nk (by omega), ← hσ73, s2_nk (by omega), ← hσ72, s2_nk (by omega), ← hσ1, s2_na (by omega)], fun j hj => by rw [← hσ77, s2_na (by omega), ← hσ76, s2_nk (by omega), ← hσ75, s2_na (by omega), ← hσ74, s2_na (by omega), ← hσ73, s2_na (by omega), ← hσ72, s2_na (by omega), ← hσ1, s2_nk (by omega)]⟩⟩ _ _ dX12_readOne_266
              ·
                rw [show (!(pB p ln 48 57 (t + 1)).1) = true by rw [Bool.eq_false_iff.mpr hb218]; rfl]
                generalize hσ78 : s2 σ73 M 18 (bI true) = σ78
                have hln : σ78 M 6 = nI ln := by rw [← hσ78]; exact s2_keep hln (by omega)
                have hpr : rowAt σ78 (M + 5) ln p := by rw [← hσ78]; exact hpr.keep (by omega) _ _
                have hat : σ78 M 17 = nI (t + 1) := by rw [← hσ78]; exact s2_keep hat (by omega)
                have hwr : σ78 M 18 = bI true := by rw [← hσ78]; exact s2_same _ _ _ _
                have hmn : σ78 M 16 = nI i := by rw [← hσ78]; exact s2_keep hmn (by omega)
                have hx0 : σ78 (M + 10) (4 * i) = nI (sgn p ln t) := by rw [← hσ78]; exact s2_keep hx0 (by omega)
                have hx1 : σ78 (M + 10) (4 * i + 1) = x1 := by rw [← hσ78]; exact s2_keep hx1 (by omega)
                have hx2 : σ78 (M + 10) (4 * i + 2) = x2 := by rw [← hσ78]; exact s2_keep hx2 (by omega)
                have hx3 : σ78 (M + 10) (4 * i + 3) = x3 := by rw [← hσ78]; exact s2_keep hx3 (by omega)
                generalize hσ79 : s2 σ78 M 17 (nI ((pB p ln 48 57 (t + 1)).2.1)) = σ79
                have hln : σ79 M 6 = nI ln := by rw [← hσ79]; exact s2_keep hln (by omega)
                have hpr : rowAt σ79 (M + 5) ln p := by rw [← hσ79]; exact hpr.keep (by omega) _ _
                have hat : σ79 M 17 = nI ((pB p ln 48 57 (t + 1)).2.1) := by rw [← hσ79]; exact s2_same _ _ _ _
                have hwr : σ79 M 18 = bI true := by rw [← hσ79]; exact s2_keep hwr (by omega)
                have hmn : σ79 M 16 = nI i := by rw [← hσ79]; exact s2_keep hmn (by omega)
                have hx0 : σ79 (M + 10) (4 * i) = nI (sgn p ln t) := by rw [← hσ79]; exact s2_keep hx0 (by omega)
                have hx1 : σ79 (M + 10) (4 * i + 1) = x1 := by rw [← hσ79]; exact s2_keep hx1 (by omega)
                have hx2 : σ79 (M + 10) (4 * i + 2) = x2 := by rw [← hσ79]; exact s2_keep hx2 (by omega)
                have hx3 : σ79 (M + 10) (4 * i + 3) = x3 := by rw [← hσ79]; exact s2_keep hx3 (by omega)
                have hbn := pB_no hb218
                have hbt : (pB p ln 48 57 (t + 1)).2.1 = (t + 1) := by rw [hbn]
                have hat : σ79 M 17 = nI (t + 1) := by rw [hat, hbt]
                refine r_iast (j := 4 * i + 1) hc (MSa hM 10 0 320 rfl) rfl (by omega) (by decide) dX12_readOne_221 ?_
                generalize hσ80 : s2 σ79 (M + 10) (4 * i + 1) (nI ((pB p ln 48 57 (t + 1)).2.2)) = σ80
                have hln : σ80 M 6 = nI ln := by rw [← hσ80]; exact s2_keep hln (by omega)
                have hpr : rowAt σ80 (M + 5) ln p := by rw [← hσ80]; exact hpr.keep (by omega) _ _
                have hat : σ80 M 17 = nI (t + 1) := by rw [← hσ80]; exact s2_keep hat (by omega)
                have hwr : σ80 M 18 = bI true := by rw [← hσ80]; exact s2_keep hwr (by omega)
                have hmn : σ80 M 16 = nI i := by rw [← hσ80]; exact s2_keep hmn (by omega)
                have hx0 : σ80 (M + 10) (4 * i) = nI (sgn p ln t) := by rw [← hσ80]; exact s2_keep hx0 (by omega)
                have hx1 : σ80 (M + 10) (4 * i + 1) = nI ((pB p ln 48 57 (t + 1)).2.2) := by rw [← hσ80]; exact s2_same _ _ _ _
                have hx2 : σ80 (M + 10) (4 * i + 2) = x2 := by rw [← hσ80]; exact s2_keep hx2 (by omega)
                have hx3 : σ80 (M + 10) (4 * i + 3) = x3 := by rw [← hσ80]; exact s2_keep hx3 (by omega)
                refine r_goto (tgt := 256) hc dX12_readOne_222 (by decide) ?_
                refine r_aload_n hc dX12_readOne_256 rfl ?_
                refine r_dup hc dX12_readOne_257 rfl ?_
                refine gf_X12_181 (x := nI i) hc (MS0 hM) hmn dX12_readOne_258 ?_
                refine r_iconst (v := nI 1) hc dX12_readOne_261 rfl ?_
                refine r_iadd (v := nI (i + 1)) hc dX12_readOne_262 (ad_NN _ _) ?_
                refine pf_X12_181 hc (MS0 hM) dX12_readOne_263 ?_
                generalize hσ81 : s2 σ80 M 16 (nI (i + 1)) = σ81
                have hln : σ81 M 6 = nI ln := by rw [← hσ81]; exact s2_keep hln (by omega)
                have hpr : rowAt σ81 (M + 5) ln p := by rw [← hσ81]; exact hpr.keep (by omega) _ _
                have hat : σ81 M 17 = nI (t + 1) := by rw [← hσ81]; exact s2_keep hat (by omega)
                have hwr : σ81 M 18 = bI true := by rw [← hσ81]; exact s2_keep hwr (by omega)
                have hmn : σ81 M 16 = nI (i + 1) := by rw [← hσ81]; exact s2_same _ _ _ _
                have hx0 : σ81 (M + 10) (4 * i) = nI (sgn p ln t) := by rw [← hσ81]; exact s2_keep hx0 (by omega)
                have hx1 : σ81 (M + 10) (4 * i + 1) = nI ((pB p ln 48 57 (t + 1)).2.2) := by rw [← hσ81]; exact s2_keep hx1 (by omega)
                have hx2 : σ81 (M + 10) (4 * i + 2) = x2 := by rw [← hσ81]; exact s2_keep hx2 (by omega)
                have hx3 : σ81 (M + 10) (4 * i + 3) = x3 := by rw [← hσ81]; exact s2_keep hx3 (by omega)
                have hE : pO p ln t = p1 (pB p ln 48 57 (t + 1)) := by unfold pO; rw [if_neg (show ¬ sgn p ln t = 107 by omega), if_neg (show ¬ sgn p ln t = 99 by omega), if_neg (show ¬ sgn p ln t = 116 by omega), if_neg (show ¬ sgn p ln t = 112 by omega), if_pos (show sgn p ln t = 103 by omega)]
                rw [hE] at hR
                exact hR _ ⟨_, rfl, hat.trans (congrArg nI hbt.symm), by rw [show (p1 (pB p ln 48 57 (t + 1))).1 = false from Bool.eq_false_iff.mpr hb218]; exact hwr, fun q => absurd q hb218, ⟨fun q q1 q2 => by rw [← hσ81, s2_ne q1, ← hσ80, s2_ne q2, ← hσ79, s2_ne q1, ← hσ78, s2_ne q1, ← hσ73, s2_ne q1, ← hσ72, s2_ne q1, ← hσ1, s2_ne q2], fun k hk => by rw [← hσ81, s2_nk (by omega), ← hσ80, s2_na (by omega), ← hσ79, s2_nk (by omega), ← hσ78, s2_nk (by omega), ← hσ73, s2_nk (by omega), ← hσ72, s2_nk (by omega), ← hσ1, s2_na (by omega)], fun j hj => by rw [← hσ81, s2_na (by omega), ← hσ80, s2_nk (by omega), ← hσ79, s2_na (by omega), ← hσ78, s2_na (by omega), ← hσ73, s2_na (by omega), ← hσ72, s2_na (by omega), ← hσ1, s2_nk (by omega)]⟩⟩ _ _ dX12_readOne_266
            ·
              exact absurd rfl c_68
          ·
            refine r_iload_n hc dX12_readOne_50 rfl ?_
            refine r_bipush (v := nI 98) hc dX12_readOne_51 rfl ?_
            refine r_icmp_eq (tgt := 60) hc dX12_readOne_53 (by decide) (eq_NN (by omega) (by omega)) (fun c_53 => ?_) (fun c_53 => ?_)
            ·
              refine r_iconst (v := nI 0) hc dX12_readOne_60 rfl ?_
              refine pf_X12_175 hc (MS0 hM) (by rfl) (by rfl) dX12_readOne_61 ?_
              generalize hσ82 : s2 σ1 M 18 (nI 0) = σ82
              have hln : σ82 M 6 = nI ln := by rw [← hσ82]; exact s2_keep hln (by omega)
              have hpr : rowAt σ82 (M + 5) ln p := by rw [← hσ82]; exact hpr.keep (by omega) _ _
              have hat : σ82 M 17 = nI t := by rw [← hσ82]; exact s2_keep hat (by omega)
              have hwr : σ82 M 18 = nI 0 := by rw [← hσ82]; exact s2_same _ _ _ _
              have hmn : σ82 M 16 = nI i := by rw [← hσ82]; exact s2_keep hmn (by omega)
              have hx0 : σ82 (M + 10) (4 * i) = nI (sgn p ln t) := by rw [← hσ82]; exact s2_keep hx0 (by omega)
              have hx1 : σ82 (M + 10) (4 * i + 1) = x1 := by rw [← hσ82]; exact s2_keep hx1 (by omega)
              have hx2 : σ82 (M + 10) (4 * i + 2) = x2 := by rw [← hσ82]; exact s2_keep hx2 (by omega)
              have hx3 : σ82 (M + 10) (4 * i + 3) = x3 := by rw [← hσ82]; exact s2_keep hx3 (by omega)
              have hwr : σ82 M 18 = bI false := hwr
              refine r_aload_n hc dX12_readOne_64 rfl ?_
              refine gf_X12_175 (x := bI false) hc (MS0 hM) hwr dX12_readOne_65 ?_
              refine r_if_eq (tgt := 72) hc dX12_readOne_68 (by decide) (bI_0 _) (fun c_68 => ?_) (fun c_68 => ?_)
              ·
                refine r_aload_n hc dX12_readOne_72 rfl ?_
                refine r_dup hc dX12_readOne_73 rfl ?_
                refine gf_X12_169 (x := nI t) hc (MS0 hM) hat dX12_readOne_74 ?_
                refine r_iconst (v := nI 1) hc dX12_readOne_77 rfl ?_
                refine r_iadd (v := nI (t + 1)) hc dX12_readOne_78 (ad_NN _ _) ?_
                refine pf_X12_169 hc (MS0 hM) dX12_readOne_79 ?_
                generalize hσ83 : s2 σ82 M 17 (nI (t + 1)) = σ83
                have hln : σ83 M 6 = nI ln := by rw [← hσ83]; exact s2_keep hln (by omega)
                have hpr : rowAt σ83 (M + 5) ln p := by rw [← hσ83]; exact hpr.keep (by omega) _ _
                have hat : σ83 M 17 = nI (t + 1) := by rw [← hσ83]; exact s2_same _ _ _ _
                have hwr : σ83 M 18 = bI false := by rw [← hσ83]; exact s2_keep hwr (by omega)
                have hmn : σ83 M 16 = nI i := by rw [← hσ83]; exact s2_keep hmn (by omega)
                have hx0 : σ83 (M + 10) (4 * i) = nI (sgn p ln t) := by rw [← hσ83]; exact s2_keep hx0 (by omega)
                have hx1 : σ83 (M + 10) (4 * i + 1) = x1 := by rw [← hσ83]; exact s2_keep hx1 (by omega)
                have hx2 : σ83 (M + 10) (4 * i + 2) = x2 := by rw [← hσ83]; exact s2_keep hx2 (by omega)
                have hx3 : σ83 (M + 10) (4 * i + 3) = x3 := by rw [← hσ83]; exact s2_keep hx3 (by omega)
                have hkl := sgn_pos (p := p) (ln := ln) (t := t) (by omega)
                refine r_iload_n hc dX12_readOne_82 rfl ?_
                refine r_tableIn (off := 142) (tgt := 225) hc dX12_readOne_83 (by rw [nz, zI_toInt (by omega) (by omega)]; omega) (by rw [nz, zI_toInt (by omega) (by omega)]; omega) (by rw [nz, zI_toInt (by omega) (by omega), show ((sgn p ln t : Nat) : Int) = 98 by omega]; rfl) (by decide) ?_
                refine r_aload_n hc dX12_readOne_225 rfl ?_
                refine gf_X12_38 (q := M + 10) hc (MS0 hM) (MSr hM 15 10 (by decide)) dX12_readOne_226 ?_
                refine r_iload_n hc dX12_readOne_229 rfl ?_
                refine r_iconst (v := nI 1) hc dX12_readOne_230 rfl ?_
                refine r_iadd (v := nI (4 * i + 1)) hc dX12_readOne_231 (ad_NN _ _) ?_
                refine r_aload_n hc dX12_readOne_232 rfl ?_
                refine cl_X12_191 (As := []) hc (c_X12_number hM hln hpr hl80 hp (t := t + 1) hat (by omega) hwr) (MS0 hM) rfl ⟨by decide, by decide⟩ ⟨rfl, rfl⟩ ⟨by decide, by decide⟩ rfl (Nat.le_of_ble_eq_true rfl) dX12_readOne_233 (fun r u hcl => ?_)
                obtain ⟨y233, hrr, hy233, hu⟩ := hcl
                rw [hu, hrr]
                by_cases hb233 : (pNum p ln (t + 1)).1 = true
                ·
                  rw [show (!(pNum p ln (t + 1)).1) = false by rw [hb233]; rfl]
                  generalize hσ84 : s2 σ83 M 18 (bI false) = σ84
                  have hln : σ84 M 6 = nI ln := by rw [← hσ84]; exact s2_keep hln (by omega)
                  have hpr : rowAt σ84 (M + 5) ln p := by rw [← hσ84]; exact hpr.keep (by omega) _ _
                  have hat : σ84 M 17 = nI (t + 1) := by rw [← hσ84]; exact s2_keep hat (by omega)
                  have hwr : σ84 M 18 = bI false := by rw [← hσ84]; exact s2_same _ _ _ _
                  have hmn : σ84 M 16 = nI i := by rw [← hσ84]; exact s2_keep hmn (by omega)
                  have hx0 : σ84 (M + 10) (4 * i) = nI (sgn p ln t) := by rw [← hσ84]; exact s2_keep hx0 (by omega)
                  have hx1 : σ84 (M + 10) (4 * i + 1) = x1 := by rw [← hσ84]; exact s2_keep hx1 (by omega)
                  have hx2 : σ84 (M + 10) (4 * i + 2) = x2 := by rw [← hσ84]; exact s2_keep hx2 (by omega)
                  have hx3 : σ84 (M + 10) (4 * i + 3) = x3 := by rw [← hσ84]; exact s2_keep hx3 (by omega)
                  generalize hσ85 : s2 σ84 M 17 (nI ((pNum p ln (t + 1)).2.1)) = σ85
                  have hln : σ85 M 6 = nI ln := by rw [← hσ85]; exact s2_keep hln (by omega)
                  have hpr : rowAt σ85 (M + 5) ln p := by rw [← hσ85]; exact hpr.keep (by omega) _ _
                  have hat : σ85 M 17 = nI ((pNum p ln (t + 1)).2.1) := by rw [← hσ85]; exact s2_same _ _ _ _
                  have hwr : σ85 M 18 = bI false := by rw [← hσ85]; exact s2_keep hwr (by omega)
                  have hmn : σ85 M 16 = nI i := by rw [← hσ85]; exact s2_keep hmn (by omega)
                  have hx0 : σ85 (M + 10) (4 * i) = nI (sgn p ln t) := by rw [← hσ85]; exact s2_keep hx0 (by omega)
                  have hx1 : σ85 (M + 10) (4 * i + 1) = x1 := by rw [← hσ85]; exact s2_keep hx1 (by omega)
                  have hx2 : σ85 (M + 10) (4 * i + 2) = x2 := by rw [← hσ85]; exact s2_keep hx2 (by omega)
                  have hx3 : σ85 (M + 10) (4 * i + 3) = x3 := by rw [← hσ85]; exact s2_keep hx3 (by omega)
                  refine r_iast (j := 4 * i + 1) hc (MSa hM 10 0 320 rfl) rfl (by omega) (by decide) dX12_readOne_236 ?_
                  generalize hσ86 : s2 σ85 (M + 10) (4 * i + 1) (nI y233) = σ86
                  have hln : σ86 M 6 = nI ln := by rw [← hσ86]; exact s2_keep hln (by omega)
                  have hpr : rowAt σ86 (M + 5) ln p := by rw [← hσ86]; exact hpr.keep (by omega) _ _
                  have hat : σ86 M 17 = nI ((pNum p ln (t + 1)).2.1) := by rw [← hσ86]; exact s2_keep hat (by omega)
                  have hwr : σ86 M 18 = bI false := by rw [← hσ86]; exact s2_keep hwr (by omega)
                  have hmn : σ86 M 16 = nI i := by rw [← hσ86]; exact s2_keep hmn (by omega)
                  have hx0 : σ86 (M + 10) (4 * i) = nI (sgn p ln t) := by rw [← hσ86]; exact s2_keep hx0 (by omega)
                  have hx1 : σ86 (M + 10) (4 * i + 1) = nI y233 := by rw [← hσ86]; exact s2_same _ _ _ _
                  have hx2 : σ86 (M + 10) (4 * i + 2) = x2 := by rw [← hσ86]; exact s2_keep hx2 (by omega)
                  have hx3 : σ86 (M + 10) (4 * i + 3) = x3 := by rw [← hσ86]; exact s2_keep hx3 (by omega)
                  refine r_goto (tgt := 256) hc dX12_readOne_237 (by decide) ?_
                  refine r_aload_n hc dX12_readOne_256 rfl ?_
                  refine r_dup hc dX12_readOne_257 rfl ?_
                  refine gf_X12_181 (x := nI i) hc (MS0 hM) hmn dX12_readOne_258 ?_
                  refine r_iconst (v := nI 1) hc dX12_readOne_261 rfl ?_
                  refine r_iadd (v := nI (i + 1)) hc dX12_readOne_262 (ad_NN _ _) ?_
                  refine pf_X12_181 hc (MS0 hM) dX12_readOne_263 ?_
                  generalize hσ87 : s2 σ86 M 16 (nI (i + 1)) = σ87
                  have hln : σ87 M 6 = nI ln := by rw [← hσ87]; exact s2_keep hln (by omega)
                  have hpr : rowAt σ87 (M + 5) ln p := by rw [← hσ87]; exact hpr.keep (by omega) _ _
                  have hat : σ87 M 17 = nI ((pNum p ln (t + 1)).2.1) := by rw [← hσ87]; exact s2_keep hat (by omega)
                  have hwr : σ87 M 18 = bI false := by rw [← hσ87]; exact s2_keep hwr (by omega)
                  have hmn : σ87 M 16 = nI (i + 1) := by rw [← hσ87]; exact s2_same _ _ _ _
                  have hx0 : σ87 (M + 10) (4 * i) = nI (sgn p ln t) := by rw [← hσ87]; exact s2_keep hx0 (by omega)
                  have hx1 : σ87 (M + 10) (4 * i + 1) = nI y233 := by rw [← hσ87]; exact s2_keep hx1 (by omega)
                  have hx2 : σ87 (M + 10) (4 * i + 2) = x2 := by rw [← hσ87]; exact s2_keep hx2 (by omega)
                  have hx3 : σ87 (M + 10) (4 * i + 3) = x3 := by rw [← hσ87]; exact s2_keep hx3 (by omega)
                  have hE : pO p ln t = p1 (pNum p ln (t + 1)) := by unfold pO; rw [if_neg (show ¬ sgn p ln t = 107 by omega), if_neg (show ¬ sgn p ln t = 99 by omega), if_neg (show ¬ sgn p ln t = 116 by omega), if_neg (show ¬ sgn p ln t = 112 by omega), if_neg (show ¬ sgn p ln t = 103 by omega), if_pos (show sgn p ln t = 98 by omega)]
                  rw [hE] at hR
                  exact hR _ ⟨_, rfl, hat, by rw [show (p1 (pNum p ln (t + 1))).1 = true from hb233]; exact hwr, fun _ => ⟨hmn, hx0, by rw [hx1, hy233 hb233]; rfl, fun e => absurd e (by omega)⟩, ⟨fun q q1 q2 => by rw [← hσ87, s2_ne q1, ← hσ86, s2_ne q2, ← hσ85, s2_ne q1, ← hσ84, s2_ne q1, ← hσ83, s2_ne q1, ← hσ82, s2_ne q1, ← hσ1, s2_ne q2], fun k hk => by rw [← hσ87, s2_nk (by omega), ← hσ86, s2_na (by omega), ← hσ85, s2_nk (by omega), ← hσ84, s2_nk (by omega), ← hσ83, s2_nk (by omega), ← hσ82, s2_nk (by omega), ← hσ1, s2_na (by omega)], fun j hj => by rw [← hσ87, s2_na (by omega), ← hσ86, s2_nk (by omega), ← hσ85, s2_na (by omega), ← hσ84, s2_na (by omega), ← hσ83, s2_na (by omega), ← hσ82, s2_na (by omega), ← hσ1, s2_nk (by omega)]⟩⟩ _ _ dX12_readOne_266
                ·
                  rw [show (!(pNum p ln (t + 1)).1) = true by rw [Bool.eq_false_iff.mpr hb233]; rfl]
                  generalize hσ88 : s2 σ83 M 18 (bI true) = σ88
                  have hln : σ88 M 6 = nI ln := by rw [← hσ88]; exact s2_keep hln (by omega)
                  have hpr : rowAt σ88 (M + 5) ln p := by rw [← hσ88]; exact hpr.keep (by omega) _ _
                  have hat : σ88 M 17 = nI (t + 1) := by rw [← hσ88]; exact s2_keep hat (by omega)
                  have hwr : σ88 M 18 = bI true := by rw [← hσ88]; exact s2_same _ _ _ _
                  have hmn : σ88 M 16 = nI i := by rw [← hσ88]; exact s2_keep hmn (by omega)
                  have hx0 : σ88 (M + 10) (4 * i) = nI (sgn p ln t) := by rw [← hσ88]; exact s2_keep hx0 (by omega)
                  have hx1 : σ88 (M + 10) (4 * i + 1) = x1 := by rw [← hσ88]; exact s2_keep hx1 (by omega)
                  have hx2 : σ88 (M + 10) (4 * i + 2) = x2 := by rw [← hσ88]; exact s2_keep hx2 (by omega)
                  have hx3 : σ88 (M + 10) (4 * i + 3) = x3 := by rw [← hσ88]; exact s2_keep hx3 (by omega)
                  generalize hσ89 : s2 σ88 M 17 (nI ((pNum p ln (t + 1)).2.1)) = σ89
                  have hln : σ89 M 6 = nI ln := by rw [← hσ89]; exact s2_keep hln (by omega)
                  have hpr : rowAt σ89 (M + 5) ln p := by rw [← hσ89]; exact hpr.keep (by omega) _ _
                  have hat : σ89 M 17 = nI ((pNum p ln (t + 1)).2.1) := by rw [← hσ89]; exact s2_same _ _ _ _
                  have hwr : σ89 M 18 = bI true := by rw [← hσ89]; exact s2_keep hwr (by omega)
                  have hmn : σ89 M 16 = nI i := by rw [← hσ89]; exact s2_keep hmn (by omega)
                  have hx0 : σ89 (M + 10) (4 * i) = nI (sgn p ln t) := by rw [← hσ89]; exact s2_keep hx0 (by omega)
                  have hx1 : σ89 (M + 10) (4 * i + 1) = x1 := by rw [← hσ89]; exact s2_keep hx1 (by omega)
                  have hx2 : σ89 (M + 10) (4 * i + 2) = x2 := by rw [← hσ89]; exact s2_keep hx2 (by omega)
                  have hx3 : σ89 (M + 10) (4 * i + 3) = x3 := by rw [← hσ89]; exact s2_keep hx3 (by omega)
                  have hnn233 : (pNum p ln (t + 1)).2.1 ≤ ln := by unfold pNum; rw [if_neg (fun q => by unfold pNum at hb233; rw [if_pos q] at hb233; exact hb233 rfl)]; show t + 1 ≤ ln; omega
                  refine r_iast (j := 4 * i + 1) hc (MSa hM 10 0 320 rfl) rfl (by omega) (by decide) dX12_readOne_236 ?_
                  generalize hσ90 : s2 σ89 (M + 10) (4 * i + 1) (nI y233) = σ90
                  have hln : σ90 M 6 = nI ln := by rw [← hσ90]; exact s2_keep hln (by omega)
                  have hpr : rowAt σ90 (M + 5) ln p := by rw [← hσ90]; exact hpr.keep (by omega) _ _
                  have hat : σ90 M 17 = nI ((pNum p ln (t + 1)).2.1) := by rw [← hσ90]; exact s2_keep hat (by omega)
                  have hwr : σ90 M 18 = bI true := by rw [← hσ90]; exact s2_keep hwr (by omega)
                  have hmn : σ90 M 16 = nI i := by rw [← hσ90]; exact s2_keep hmn (by omega)
                  have hx0 : σ90 (M + 10) (4 * i) = nI (sgn p ln t) := by rw [← hσ90]; exact s2_keep hx0 (by omega)
                  have hx1 : σ90 (M + 10) (4 * i + 1) = nI y233 := by rw [← hσ90]; exact s2_same _ _ _ _
                  have hx2 : σ90 (M + 10) (4 * i + 2) = x2 := by rw [← hσ90]; exact s2_keep hx2 (by omega)
                  have hx3 : σ90 (M + 10) (4 * i + 3) = x3 := by rw [← hσ90]; exact s2_keep hx3 (by omega)
                  refine r_goto (tgt := 256) hc dX12_readOne_237 (by decide) ?_
                  refine r_aload_n hc dX12_readOne_256 rfl ?_
                  refine r_dup hc dX12_readOne_257 rfl ?_
                  refine gf_X12_181 (x := nI i) hc (MS0 hM) hmn dX12_readOne_258 ?_
                  refine r_iconst (v := nI 1) hc dX12_readOne_261 rfl ?_
                  refine r_iadd (v := nI (i + 1)) hc dX12_readOne_262 (ad_NN _ _) ?_
                  refine pf_X12_181 hc (MS0 hM) dX12_readOne_263 ?_
                  generalize hσ91 : s2 σ90 M 16 (nI (i + 1)) = σ91
                  have hln : σ91 M 6 = nI ln := by rw [← hσ91]; exact s2_keep hln (by omega)
                  have hpr : rowAt σ91 (M + 5) ln p := by rw [← hσ91]; exact hpr.keep (by omega) _ _
                  have hat : σ91 M 17 = nI ((pNum p ln (t + 1)).2.1) := by rw [← hσ91]; exact s2_keep hat (by omega)
                  have hwr : σ91 M 18 = bI true := by rw [← hσ91]; exact s2_keep hwr (by omega)
                  have hmn : σ91 M 16 = nI (i + 1) := by rw [← hσ91]; exact s2_same _ _ _ _
                  have hx0 : σ91 (M + 10) (4 * i) = nI (sgn p ln t) := by rw [← hσ91]; exact s2_keep hx0 (by omega)
                  have hx1 : σ91 (M + 10) (4 * i + 1) = nI y233 := by rw [← hσ91]; exact s2_keep hx1 (by omega)
                  have hx2 : σ91 (M + 10) (4 * i + 2) = x2 := by rw [← hσ91]; exact s2_keep hx2 (by omega)
                  have hx3 : σ91 (M + 10) (4 * i + 3) = x3 := by rw [← hσ91]; exact s2_keep hx3 (by omega)
                  have hE : pO p ln t = p1 (pNum p ln (t + 1)) := by unfold pO; rw [if_neg (show ¬ sgn p ln t = 107 by omega), if_neg (show ¬ sgn p ln t = 99 by omega), if_neg (show ¬ sgn p ln t = 116 by omega), if_neg (show ¬ sgn p ln t = 112 by omega), if_neg (show ¬ sgn p ln t = 103 by omega), if_pos (show sgn p ln t = 98 by omega)]
                  rw [hE] at hR
                  exact hR _ ⟨_, rfl, hat, by rw [show (p1 (pNum p ln (t + 1))).1 = false from Bool.eq_false_iff.mpr hb233]; exact hwr, fun q => absurd q hb233, ⟨fun q q1 q2 => by rw [← hσ91, s2_ne q1, ← hσ90, s2_ne q2, ← hσ89, s2_ne q1, ← hσ88, s2_ne q1, ← hσ83, s2_ne q1, ← hσ82, s2_ne q1, ← hσ1, s2_ne q2], fun k hk => by rw [← hσ91, s2_nk (by omega), ← hσ90, s2_na (by omega), ← hσ89, s2_nk (by omega), ← hσ88, s2_nk (by omega), ← hσ83, s2_nk (by omega), ← hσ82, s2_nk (by omega), ← hσ1, s2_na (by omega)], fun j hj => by rw [← hσ91, s2_na (by omega), ← hσ90, s2_nk (by omega), ← hσ89, s2_na (by omega), ← hσ88, s2_na (by omega), ← hσ83, s2_na (by omega), ← hσ82, s2_na (by omega), ← hσ1, s2_nk (by omega)]⟩⟩ _ _ dX12_readOne_266
              ·
                exact absurd rfl c_68
            ·
              refine r_iconst (v := nI 1) hc dX12_readOne_56 rfl ?_
              refine r_goto (tgt := 61) hc dX12_readOne_57 (by decide) ?_
              refine pf_X12_175 hc (MS0 hM) (by rfl) (by rfl) dX12_readOne_61 ?_
              generalize hσ92 : s2 σ1 M 18 (nI 1) = σ92
              have hln : σ92 M 6 = nI ln := by rw [← hσ92]; exact s2_keep hln (by omega)
              have hpr : rowAt σ92 (M + 5) ln p := by rw [← hσ92]; exact hpr.keep (by omega) _ _
              have hat : σ92 M 17 = nI t := by rw [← hσ92]; exact s2_keep hat (by omega)
              have hwr : σ92 M 18 = nI 1 := by rw [← hσ92]; exact s2_same _ _ _ _
              have hmn : σ92 M 16 = nI i := by rw [← hσ92]; exact s2_keep hmn (by omega)
              have hx0 : σ92 (M + 10) (4 * i) = nI (sgn p ln t) := by rw [← hσ92]; exact s2_keep hx0 (by omega)
              have hx1 : σ92 (M + 10) (4 * i + 1) = x1 := by rw [← hσ92]; exact s2_keep hx1 (by omega)
              have hx2 : σ92 (M + 10) (4 * i + 2) = x2 := by rw [← hσ92]; exact s2_keep hx2 (by omega)
              have hx3 : σ92 (M + 10) (4 * i + 3) = x3 := by rw [← hσ92]; exact s2_keep hx3 (by omega)
              have hwr : σ92 M 18 = bI true := hwr
              refine r_aload_n hc dX12_readOne_64 rfl ?_
              refine gf_X12_175 (x := bI true) hc (MS0 hM) hwr dX12_readOne_65 ?_
              refine r_if_eq (tgt := 72) hc dX12_readOne_68 (by decide) (bI_0 _) (fun c_68 => ?_) (fun c_68 => ?_)
              ·
                exact Bool.noConfusion c_68
              ·
                have c_68 := bnf c_68
                have hE : pO p ln t = (false, t, 0, 0, 0) := by unfold pO; rw [if_neg (show ¬ sgn p ln t = 107 by omega), if_neg (show ¬ sgn p ln t = 99 by omega), if_neg (show ¬ sgn p ln t = 116 by omega), if_neg (show ¬ sgn p ln t = 112 by omega), if_neg (show ¬ sgn p ln t = 103 by omega), if_neg (show ¬ sgn p ln t = 98 by omega)]
                rw [hE] at hR
                exact hR _ ⟨_, rfl, hat, hwr, fun q => Bool.noConfusion q, ⟨fun q q1 q2 => by rw [← hσ92, s2_ne q1, ← hσ1, s2_ne q2], fun k hk => by rw [← hσ92, s2_nk (by omega), ← hσ1, s2_na (by omega)], fun j hj => by rw [← hσ92, s2_na (by omega), ← hσ1, s2_nk (by omega)]⟩⟩ _ _ dX12_readOne_71
theorem psF_pos {p : Nat → Nat} {ln : Nat} (i : Nat) : psF p ln (i + 1) = (pO p ln (psF p ln i)).2.1 + 1 := rfl
theorem OrdM.keep {σ τ : Nat → Nat → Int32} {M i kd : Nat} {R : Nat × Nat × Nat} (h : OrdM σ M i kd R) (e0 : τ (M + 10) (4 * i) = σ (M + 10) (4 * i)) (e1 : τ (M + 10) (4 * i + 1) = σ (M + 10) (4 * i + 1)) (e2 : τ (M + 10) (4 * i + 2) = σ (M + 10) (4 * i + 2)) (e3 : τ (M + 10) (4 * i + 3) = σ (M + 10) (4 * i + 3)) : OrdM τ M i kd R := by
  unfold OrdM at *
  rw [e0, e1, e2, e3]; exact h
set_option maxRecDepth 100000 in
set_option maxHeartbeats 4000000 in
theorem c_X12_faultOf {Ω : OmT} {z : Nat} {sh : Nat → Option Kd} {σ : Nat → Nat → Int32} {ρ : Nat → Nat → Option Nat} {M : Nat} (hM : MSh sh ρ M) {p : Nat → Nat} {ln : Nat} (hln : σ M 6 = nI ln) (hpr : rowAt σ (M + 5) ln p) (hl80 : ln ≤ 80) (hp : ∀ j, j < ln → p j < 256) {y16 y17 y18 : Int32} (hmn : σ M 16 = y16) (hat : σ M 17 = y17) (hwr : σ M 18 = y18) : CtI Ω yX12_faultOf cX12_faultOf 1 .int rm_X12_faultOf [.ref M] (z, sh, σ, ρ) (fun r u => ∃ τ : Nat → Nat → Int32, u = (z, sh, τ, ρ) ∧ r = zI (RD p ln).1 ∧ ((RD p ln).1 = -6 → τ M 16 = nI (RD p ln).2 ∧ (RD p ln).2 ≤ 27 ∧ ∀ j, j < (RD p ln).2 → (pO p ln (psF p ln j)).1 = true ∧ psF p ln j < ln ∧ OrdM τ M j (p (psF p ln j)) (pO p ln (psF p ln j)).2.2) ∧ (∀ q, q ≠ M → q ≠ M + 10 → τ q = σ q) ∧ ∀ k, k < 16 ∨ 18 < k → τ M k = σ M k) := by
  refine CtI.enter (by decide) (Nat.le_of_ble_eq_true rfl) (fun Φ hc hR => ?_)
  show Vw Ω Φ (z, sh, σ, ρ) (0, 0) 0 [(0, .ref M)] []
  refine r_aload_n hc dX12_faultOf_0 rfl ?_
  refine r_iconst (v := nI 0) hc dX12_faultOf_1 rfl ?_
  refine pf_X12_169 hc (MS0 hM) dX12_faultOf_2 ?_
  generalize hσ1 : s2 σ M 17 (nI 0) = σ1
  have hln : σ1 M 6 = nI ln := by rw [← hσ1]; exact s2_keep hln (by omega)
  have hpr : rowAt σ1 (M + 5) ln p := by rw [← hσ1]; exact hpr.keep (by omega) _ _
  have hat : σ1 M 17 = nI 0 := by rw [← hσ1]; exact s2_same _ _ _ _
  have hwr : σ1 M 18 = y18 := by rw [← hσ1]; exact s2_keep hwr (by omega)
  have hmn : σ1 M 16 = y16 := by rw [← hσ1]; exact s2_keep hmn (by omega)
  refine r_aload_n hc dX12_faultOf_5 rfl ?_
  refine r_iconst (v := nI 0) hc dX12_faultOf_6 rfl ?_
  refine pf_X12_181 hc (MS0 hM) dX12_faultOf_7 ?_
  generalize hσ2 : s2 σ1 M 16 (nI 0) = σ2
  have hln : σ2 M 6 = nI ln := by rw [← hσ2]; exact s2_keep hln (by omega)
  have hpr : rowAt σ2 (M + 5) ln p := by rw [← hσ2]; exact hpr.keep (by omega) _ _
  have hat : σ2 M 17 = nI 0 := by rw [← hσ2]; exact s2_keep hat (by omega)
  have hwr : σ2 M 18 = y18 := by rw [← hσ2]; exact s2_keep hwr (by omega)
  have hmn : σ2 M 16 = nI 0 := by rw [← hσ2]; exact s2_same _ _ _ _
  refine r_aload_n hc dX12_faultOf_10 rfl ?_
  refine r_iconst (v := nI 0) hc dX12_faultOf_11 rfl ?_
  refine pf_X12_175 hc (MS0 hM) (by rfl) (by rfl) dX12_faultOf_12 ?_
  generalize hσ3 : s2 σ2 M 18 (nI 0) = σ3
  have hln : σ3 M 6 = nI ln := by rw [← hσ3]; exact s2_keep hln (by omega)
  have hpr : rowAt σ3 (M + 5) ln p := by rw [← hσ3]; exact hpr.keep (by omega) _ _
  have hat : σ3 M 17 = nI 0 := by rw [← hσ3]; exact s2_keep hat (by omega)
  have hwr : σ3 M 18 = nI 0 := by rw [← hσ3]; exact s2_same _ _ _ _
  have hmn : σ3 M 16 = nI 0 := by rw [← hσ3]; exact s2_keep hmn (by omega)
  refine r_aload_n hc dX12_faultOf_15 rfl ?_
  refine cl_X12_194 (As := []) hc (c_X12_readOne hM hln hpr hl80 hp (t := 0) hat (by omega) rfl (i := 0) hmn (by omega)) (MS0 hM) rfl ⟨by decide, by decide⟩ ⟨rfl, rfl⟩ ⟨by decide, by decide⟩ rfl (Nat.le_of_ble_eq_true rfl) dX12_faultOf_16 (fun u hcl => ?_)
  obtain ⟨τ2, hu, hat, hwr, hOk, hfr2⟩ := hcl
  rw [hu]
  have hfr : (∀ q, q ≠ M → q ≠ M + 10 → τ2 q = σ q) ∧ ∀ k, k < 16 ∨ 18 < k → τ2 M k = σ M k := by
    have hfp : (∀ q, q ≠ M → q ≠ M + 10 → σ3 q = σ q) ∧ ∀ k, k < 16 ∨ 18 < k → σ3 M k = σ M k := ⟨fun q q1 q2 => by rw [← hσ3, s2_ne q1, ← hσ2, s2_ne q1, ← hσ1, s2_ne q1], fun k hk => by rw [← hσ3, s2_nk (by omega), ← hσ2, s2_nk (by omega), ← hσ1, s2_nk (by omega)]⟩
    exact ⟨fun q q1 q2 => by rw [hfr2.1 q q1 q2]; exact hfp.1 q q1 q2, fun k hk => by rw [hfr2.2.1 k hk]; exact hfp.2 k hk⟩
  have hln : τ2 M 6 = nI ln := by rw [hfr2.2.1 6 (by omega)]; exact hln
  have hpr : rowAt τ2 (M + 5) ln p := hpr.sig (hfr2.1 _ (by omega) (by omega))
  have hple := pO_le (p := p) (show 0 ≤ ln by omega)
  have hrd : RD p ln = if (pO p ln 0).1 = true then afF p ln 27 1 (pO p ln 0).2.1 else (((pO p ln 0).2.1 : Nat), 0) := rfl
  have hst2 : ∃ m i : Nat, m ≤ ln + 2 ∧ ((m = 0 ∧ (!(pO p ln 0).1) = true ∧ (RD p ln).1 = (((pO p ln 0).2.1 : Nat) : Int)) ∨ (m = ln + 2 - (pO p ln 0).2.1 ∧ (!(pO p ln 0).1) = false ∧ afF p ln (28 - i) i (pO p ln 0).2.1 = RD p ln ∧ 1 ≤ i ∧ 3 * i ≤ (pO p ln 0).2.1 + 1 ∧ (pO p ln 0).2.1 + 1 = psF p ln i ∧ τ2 M 16 = nI i ∧ ∀ j, j < i → (pO p ln (psF p ln j)).1 = true ∧ psF p ln j < ln ∧ OrdM τ2 M j (p (psF p ln j)) (pO p ln (psF p ln j)).2.2)) := by
    by_cases hb : (pO p ln 0).1 = true
    · have hpo := pO_ok (show 0 ≤ ln by omega) hb
      have hO2 := hOk hb
      have htl := sgn_pos (p := p) (ln := ln) (t := 0) (by omega)
      rw [if_pos hb] at hrd
      refine ⟨ln + 2 - (pO p ln 0).2.1, 1, by omega, Or.inr ⟨rfl, by rw [hb]; rfl, hrd.symm, Nat.le_refl 1, by omega, rfl, hO2.1, fun j hj => ?_⟩⟩
      have e : j = 0 := by omega
      subst e
      exact ⟨hb, htl, by have h9 := hO2.2; rw [sgn_in htl] at h9; exact h9⟩
    · rw [if_neg hb] at hrd
      exact ⟨0, 0, by omega, Or.inl ⟨rfl, by rw [Bool.eq_false_iff.mpr hb]; rfl, by rw [hrd]⟩⟩
  obtain ⟨m2, i2, hm2, hst2⟩ := hst2
  have loop19 : ∀ (n19 : Nat) (τ : Nat → Nat → Int32) (s : Nat) (W : Bool) (i : Nat) (m : Nat), (s ≤ ln) → (τ M 6 = nI ln) → (rowAt τ (M + 5) ln p) → (τ M 17 = nI s) → (τ M 18 = bI W) → ((m = 0 ∧ W = true ∧ (RD p ln).1 = ((s : Nat) : Int)) ∨ (m = ln + 2 - s ∧ W = false ∧ afF p ln (28 - i) i s = RD p ln ∧ 1 ≤ i ∧ 3 * i ≤ s + 1 ∧ s + 1 = psF p ln i ∧ τ M 16 = nI i ∧ ∀ j, j < i → (pO p ln (psF p ln j)).1 = true ∧ psF p ln j < ln ∧ OrdM τ M j (p (psF p ln j)) (pO p ln (psF p ln j)).2.2)) → ((∀ q, q ≠ M → q ≠ M + 10 → τ q = σ q) ∧ ∀ k, k < 16 ∨ 18 < k → τ M k = σ M k) → (m) < n19 → Vw Ω Φ (z, sh, τ, ρ) (0, 0) 19 [(0, .ref M)] [] := by
    intro n19
    induction n19 with
    | zero => intro τ s W i m hs hln hpr hat hwr hst hfr hm; exact absurd hm (Nat.not_lt_zero _)
    | succ n19 ih19 =>
      intro τ s W i m hs hln hpr hat hwr hst hfr hm19
      rcases hst with ⟨hm, hW, hr1⟩ | ⟨hm, hW, hf, hi1, hi3, hps, hmn, hds⟩
      ·
        subst hW
        refine r_aload_n hc dX12_faultOf_19 rfl ?_
        refine gf_X12_175 (x := bI true) hc (MS0 hM) hwr dX12_faultOf_20 ?_
        refine r_if_ne (tgt := 79) hc dX12_faultOf_23 (by decide) (bI_0 _) (fun c_23 => ?_) (fun c_23 => ?_)
        ·
          have c_23 := bnf c_23
          refine r_aload_n hc dX12_faultOf_79 rfl ?_
          refine gf_X12_175 (x := bI true) hc (MS0 hM) hwr dX12_faultOf_80 ?_
          refine r_if_eq (tgt := 93) hc dX12_faultOf_83 (by decide) (bI_0 _) (fun c_83 => ?_) (fun c_83 => ?_)
          ·
            exact Bool.noConfusion c_83
          ·
            have c_83 := bnf c_83
            refine r_aload_n hc dX12_faultOf_86 rfl ?_
            refine gf_X12_169 (x := nI s) hc (MS0 hM) hat dX12_faultOf_87 ?_
            refine r_goto (tgt := 95) hc dX12_faultOf_90 (by decide) ?_
            exact hR _ _ ⟨_, rfl, by rw [nz]; exact congrArg zI hr1.symm, fun q => absurd q (by omega), hfr⟩ rfl _ _ dX12_faultOf_95
        ·
          exact Bool.noConfusion c_23
      ·
        subst hW
        refine r_aload_n hc dX12_faultOf_19 rfl ?_
        refine gf_X12_175 (x := bI false) hc (MS0 hM) hwr dX12_faultOf_20 ?_
        refine r_if_ne (tgt := 79) hc dX12_faultOf_23 (by decide) (bI_0 _) (fun c_23 => ?_) (fun c_23 => ?_)
        ·
          exact absurd rfl c_23
        ·
          refine r_aload_n hc dX12_faultOf_26 rfl ?_
          refine gf_X12_169 (x := nI s) hc (MS0 hM) hat dX12_faultOf_27 ?_
          refine r_aload_n hc dX12_faultOf_30 rfl ?_
          refine gf_X12_157 (x := nI ln) hc (MS0 hM) hln dX12_faultOf_31 ?_
          refine r_icmp_ge (tgt := 79) hc dX12_faultOf_34 (by decide) (le_NN (by omega) (by omega)) (fun c_34 => ?_) (fun c_34 => ?_)
          ·
            refine r_aload_n hc dX12_faultOf_79 rfl ?_
            refine gf_X12_175 (x := bI false) hc (MS0 hM) hwr dX12_faultOf_80 ?_
            refine r_if_eq (tgt := 93) hc dX12_faultOf_83 (by decide) (bI_0 _) (fun c_83 => ?_) (fun c_83 => ?_)
            ·
              refine r_bipush (v := zI (-6)) hc dX12_faultOf_93 rfl ?_
              have hrd : RD p ln = (-6, i) := by rw [← hf, afF, if_pos (by omega)]
              exact hR _ _ ⟨_, rfl, by rw [hrd], fun _ => by (rw [hrd]; exact ⟨hmn, by show i ≤ 27; omega, hds⟩), hfr⟩ rfl _ _ dX12_faultOf_95
            ·
              exact absurd rfl c_83
          ·
            refine r_aload_n hc dX12_faultOf_37 rfl ?_
            refine r_aload_n hc dX12_faultOf_38 rfl ?_
            refine cl_X12_172 (As := []) hc (c_X12_sign hM hln hpr hl80 hp (t := s) hat (by omega)) (MS0 hM) rfl ⟨by decide, by decide⟩ ⟨rfl, rfl⟩ ⟨by decide, by decide⟩ rfl (Nat.le_of_ble_eq_true rfl) dX12_faultOf_39 (fun r u hp => ?_)
            obtain ⟨rfl, hu⟩ := hp
            rw [hu]
            have hs256 : sgn p ln s < 256 := by unfold sgn; split; exact hp _ (by assumption); omega
            refine r_bipush (v := nI 59) hc dX12_faultOf_42 rfl ?_
            refine r_icmp_eq (tgt := 51) hc dX12_faultOf_44 (by decide) (eq_NN (by omega) (by omega)) (fun c_44 => ?_) (fun c_44 => ?_)
            ·
              refine r_iconst (v := nI 0) hc dX12_faultOf_51 rfl ?_
              refine pf_X12_175 hc (MS0 hM) (by rfl) (by rfl) dX12_faultOf_52 ?_
              generalize hσ4 : s2 τ M 18 (nI 0) = σ4
              have hln : σ4 M 6 = nI ln := by rw [← hσ4]; exact s2_keep hln (by omega)
              have hpr : rowAt σ4 (M + 5) ln p := by rw [← hσ4]; exact hpr.keep (by omega) _ _
              have hat : σ4 M 17 = nI s := by rw [← hσ4]; exact s2_keep hat (by omega)
              have hwr : σ4 M 18 = nI 0 := by rw [← hσ4]; exact s2_same _ _ _ _
              have hmn : σ4 M 16 = nI i := by rw [← hσ4]; exact s2_keep hmn (by omega)
              have hwr : σ4 M 18 = bI false := hwr
              refine r_aload_n hc dX12_faultOf_55 rfl ?_
              refine gf_X12_175 (x := bI false) hc (MS0 hM) hwr dX12_faultOf_56 ?_
              refine r_if_ne (tgt := 19) hc dX12_faultOf_59 (by decide) (bI_0 _) (fun c_59 => ?_) (fun c_59 => ?_)
              ·
                exact absurd rfl c_59
              ·
                have hsl := sgn_pos (p := p) (ln := ln) (t := s) (by omega)
                refine r_aload_n hc dX12_faultOf_62 rfl ?_
                refine r_dup hc dX12_faultOf_63 rfl ?_
                refine gf_X12_169 (x := nI s) hc (MS0 hM) hat dX12_faultOf_64 ?_
                refine r_iconst (v := nI 1) hc dX12_faultOf_67 rfl ?_
                refine r_iadd (v := nI (s + 1)) hc dX12_faultOf_68 (ad_NN _ _) ?_
                refine pf_X12_169 hc (MS0 hM) dX12_faultOf_69 ?_
                generalize hσ5 : s2 σ4 M 17 (nI (s + 1)) = σ5
                have hln : σ5 M 6 = nI ln := by rw [← hσ5]; exact s2_keep hln (by omega)
                have hpr : rowAt σ5 (M + 5) ln p := by rw [← hσ5]; exact hpr.keep (by omega) _ _
                have hat : σ5 M 17 = nI (s + 1) := by rw [← hσ5]; exact s2_same _ _ _ _
                have hwr : σ5 M 18 = bI false := by rw [← hσ5]; exact s2_keep hwr (by omega)
                have hmn : σ5 M 16 = nI i := by rw [← hσ5]; exact s2_keep hmn (by omega)
                refine r_aload_n hc dX12_faultOf_72 rfl ?_
                refine cl_X12_194 (As := []) hc (c_X12_readOne hM hln hpr hl80 hp (t := s + 1) hat (by omega) rfl (i := i) hmn (by omega)) (MS0 hM) rfl ⟨by decide, by decide⟩ ⟨rfl, rfl⟩ ⟨by decide, by decide⟩ rfl (Nat.le_of_ble_eq_true rfl) dX12_faultOf_73 (fun u hcl => ?_)
                obtain ⟨τ2, hu, hat, hwr, hOk, hfr2⟩ := hcl
                rw [hu]
                have hfr : (∀ q, q ≠ M → q ≠ M + 10 → τ2 q = σ q) ∧ ∀ k, k < 16 ∨ 18 < k → τ2 M k = σ M k := by
                  have hfp : (∀ q, q ≠ M → q ≠ M + 10 → σ5 q = σ q) ∧ ∀ k, k < 16 ∨ 18 < k → σ5 M k = σ M k := ⟨fun q q1 q2 => by rw [← hσ5, s2_ne q1, ← hσ4, s2_ne q1]; exact hfr.1 q q1 q2, fun k hk => by rw [← hσ5, s2_nk (by omega), ← hσ4, s2_nk (by omega)]; exact hfr.2 k hk⟩
                  exact ⟨fun q q1 q2 => by rw [hfr2.1 q q1 q2]; exact hfp.1 q q1 q2, fun k hk => by rw [hfr2.2.1 k hk]; exact hfp.2 k hk⟩
                have hln : τ2 M 6 = nI ln := by rw [hfr2.2.1 6 (by omega)]; exact hln
                have hpr : rowAt τ2 (M + 5) ln p := hpr.sig (hfr2.1 _ (by omega) (by omega))
                have hple := pO_le (p := p) (show s + 1 ≤ ln by omega)
                have hrd : RD p ln = if (pO p ln (s + 1)).1 = true then afF p ln (27 - i) (i + 1) (pO p ln (s + 1)).2.1 else (((pO p ln (s + 1)).2.1 : Nat), i) := by rw [← hf, afF, if_neg (by omega), if_pos (by omega), show 28 - i = (27 - i) + 1 by omega, rd_af]
                have hst2 : ∃ m i : Nat, m + 1 ≤ ln + 2 - s ∧ ((m = 0 ∧ (!(pO p ln (s + 1)).1) = true ∧ (RD p ln).1 = (((pO p ln (s + 1)).2.1 : Nat) : Int)) ∨ (m = ln + 2 - (pO p ln (s + 1)).2.1 ∧ (!(pO p ln (s + 1)).1) = false ∧ afF p ln (28 - i) i (pO p ln (s + 1)).2.1 = RD p ln ∧ 1 ≤ i ∧ 3 * i ≤ (pO p ln (s + 1)).2.1 + 1 ∧ (pO p ln (s + 1)).2.1 + 1 = psF p ln i ∧ τ2 M 16 = nI i ∧ ∀ j, j < i → (pO p ln (psF p ln j)).1 = true ∧ psF p ln j < ln ∧ OrdM τ2 M j (p (psF p ln j)) (pO p ln (psF p ln j)).2.2)) := by
                  by_cases hb : (pO p ln (s + 1)).1 = true
                  · have hpo := pO_ok (show s + 1 ≤ ln by omega) hb
                    have hO2 := hOk hb
                    have htl := sgn_pos (p := p) (ln := ln) (t := s + 1) (by omega)
                    rw [if_pos hb] at hrd
                    refine ⟨ln + 2 - (pO p ln (s + 1)).2.1, i + 1, by omega, Or.inr ⟨rfl, by rw [hb]; rfl, by rw [hrd, show 28 - (i + 1) = 27 - i by omega], by omega, by omega, by rw [psF, ← hps], hO2.1, fun j hj => ?_⟩⟩
                    by_cases e : j = i
                    · subst e; rw [← hps]; exact ⟨hb, htl, by have h9 := hO2.2; rw [sgn_in htl] at h9; exact h9⟩
                    · exact ⟨(hds j (by omega)).1, (hds j (by omega)).2.1, (hds j (by omega)).2.2.keep (by rw [hfr2.2.2 _ (by omega), ← hσ5, s2_na (by omega), ← hσ4, s2_na (by omega)]) (by rw [hfr2.2.2 _ (by omega), ← hσ5, s2_na (by omega), ← hσ4, s2_na (by omega)]) (by rw [hfr2.2.2 _ (by omega), ← hσ5, s2_na (by omega), ← hσ4, s2_na (by omega)]) (by rw [hfr2.2.2 _ (by omega), ← hσ5, s2_na (by omega), ← hσ4, s2_na (by omega)])⟩
                  · rw [if_neg hb] at hrd
                    exact ⟨0, i, by omega, Or.inl ⟨rfl, by rw [Bool.eq_false_iff.mpr hb]; rfl, by rw [hrd]⟩⟩
                obtain ⟨m2, i2, hm2, hst2⟩ := hst2
                refine r_goto (tgt := 19) hc dX12_faultOf_76 (by decide) ?_
                exact ih19 τ2 ((pO p ln (s + 1)).2.1) (!(pO p ln (s + 1)).1) i2 m2 (by omega) hln hpr hat hwr hst2 hfr (by omega)
            ·
              refine r_iconst (v := nI 1) hc dX12_faultOf_47 rfl ?_
              refine r_goto (tgt := 52) hc dX12_faultOf_48 (by decide) ?_
              refine pf_X12_175 hc (MS0 hM) (by rfl) (by rfl) dX12_faultOf_52 ?_
              generalize hσ6 : s2 τ M 18 (nI 1) = σ6
              have hln : σ6 M 6 = nI ln := by rw [← hσ6]; exact s2_keep hln (by omega)
              have hpr : rowAt σ6 (M + 5) ln p := by rw [← hσ6]; exact hpr.keep (by omega) _ _
              have hat : σ6 M 17 = nI s := by rw [← hσ6]; exact s2_keep hat (by omega)
              have hwr : σ6 M 18 = nI 1 := by rw [← hσ6]; exact s2_same _ _ _ _
              have hmn : σ6 M 16 = nI i := by rw [← hσ6]; exact s2_keep hmn (by omega)
              have hwr : σ6 M 18 = bI true := hwr
              refine r_aload_n hc dX12_faultOf_55 rfl ?_
              refine gf_X12_175 (x := bI true) hc (MS0 hM) hwr dX12_faultOf_56 ?_
              refine r_if_ne (tgt := 19) hc dX12_faultOf_59 (by decide) (bI_0 _) (fun c_59 => ?_) (fun c_59 => ?_)
              ·
                have c_59 := bnf c_59
                exact ih19 σ6 s true i 0 (by omega) hln hpr hat hwr (Or.inl ⟨rfl, rfl, by rw [← hf, afF, if_neg (by omega), if_neg (by omega)]⟩) ⟨fun q q1 q2 => by rw [← hσ6, s2_ne q1]; exact hfr.1 q q1 q2, fun k hk => by rw [← hσ6, s2_nk (by omega)]; exact hfr.2 k hk⟩ (by omega)
              ·
                exact Bool.noConfusion c_59
  exact loop19 _ τ2 ((pO p ln 0).2.1) (!(pO p ln 0).1) i2 m2 (by omega) hln hpr hat hwr hst2 hfr (Nat.lt_succ_self _)
set_option maxRecDepth 100000 in
set_option maxHeartbeats 4000000 in
theorem c_X12_wipe {Ω : OmT} {z : Nat} {sh : Nat → Option Kd} {σ : Nat → Nat → Int32} {ρ : Nat → Nat → Option Nat} {M : Nat} (hM : MSh sh ρ M) {p : Nat → Nat} {ln : Nat} (hln : σ M 6 = nI ln) (hpr : rowAt σ (M + 5) ln p) (hl80 : ln ≤ 80) (hp : ∀ j, j < ln → p j < 256)  : CtI Ω yX12_wipe cX12_wipe 2 .int rm_X12_wipe [.ref M] (z, sh, σ, ρ) (fun r u => r = nI ln ∧ u = (z, sh, s2 σ M 6 (nI 0), ρ)) := by
  refine CtI.enter (by decide) (Nat.le_of_ble_eq_true rfl) (fun Φ hc hR => ?_)
  show Vw Ω Φ (z, sh, σ, ρ) (0, 0) 0 [(0, .ref M)] []
  refine r_aload_n hc dX12_wipe_0 rfl ?_
  refine gf_X12_157 (x := nI ln) hc (MS0 hM) hln dX12_wipe_1 ?_
  refine r_istore_n (ls' := [(1, .int (nI ln)), (0, .ref M)]) hc dX12_wipe_4 (by decide) rfl ?_
  refine r_aload_n hc dX12_wipe_5 rfl ?_
  refine r_iconst (v := nI 0) hc dX12_wipe_6 rfl ?_
  refine pf_X12_157 hc (MS0 hM) dX12_wipe_7 ?_
  generalize hσ1 : s2 σ M 6 (nI 0) = σ1
  have hln : σ1 M 6 = nI 0 := by rw [← hσ1]; exact s2_same _ _ _ _
  refine r_iload_n hc dX12_wipe_10 rfl ?_
  exact hR _ _ ⟨rfl, by rw [← hσ1]⟩ rfl _ _ dX12_wipe_11
set_option maxRecDepth 100000 in
set_option maxHeartbeats 4000000 in
theorem c_X12_put {Ω : OmT} {z : Nat} {sh : Nat → Option Kd} {σ : Nat → Nat → Int32} {ρ : Nat → Nat → Option Nat} {M : Nat} (hM : MSh sh ρ M) {p : Nat → Nat} {ln : Nat} (hln : σ M 6 = nI ln) (hpr : rowAt σ (M + 5) ln p) (hl80 : ln ≤ 80) (hp : ∀ j, j < ln → p j < 256) {n : Nat} (hn : n < 2 ^ 64) : CtI Ω yX12_put cX12_put 7 .int rm_X12_put [.ref M, .long (lI n)] (z, sh, σ, ρ) (fun r u => ∃ τ : Nat → Nat → Int32, u = (z, sh, τ, ρ) ∧ r = zI (sPut p ln n).1 ∧ τ M 6 = nI (sPut p ln n).2.1 ∧ rowAt τ (M + 5) (sPut p ln n).2.1 (sPut p ln n).2.2 ∧ (∀ q, q ≠ M → q ≠ M + 5 → τ q = σ q) ∧ ∀ k, k ≠ 6 → τ M k = σ M k) := by
  refine CtI.enter (by decide) (Nat.le_of_ble_eq_true rfl) (fun Φ hc hR => ?_)
  show Vw Ω Φ (z, sh, σ, ρ) (0, 0) 0 [(0, .ref M), (1, .long (lI n))] []
  refine r_iconst (v := nI 0) hc dX12_put_0 rfl ?_
  refine r_istore_n (ls' := [(3, .int (nI 0)), (0, .ref M), (1, .long (lI n))]) hc dX12_put_1 (by decide) rfl ?_
  refine r_lload_n hc dX12_put_2 rfl ?_
  refine r_lstore (ls' := [(4, .long (lI n)), (3, .int (nI 0)), (0, .ref M), (1, .long (lI n))]) hc dX12_put_3 (by decide) rfl ?_
  have loop5 : ∀ (n5 : Nat) (m : Nat) (r : Nat), (m ≤ 8) → (r < 2 ^ 64) → (r < 256 ^ (8 - m)) → (hmF (8 - m) r m = hmF 8 n 0) → (9 - m) < n5 → Vw Ω Φ (z, sh, σ, ρ) (0, 0) 5 [(0, .ref M), (1, .long (lI n)), (3, .int (nI m)), (4, .long (lI r))] [] := by
    intro n5
    induction n5 with
    | zero => intro m r hm8 hr hr2 hf hm; exact absurd hm (Nat.not_lt_zero _)
    | succ n5 ih5 =>
      intro m r hm8 hr hr2 hf hm5
      refine r_lload hc dX12_put_5 rfl ?_
      refine lk_X12_197 hc dX12_put_7 ?_
      refine r_land (v := lI (r % 256)) hc dX12_put_10 (lI_and _) ?_
      refine r_lconst (v := 0) hc dX12_put_11 rfl ?_
      refine r_lcmp (v := lg_cmp (lI (r % 256)) 0) hc dX12_put_12 rfl ?_
      refine r_if_eq (tgt := 49) hc dX12_put_13 (by decide) (lc_0 (by omega)) (fun c_13 => ?_) (fun c_13 => ?_)
      ·
        have hmE : hmF 8 n 0 = if r = 0 then m else 0 := by
          rw [← hf]
          rcases (show 8 - m = 0 ∨ ∃ g, 8 - m = g + 1 from by cases 8 - m with | zero => exact Or.inl rfl | succ g => exact Or.inr ⟨g, rfl⟩) with h7 | ⟨g, h7⟩
          · rw [h7, hmF]
          · rw [h7, hmF, if_pos c_13]
        refine r_lload hc dX12_put_49 rfl ?_
        refine r_lconst (v := 0) hc dX12_put_51 rfl ?_
        refine r_lcmp (v := lg_cmp (lI r) 0) hc dX12_put_52 rfl ?_
        refine r_if_ne (tgt := 60) hc dX12_put_53 (by decide) (lc_0 (by omega)) (fun c_53 => ?_) (fun c_53 => ?_)
        ·
          refine r_bipush (v := zI (-2)) hc dX12_put_60 rfl ?_
          have hm : hmF 8 n 0 = 0 := by
            rw [hmE]; rw [if_neg c_53]
          exact hR _ _ ⟨_, rfl, by unfold sPut; rw [if_pos hm], by unfold sPut; rw [if_pos hm]; exact hln, by unfold sPut; rw [if_pos hm]; exact hpr, fun _ _ _ => rfl, fun _ _ => rfl⟩ rfl _ _ dX12_put_62
        ·
          refine r_iload_n hc dX12_put_56 rfl ?_
          refine r_if_ne (tgt := 63) hc dX12_put_57 (by decide) (e0_N (by omega)) (fun c_57 => ?_) (fun c_57 => ?_)
          ·
            have hm : hmF 8 n 0 = m := by rw [hmE, if_pos c_53]
            refine r_aload_n hc dX12_put_63 rfl ?_
            refine gf_X12_157 (x := nI ln) hc (MS0 hM) hln dX12_put_64 ?_
            refine r_iload_n hc dX12_put_67 rfl ?_
            refine r_iadd (v := nI (ln + m)) hc dX12_put_68 (ad_NN _ _) ?_
            refine r_bipush (v := nI 80) hc dX12_put_69 rfl ?_
            refine r_icmp_le (tgt := 77) hc dX12_put_71 (by decide) (le_NN (by omega) (by omega)) (fun c_71 => ?_) (fun c_71 => ?_)
            ·
              refine r_lload_n hc dX12_put_77 rfl ?_
              refine r_lstore (ls' := [(4, .long (lI n)), (0, .ref M), (1, .long (lI n)), (3, .int (nI m))]) hc dX12_put_78 (by decide) rfl ?_
              refine r_iload_n hc dX12_put_80 rfl ?_
              refine r_iconst (v := nI 1) hc dX12_put_81 rfl ?_
              refine r_isub (v := zI (((m : Nat) : Int) - ((1 : Nat) : Int))) hc dX12_put_82 (sb_NN _ _) ?_
              refine r_istore (ls' := [(6, .int (zI (((m : Nat) : Int) - ((1 : Nat) : Int)))), (4, .long (lI n)), (0, .ref M), (1, .long (lI n)), (3, .int (nI m))]) hc dX12_put_83 (by decide) rfl ?_
              have loop85 : ∀ (n85 : Nat) (τ : Nat → Nat → Int32) (k : Nat) (x : Int) (r : Nat), (k ≤ m) → (x = ((m : Nat) : Int) - 1 - (k : Int)) → (r = n / 256 ^ k) → (τ M 6 = nI ln) → (rowAt τ (M + 5) ln p) → (∀ j, ln + m - k ≤ j → j < ln + m → τ (M + 5) j = nI (n / 256 ^ (ln + m - 1 - j) % 256)) → ((∀ q, q ≠ M → q ≠ M + 5 → τ q = σ q) ∧ ∀ k, τ M k = σ M k) → (m - k) < n85 → Vw Ω Φ (z, sh, τ, ρ) (0, 0) 85 [(0, .ref M), (1, .long (lI n)), (3, .int (nI m)), (4, .long (lI r)), (6, .int (zI x))] [] := by
                intro n85
                induction n85 with
                | zero => intro τ k x r hk hx hr hln hpr0 hw hfr hm; exact absurd hm (Nat.not_lt_zero _)
                | succ n85 ih85 =>
                  intro τ k x r hk hx hr hln hpr0 hw hfr hm85
                  refine r_iload hc dX12_put_85 rfl ?_
                  refine r_if_lt (tgt := 122) hc dX12_put_87 (by decide) (l0_Z (by omega)) (fun c_87 => ?_) (fun c_87 => ?_)
                  ·
                    refine r_aload_n hc dX12_put_122 rfl ?_
                    refine r_dup hc dX12_put_123 rfl ?_
                    refine gf_X12_157 (x := nI ln) hc (MS0 hM) hln dX12_put_124 ?_
                    refine r_iload_n hc dX12_put_127 rfl ?_
                    refine r_iadd (v := nI (ln + m)) hc dX12_put_128 (ad_NN _ _) ?_
                    refine pf_X12_157 hc (MS0 hM) dX12_put_129 ?_
                    generalize hσ1 : s2 τ M 6 (nI (ln + m)) = σ1
                    have hln : σ1 M 6 = nI (ln + m) := by rw [← hσ1]; exact s2_same _ _ _ _
                    refine r_aload_n hc dX12_put_132 rfl ?_
                    refine gf_X12_157 (x := nI (ln + m)) hc (MS0 hM) hln dX12_put_133 ?_
                    have hE : sPut p ln n = (((ln + m : Nat) : Int), ln + m, apF p ln n m) := by unfold sPut; rw [hm, if_neg (by omega), if_neg (by omega)]
                    rw [hE] at hR
                    refine hR _ _ ⟨_, rfl, nz _, hln, fun j hj => ?_, fun q q1 q2 => by rw [← hσ1, s2_ne q1]; exact hfr.1 q q1 q2, fun k hk => by rw [← hσ1, s2_nk hk]; exact hfr.2 k⟩ rfl _ _ dX12_put_136
                    have hj2 : j < ln + m := hj
                    rw [← hσ1, s2_na (by omega)]
                    show _ = nI (apF p ln n m j)
                    unfold apF
                    by_cases h7 : ln ≤ j
                    · rw [if_pos ⟨h7, hj2⟩]; exact hw j (by omega) hj2
                    · rw [if_neg (fun q => h7 q.1)]; exact hpr0 j (by omega)
                  ·
                    have hrl : r ≤ n := by rw [hr]; exact Nat.div_le_self _ _
                    refine r_aload_n hc dX12_put_90 rfl ?_
                    refine gf_X12_23 (q := M + 5) hc (MS0 hM) (MSr hM 5 5 (by decide)) dX12_put_91 ?_
                    refine r_aload_n hc dX12_put_94 rfl ?_
                    refine gf_X12_157 (x := nI ln) hc (MS0 hM) hln dX12_put_95 ?_
                    refine r_iload hc dX12_put_98 rfl ?_
                    refine r_iadd (v := zI (((ln : Nat) : Int) + x)) hc dX12_put_100 (ad_NZ _ _) ?_
                    refine r_lload hc dX12_put_101 rfl ?_
                    refine lk_X12_197 hc dX12_put_103 ?_
                    refine r_land (v := lI (r % 256)) hc dX12_put_106 (lI_and _) ?_
                    refine r_l2i (v := nI ((r % 256))) hc dX12_put_107 (lI_l2i (by omega)) ?_
                    refine r_iast (j := ln + m - 1 - k) hc (MSa hM 5 0 80 rfl) (zn (by omega)) (by omega) (by decide) dX12_put_108 ?_
                    generalize hσ2 : s2 τ (M + 5) (ln + m - 1 - k) (nI (r % 256)) = σ2
                    have hln : σ2 M 6 = nI ln := by rw [← hσ2]; exact s2_keep hln (by omega)
                    refine r_lload hc dX12_put_109 rfl ?_
                    refine r_bipush (v := nI 8) hc dX12_put_111 rfl ?_
                    refine r_lushr (v := lI (r / 256)) hc dX12_put_113 (lI_shr (by omega)) ?_
                    refine r_lstore (ls' := [(4, .long (lI (r / 256))), (0, .ref M), (1, .long (lI n)), (3, .int (nI m)), (6, .int (zI x))]) hc dX12_put_114 (by decide) rfl ?_
                    refine r_iinc (v := zI (x - 1)) (ls' := [(6, .int (zI (x - 1))), (4, .long (lI (r / 256))), (0, .ref M), (1, .long (lI n)), (3, .int (nI m))]) hc dX12_put_116 rfl (by rw [show Int32.ofInt (-1) = zI (-1) from rfl, ad_ZZ]; rfl) (by decide) rfl ?_
                    refine r_goto (tgt := 85) hc dX12_put_119 (by decide) ?_
                    refine r_locp [2, 3, 4, 1, 0] (ls' := [(0, .ref M), (1, .long (lI n)), (3, .int (nI m)), (4, .long (lI (r / 256))), (6, .int (zI (x - 1)))]) rfl ?_
                    exact ih85 σ2 (k + 1) (x - 1) (r / 256) (by omega) (by omega) (by rw [hr, div_step]) hln (fun j hj => by rw [← hσ2, s2_nk (by omega)]; exact hpr0 j hj) (fun j h1 h2 => by
                      rw [← hσ2]
                      by_cases h7 : j = ln + m - 1 - k
                      · subst h7; rw [s2_same, hr]; congr 4; omega
                      · rw [s2_nk h7]; exact hw j (by omega) h2) ⟨fun q q1 q2 => by rw [← hσ2, s2_ne q2]; exact hfr.1 q q1 q2, fun k => by rw [← hσ2, s2_na (by omega)]; exact hfr.2 k⟩ (by omega)
              refine r_locp [2, 3, 4, 1, 0] (ls' := [(0, .ref M), (1, .long (lI n)), (3, .int (nI m)), (4, .long (lI n)), (6, .int (zI (((m : Nat) : Int) - ((1 : Nat) : Int))))]) rfl ?_
              exact loop85 _ σ 0 (((m : Nat) : Int) - ((1 : Nat) : Int)) n (by omega) (by omega) (by rw [Nat.pow_zero, Nat.div_one]) hln hpr (fun j h1 h2 => absurd h2 (by omega)) ⟨fun _ _ _ => rfl, fun _ => rfl⟩ (Nat.lt_succ_self _)
            ·
              refine r_bipush (v := zI (-4)) hc dX12_put_74 rfl ?_
              exact hR _ _ ⟨_, rfl, by unfold sPut; rw [hm, if_neg (by omega), if_pos (by omega)], by unfold sPut; rw [hm, if_neg (by omega), if_pos (by omega)]; exact hln, by unfold sPut; rw [hm, if_neg (by omega), if_pos (by omega)]; exact hpr, fun _ _ _ => rfl, fun _ _ => rfl⟩ rfl _ _ dX12_put_76
          ·
            refine r_bipush (v := zI (-2)) hc dX12_put_60 rfl ?_
            have hm : hmF 8 n 0 = 0 := by
              rw [hmE]; rw [if_pos (by omega)]; omega
            exact hR _ _ ⟨_, rfl, by unfold sPut; rw [if_pos hm], by unfold sPut; rw [if_pos hm]; exact hln, by unfold sPut; rw [if_pos hm]; exact hpr, fun _ _ _ => rfl, fun _ _ => rfl⟩ rfl _ _ dX12_put_62
      ·
        have hm7 : m < 8 := by
          rcases Nat.lt_or_ge m 8 with h | h
          · exact h
          · rw [show 8 - m = 0 by omega, Nat.pow_zero] at hr2; exact absurd c_13 (by omega)
        refine r_lload hc dX12_put_16 rfl ?_
        refine lk_X12_197 hc dX12_put_18 ?_
        refine r_land (v := lI (r % 256)) hc dX12_put_21 (lI_and _) ?_
        refine r_l2i (v := nI ((r % 256))) hc dX12_put_22 (lI_l2i (by omega)) ?_
        refine r_bipush (v := nI 33) hc dX12_put_23 rfl ?_
        refine r_bipush (v := nI 126) hc dX12_put_25 rfl ?_
        refine cl_X12_41 (As := [.int (nI (r % 256)), .int (nI 33), .int (nI 126)]) hc (by simp only [nz]; exact c_X12_in (by omega) (by omega) (by omega)) rfl ⟨by decide, by decide⟩ ⟨rfl, rfl⟩ ⟨by decide, by decide⟩ rfl (Nat.le_of_ble_eq_true rfl) dX12_put_27 (fun r u hp => ?_)
        obtain ⟨rfl, hu⟩ := hp
        rw [hu]
        refine r_if_ne (tgt := 36) hc dX12_put_30 (by decide) (bI_0 _) (fun c_30 => ?_) (fun c_30 => ?_)
        ·
          have c_30 := bnf c_30
          have c_30 := of_decide_eq_true c_30
          refine r_iinc (v := nI (m + 1)) (ls' := [(3, .int (nI (m + 1))), (0, .ref M), (1, .long (lI n)), (4, .long (lI r))]) hc dX12_put_36 rfl (ad_NN _ 1) (by decide) rfl ?_
          refine r_lload hc dX12_put_39 rfl ?_
          refine r_bipush (v := nI 8) hc dX12_put_41 rfl ?_
          refine r_lushr (v := lI (r / 256)) hc dX12_put_43 (lI_shr (by omega)) ?_
          refine r_lstore (ls' := [(4, .long (lI (r / 256))), (3, .int (nI (m + 1))), (0, .ref M), (1, .long (lI n))]) hc dX12_put_44 (by decide) rfl ?_
          refine r_goto (tgt := 5) hc dX12_put_46 (by decide) ?_
          refine r_locp [2, 3, 1, 0] (ls' := [(0, .ref M), (1, .long (lI n)), (3, .int (nI (m + 1))), (4, .long (lI (r / 256)))]) rfl ?_
          exact ih5 (m + 1) (r / 256) (by omega) (by omega) (Nat.div_lt_of_lt_mul (by rw [Nat.mul_comm, ← Nat.pow_succ, show (8 - (m + 1)).succ = 8 - m by omega]; exact hr2)) (by rw [← hf, show 8 - m = (8 - (m + 1)) + 1 by omega, hm_step c_13 (by omega) (by omega)]) (by omega)
        ·
          have c_30 := of_decide_eq_false c_30
          refine r_bipush (v := zI (-2)) hc dX12_put_33 rfl ?_
          have hm : hmF 8 n 0 = 0 := by
            rw [← hf, show 8 - m = (7 - m) + 1 by omega, hmF, if_neg c_13, if_pos (by omega)]
          exact hR _ _ ⟨_, rfl, by unfold sPut; rw [if_pos hm], by unfold sPut; rw [if_pos hm]; exact hln, by unfold sPut; rw [if_pos hm]; exact hpr, fun _ _ _ => rfl, fun _ _ => rfl⟩ rfl _ _ dX12_put_35
  refine r_locp [2, 3, 1, 0] (ls' := [(0, .ref M), (1, .long (lI n)), (3, .int (nI 0)), (4, .long (lI n))]) rfl ?_
  exact loop5 _ 0 n (by omega) (by omega) (by omega) rfl (Nat.lt_succ_self _)
