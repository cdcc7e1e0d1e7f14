/-! ===== KeySearch: how many, the least one ===== -/
theorem ftF_lt (v : Nat → Nat) (x i n : Nat) : ftF v x i n < 1024 := by
  induction n with
  | zero => rw [ftF]; omega
  | succ n ih =>
    rw [ftF]
    split
    · exact Nat.lt_of_le_of_lt Nat.and_le_left ih
    · exact ih
theorem ft_step (v : Nat → Nat) (x k i : Nat) (hi : i < 4) (hx : x.testBit k = true) : kfF (v (20 + 6 * k + 2)) (v (20 + 6 * k + 3)) (fun i => ftF v x i k) 4 i = ftF v x i (k + 1) := by
  unfold kfF
  rw [if_pos (by omega), ftF, if_pos hx]
theorem ftA_lt (v : Nat → Nat) (x i : Nat) (_ : i < 4) : ftA v x i < 1024 := ftF_lt v x i (v 4)
theorem ffF_skip (p : Nat → Bool) (k m : Nat) (h : ffF p k = -6) (hn : ∀ j, j < m → p (k + j) = false) : ffF p (k + m) = -6 := by
  induction m with
  | zero => exact h
  | succ m ih => rw [← Nat.add_assoc, ffF, if_pos (ih (fun j hj => hn j (by omega))), hn m (by omega)]; rfl
theorem ffF_hit (p : Nat → Bool) (k : Nat) (hk : k < 10000) (h : ffF p k = -6) (hp : p k = true) : ffF p 10000 = (k : Int) := by
  have h1 : ffF p (k + 1) = (k : Int) := by rw [ffF, if_pos h, if_pos hp]
  have h2 := ffF_stay p (k + 1) (10000 - (k + 1)) (by rw [h1]; omega)
  rw [show k + 1 + (10000 - (k + 1)) = 10000 by omega, h1] at h2
  exact h2
theorem adj_same (st d : Nat) : adj st d d = true := by
  simp only [adj, Bool.and_eq_true, decide_eq_true_eq]; omega
/-- how far a row's places were looked at: place p, its unit u, the depth l to the left -/
def MF (st : Nat) (F : Nat → Nat) (x p u l : Nat) : Prop := (p = 0 ∧ u = 1000 ∧ l = x / 1000) ∨ (p = 1 ∧ u = 100 ∧ l = x / 1000 ∧ pfx st F 0 (x / 1000) = true) ∨ (p = 2 ∧ u = 10 ∧ l = x / 100 % 10 ∧ pfx st F 1 (x / 100) = true) ∨ (p = 3 ∧ u = 1 ∧ l = x / 10 % 10 ∧ pfx st F 2 (x / 10) = true) ∨ (p = 4 ∧ u = 0 ∧ l = x % 10 ∧ pfx st F 3 x = true)
/-- how many rows from x on can't be, 0 if x can -/
def MFr (st : Nat) (F : Nat → Nat) (x m : Nat) : Prop := x + m ≤ 10000 ∧ (m = 0 → pfx st F 3 x = true) ∧ ∀ j, j < m → pfx st F 3 (x + j) = false
theorem MF.bd {st : Nat} {F : Nat → Nat} {x p u l : Nat} (h : MF st F x p u l) (hx : x < 10000) : p ≤ 4 ∧ u ≤ 1000 ∧ l ≤ 9 := by
  rcases h with ⟨h1, h2, h3⟩ | ⟨h1, h2, h3, h4⟩ | ⟨h1, h2, h3, h4⟩ | ⟨h1, h2, h3, h4⟩ | ⟨h1, h2, h3, h4⟩ <;> omega
theorem MF.fin {st : Nat} {F : Nat → Nat} {x p u l : Nat} (h : MF st F x p u l) (hx : x < 10000) (hn : ¬ (0 < u ∧ p < 4)) : MFr st F x 0 := by
  rcases h with ⟨h1, h2, h3⟩ | ⟨h1, h2, h3, h4⟩ | ⟨h1, h2, h3, h4⟩ | ⟨h1, h2, h3, h4⟩ | ⟨h1, h2, h3, h4⟩
  · omega
  · omega
  · omega
  · omega
  · exact ⟨by omega, fun _ => h4, fun j hj => absurd hj (Nat.not_lt_zero _)⟩
theorem MF.ok {st : Nat} {F : Nat → Nat} {x p u l d : Nat} (h : MF st F x p u l) (hx : x < 10000) (hp : p < 4) (hd : d = x / u % 10) (ha : adj st d l = true) (hf : (F p).testBit d = true) : MF st F x (p + 1) (u / 10) d := by
  rcases h with ⟨rfl, rfl, h3⟩ | ⟨rfl, rfl, h3, h4⟩ | ⟨rfl, rfl, h3, h4⟩ | ⟨rfl, rfl, h3, h4⟩ | ⟨rfl, rfl, h3, h4⟩
  · refine Or.inr (Or.inl ⟨rfl, rfl, by omega, ?_⟩)
    rw [pfx, ← hd]; exact hf
  · refine Or.inr (Or.inr (Or.inl ⟨rfl, rfl, hd, ?_⟩))
    rw [pfx, ← hd, show x / 100 / 10 = x / 1000 by omega, h4, show x / 1000 % 10 = l by omega, adj_comm, ha, hf]; rfl
  · refine Or.inr (Or.inr (Or.inr (Or.inl ⟨rfl, rfl, hd, ?_⟩)))
    rw [pfx, ← hd, show x / 10 / 10 = x / 100 by omega, h4, ← h3, adj_comm, ha, hf]; rfl
  · refine Or.inr (Or.inr (Or.inr (Or.inr ⟨rfl, rfl, by omega, ?_⟩)))
    rw [pfx, h4, ← h3, show x % 10 = d by omega, adj_comm, ha, hf]; rfl
  · exact absurd hp (by decide)
theorem MF.blk {st : Nat} {F : Nat → Nat} {x i n u : Nat} (hx : x < 10000) (hin : i + n = 3) (hu : u = 10 ^ n) (hu2 : 10000 % u = 0) (hno : pfx st F i (x / u) = false) : MFr st F x (u - x % u) := by
  have hu0 : 0 < u := by rw [hu]; exact Nat.pow_pos (by decide)
  have hm : x % u < u := Nat.mod_lt _ hu0
  have h3 := Nat.div_add_mod x u
  refine ⟨?_, fun q => by omega, fun j hj => ?_⟩
  · rcases (show n = 0 ∨ n = 1 ∨ n = 2 ∨ n = 3 by omega) with rfl | rfl | rfl | rfl
    · subst hu; omega
    · subst hu; omega
    · subst hu; omega
    · subst hu; omega
  · cases h2 : pfx st F 3 (x + j) with
    | false => rfl
    | true =>
      have h4 := pfx_pre st F i n (x + j) (by rw [hin]; exact h2)
      have h5 : (x + j) / 10 ^ n = x / u := by
        rw [← hu, show x + j = x % u + j + u * (x / u) by omega, Nat.add_mul_div_left _ _ hu0, Nat.div_eq_of_lt (by omega), Nat.zero_add]
      rw [h5, hno] at h4
      exact Bool.noConfusion h4
theorem MF.bad {st : Nat} {F : Nat → Nat} {x p u l d : Nat} (h : MF st F x p u l) (hx : x < 10000) (hp : p < 4) (hd : d = x / u % 10) (hn : (adj st d l && (F p).testBit d) = false) : MFr st F x (u - x % u) := by
  rcases h with ⟨rfl, rfl, h3⟩ | ⟨rfl, rfl, h3, h4⟩ | ⟨rfl, rfl, h3, h4⟩ | ⟨rfl, rfl, h3, h4⟩ | ⟨rfl, rfl, h3, h4⟩
  · refine MF.blk (i := 0) (n := 3) hx rfl rfl rfl ?_
    rw [show l = d by omega, adj_same, Bool.true_and] at hn
    rw [pfx, ← hd]; exact hn
  · refine MF.blk (i := 1) (n := 2) hx rfl rfl rfl ?_
    rw [pfx, ← hd, show x / 100 / 10 % 10 = l by omega, adj_comm, hn, Bool.and_false]
  · refine MF.blk (i := 2) (n := 1) hx rfl rfl rfl ?_
    rw [pfx, ← hd, show x / 10 / 10 % 10 = l by omega, adj_comm, hn, Bool.and_false]
  · refine MF.blk (i := 3) (n := 0) hx rfl rfl rfl ?_
    rw [pfx, ← hd, show x / 1 / 10 % 10 = l by omega, adj_comm, hn, Bool.and_false]
  · exact absurd hp (by decide)
set_option maxRecDepth 100000 in
set_option maxHeartbeats 4000000 in
theorem c_X4_work {Ω : OmT} {z : Nat} {sh : Nat → Option Kd} {σ : Nat → Nat → Int32} {ρ : Nat → Nat → Option Nat} {a h : Nat} {v : Nat → Nat} (hK : KSh sh ρ a) (hH : HSh sh ρ h) (hV : HV σ h v) (hah : a + 4 ≤ h ∨ h + 34 ≤ a) (hok : okR v) {X : Nat} (hX : X < 2 ^ v 4)  : CtV Ω yX4_work cX4_work 4 rm_X4_work [.ref a, .ref h, .int (nI X)] (z, sh, σ, ρ) (fun u => ∃ τ : Nat → Nat → Int32, u = (z, sh, τ, ρ) ∧ rowAt τ (a + 1) 4 (ftA v X) ∧ τ a 3 = nI (v 0) ∧ ∀ q, q ≠ a → q ≠ a + 1 → τ q = σ q) := by
  have hok1 := hok
  obtain ⟨⟨h01, h02⟩, hl1, ⟨h21, h22⟩, h3, h4, h5, h9, hdo, hke, hpn, hpd, htc⟩ := hok1
  have hdr : ∀ d, d < v 4 → v (20 + 6 * d + 2) < 10000 ∧ v (20 + 6 * d + 3) < 10000 := fun d hd => ⟨(hdo d hd).2.2.1, (hdo d hd).2.2.2⟩
  have hcu : ∀ k, k < v 5 → v (80 + 4 * k) < 10000 := fun k hk => (hke k hk).1
  have hwh : ∀ k, k < v 5 → v (80 + 4 * k + 2) ≤ 9 := fun k hk => (hke k hk).2.2
  have hky : ∀ k, k < v 5 → v (80 + 4 * k) < 10000 ∧ v (80 + 4 * k + 2) ≤ 9 ∧ 40 ≤ v (80 + 4 * k + 1) ∧ v (80 + 4 * k + 1) ≤ 90 := fun k hk => ⟨(hke k hk).1, (hke k hk).2.2, (hke k hk).2.1⟩
  have hpl : ∀ p, p < v 9 → v (150 + 3 * p) < 10 := fun p hp => by have := (hpn p hp).1; omega
  have hX0 : X < 1024 := Nat.lt_of_lt_of_le hX (Nat.pow_le_pow_right (by decide) h4 : 2 ^ v 4 ≤ 2 ^ 10)
  have hV0 := hV
  refine CtV.enter (by decide) (Nat.le_of_ble_eq_true rfl) (fun Φ hc hi hR => ?_)
  show Vw Ω Φ (z, sh, σ, ρ) (0, 0) 0 [(0, .ref a), (1, .ref h), (2, .int (nI X))] []
  refine r_aload_n hc dX4_work_0 rfl ?_
  refine r_aload_n hc dX4_work_1 rfl ?_
  refine gf_X4_21 (q := h + 1) hc (HS0 hH) (HR0 hH 0 1 (by decide)) dX4_work_2 ?_
  refine r_iconst (v := nI 0) hc dX4_work_5 rfl ?_
  refine r_iald (x := nI (v 0)) (j := 0) hc (HSa hH 1 _ rfl) rfl (by omega) (by decide) (HVs hV (by omega)) dX4_work_6 ?_
  refine pf_X4_26 hc hK.1.1 dX4_work_7 ?_
  generalize hσ1 : s2 σ a 3 (nI (v 0)) = σ1
  have hV : HV σ1 h v := by rw [← hσ1]; exact hV.dead (by omega) (by omega) (by right; right; right; omega)
  refine r_iconst (v := nI 0) hc dX4_work_10 rfl ?_
  refine r_istore_n (ls' := [(3, .int (nI 0)), (0, .ref a), (1, .ref h), (2, .int (nI X))]) hc dX4_work_11 (by decide) rfl ?_
  have loop12 : ∀ (n12 : Nat) (τ : Nat → Nat → Int32) (k : Nat), (k ≤ 4) → (rowAt τ (a + 1) k (fun _ => 1023)) → (τ a 3 = nI (v 0)) → (∀ q, q ≠ a → q ≠ a + 1 → τ q = σ q) → (4 - k) < n12 → Vw Ω Φ (z, sh, τ, ρ) (0, 0) 12 [(0, .ref a), (1, .ref h), (2, .int (nI X)), (3, .int (nI k))] [] := by
    intro n12
    induction n12 with
    | zero => intro τ k hk hg hst hfr hm; exact absurd hm (Nat.not_lt_zero _)
    | succ n12 ih12 =>
      intro τ k hk hg hst hfr hm12
      refine r_iload_n hc dX4_work_12 rfl ?_
      refine r_iconst (v := nI 4) hc dX4_work_13 rfl ?_
      refine r_icmp_ge (tgt := 32) hc dX4_work_14 (by decide) (le_NN (by omega) (by omega)) (fun c_14 => ?_) (fun c_14 => ?_)
      ·
        refine r_iconst (v := nI 0) hc dX4_work_32 rfl ?_
        refine r_istore_n (ls' := [(3, .int (nI 0)), (0, .ref a), (1, .ref h), (2, .int (nI X))]) hc dX4_work_33 (by decide) rfl ?_
        have loop34 : ∀ (n34 : Nat) (τ : Nat → Nat → Int32) (k : Nat), (k ≤ v 4) → (rowAt τ (a + 1) 4 (fun i => ftF v X i k)) → (τ a 3 = nI (v 0)) → (∀ q, q ≠ a → q ≠ a + 1 → τ q = σ q) → (v 4 - k) < n34 → Vw Ω Φ (z, sh, τ, ρ) (0, 0) 34 [(0, .ref a), (1, .ref h), (2, .int (nI X)), (3, .int (nI k))] [] := by
          intro n34
          induction n34 with
          | zero => intro τ k hk hg hst hfr hm; exact absurd hm (Nat.not_lt_zero _)
          | succ n34 ih34 =>
            intro τ k hk hg hst hfr hm34
            have hV : HV τ h v := hV0.keep (fun q q1 q2 => hfr q (by omega) (by omega)) h4 h5
            refine r_iload_n hc dX4_work_34 rfl ?_
            refine r_aload_n hc dX4_work_35 rfl ?_
            refine gf_X4_30 (x := nI (v 4)) hc (HS0 hH) (HV4 hV) dX4_work_36 ?_
            refine r_icmp_ge (tgt := 66) hc dX4_work_39 (by decide) (le_NN (by omega) (by omega)) (fun c_39 => ?_) (fun c_39 => ?_)
            ·
              exact hR _ ⟨_, rfl, by rw [show k = v 4 by omega] at hg; exact hg, hst, hfr⟩ _ _ dX4_work_66
            ·
              refine r_iload_n hc dX4_work_42 rfl ?_
              refine r_iload_n hc dX4_work_43 rfl ?_
              refine r_ishr (v := nI (X / 2 ^ k)) hc dX4_work_44 (sr_NN _ _ (by omega) (by omega)) ?_
              refine r_iconst (v := nI 1) hc dX4_work_45 rfl ?_
              refine r_iand (v := nI ((X / 2 ^ k) &&& 1)) hc dX4_work_46 (an_NN _ _) ?_
              refine r_if_eq (tgt := 60) hc dX4_work_47 (by decide) (e0_N (Nat.lt_of_le_of_lt Nat.and_le_right (by decide))) (fun c_47 => ?_) (fun c_47 => ?_)
              ·
                refine r_iinc (v := nI (k + 1)) (ls' := [(3, .int (nI (k + 1))), (0, .ref a), (1, .ref h), (2, .int (nI X))]) hc dX4_work_60 rfl (ad_NN _ 1) (by decide) rfl ?_
                refine r_goto (tgt := 34) hc dX4_work_63 (by decide) ?_
                refine r_locp [1, 2, 3, 0] (ls' := [(0, .ref a), (1, .ref h), (2, .int (nI X)), (3, .int (nI (k + 1)))]) rfl ?_
                exact ih34 τ (k + 1) (by omega) (hg.cong (fun i _ => by rw [ftF, if_neg (fun q => (tb_0 X k).mpr q c_47)])) hst hfr (by omega)
              ·
                refine r_aload_n hc dX4_work_50 rfl ?_
                refine r_aload_n hc dX4_work_51 rfl ?_
                refine gf_X4_33 (q := h + 2) hc (HS0 hH) (HR0 hH 1 2 (by decide)) dX4_work_52 ?_
                refine r_iload_n hc dX4_work_55 rfl ?_
                refine al_3 (r := h + 8 + k) (j := k) hc (HSa hH 2 _ rfl) rfl (by omega) (by decide) (HRd hH (by omega)) dX4_work_56 ?_
                refine cl_X4_37 (As := [.ref (h + 8 + k)]) hc (c_X4_keepFitting hK (dd := h + 8 + k) (f := v (20 + 6 * k + 2)) (s := v (20 + 6 * k + 3)) (HSd hH (by omega)) (HVd hV (show k < v 4 by omega) 2 (by decide)) (HVd hV (show k < v 4 by omega) 3 (by decide)) (by have := hdr k (by omega); omega) (by have := hdr k (by omega); omega) (F := fun i => ftF v X i k) hg) hK.1.1 rfl ⟨by decide, by decide⟩ ⟨rfl, rfl⟩ ⟨by decide, by decide⟩ rfl (Nat.le_of_ble_eq_true rfl) dX4_work_57 (fun u hp => ?_)
                obtain ⟨τ2, hu, hr2, hfr2⟩ := hp
                rw [hu]
                have hg2 : rowAt τ2 (a + 1) 4 (fun i => ftF v X i (k + 1)) := hr2.cong (fun i hi => ft_step v X k i hi ((tb_0 X k).mp c_47))
                have hst : τ2 a 3 = nI (v 0) := by rw [hfr2 a (by omega)]; exact hst
                have hfr : ∀ q, q ≠ a → q ≠ a + 1 → τ2 q = σ q := fun q q1 q2 => by rw [hfr2 q q2]; exact hfr q q1 q2
                refine r_iinc (v := nI (k + 1)) (ls' := [(3, .int (nI (k + 1))), (0, .ref a), (1, .ref h), (2, .int (nI X))]) hc dX4_work_60 rfl (ad_NN _ 1) (by decide) rfl ?_
                refine r_goto (tgt := 34) hc dX4_work_63 (by decide) ?_
                refine r_locp [1, 2, 3, 0] (ls' := [(0, .ref a), (1, .ref h), (2, .int (nI X)), (3, .int (nI (k + 1)))]) rfl ?_
                exact ih34 τ2 (k + 1) (by omega) hg2 hst hfr (by omega)
        refine r_locp [1, 2, 3, 0] (ls' := [(0, .ref a), (1, .ref h), (2, .int (nI X)), (3, .int (nI 0))]) rfl ?_
        exact loop34 _ τ 0 (by omega) (by rw [show k = 4 by omega] at hg; exact hg) hst hfr (Nat.lt_succ_self _)
      ·
        refine r_aload_n hc dX4_work_17 rfl ?_
        refine gf_X4_9 (q := a + 1) hc hK.1.1 hK.2.1 dX4_work_18 ?_
        refine r_iload_n hc dX4_work_21 rfl ?_
        refine r_sipush (v := nI 1023) hc dX4_work_22 rfl ?_
        refine r_iast (j := k) hc hK.1.2.1 rfl (by omega) (by decide) dX4_work_25 ?_
        generalize hσ2 : s2 τ (a + 1) k (nI 1023) = σ2
        have hst : σ2 a 3 = nI (v 0) := by rw [← hσ2]; exact s2_keep hst (by omega)
        refine r_iinc (v := nI (k + 1)) (ls' := [(3, .int (nI (k + 1))), (0, .ref a), (1, .ref h), (2, .int (nI X))]) hc dX4_work_26 rfl (ad_NN _ 1) (by decide) rfl ?_
        refine r_goto (tgt := 12) hc dX4_work_29 (by decide) ?_
        refine r_locp [1, 2, 3, 0] (ls' := [(0, .ref a), (1, .ref h), (2, .int (nI X)), (3, .int (nI (k + 1)))]) rfl ?_
        exact ih12 σ2 (k + 1) (by omega) (by rw [← hσ2]; exact hg.ext1 _ rfl) hst (fun q q1 q2 => by rw [← hσ2, s2_ne q2]; exact hfr q q1 q2) (by omega)
  refine r_locp [1, 2, 3, 0] (ls' := [(0, .ref a), (1, .ref h), (2, .int (nI X)), (3, .int (nI 0))]) rfl ?_
  exact loop12 _ σ1 0 (by omega) rowAt.zero (by rw [← hσ1]; exact s2_same _ _ _ _) (fun q q1 q2 => by rw [← hσ1, s2_ne q1]) (Nat.lt_succ_self _)
set_option maxRecDepth 100000 in
set_option maxHeartbeats 4000000 in
theorem c_X4_howMany {Ω : OmT} {z : Nat} {sh : Nat → Option Kd} {σ : Nat → Nat → Int32} {ρ : Nat → Nat → Option Nat} {a h : Nat} {v : Nat → Nat} (hK : KSh sh ρ a) (hH : HSh sh ρ h) (hV : HV σ h v) (hah : a + 4 ≤ h ∨ h + 34 ≤ a) (hok : okR v) {X : Nat} (hX : X < 2 ^ v 4)  : CtI Ω yX4_howMany cX4_howMany 5 .int rm_X4_howMany [.ref a, .ref h, .int (nI X)] (z, sh, σ, ρ) (fun r u => ∃ τ : Nat → Nat → Int32, u = (z, sh, τ, ρ) ∧ r = nI (cntF (chkP v X) 10000) ∧ ∀ q, (q < a ∨ a + 4 ≤ q) → τ q = σ q) := by
  have hok1 := hok
  obtain ⟨⟨h01, h02⟩, hl1, ⟨h21, h22⟩, h3, h4, h5, h9, hdo, hke, hpn, hpd, htc⟩ := hok1
  have hdr : ∀ d, d < v 4 → v (20 + 6 * d + 2) < 10000 ∧ v (20 + 6 * d + 3) < 10000 := fun d hd => ⟨(hdo d hd).2.2.1, (hdo d hd).2.2.2⟩
  have hcu : ∀ k, k < v 5 → v (80 + 4 * k) < 10000 := fun k hk => (hke k hk).1
  have hwh : ∀ k, k < v 5 → v (80 + 4 * k + 2) ≤ 9 := fun k hk => (hke k hk).2.2
  have hky : ∀ k, k < v 5 → v (80 + 4 * k) < 10000 ∧ v (80 + 4 * k + 2) ≤ 9 ∧ 40 ≤ v (80 + 4 * k + 1) ∧ v (80 + 4 * k + 1) ≤ 90 := fun k hk => ⟨(hke k hk).1, (hke k hk).2.2, (hke k hk).2.1⟩
  have hpl : ∀ p, p < v 9 → v (150 + 3 * p) < 10 := fun p hp => by have := (hpn p hp).1; omega
  have hX0 : X < 1024 := Nat.lt_of_lt_of_le hX (Nat.pow_le_pow_right (by decide) h4 : 2 ^ v 4 ≤ 2 ^ 10)
  refine CtI.enter (by decide) (Nat.le_of_ble_eq_true rfl) (fun Φ hc hR => ?_)
  show Vw Ω Φ (z, sh, σ, ρ) (0, 0) 0 [(0, .ref a), (1, .ref h), (2, .int (nI X))] []
  refine r_aload_n hc dX4_howMany_0 rfl ?_
  refine r_aload_n hc dX4_howMany_1 rfl ?_
  refine r_iload_n hc dX4_howMany_2 rfl ?_
  refine cl_X4_49 (As := [.ref h, .int (nI X)]) hc (c_X4_work hK hH hV hah hok hX) hK.1.1 rfl ⟨by decide, by decide⟩ ⟨rfl, rfl⟩ ⟨by decide, by decide⟩ rfl (Nat.le_of_ble_eq_true rfl) dX4_howMany_3 (fun u hp => ?_)
  obtain ⟨τ0, hu, hF, hst, hfr0⟩ := hp
  rw [hu]
  have hfr : ∀ q, (q < a ∨ a + 4 ≤ q) → τ0 q = σ q := fun q hq => hfr0 q (by omega) (by omega)
  refine r_iconst (v := nI 0) hc dX4_howMany_6 rfl ?_
  refine r_istore_n (ls' := [(3, .int (nI 0)), (0, .ref a), (1, .ref h), (2, .int (nI X))]) hc dX4_howMany_7 (by decide) rfl ?_
  have loop8 : ∀ (n8 : Nat) (τ : Nat → Nat → Int32) (k : Nat), (k ≤ 10) → (rowAt τ (a + 2) k (wyF (v 0) (ftA v X) 0)) → (rowAt τ (a + 1) 4 (ftA v X)) → (τ a 3 = nI (v 0)) → (∀ q, (q < a ∨ a + 4 ≤ q) → τ q = σ q) → (10 - k) < n8 → Vw Ω Φ (z, sh, τ, ρ) (0, 0) 8 [(0, .ref a), (1, .ref h), (2, .int (nI X)), (3, .int (nI k))] [] := by
    intro n8
    induction n8 with
    | zero => intro τ k hk hg hF hst hfr hm; exact absurd hm (Nat.not_lt_zero _)
    | succ n8 ih8 =>
      intro τ k hk hg hF hst hfr hm8
      refine r_iload_n hc dX4_howMany_8 rfl ?_
      refine r_bipush (v := nI 10) hc dX4_howMany_9 rfl ?_
      refine r_icmp_ge (tgt := 40) hc dX4_howMany_11 (by decide) (le_NN (by omega) (by omega)) (fun c_11 => ?_) (fun c_11 => ?_)
      ·
        refine r_iconst (v := nI 1) hc dX4_howMany_40 rfl ?_
        refine r_istore_n (ls' := [(3, .int (nI 1)), (0, .ref a), (1, .ref h), (2, .int (nI X))]) hc dX4_howMany_41 (by decide) rfl ?_
        have loop42 : ∀ (n42 : Nat) (τ : Nat → Nat → Int32) (k : Nat), (1 ≤ k ∧ k ≤ 4) → (rowAt τ (a + 2) 10 (wyF (v 0) (ftA v X) (k - 1))) → (rowAt τ (a + 1) 4 (ftA v X)) → (τ a 3 = nI (v 0)) → (∀ q, (q < a ∨ a + 4 ≤ q) → τ q = σ q) → (4 - k) < n42 → Vw Ω Φ (z, sh, τ, ρ) (0, 0) 42 [(0, .ref a), (1, .ref h), (2, .int (nI X)), (3, .int (nI k))] [] := by
          intro n42
          induction n42 with
          | zero => intro τ k hk hw hF hst hfr hm; exact absurd hm (Nat.not_lt_zero _)
          | succ n42 ih42 =>
            intro τ k hk hw hF hst hfr hm42
            refine r_iload_n hc dX4_howMany_42 rfl ?_
            refine r_iconst (v := nI 4) hc dX4_howMany_43 rfl ?_
            refine r_icmp_ge (tgt := 58) hc dX4_howMany_44 (by decide) (le_NN (by omega) (by omega)) (fun c_44 => ?_) (fun c_44 => ?_)
            ·
              refine r_iconst (v := nI 0) hc dX4_howMany_58 rfl ?_
              refine r_istore_n (ls' := [(3, .int (nI 0)), (0, .ref a), (1, .ref h), (2, .int (nI X))]) hc dX4_howMany_59 (by decide) rfl ?_
              refine r_iconst (v := nI 0) hc dX4_howMany_60 rfl ?_
              refine r_istore (ls' := [(4, .int (nI 0)), (3, .int (nI 0)), (0, .ref a), (1, .ref h), (2, .int (nI X))]) hc dX4_howMany_61 (by decide) rfl ?_
              rw [show k - 1 = 3 by omega] at hw
              have loop63 : ∀ (n63 : Nat) (s : Nat) (j : Nat), (j ≤ 10) → (s = sumN (wyF (v 0) (ftA v X) 3) j) → (10 - j) < n63 → Vw Ω Φ (z, sh, τ, ρ) (0, 0) 63 [(0, .ref a), (1, .ref h), (2, .int (nI X)), (3, .int (nI s)), (4, .int (nI j))] [] := by
                intro n63
                induction n63 with
                | zero => intro s j hj hs hm; exact absurd hm (Nat.not_lt_zero _)
                | succ n63 ih63 =>
                  intro s j hj hs hm63
                  refine r_iload hc dX4_howMany_63 rfl ?_
                  refine r_bipush (v := nI 10) hc dX4_howMany_65 rfl ?_
                  refine r_icmp_ge (tgt := 86) hc dX4_howMany_67 (by decide) (le_NN (by omega) (by omega)) (fun c_67 => ?_) (fun c_67 => ?_)
                  ·
                    refine r_iload_n hc dX4_howMany_86 rfl ?_
                    exact hR _ _ ⟨τ, rfl, congrArg nI (by rw [hs, show j = 10 by omega]; exact wy_all v X hX), hfr⟩ rfl _ _ dX4_howMany_87
                  ·
                    refine r_iload_n hc dX4_howMany_70 rfl ?_
                    refine r_aload_n hc dX4_howMany_71 rfl ?_
                    refine gf_X4_15 (q := a + 2) hc hK.1.1 hK.2.2.1 dX4_howMany_72 ?_
                    refine r_iload hc dX4_howMany_75 rfl ?_
                    refine r_iald (x := nI ((wyF (v 0) (ftA v X) 3) j)) (j := j) hc hK.1.2.2.1 rfl (by omega) (by decide) (hw _ (by omega)) dX4_howMany_77 ?_
                    refine r_iadd (v := nI (s + ((wyF (v 0) (ftA v X) 3) j))) hc dX4_howMany_78 (ad_NN _ _) ?_
                    refine r_istore_n (ls' := [(3, .int (nI (s + ((wyF (v 0) (ftA v X) 3) j)))), (0, .ref a), (1, .ref h), (2, .int (nI X)), (4, .int (nI j))]) hc dX4_howMany_79 (by decide) rfl ?_
                    refine r_iinc (v := nI (j + 1)) (ls' := [(4, .int (nI (j + 1))), (3, .int (nI (s + ((wyF (v 0) (ftA v X) 3) j)))), (0, .ref a), (1, .ref h), (2, .int (nI X))]) hc dX4_howMany_80 rfl (ad_NN _ 1) (by decide) rfl ?_
                    refine r_goto (tgt := 63) hc dX4_howMany_83 (by decide) ?_
                    refine r_locp [2, 3, 4, 1, 0] (ls' := [(0, .ref a), (1, .ref h), (2, .int (nI X)), (3, .int (nI (s + ((wyF (v 0) (ftA v X) 3) j)))), (4, .int (nI (j + 1)))]) rfl ?_
                    exact ih63 (s + ((wyF (v 0) (ftA v X) 3) j)) (j + 1) (by omega) (by rw [sumN, ← hs]) (by omega)
              refine r_locp [2, 3, 4, 1, 0] (ls' := [(0, .ref a), (1, .ref h), (2, .int (nI X)), (3, .int (nI 0)), (4, .int (nI 0))]) rfl ?_
              exact loop63 _ 0 0 (by omega) rfl (Nat.lt_succ_self _)
            ·
              refine r_aload_n hc dX4_howMany_47 rfl ?_
              refine r_iload_n hc dX4_howMany_48 rfl ?_
              refine cl_X4_57 (As := [.int (nI k)]) hc (c_X4_countOn hK (st := v 0) (p := k) hst (by omega) (by omega) (F := ftA v X) (G := wyF (v 0) (ftA v X) (k - 1)) hF (ftA_lt v X) hw) hK.1.1 rfl ⟨by decide, by decide⟩ ⟨rfl, rfl⟩ ⟨by decide, by decide⟩ rfl (Nat.le_of_ble_eq_true rfl) dX4_howMany_49 (fun u hp => ?_)
              obtain ⟨τ2, hu, hr2, hfr2⟩ := hp
              rw [hu]
              have hw2 : rowAt τ2 (a + 2) 10 (wyF (v 0) (ftA v X) (k + 1 - 1)) := hr2.cong (fun i hi => by rw [show k + 1 - 1 = (k - 1) + 1 by omega, wyF, show k - 1 + 1 = k by omega])
              have hF := hF.sig (hfr2 (a + 1) (by omega) (by omega))
              have hst : τ2 a 3 = nI (v 0) := by rw [hfr2 a (by omega) (by omega)]; exact hst
              have hfr : ∀ q, (q < a ∨ a + 4 ≤ q) → τ2 q = σ q := fun q hq => by rw [hfr2 q (by omega) (by omega)]; exact hfr q hq
              refine r_iinc (v := nI (k + 1)) (ls' := [(3, .int (nI (k + 1))), (0, .ref a), (1, .ref h), (2, .int (nI X))]) hc dX4_howMany_52 rfl (ad_NN _ 1) (by decide) rfl ?_
              refine r_goto (tgt := 42) hc dX4_howMany_55 (by decide) ?_
              refine r_locp [1, 2, 3, 0] (ls' := [(0, .ref a), (1, .ref h), (2, .int (nI X)), (3, .int (nI (k + 1)))]) rfl ?_
              exact ih42 τ2 (k + 1) (by omega) hw2 hF hst hfr (by omega)
        refine r_locp [1, 2, 3, 0] (ls' := [(0, .ref a), (1, .ref h), (2, .int (nI X)), (3, .int (nI 1))]) rfl ?_
        exact loop42 _ τ 1 (by omega) (by rw [show k = 10 by omega] at hg; exact hg) hF hst hfr (Nat.lt_succ_self _)
      ·
        refine r_aload_n hc dX4_howMany_14 rfl ?_
        refine gf_X4_15 (q := a + 2) hc hK.1.1 hK.2.2.1 dX4_howMany_15 ?_
        refine r_iload_n hc dX4_howMany_18 rfl ?_
        refine r_aload_n hc dX4_howMany_19 rfl ?_
        refine r_iconst (v := nI 0) hc dX4_howMany_20 rfl ?_
        refine r_iload_n hc dX4_howMany_21 rfl ?_
        refine cl_X4_53 (As := [.int (nI 0), .int (nI k)]) hc (c_X4_fits hK (F := (ftA v X)) hF (ftA_lt v X) (p := 0) (e := k) (by omega) (by omega)) hK.1.1 rfl ⟨by decide, by decide⟩ ⟨rfl, rfl⟩ ⟨by decide, by decide⟩ rfl (Nat.le_of_ble_eq_true rfl) dX4_howMany_22 (fun r u hp => ?_)
        obtain ⟨rfl, hu⟩ := hp
        rw [hu]
        refine r_if_eq (tgt := 32) hc dX4_howMany_25 (by decide) (bI_0 _) (fun c_25 => ?_) (fun c_25 => ?_)
        ·
          refine r_iconst (v := nI 0) hc dX4_howMany_32 rfl ?_
          refine r_iast (j := k) hc hK.1.2.2.1 rfl (by omega) (by decide) dX4_howMany_33 ?_
          generalize hσ1 : s2 τ (a + 2) k (nI 0) = σ1
          have hF : rowAt σ1 (a + 1) 4 (ftA v X) := by rw [← hσ1]; exact hF.keep (by omega) _ _
          have hst : σ1 a 3 = nI (v 0) := by rw [← hσ1]; exact s2_keep hst (by omega)
          refine r_iinc (v := nI (k + 1)) (ls' := [(3, .int (nI (k + 1))), (0, .ref a), (1, .ref h), (2, .int (nI X))]) hc dX4_howMany_34 rfl (ad_NN _ 1) (by decide) rfl ?_
          refine r_goto (tgt := 8) hc dX4_howMany_37 (by decide) ?_
          refine r_locp [1, 2, 3, 0] (ls' := [(0, .ref a), (1, .ref h), (2, .int (nI X)), (3, .int (nI (k + 1)))]) rfl ?_
          exact ih8 σ1 (k + 1) (by omega) (by rw [← hσ1]; exact hg.ext1 _ (by rw [wyF]; simp [c_25])) hF hst (fun q hq => by rw [← hσ1, s2_ne (show q ≠ a + 2 by omega)]; exact hfr q hq) (by omega)
        ·
          have c_25 := bnf c_25
          refine r_iconst (v := nI 1) hc dX4_howMany_28 rfl ?_
          refine r_goto (tgt := 33) hc dX4_howMany_29 (by decide) ?_
          refine r_iast (j := k) hc hK.1.2.2.1 rfl (by omega) (by decide) dX4_howMany_33 ?_
          generalize hσ2 : s2 τ (a + 2) k (nI 1) = σ2
          have hF : rowAt σ2 (a + 1) 4 (ftA v X) := by rw [← hσ2]; exact hF.keep (by omega) _ _
          have hst : σ2 a 3 = nI (v 0) := by rw [← hσ2]; exact s2_keep hst (by omega)
          refine r_iinc (v := nI (k + 1)) (ls' := [(3, .int (nI (k + 1))), (0, .ref a), (1, .ref h), (2, .int (nI X))]) hc dX4_howMany_34 rfl (ad_NN _ 1) (by decide) rfl ?_
          refine r_goto (tgt := 8) hc dX4_howMany_37 (by decide) ?_
          refine r_locp [1, 2, 3, 0] (ls' := [(0, .ref a), (1, .ref h), (2, .int (nI X)), (3, .int (nI (k + 1)))]) rfl ?_
          exact ih8 σ2 (k + 1) (by omega) (by rw [← hσ2]; exact hg.ext1 _ (by rw [wyF]; simp [c_25])) hF hst (fun q hq => by rw [← hσ2, s2_ne (show q ≠ a + 2 by omega)]; exact hfr q hq) (by omega)
  refine r_locp [1, 2, 3, 0] (ls' := [(0, .ref a), (1, .ref h), (2, .int (nI X)), (3, .int (nI 0))]) rfl ?_
  exact loop8 _ τ0 0 (by omega) rowAt.zero hF hst hfr (Nat.lt_succ_self _)
set_option maxRecDepth 100000 in
set_option maxHeartbeats 4000000 in
theorem c_X4_misfitsFrom {Ω : OmT} {z : Nat} {sh : Nat → Option Kd} {σ : Nat → Nat → Int32} {ρ : Nat → Nat → Option Nat} {a : Nat} (hK : KSh sh ρ a) {st x : Nat} (hst : σ a 3 = nI st) (hs0 : st ≤ 9) (hx : x < 10000) {F : Nat → Nat} (hF : rowAt σ (a + 1) 4 F) (hF0 : ∀ i, i < 4 → F i < 1024)  : CtI Ω yX4_misfitsFrom cX4_misfitsFrom 6 .int rm_X4_misfitsFrom [.ref a, .int (nI x)] (z, sh, σ, ρ) (fun r u => ∃ m : Nat, MFr st F x m ∧ r = nI m ∧ u = (z, sh, σ, ρ)) := by
  refine CtI.enter (by decide) (Nat.le_of_ble_eq_true rfl) (fun Φ hc hR => ?_)
  show Vw Ω Φ (z, sh, σ, ρ) (0, 0) 0 [(0, .ref a), (1, .int (nI x))] []
  refine r_iload_n hc dX4_misfitsFrom_0 rfl ?_
  refine r_sipush (v := nI 1000) hc dX4_misfitsFrom_1 rfl ?_
  refine r_idiv (v := nI (x / 1000)) hc dX4_misfitsFrom_4 (nu_ne0 (by omega) (by omega)) (dv_NN _ _ (by omega) (by omega) (by omega)) ?_
  refine r_istore_n (ls' := [(2, .int (nI (x / 1000))), (0, .ref a), (1, .int (nI x))]) hc dX4_misfitsFrom_5 (by decide) rfl ?_
  refine r_iconst (v := nI 0) hc dX4_misfitsFrom_6 rfl ?_
  refine r_istore_n (ls' := [(3, .int (nI 0)), (2, .int (nI (x / 1000))), (0, .ref a), (1, .int (nI x))]) hc dX4_misfitsFrom_7 (by decide) rfl ?_
  refine r_sipush (v := nI 1000) hc dX4_misfitsFrom_8 rfl ?_
  refine r_istore (ls' := [(4, .int (nI 1000)), (3, .int (nI 0)), (2, .int (nI (x / 1000))), (0, .ref a), (1, .int (nI x))]) hc dX4_misfitsFrom_11 (by decide) rfl ?_
  have loop13 : ∀ (n13 : Nat) (l : Nat) (p : Nat) (un : Nat), (MF st F x p un l) → (4 - p) < n13 → Vw Ω Φ (z, sh, σ, ρ) (0, 0) 13 [(0, .ref a), (1, .int (nI x)), (2, .int (nI l)), (3, .int (nI p)), (4, .int (nI un))] [] := by
    intro n13
    induction n13 with
    | zero => intro l p un hm hm; exact absurd hm (Nat.not_lt_zero _)
    | succ n13 ih13 =>
      intro l p un hm hm13
      obtain ⟨hp4, hu3, hl9⟩ := hm.bd hx
      refine r_iload hc dX4_misfitsFrom_13 rfl ?_
      refine r_if_le (tgt := 80) hc dX4_misfitsFrom_15 (by decide) (le0_N (by omega)) (fun c_15 => ?_) (fun c_15 => ?_)
      ·
        refine r_iconst (v := nI 0) hc dX4_misfitsFrom_80 rfl ?_
        exact hR _ _ ⟨0, MF.fin hm hx (by omega), rfl, rfl⟩ rfl _ _ dX4_misfitsFrom_81
      ·
        refine r_iload_n hc dX4_misfitsFrom_18 rfl ?_
        refine r_iconst (v := nI 4) hc dX4_misfitsFrom_19 rfl ?_
        refine r_icmp_ge (tgt := 80) hc dX4_misfitsFrom_20 (by decide) (le_NN (by omega) (by omega)) (fun c_20 => ?_) (fun c_20 => ?_)
        ·
          refine r_iconst (v := nI 0) hc dX4_misfitsFrom_80 rfl ?_
          exact hR _ _ ⟨0, MF.fin hm hx (by omega), rfl, rfl⟩ rfl _ _ dX4_misfitsFrom_81
        ·
          refine r_iload_n hc dX4_misfitsFrom_23 rfl ?_
          refine r_iload hc dX4_misfitsFrom_24 rfl ?_
          obtain ⟨q, hq⟩ : ∃ q : Nat, q = x / un := ⟨_, rfl⟩
          have hqx : q ≤ x := by rw [hq]; exact Nat.div_le_self _ _
          refine r_idiv (v := nI q) hc dX4_misfitsFrom_26 (nu_ne0 (by omega) (by omega)) (by rw [hq]; exact dv_NN x un (by omega) (by omega) (by omega)) ?_
          refine r_bipush (v := nI 10) hc dX4_misfitsFrom_27 rfl ?_
          obtain ⟨d, hd⟩ : ∃ d : Nat, d = q % 10 := ⟨_, rfl⟩
          refine r_irem (v := nI d) hc dX4_misfitsFrom_29 (nu_ne0 (by omega) (by omega)) (by rw [hd]; exact rm_NN q 10 (by omega) (by omega) (by omega)) ?_
          refine r_istore (ls' := [(5, .int (nI d)), (0, .ref a), (1, .int (nI x)), (2, .int (nI l)), (3, .int (nI p)), (4, .int (nI un))]) hc dX4_misfitsFrom_30 (by decide) rfl ?_
          refine r_iload hc dX4_misfitsFrom_32 rfl ?_
          refine r_iload_n hc dX4_misfitsFrom_34 rfl ?_
          refine r_isub (v := zI (((d : Nat) : Int) - ((l : Nat) : Int))) hc dX4_misfitsFrom_35 (sb_NN _ _) ?_
          refine ma_X4_80 (v := zI (if (((d : Nat) : Int) - ((l : Nat) : Int) : Int) ≥ 0 then ((d : Nat) : Int) - ((l : Nat) : Int) else -(((d : Nat) : Int) - ((l : Nat) : Int)))) hc ⟨by decide, Nat.le_of_ble_eq_true rfl⟩ ⟨by decide, by decide⟩ dX4_misfitsFrom_36 (ab_Z (by omega)) ?_
          refine r_aload_n hc dX4_misfitsFrom_39 rfl ?_
          refine gf_X4_26 (x := nI st) hc hK.1.1 hst dX4_misfitsFrom_40 ?_
          refine r_icmp_gt (tgt := 56) hc dX4_misfitsFrom_43 (by decide) (lt_NZ (by omega) (by split <;> omega)) (fun c_43 => ?_) (fun c_43 => ?_)
          ·
            have hno : (adj st d l && (F p).testBit d) = false := by rw [show adj st d l = false by simp only [adj, Bool.and_eq_false_iff, decide_eq_false_iff_not]; split at c_43 <;> omega]; rfl
            rw [hq] at hd
            refine r_iload hc dX4_misfitsFrom_56 rfl ?_
            refine r_iload_n hc dX4_misfitsFrom_58 rfl ?_
            refine r_iload hc dX4_misfitsFrom_59 rfl ?_
            obtain ⟨y, hy⟩ : ∃ y : Nat, y = x % un := ⟨_, rfl⟩
            have hyu : y < un := by rw [hy]; exact Nat.mod_lt _ (by omega)
            refine r_irem (v := nI y) hc dX4_misfitsFrom_61 (nu_ne0 (by omega) (by omega)) (by rw [hy]; exact rm_NN x un (by omega) (by omega) (by omega)) ?_
            refine r_isub (v := zI (((un : Nat) : Int) - ((y : Nat) : Int))) hc dX4_misfitsFrom_62 (sb_NN _ _) ?_
            exact hR _ _ ⟨un - y, by rw [hy]; exact MF.bad hm hx (by omega) hd hno, zn (by omega), rfl⟩ rfl _ _ dX4_misfitsFrom_63
          ·
            have hadj : adj st d l = true := by simp only [adj, Bool.and_eq_true, decide_eq_true_eq]; split at c_43 <;> omega
            refine r_aload_n hc dX4_misfitsFrom_46 rfl ?_
            refine r_iload_n hc dX4_misfitsFrom_47 rfl ?_
            refine r_iload hc dX4_misfitsFrom_48 rfl ?_
            refine cl_X4_53 (As := [.int (nI p), .int (nI d)]) hc (c_X4_fits hK (F := F) hF hF0 (p := p) (e := d) (by omega) (by omega)) hK.1.1 rfl ⟨by decide, by decide⟩ ⟨rfl, rfl⟩ ⟨by decide, by decide⟩ rfl (Nat.le_of_ble_eq_true rfl) dX4_misfitsFrom_50 (fun r u hp => ?_)
            obtain ⟨rfl, hu⟩ := hp
            rw [hu]
            refine r_if_ne (tgt := 64) hc dX4_misfitsFrom_53 (by decide) (bI_0 _) (fun c_53 => ?_) (fun c_53 => ?_)
            ·
              have c_53 := bnf c_53
              refine r_iload hc dX4_misfitsFrom_64 rfl ?_
              refine r_istore_n (ls' := [(2, .int (nI d)), (5, .int (nI d)), (0, .ref a), (1, .int (nI x)), (3, .int (nI p)), (4, .int (nI un))]) hc dX4_misfitsFrom_66 (by decide) rfl ?_
              refine r_iinc (v := nI (p + 1)) (ls' := [(3, .int (nI (p + 1))), (2, .int (nI d)), (5, .int (nI d)), (0, .ref a), (1, .int (nI x)), (4, .int (nI un))]) hc dX4_misfitsFrom_67 rfl (ad_NN _ 1) (by decide) rfl ?_
              refine r_iload hc dX4_misfitsFrom_70 rfl ?_
              refine r_bipush (v := nI 10) hc dX4_misfitsFrom_72 rfl ?_
              refine r_idiv (v := nI (un / 10)) hc dX4_misfitsFrom_74 (nu_ne0 (by omega) (by omega)) (dv_NN _ _ (by omega) (by omega) (by omega)) ?_
              refine r_istore (ls' := [(4, .int (nI (un / 10))), (3, .int (nI (p + 1))), (2, .int (nI d)), (5, .int (nI d)), (0, .ref a), (1, .int (nI x))]) hc dX4_misfitsFrom_75 (by decide) rfl ?_
              refine r_goto (tgt := 13) hc dX4_misfitsFrom_77 (by decide) ?_
              refine r_locp [4, 5, 2, 1, 0] (ls' := [(0, .ref a), (1, .int (nI x)), (2, .int (nI d)), (3, .int (nI (p + 1))), (4, .int (nI (un / 10)))]) rfl ?_
              exact ih13 d (p + 1) (un / 10) (hm.ok hx (by omega) (by rw [hd, hq]) hadj c_53) (by omega)
            ·
              have hno : (adj st d l && (F p).testBit d) = false := by rw [c_53]; exact Bool.and_false _
              rw [hq] at hd
              refine r_iload hc dX4_misfitsFrom_56 rfl ?_
              refine r_iload_n hc dX4_misfitsFrom_58 rfl ?_
              refine r_iload hc dX4_misfitsFrom_59 rfl ?_
              obtain ⟨y, hy⟩ : ∃ y : Nat, y = x % un := ⟨_, rfl⟩
              have hyu : y < un := by rw [hy]; exact Nat.mod_lt _ (by omega)
              refine r_irem (v := nI y) hc dX4_misfitsFrom_61 (nu_ne0 (by omega) (by omega)) (by rw [hy]; exact rm_NN x un (by omega) (by omega) (by omega)) ?_
              refine r_isub (v := zI (((un : Nat) : Int) - ((y : Nat) : Int))) hc dX4_misfitsFrom_62 (sb_NN _ _) ?_
              exact hR _ _ ⟨un - y, by rw [hy]; exact MF.bad hm hx (by omega) hd hno, zn (by omega), rfl⟩ rfl _ _ dX4_misfitsFrom_63
  refine r_locp [3, 4, 2, 1, 0] (ls' := [(0, .ref a), (1, .int (nI x)), (2, .int (nI (x / 1000))), (3, .int (nI 0)), (4, .int (nI 1000))]) rfl ?_
  exact loop13 _ (x / 1000) 0 1000 (Or.inl ⟨rfl, rfl, rfl⟩) (Nat.lt_succ_self _)
set_option maxRecDepth 100000 in
set_option maxHeartbeats 4000000 in
theorem c_X4_leastJustFor {Ω : OmT} {z : Nat} {sh : Nat → Option Kd} {σ : Nat → Nat → Int32} {ρ : Nat → Nat → Option Nat} {a h : Nat} {v : Nat → Nat} (hK : KSh sh ρ a) (hH : HSh sh ρ h) (hV : HV σ h v) (hah : a + 4 ≤ h ∨ h + 34 ≤ a) (hok : okR v) {X : Nat} (hX : X < 2 ^ v 4)  : CtI Ω yX4_leastJustFor cX4_leastJustFor 5 .int rm_X4_leastJustFor [.ref a, .ref h, .int (nI X)] (z, sh, σ, ρ) (fun r u => ∃ τ : Nat → Nat → Int32, u = (z, sh, τ, ρ) ∧ r = zI (ffF (jstP v X) 10000) ∧ ∀ q, (q < a ∨ a + 4 ≤ q) → τ q = σ q) := by
  have hok1 := hok
  obtain ⟨⟨h01, h02⟩, hl1, ⟨h21, h22⟩, h3, h4, h5, h9, hdo, hke, hpn, hpd, htc⟩ := hok1
  have hdr : ∀ d, d < v 4 → v (20 + 6 * d + 2) < 10000 ∧ v (20 + 6 * d + 3) < 10000 := fun d hd => ⟨(hdo d hd).2.2.1, (hdo d hd).2.2.2⟩
  have hcu : ∀ k, k < v 5 → v (80 + 4 * k) < 10000 := fun k hk => (hke k hk).1
  have hwh : ∀ k, k < v 5 → v (80 + 4 * k + 2) ≤ 9 := fun k hk => (hke k hk).2.2
  have hky : ∀ k, k < v 5 → v (80 + 4 * k) < 10000 ∧ v (80 + 4 * k + 2) ≤ 9 ∧ 40 ≤ v (80 + 4 * k + 1) ∧ v (80 + 4 * k + 1) ≤ 90 := fun k hk => ⟨(hke k hk).1, (hke k hk).2.2, (hke k hk).2.1⟩
  have hpl : ∀ p, p < v 9 → v (150 + 3 * p) < 10 := fun p hp => by have := (hpn p hp).1; omega
  have hX0 : X < 1024 := Nat.lt_of_lt_of_le hX (Nat.pow_le_pow_right (by decide) h4 : 2 ^ v 4 ≤ 2 ^ 10)
  refine CtI.enter (by decide) (Nat.le_of_ble_eq_true rfl) (fun Φ hc hR => ?_)
  show Vw Ω Φ (z, sh, σ, ρ) (0, 0) 0 [(0, .ref a), (1, .ref h), (2, .int (nI X))] []
  refine r_aload_n hc dX4_leastJustFor_0 rfl ?_
  refine r_aload_n hc dX4_leastJustFor_1 rfl ?_
  refine r_iload_n hc dX4_leastJustFor_2 rfl ?_
  refine cl_X4_49 (As := [.ref h, .int (nI X)]) hc (c_X4_work hK hH hV hah hok hX) hK.1.1 rfl ⟨by decide, by decide⟩ ⟨rfl, rfl⟩ ⟨by decide, by decide⟩ rfl (Nat.le_of_ble_eq_true rfl) dX4_leastJustFor_3 (fun u hp => ?_)
  obtain ⟨τ0, hu, hF, hst, hfr0⟩ := hp
  rw [hu]
  have hfr : ∀ q, (q < a ∨ a + 4 ≤ q) → τ0 q = σ q := fun q hq => hfr0 q (by omega) (by omega)
  refine r_iconst (v := nI 0) hc dX4_leastJustFor_6 rfl ?_
  refine r_istore_n (ls' := [(3, .int (nI 0)), (0, .ref a), (1, .ref h), (2, .int (nI X))]) hc dX4_leastJustFor_7 (by decide) rfl ?_
  have hV : HV τ0 h v := hV.keep (fun q q1 q2 => hfr q (by omega)) h4 h5
  have loop8 : ∀ (n8 : Nat) (k : Nat), (k ≤ 10000) → (ffF (jstP v X) k = -6) → (10000 - k) < n8 → Vw Ω Φ (z, sh, τ0, ρ) (0, 0) 8 [(0, .ref a), (1, .ref h), (2, .int (nI X)), (3, .int (nI k))] [] := by
    intro n8
    induction n8 with
    | zero => intro k hk hf hm; exact absurd hm (Nat.not_lt_zero _)
    | succ n8 ih8 =>
      intro k hk hf hm8
      refine r_iload_n hc dX4_leastJustFor_8 rfl ?_
      refine r_sipush (v := nI 9999) hc dX4_leastJustFor_9 rfl ?_
      refine r_icmp_gt (tgt := 50) hc dX4_leastJustFor_12 (by decide) (lt_NN (by omega) (by omega)) (fun c_12 => ?_) (fun c_12 => ?_)
      ·
        refine r_bipush (v := zI (-6)) hc dX4_leastJustFor_50 rfl ?_
        exact hR (zI (-6)) _ ⟨τ0, rfl, (by refine congrArg zI ?_; rw [← hf, show k = 10000 by omega]), hfr⟩ rfl _ _ dX4_leastJustFor_52
      ·
        refine r_aload_n hc dX4_leastJustFor_15 rfl ?_
        refine r_iload_n hc dX4_leastJustFor_16 rfl ?_
        refine cl_X4_74 (As := [.int (nI k)]) hc (c_X4_misfitsFrom hK (st := v 0) (x := k) hst (by omega) (by omega) (F := ftA v X) hF (ftA_lt v X)) hK.1.1 rfl ⟨by decide, by decide⟩ ⟨rfl, rfl⟩ ⟨by decide, by decide⟩ rfl (Nat.le_of_ble_eq_true rfl) dX4_leastJustFor_17 (fun r u hp => ?_)
        obtain ⟨m, ⟨hm1, hm2, hm3⟩, rfl, hu⟩ := hp
        rw [hu]
        have hdb := doorsBy_lt v k h4
        refine r_istore (ls' := [(4, .int (nI m)), (0, .ref a), (1, .ref h), (2, .int (nI X)), (3, .int (nI k))]) hc dX4_leastJustFor_20 (by decide) rfl ?_
        refine r_iload hc dX4_leastJustFor_22 rfl ?_
        refine r_if_ne (tgt := 38) hc dX4_leastJustFor_24 (by decide) (e0_N (by omega)) (fun c_24 => ?_) (fun c_24 => ?_)
        ·
          have hn : ∀ j, j < max 1 m → jstP v X (k + j) = false := fun j hj => by rw [jst_pfx v X _ hX, hm3 j (by omega)]; rfl
          refine r_iload_n hc dX4_leastJustFor_38 rfl ?_
          refine r_iconst (v := nI 1) hc dX4_leastJustFor_39 rfl ?_
          refine r_iload hc dX4_leastJustFor_40 rfl ?_
          refine ma_X4_71 (v := nI (max 1 m)) hc ⟨by decide, Nat.le_of_ble_eq_true rfl⟩ ⟨by decide, by decide⟩ dX4_leastJustFor_42 (mx_NN (by omega) (by omega)) ?_
          refine r_iadd (v := nI (k + (max 1 m))) hc dX4_leastJustFor_45 (ad_NN _ _) ?_
          refine r_istore_n (ls' := [(3, .int (nI (k + (max 1 m)))), (4, .int (nI m)), (0, .ref a), (1, .ref h), (2, .int (nI X))]) hc dX4_leastJustFor_46 (by decide) rfl ?_
          refine r_goto (tgt := 8) hc dX4_leastJustFor_47 (by decide) ?_
          refine r_locp [2, 3, 4, 0] (ls' := [(0, .ref a), (1, .ref h), (2, .int (nI X)), (3, .int (nI (k + (max 1 m))))]) rfl ?_
          exact ih8 (k + (max 1 m)) (by omega) (ffF_skip _ k _ hf hn) (by omega)
        ·
          refine r_aload_n hc dX4_leastJustFor_27 rfl ?_
          refine r_iload_n hc dX4_leastJustFor_28 rfl ?_
          refine cl_X4_77 (As := [.int (nI k)]) hc (c_X2_doorsOpenedBy hH hV (c := k) (by omega) (by omega) hdr) (HS0 hH) rfl ⟨by decide, by decide⟩ ⟨rfl, rfl⟩ ⟨by decide, by decide⟩ rfl (Nat.le_of_ble_eq_true rfl) dX4_leastJustFor_29 (fun r u hp => ?_)
          obtain ⟨rfl, hu⟩ := hp
          rw [hu]
          refine r_iload_n hc dX4_leastJustFor_32 rfl ?_
          refine r_icmp_ne (tgt := 38) hc dX4_leastJustFor_33 (by decide) (eq_NN (by omega) (by omega)) (fun c_33 => ?_) (fun c_33 => ?_)
          ·
            have hn : ∀ j, j < max 1 m → jstP v X (k + j) = false := fun j hj => by rw [show k + j = k by omega, jst_pfx v X _ hX, decide_eq_false (by omega), Bool.and_false]
            refine r_iload_n hc dX4_leastJustFor_38 rfl ?_
            refine r_iconst (v := nI 1) hc dX4_leastJustFor_39 rfl ?_
            refine r_iload hc dX4_leastJustFor_40 rfl ?_
            refine ma_X4_71 (v := nI (max 1 m)) hc ⟨by decide, Nat.le_of_ble_eq_true rfl⟩ ⟨by decide, by decide⟩ dX4_leastJustFor_42 (mx_NN (by omega) (by omega)) ?_
            refine r_iadd (v := nI (k + (max 1 m))) hc dX4_leastJustFor_45 (ad_NN _ _) ?_
            refine r_istore_n (ls' := [(3, .int (nI (k + (max 1 m)))), (4, .int (nI m)), (0, .ref a), (1, .ref h), (2, .int (nI X))]) hc dX4_leastJustFor_46 (by decide) rfl ?_
            refine r_goto (tgt := 8) hc dX4_leastJustFor_47 (by decide) ?_
            refine r_locp [2, 3, 4, 0] (ls' := [(0, .ref a), (1, .ref h), (2, .int (nI X)), (3, .int (nI (k + (max 1 m))))]) rfl ?_
            exact ih8 (k + (max 1 m)) (by omega) (ffF_skip _ k _ hf hn) (by omega)
          ·
            refine r_iload_n hc dX4_leastJustFor_36 rfl ?_
            exact hR _ _ ⟨τ0, rfl, (by rw [nz]; refine congrArg zI ?_; exact (ffF_hit _ k (by omega) hf (by rw [jst_pfx v X k hX, hm2 (by omega), decide_eq_true (by omega)]; rfl)).symm), hfr⟩ rfl _ _ dX4_leastJustFor_37
  refine r_locp [1, 2, 3, 0] (ls' := [(0, .ref a), (1, .ref h), (2, .int (nI X)), (3, .int (nI 0))]) rfl ?_
  exact loop8 _ 0 (by omega) rfl (Nat.lt_succ_self _)
