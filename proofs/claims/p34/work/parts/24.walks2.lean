/-! ===== as in whole: walks2 ===== -/
def WSh (sh : Nat → Option Kd) (ρ : Nat → Nat → Option Nat) (a : Nat) : Prop := (sh a = some (.inl 9) ∧ sh (a + 1) = some (.inr (0, 10)) ∧ sh (a + 2) = some (.inr (0, 8)) ∧ sh (a + 3) = some (.inr (0, 2048)) ∧ sh (a + 4) = some (.inr (1, 2048))) ∧ ρ a 0 = some (a + 1) ∧ ρ a 1 = some (a + 2) ∧ ρ a 2 = some (a + 3) ∧ ρ a 3 = some (a + 4)
/-- what its work knows of the house -/
def WKn (τ : Nat → Nat → Int32) (a : Nat) (v : Nat → Nat) : Prop := τ a 4 = nI (keysAt v 8) ∧ rowAt τ (a + 1) (v 4) (keysFor v) ∧ rowAt τ (a + 2) 8 (keysAt v)
theorem WKn.keep {τ τ2 : Nat → Nat → Int32} {a : Nat} {v : Nat → Nat} (h : WKn τ a v) (e0 : τ2 a 4 = τ a 4) (e1 : τ2 (a + 1) = τ (a + 1)) (e2 : τ2 (a + 2) = τ (a + 2)) : WKn τ2 a v := ⟨e0.trans h.1, h.2.1.sig e1, h.2.2.sig e2⟩
/-- the queue, and what was seen -/
def WQu (τ : Nat → Nat → Int32) (a : Nat) (s : BfT) : Prop := rowAt τ (a + 3) s.2.1 s.1 ∧ (∀ x, x < 2048 → τ (a + 4) x = bI (decide (0 ≤ s.2.2 x))) ∧ τ a 5 = nI s.2.1
theorem and7 (a : Nat) : a &&& 7 = a % 8 := Nat.and_two_pow_sub_one_eq_mod a 3
theorem pack8 {a r : Nat} (hr : r < 8) : a * 2 ^ 3 ||| r = 8 * a + r := by
  rw [Nat.mul_comm, ← Nat.two_pow_add_eq_or_of_lt (i := 3) (by omega)]
theorem bI_at {f : Nat → Int} {y x : Nat} {e : Int} (he : 0 ≤ e) (g : Int32) (h : y ≠ x → g = bI (decide (0 ≤ f y))) (h2 : y = x → g = nI 1) : g = bI (decide (0 ≤ fI_up f x e y)) := by
  by_cases q : y = x
  · rw [h2 q, q, fI_at, decide_eq_true he]; rfl
  · rw [h q, fI_off q]
theorem WQu.enq {τ : Nat → Nat → Int32} {a : Nat} {s : BfT} (h : WQu τ a s) {x : Nat} {e : Int} (he : 0 ≤ e) (hx : s.2.2 x < 0) : WQu (s2 (s2 (s2 τ (a + 4) x (nI 1)) (a + 3) s.2.1 (nI x)) a 5 (nI (s.2.1 + 1))) a (bfE s x e) := by
  obtain ⟨h1, h2, h3⟩ := h
  unfold bfE
  rw [if_pos hx]
  refine ⟨?_, fun y hy => ?_, s2_same _ _ _ _⟩
  · intro j hj
    have hj2 : j < s.2.1 + 1 := hj
    show s2 (s2 (s2 τ (a + 4) x (nI 1)) (a + 3) s.2.1 (nI x)) a 5 (nI (s.2.1 + 1)) (a + 3) j = nI (va_up s.1 s.2.1 x j)
    rw [s2_na (by omega)]
    by_cases q : j = s.2.1
    · subst q; rw [s2_same, va_up_at]
    · rw [s2_nk q, s2_na (by omega), va_up_off q]; exact h1 j (by omega)
  · show s2 (s2 (s2 τ (a + 4) x (nI 1)) (a + 3) s.2.1 (nI x)) a 5 (nI (s.2.1 + 1)) (a + 4) y = bI (decide (0 ≤ fI_up s.2.2 x e y))
    rw [s2_na (by omega), s2_na (by omega)]
    refine bI_at he _ (fun q => ?_) (fun q => ?_)
    · rw [s2_nk q]; exact h2 y hy
    · subst q; exact s2_same _ _ _ _
set_option maxRecDepth 100000 in
set_option maxHeartbeats 4000000 in
theorem c_X10_work {Ω : OmT} {z : Nat} {sh : Nat → Option Kd} {σ : Nat → Nat → Int32} {ρ : Nat → Nat → Option Nat} {a : Nat} (hK : WSh sh ρ a) {h : Nat} {v : Nat → Nat} (hH : HSh sh ρ h) (hV : HV σ h v) (hah : a + 5 ≤ h ∨ h + 34 ≤ a) (hok : okR v)  : CtV Ω yX10_work cX10_work 3 rm_X10_work [.ref a, .ref h] (z, sh, σ, ρ) (fun u => ∃ τ : Nat → Nat → Int32, u = (z, sh, τ, ρ) ∧ WKn τ a v ∧ ∀ q, (q < a ∨ a + 5 ≤ q) → τ q = σ q) := by
  have hok1 := hok
  obtain ⟨⟨h01, h02⟩, hl1, ⟨h21, h22⟩, h3, h4, h5, h9, hdo, hke, hpn, hpd, htc⟩ := hok1
  have hdr : ∀ d, d < v 4 → v (20 + 6 * d + 2) < 10000 ∧ v (20 + 6 * d + 3) < 10000 := fun d hd => ⟨(hdo d hd).2.2.1, (hdo d hd).2.2.2⟩
  have hcu : ∀ k, k < v 5 → v (80 + 4 * k) < 10000 := fun k hk => (hke k hk).1
  have hwh : ∀ k, k < v 5 → v (80 + 4 * k + 2) ≤ 9 := fun k hk => (hke k hk).2.2
  have hky : ∀ k, k < v 5 → v (80 + 4 * k) < 10000 ∧ v (80 + 4 * k + 2) ≤ 9 ∧ 40 ≤ v (80 + 4 * k + 1) ∧ v (80 + 4 * k + 1) ≤ 90 := fun k hk => ⟨(hke k hk).1, (hke k hk).2.2, (hke k hk).2.1⟩
  have hpl : ∀ p, p < v 9 → v (150 + 3 * p) < 10 := fun p hp => by have := (hpn p hp).1; omega
  have hV0 := hV
  refine CtV.enter (by decide) (Nat.le_of_ble_eq_true rfl) (fun Φ hc hi hR => ?_)
  show Vw Ω Φ (z, sh, σ, ρ) (0, 0) 0 [(0, .ref a), (1, .ref h)] []
  refine r_aload_n hc dX10_work_0 rfl ?_
  refine r_aload_n hc dX10_work_1 rfl ?_
  refine r_bipush (v := nI 8) hc dX10_work_2 rfl ?_
  refine cl_X10_25 (As := [.int (nI 8)]) hc (c_X2_keysAt hH hV (r := 8) (by omega) (by omega) hwh) (HS0 hH) rfl ⟨by decide, by decide⟩ ⟨rfl, rfl⟩ ⟨by decide, by decide⟩ rfl (Nat.le_of_ble_eq_true rfl) dX10_work_4 (fun r u hp => ?_)
  obtain ⟨rfl, hu⟩ := hp
  rw [hu]
  refine pf_X10_31 hc hK.1.1 dX10_work_7 ?_
  generalize hσ1 : s2 σ a 4 (nI (keysAt v 8)) = σ1
  have hV : HV σ1 h v := by rw [← hσ1]; exact hV.dead (by omega) (by omega) (by right; right; right; omega)
  refine r_iconst (v := nI 0) hc dX10_work_10 rfl ?_
  refine r_istore_n (ls' := [(2, .int (nI 0)), (0, .ref a), (1, .ref h)]) hc dX10_work_11 (by decide) rfl ?_
  have loop12 : ∀ (n12 : Nat) (τ : Nat → Nat → Int32) (k : Nat), (k ≤ v 4) → (rowAt τ (a + 1) k (keysFor v)) → (τ a 4 = nI (keysAt v 8)) → (∀ q, (q < a ∨ a + 5 ≤ q) → τ q = σ q) → (v 4 - k) < n12 → Vw Ω Φ (z, sh, τ, ρ) (0, 0) 12 [(0, .ref a), (1, .ref h), (2, .int (nI k))] [] := by
    intro n12
    induction n12 with
    | zero => intro τ k hk hg hca hfr hm; exact absurd hm (Nat.not_lt_zero _)
    | succ n12 ih12 =>
      intro τ k hk hg hca hfr hm12
      have hV : HV τ h v := hV0.keep (fun q q1 q2 => hfr q (by omega)) h4 h5
      refine r_iload_n hc dX10_work_12 rfl ?_
      refine r_aload_n hc dX10_work_13 rfl ?_
      refine gf_X10_35 (x := nI (v 4)) hc (HS0 hH) (HV4 hV) dX10_work_14 ?_
      refine r_icmp_ge (tgt := 37) hc dX10_work_17 (by decide) (le_NN (by omega) (by omega)) (fun c_17 => ?_) (fun c_17 => ?_)
      ·
        refine r_iconst (v := nI 0) hc dX10_work_37 rfl ?_
        refine r_istore_n (ls' := [(2, .int (nI 0)), (0, .ref a), (1, .ref h)]) hc dX10_work_38 (by decide) rfl ?_
        have loop39 : ∀ (n39 : Nat) (τ : Nat → Nat → Int32) (k : Nat), (k ≤ 8) → (rowAt τ (a + 2) k (keysAt v)) → (rowAt τ (a + 1) (v 4) (keysFor v)) → (τ a 4 = nI (keysAt v 8)) → (∀ q, (q < a ∨ a + 5 ≤ q) → τ q = σ q) → (8 - k) < n39 → Vw Ω Φ (z, sh, τ, ρ) (0, 0) 39 [(0, .ref a), (1, .ref h), (2, .int (nI k))] [] := by
          intro n39
          induction n39 with
          | zero => intro τ k hk hg hop hca hfr hm; exact absurd hm (Nat.not_lt_zero _)
          | succ n39 ih39 =>
            intro τ k hk hg hop hca hfr hm39
            have hV : HV τ h v := hV0.keep (fun q q1 q2 => hfr q (by omega)) h4 h5
            refine r_iload_n hc dX10_work_39 rfl ?_
            refine r_bipush (v := nI 8) hc dX10_work_40 rfl ?_
            refine r_icmp_ge (tgt := 62) hc dX10_work_42 (by decide) (le_NN (by omega) (by omega)) (fun c_42 => ?_) (fun c_42 => ?_)
            ·
              exact hR _ ⟨_, rfl, ⟨hca, hop, by rw [show k = 8 by omega] at hg; exact hg⟩, hfr⟩ _ _ dX10_work_62
            ·
              refine r_aload_n hc dX10_work_45 rfl ?_
              refine gf_X10_15 (q := a + 2) hc hK.1.1 hK.2.2.1 dX10_work_46 ?_
              refine r_iload_n hc dX10_work_49 rfl ?_
              refine r_aload_n hc dX10_work_50 rfl ?_
              refine r_iload_n hc dX10_work_51 rfl ?_
              refine cl_X10_25 (As := [.int (nI k)]) hc (c_X2_keysAt hH hV (r := k) (by omega) (by omega) hwh) (HS0 hH) rfl ⟨by decide, by decide⟩ ⟨rfl, rfl⟩ ⟨by decide, by decide⟩ rfl (Nat.le_of_ble_eq_true rfl) dX10_work_52 (fun r u hp => ?_)
              obtain ⟨rfl, hu⟩ := hp
              rw [hu]
              refine r_iast (j := k) hc hK.1.2.2.1 rfl (by omega) (by decide) dX10_work_55 ?_
              generalize hσ2 : s2 τ (a + 2) k (nI (keysAt v k)) = σ2
              have hV : HV σ2 h v := by rw [← hσ2]; exact hV.dead (by omega) (by omega) (by right; right; right; omega)
              have hca : σ2 a 4 = nI (keysAt v 8) := by rw [← hσ2]; exact s2_keep hca (by omega)
              have hop : rowAt σ2 (a + 1) (v 4) (keysFor v) := by rw [← hσ2]; exact hop.keep (by omega) _ _
              refine r_iinc (v := nI (k + 1)) (ls' := [(2, .int (nI (k + 1))), (0, .ref a), (1, .ref h)]) hc dX10_work_56 rfl (ad_NN _ 1) (by decide) rfl ?_
              refine r_goto (tgt := 39) hc dX10_work_59 (by decide) ?_
              refine r_locp [1, 2, 0] (ls' := [(0, .ref a), (1, .ref h), (2, .int (nI (k + 1)))]) rfl ?_
              exact ih39 σ2 (k + 1) (by omega) (by rw [← hσ2]; exact hg.ext1 _ rfl) hop hca (fun q hq => by rw [← hσ2, s2_ne (show q ≠ a + 2 by omega)]; exact hfr q hq) (by omega)
        refine r_locp [1, 2, 0] (ls' := [(0, .ref a), (1, .ref h), (2, .int (nI 0))]) rfl ?_
        exact loop39 _ τ 0 (by omega) rowAt.zero (by rw [show k = v 4 by omega] at hg; exact hg) hca hfr (Nat.lt_succ_self _)
      ·
        refine r_aload_n hc dX10_work_20 rfl ?_
        refine gf_X10_9 (q := a + 1) hc hK.1.1 hK.2.1 dX10_work_21 ?_
        refine r_iload_n hc dX10_work_24 rfl ?_
        refine r_aload_n hc dX10_work_25 rfl ?_
        refine r_iload_n hc dX10_work_26 rfl ?_
        refine cl_X10_38 (As := [.int (nI k)]) hc (c_X2_keysOpening hH hV (d := k) (by omega) (by omega) (by omega) hdr hcu hwh) (HS0 hH) rfl ⟨by decide, by decide⟩ ⟨rfl, rfl⟩ ⟨by decide, by decide⟩ rfl (Nat.le_of_ble_eq_true rfl) dX10_work_27 (fun r u hp => ?_)
        obtain ⟨rfl, hu⟩ := hp
        rw [hu]
        refine r_iast (j := k) hc hK.1.2.1 rfl (by omega) (by decide) dX10_work_30 ?_
        generalize hσ3 : s2 τ (a + 1) k (nI (keysFor v k)) = σ3
        have hV : HV σ3 h v := by rw [← hσ3]; exact hV.dead (by omega) (by omega) (by right; right; right; omega)
        have hca : σ3 a 4 = nI (keysAt v 8) := by rw [← hσ3]; exact s2_keep hca (by omega)
        refine r_iinc (v := nI (k + 1)) (ls' := [(2, .int (nI (k + 1))), (0, .ref a), (1, .ref h)]) hc dX10_work_31 rfl (ad_NN _ 1) (by decide) rfl ?_
        refine r_goto (tgt := 12) hc dX10_work_34 (by decide) ?_
        refine r_locp [1, 2, 0] (ls' := [(0, .ref a), (1, .ref h), (2, .int (nI (k + 1)))]) rfl ?_
        exact ih12 σ3 (k + 1) (by omega) (by rw [← hσ3]; exact hg.ext1 _ rfl) hca (fun q hq => by rw [← hσ3, s2_ne (show q ≠ a + 1 by omega)]; exact hfr q hq) (by omega)
  refine r_locp [1, 2, 0] (ls' := [(0, .ref a), (1, .ref h), (2, .int (nI 0))]) rfl ?_
  exact loop12 _ σ1 0 (by omega) rowAt.zero (by rw [← hσ1]; exact s2_same _ _ _ _) (fun q hq => by rw [← hσ1, s2_ne (show q ≠ a by omega)]) (Nat.lt_succ_self _)
set_option maxRecDepth 100000 in
set_option maxHeartbeats 4000000 in
theorem c_X10_keysAfter {Ω : OmT} {z : Nat} {sh : Nat → Option Kd} {σ : Nat → Nat → Int32} {ρ : Nat → Nat → Option Nat} {a : Nat} (hK : WSh sh ρ a) {v : Nat → Nat} (hKn : WKn σ a v) {rm : Nat} (hrm : rm < 256) : CtI Ω yX10_keysAfter cX10_keysAfter 4 .int rm_X10_keysAfter [.ref a, .int (nI rm)] (z, sh, σ, ρ) (fun r u => r = nI (ksOf v rm) ∧ u = (z, sh, σ, ρ)) := by
  obtain ⟨hca, hop, hki⟩ := hKn
  refine CtI.enter (by decide) (Nat.le_of_ble_eq_true rfl) (fun Φ hc hR => ?_)
  show Vw Ω Φ (z, sh, σ, ρ) (0, 0) 0 [(0, .ref a), (1, .int (nI rm))] []
  refine r_aload_n hc dX10_keysAfter_0 rfl ?_
  refine gf_X10_31 (x := nI (keysAt v 8)) hc hK.1.1 hca dX10_keysAfter_1 ?_
  refine r_istore_n (ls' := [(2, .int (nI (keysAt v 8))), (0, .ref a), (1, .int (nI rm))]) hc dX10_keysAfter_4 (by decide) rfl ?_
  refine r_iconst (v := nI 0) hc dX10_keysAfter_5 rfl ?_
  refine r_istore_n (ls' := [(3, .int (nI 0)), (2, .int (nI (keysAt v 8))), (0, .ref a), (1, .int (nI rm))]) hc dX10_keysAfter_6 (by decide) rfl ?_
  have loop7 : ∀ (n7 : Nat) (x : Nat) (k : Nat), (k ≤ 8) → (x = ksF v rm k) → (8 - k) < n7 → Vw Ω Φ (z, sh, σ, ρ) (0, 0) 7 [(0, .ref a), (1, .int (nI rm)), (2, .int (nI x)), (3, .int (nI k))] [] := by
    intro n7
    induction n7 with
    | zero => intro x k hk hf hm; exact absurd hm (Nat.not_lt_zero _)
    | succ n7 ih7 =>
      intro x k hk hf hm7
      refine r_iload_n hc dX10_keysAfter_7 rfl ?_
      refine r_bipush (v := nI 8) hc dX10_keysAfter_8 rfl ?_
      refine r_icmp_ge (tgt := 36) hc dX10_keysAfter_10 (by decide) (le_NN (by omega) (by omega)) (fun c_10 => ?_) (fun c_10 => ?_)
      ·
        refine r_iload_n hc dX10_keysAfter_36 rfl ?_
        exact hR _ _ ⟨congrArg nI (by rw [hf, show k = 8 by omega]; rfl), rfl⟩ rfl _ _ dX10_keysAfter_37
      ·
        refine r_iload_n hc dX10_keysAfter_13 rfl ?_
        refine r_iload_n hc dX10_keysAfter_14 rfl ?_
        refine r_ishr (v := nI (rm / 2 ^ k)) hc dX10_keysAfter_15 (sr_NN _ _ (by omega) (by omega)) ?_
        refine r_iconst (v := nI 1) hc dX10_keysAfter_16 rfl ?_
        refine r_iand (v := nI ((rm / 2 ^ k) &&& 1)) hc dX10_keysAfter_17 (an_NN _ _) ?_
        refine r_if_eq (tgt := 30) hc dX10_keysAfter_18 (by decide) (e0_N (Nat.lt_of_le_of_lt Nat.and_le_right (by decide))) (fun c_18 => ?_) (fun c_18 => ?_)
        ·
          refine r_iinc (v := nI (k + 1)) (ls' := [(3, .int (nI (k + 1))), (0, .ref a), (1, .int (nI rm)), (2, .int (nI x))]) hc dX10_keysAfter_30 rfl (ad_NN _ 1) (by decide) rfl ?_
          refine r_goto (tgt := 7) hc dX10_keysAfter_33 (by decide) ?_
          refine r_locp [1, 2, 3, 0] (ls' := [(0, .ref a), (1, .int (nI rm)), (2, .int (nI x)), (3, .int (nI (k + 1)))]) rfl ?_
          exact ih7 x (k + 1) (by omega) (by rw [ksF, if_neg (fun q => (tb_0 rm k).mpr q c_18), ← hf, Nat.or_zero]) (by omega)
        ·
          refine r_iload_n hc dX10_keysAfter_21 rfl ?_
          refine r_aload_n hc dX10_keysAfter_22 rfl ?_
          refine gf_X10_15 (q := a + 2) hc hK.1.1 hK.2.2.1 dX10_keysAfter_23 ?_
          refine r_iload_n hc dX10_keysAfter_26 rfl ?_
          refine r_iald (x := nI ((keysAt v) k)) (j := k) hc hK.1.2.2.1 rfl (by omega) (by decide) (hki _ (by omega)) dX10_keysAfter_27 ?_
          refine r_ior (v := nI (x ||| ((keysAt v) k))) hc dX10_keysAfter_28 (or_NN _ _) ?_
          refine r_istore_n (ls' := [(2, .int (nI (x ||| ((keysAt v) k)))), (0, .ref a), (1, .int (nI rm)), (3, .int (nI k))]) hc dX10_keysAfter_29 (by decide) rfl ?_
          refine r_iinc (v := nI (k + 1)) (ls' := [(3, .int (nI (k + 1))), (2, .int (nI (x ||| ((keysAt v) k)))), (0, .ref a), (1, .int (nI rm))]) hc dX10_keysAfter_30 rfl (ad_NN _ 1) (by decide) rfl ?_
          refine r_goto (tgt := 7) hc dX10_keysAfter_33 (by decide) ?_
          refine r_locp [2, 3, 1, 0] (ls' := [(0, .ref a), (1, .int (nI rm)), (2, .int (nI (x ||| ((keysAt v) k)))), (3, .int (nI (k + 1)))]) rfl ?_
          exact ih7 (x ||| ((keysAt v) k)) (k + 1) (by omega) (by rw [ksF, if_pos ((tb_0 rm k).mp c_18), ← hf]) (by omega)
  refine r_locp [2, 3, 1, 0] (ls' := [(0, .ref a), (1, .int (nI rm)), (2, .int (nI (keysAt v 8))), (3, .int (nI 0))]) rfl ?_
  exact loop7 _ (keysAt v 8) 0 (by omega) rfl (Nat.lt_succ_self _)
set_option maxRecDepth 100000 in
set_option maxHeartbeats 4000000 in
theorem c_X10_roomsBeyond {Ω : OmT} {z : Nat} {sh : Nat → Option Kd} {σ : Nat → Nat → Int32} {ρ : Nat → Nat → Option Nat} {a : Nat} (hK : WSh sh ρ a) {h : Nat} {v : Nat → Nat} (hH : HSh sh ρ h) (hV : HV σ h v) (hah : a + 5 ≤ h ∨ h + 34 ≤ a) (hok : okR v) (hKn : WKn σ a v) {rm : Nat} (hrm : rm < 256) : CtI Ω yX10_roomsBeyond cX10_roomsBeyond 7 .int rm_X10_roomsBeyond [.ref a, .ref h, .int (nI rm)] (z, sh, σ, ρ) (fun r u => r = nI (beyF v rm (v 4)) ∧ u = (z, sh, σ, ρ)) := by
  have hok1 := hok
  obtain ⟨⟨h01, h02⟩, hl1, ⟨h21, h22⟩, h3, h4, h5, h9, hdo, hke, hpn, hpd, htc⟩ := hok1
  have hdr : ∀ d, d < v 4 → v (20 + 6 * d + 2) < 10000 ∧ v (20 + 6 * d + 3) < 10000 := fun d hd => ⟨(hdo d hd).2.2.1, (hdo d hd).2.2.2⟩
  have hcu : ∀ k, k < v 5 → v (80 + 4 * k) < 10000 := fun k hk => (hke k hk).1
  have hwh : ∀ k, k < v 5 → v (80 + 4 * k + 2) ≤ 9 := fun k hk => (hke k hk).2.2
  have hky : ∀ k, k < v 5 → v (80 + 4 * k) < 10000 ∧ v (80 + 4 * k + 2) ≤ 9 ∧ 40 ≤ v (80 + 4 * k + 1) ∧ v (80 + 4 * k + 1) ≤ 90 := fun k hk => ⟨(hke k hk).1, (hke k hk).2.2, (hke k hk).2.1⟩
  have hpl : ∀ p, p < v 9 → v (150 + 3 * p) < 10 := fun p hp => by have := (hpn p hp).1; omega
  have hKn1 := hKn
  obtain ⟨hca, hop, hki⟩ := hKn1
  refine CtI.enter (by decide) (Nat.le_of_ble_eq_true rfl) (fun Φ hc hR => ?_)
  show Vw Ω Φ (z, sh, σ, ρ) (0, 0) 0 [(0, .ref a), (1, .ref h), (2, .int (nI rm))] []
  refine r_aload_n hc dX10_roomsBeyond_0 rfl ?_
  refine r_iload_n hc dX10_roomsBeyond_1 rfl ?_
  refine cl_X10_52 (As := [.int (nI rm)]) hc (c_X10_keysAfter hK (v := v) hKn (rm := rm) (by omega)) hK.1.1 rfl ⟨by decide, by decide⟩ ⟨rfl, rfl⟩ ⟨by decide, by decide⟩ rfl (Nat.le_of_ble_eq_true rfl) dX10_roomsBeyond_2 (fun r u hp => ?_)
  obtain ⟨rfl, hu⟩ := hp
  rw [hu]
  refine r_istore_n (ls' := [(3, .int (nI (ksOf v rm))), (0, .ref a), (1, .ref h), (2, .int (nI rm))]) hc dX10_roomsBeyond_5 (by decide) rfl ?_
  refine r_iconst (v := nI 0) hc dX10_roomsBeyond_6 rfl ?_
  refine r_istore (ls' := [(4, .int (nI 0)), (3, .int (nI (ksOf v rm))), (0, .ref a), (1, .ref h), (2, .int (nI rm))]) hc dX10_roomsBeyond_7 (by decide) rfl ?_
  refine r_iconst (v := nI 0) hc dX10_roomsBeyond_9 rfl ?_
  refine r_istore (ls' := [(5, .int (nI 0)), (4, .int (nI 0)), (3, .int (nI (ksOf v rm))), (0, .ref a), (1, .ref h), (2, .int (nI rm))]) hc dX10_roomsBeyond_10 (by decide) rfl ?_
  have loop12 : ∀ (n12 : Nat) (x : Nat) (k : Nat), (k ≤ v 4) → (x = beyF v rm k) → (v 4 - k) < n12 → Vw Ω Φ (z, sh, σ, ρ) (0, 0) 12 [(0, .ref a), (1, .ref h), (2, .int (nI rm)), (3, .int (nI (ksOf v rm))), (4, .int (nI x)), (5, .int (nI k))] [] := by
    intro n12
    induction n12 with
    | zero => intro x k hk hf hm; exact absurd hm (Nat.not_lt_zero _)
    | succ n12 ih12 =>
      intro x k hk hf hm12
      refine r_iload hc dX10_roomsBeyond_12 rfl ?_
      refine r_aload_n hc dX10_roomsBeyond_14 rfl ?_
      refine gf_X10_35 (x := nI (v 4)) hc (HS0 hH) (HV4 hV) dX10_roomsBeyond_15 ?_
      refine r_icmp_ge (tgt := 80) hc dX10_roomsBeyond_18 (by decide) (le_NN (by omega) (by omega)) (fun c_18 => ?_) (fun c_18 => ?_)
      ·
        refine r_iload hc dX10_roomsBeyond_80 rfl ?_
        exact hR _ _ ⟨congrArg nI (by rw [hf, show k = v 4 by omega]), rfl⟩ rfl _ _ dX10_roomsBeyond_82
      ·
        have hdk := hdo k (by omega)
        have hks := ksF_lt v rm 8 h5
        refine r_iconst (v := nI 1) hc dX10_roomsBeyond_21 rfl ?_
        refine r_aload_n hc dX10_roomsBeyond_22 rfl ?_
        refine gf_X10_55 (q := h + 2) hc (HS0 hH) (HR0 hH 1 2 (by decide)) dX10_roomsBeyond_23 ?_
        refine r_iload hc dX10_roomsBeyond_26 rfl ?_
        refine al_3 (r := h + 8 + k) (j := k) hc (HSa hH 2 _ rfl) rfl (by omega) (by decide) (HRd hH (by omega)) dX10_roomsBeyond_28 ?_
        refine gf_X10_59 (x := nI (v (20 + 6 * k))) hc (HSd hH (by omega)) (HVd hV (by omega) 0 (by decide)) dX10_roomsBeyond_29 ?_
        refine r_ishl (v := nI (2 ^ (v (20 + 6 * k)))) hc dX10_roomsBeyond_32 (sl_1 _ (by omega)) ?_
        refine r_iconst (v := nI 1) hc dX10_roomsBeyond_33 rfl ?_
        refine r_aload_n hc dX10_roomsBeyond_34 rfl ?_
        refine gf_X10_55 (q := h + 2) hc (HS0 hH) (HR0 hH 1 2 (by decide)) dX10_roomsBeyond_35 ?_
        refine r_iload hc dX10_roomsBeyond_38 rfl ?_
        refine al_3 (r := h + 8 + k) (j := k) hc (HSa hH 2 _ rfl) rfl (by omega) (by decide) (HRd hH (by omega)) dX10_roomsBeyond_40 ?_
        refine gf_X10_64 (x := nI (v (20 + 6 * k + 1))) hc (HSd hH (by omega)) (HVd hV (by omega) 1 (by decide)) dX10_roomsBeyond_41 ?_
        refine r_ishl (v := nI (2 ^ (v (20 + 6 * k + 1)))) hc dX10_roomsBeyond_44 (sl_1 _ (by omega)) ?_
        refine r_ior (v := nI ((2 ^ (v (20 + 6 * k))) ||| (2 ^ (v (20 + 6 * k + 1))))) hc dX10_roomsBeyond_45 (or_NN _ _) ?_
        refine r_istore (ls' := [(6, .int (nI ((2 ^ (v (20 + 6 * k))) ||| (2 ^ (v (20 + 6 * k + 1)))))), (0, .ref a), (1, .ref h), (2, .int (nI rm)), (3, .int (nI (ksOf v rm))), (4, .int (nI x)), (5, .int (nI k))]) hc dX10_roomsBeyond_46 (by decide) rfl ?_
        refine r_aload_n hc dX10_roomsBeyond_48 rfl ?_
        refine gf_X10_9 (q := a + 1) hc hK.1.1 hK.2.1 dX10_roomsBeyond_49 ?_
        refine r_iload hc dX10_roomsBeyond_52 rfl ?_
        refine r_iald (x := nI ((keysFor v) k)) (j := k) hc hK.1.2.1 rfl (by omega) (by decide) (hop _ (by omega)) dX10_roomsBeyond_54 ?_
        refine r_iload_n hc dX10_roomsBeyond_55 rfl ?_
        refine r_iand (v := nI (((keysFor v) k) &&& (ksOf v rm))) hc dX10_roomsBeyond_56 (an_NN _ _) ?_
        refine r_if_eq (tgt := 74) hc dX10_roomsBeyond_57 (by decide) (e0_N (Nat.lt_of_le_of_lt Nat.and_le_right (Nat.lt_of_lt_of_le hks (by omega)))) (fun c_57 => ?_) (fun c_57 => ?_)
        ·
          refine r_iinc (v := nI (k + 1)) (ls' := [(5, .int (nI (k + 1))), (6, .int (nI ((2 ^ (v (20 + 6 * k))) ||| (2 ^ (v (20 + 6 * k + 1)))))), (0, .ref a), (1, .ref h), (2, .int (nI rm)), (3, .int (nI (ksOf v rm))), (4, .int (nI x))]) hc dX10_roomsBeyond_74 rfl (ad_NN _ 1) (by decide) rfl ?_
          refine r_goto (tgt := 12) hc dX10_roomsBeyond_77 (by decide) ?_
          refine r_locp [2, 3, 4, 5, 6, 0] (ls' := [(0, .ref a), (1, .ref h), (2, .int (nI rm)), (3, .int (nI (ksOf v rm))), (4, .int (nI x)), (5, .int (nI (k + 1)))]) rfl ?_
          exact ih12 x (k + 1) (by omega) (by rw [beyF, if_neg (by unfold goesR; rw [Bool.and_eq_true]; exact fun q => keys_iff.mp q.2 c_57), ← hf, Nat.or_zero]) (by omega)
        ·
          refine r_iload hc dX10_roomsBeyond_60 rfl ?_
          refine r_iload_n hc dX10_roomsBeyond_62 rfl ?_
          refine r_iand (v := nI (((2 ^ (v (20 + 6 * k))) ||| (2 ^ (v (20 + 6 * k + 1)))) &&& rm)) hc dX10_roomsBeyond_63 (an_NN _ _) ?_
          refine r_if_eq (tgt := 74) hc dX10_roomsBeyond_64 (by decide) (e0_N (Nat.lt_of_le_of_lt Nat.and_le_right (by omega))) (fun c_64 => ?_) (fun c_64 => ?_)
          ·
            refine r_iinc (v := nI (k + 1)) (ls' := [(5, .int (nI (k + 1))), (6, .int (nI ((2 ^ (v (20 + 6 * k))) ||| (2 ^ (v (20 + 6 * k + 1)))))), (0, .ref a), (1, .ref h), (2, .int (nI rm)), (3, .int (nI (ksOf v rm))), (4, .int (nI x))]) hc dX10_roomsBeyond_74 rfl (ad_NN _ 1) (by decide) rfl ?_
            refine r_goto (tgt := 12) hc dX10_roomsBeyond_77 (by decide) ?_
            refine r_locp [2, 3, 4, 5, 6, 0] (ls' := [(0, .ref a), (1, .ref h), (2, .int (nI rm)), (3, .int (nI (ksOf v rm))), (4, .int (nI x)), (5, .int (nI (k + 1)))]) rfl ?_
            exact ih12 x (k + 1) (by omega) (by rw [beyF, if_neg (by unfold goesR; rw [decide_eq_false (show ¬ ¬ rm &&& bothR v k = 0 from fun q => q (by rw [Nat.and_comm]; exact c_64))]; simp), ← hf, Nat.or_zero]) (by omega)
          ·
            refine r_iload hc dX10_roomsBeyond_67 rfl ?_
            refine r_iload hc dX10_roomsBeyond_69 rfl ?_
            refine r_ior (v := nI (x ||| ((2 ^ (v (20 + 6 * k))) ||| (2 ^ (v (20 + 6 * k + 1)))))) hc dX10_roomsBeyond_71 (or_NN _ _) ?_
            refine r_istore (ls' := [(4, .int (nI (x ||| ((2 ^ (v (20 + 6 * k))) ||| (2 ^ (v (20 + 6 * k + 1))))))), (6, .int (nI ((2 ^ (v (20 + 6 * k))) ||| (2 ^ (v (20 + 6 * k + 1)))))), (0, .ref a), (1, .ref h), (2, .int (nI rm)), (3, .int (nI (ksOf v rm))), (5, .int (nI k))]) hc dX10_roomsBeyond_72 (by decide) rfl ?_
            refine r_iinc (v := nI (k + 1)) (ls' := [(5, .int (nI (k + 1))), (4, .int (nI (x ||| ((2 ^ (v (20 + 6 * k))) ||| (2 ^ (v (20 + 6 * k + 1))))))), (6, .int (nI ((2 ^ (v (20 + 6 * k))) ||| (2 ^ (v (20 + 6 * k + 1)))))), (0, .ref a), (1, .ref h), (2, .int (nI rm)), (3, .int (nI (ksOf v rm)))]) hc dX10_roomsBeyond_74 rfl (ad_NN _ 1) (by decide) rfl ?_
            refine r_goto (tgt := 12) hc dX10_roomsBeyond_77 (by decide) ?_
            refine r_locp [3, 4, 5, 6, 1, 0] (ls' := [(0, .ref a), (1, .ref h), (2, .int (nI rm)), (3, .int (nI (ksOf v rm))), (4, .int (nI (x ||| ((2 ^ (v (20 + 6 * k))) ||| (2 ^ (v (20 + 6 * k + 1))))))), (5, .int (nI (k + 1)))]) rfl ?_
            exact ih12 (x ||| ((2 ^ (v (20 + 6 * k))) ||| (2 ^ (v (20 + 6 * k + 1))))) (k + 1) (by omega) (by rw [beyF, if_pos (by unfold goesR; rw [decide_eq_true (show ¬ rm &&& bothR v k = 0 from fun q => c_64 (by rw [Nat.and_comm]; exact q)), keys_iff.mpr c_57]; rfl), ← hf]; rfl) (by omega)
  refine r_locp [3, 4, 5, 2, 1, 0] (ls' := [(0, .ref a), (1, .ref h), (2, .int (nI rm)), (3, .int (nI (ksOf v rm))), (4, .int (nI 0)), (5, .int (nI 0))]) rfl ?_
  exact loop12 _ 0 0 (by omega) rfl (Nat.lt_succ_self _)
set_option maxRecDepth 100000 in
set_option maxHeartbeats 4000000 in
theorem c_X10_roomsInReach {Ω : OmT} {z : Nat} {sh : Nat → Option Kd} {σ : Nat → Nat → Int32} {ρ : Nat → Nat → Option Nat} {a : Nat} (hK : WSh sh ρ a) {h : Nat} {v : Nat → Nat} (hH : HSh sh ρ h) (hV : HV σ h v) (hah : a + 5 ≤ h ∨ h + 34 ≤ a) (hok : okR v)  : CtI Ω yX10_roomsInReach cX10_roomsInReach 4 .int rm_X10_roomsInReach [.ref a, .ref h] (z, sh, σ, ρ) (fun r u => ∃ τ : Nat → Nat → Int32, u = (z, sh, τ, ρ) ∧ r = nI (sReach v) ∧ ∀ q, (q < a ∨ a + 5 ≤ q) → τ q = σ q) := by
  have hok1 := hok
  obtain ⟨⟨h01, h02⟩, hl1, ⟨h21, h22⟩, h3, h4, h5, h9, hdo, hke, hpn, hpd, htc⟩ := hok1
  have hdr : ∀ d, d < v 4 → v (20 + 6 * d + 2) < 10000 ∧ v (20 + 6 * d + 3) < 10000 := fun d hd => ⟨(hdo d hd).2.2.1, (hdo d hd).2.2.2⟩
  have hcu : ∀ k, k < v 5 → v (80 + 4 * k) < 10000 := fun k hk => (hke k hk).1
  have hwh : ∀ k, k < v 5 → v (80 + 4 * k + 2) ≤ 9 := fun k hk => (hke k hk).2.2
  have hky : ∀ k, k < v 5 → v (80 + 4 * k) < 10000 ∧ v (80 + 4 * k + 2) ≤ 9 ∧ 40 ≤ v (80 + 4 * k + 1) ∧ v (80 + 4 * k + 1) ≤ 90 := fun k hk => ⟨(hke k hk).1, (hke k hk).2.2, (hke k hk).2.1⟩
  have hpl : ∀ p, p < v 9 → v (150 + 3 * p) < 10 := fun p hp => by have := (hpn p hp).1; omega
  have hb : ∀ d, d < v 4 → bothR v d < 256 := fun d hd => bothR_lt (hdo d hd).1 (hdo d hd).2.1
  refine CtI.enter (by decide) (Nat.le_of_ble_eq_true rfl) (fun Φ hc hR => ?_)
  show Vw Ω Φ (z, sh, σ, ρ) (0, 0) 0 [(0, .ref a), (1, .ref h)] []
  refine r_aload_n hc dX10_roomsInReach_0 rfl ?_
  refine r_aload_n hc dX10_roomsInReach_1 rfl ?_
  refine cl_X10_41 (As := [.ref h]) hc (c_X10_work hK hH hV hah hok) hK.1.1 rfl ⟨by decide, by decide⟩ ⟨rfl, rfl⟩ ⟨by decide, by decide⟩ rfl (Nat.le_of_ble_eq_true rfl) dX10_roomsInReach_2 (fun u hp => ?_)
  obtain ⟨τ0, hu, hKn, hfr⟩ := hp
  rw [hu]
  have hV : HV τ0 h v := hV.keep (fun q q1 q2 => hfr q (by omega)) h4 h5
  refine r_iconst (v := nI 1) hc dX10_roomsInReach_5 rfl ?_
  refine r_aload_n hc dX10_roomsInReach_6 rfl ?_
  refine gf_X10_45 (x := nI (v 3)) hc (HS0 hH) (HV6 hV) dX10_roomsInReach_7 ?_
  refine r_ishl (v := nI (2 ^ (v 3))) hc dX10_roomsInReach_10 (sl_1 _ (by omega)) ?_
  refine r_istore_n (ls' := [(2, .int (nI (2 ^ (v 3)))), (0, .ref a), (1, .ref h)]) hc dX10_roomsInReach_11 (by decide) rfl ?_
  refine r_iconst (v := nI 0) hc dX10_roomsInReach_12 rfl ?_
  refine r_istore_n (ls' := [(3, .int (nI 0)), (2, .int (nI (2 ^ (v 3)))), (0, .ref a), (1, .ref h)]) hc dX10_roomsInReach_13 (by decide) rfl ?_
  have loop14 : ∀ (n14 : Nat) (x : Nat) (k : Nat), (k ≤ 8) → (x = rcC v (2 ^ v 3) k) → (8 - k) < n14 → Vw Ω Φ (z, sh, τ0, ρ) (0, 0) 14 [(0, .ref a), (1, .ref h), (2, .int (nI x)), (3, .int (nI k))] [] := by
    intro n14
    induction n14 with
    | zero => intro x k hk hf hm; exact absurd hm (Nat.not_lt_zero _)
    | succ n14 ih14 =>
      intro x k hk hf hm14
      refine r_iload_n hc dX10_roomsInReach_14 rfl ?_
      refine r_bipush (v := nI 8) hc dX10_roomsInReach_15 rfl ?_
      refine r_icmp_ge (tgt := 35) hc dX10_roomsInReach_17 (by decide) (le_NN (by omega) (by omega)) (fun c_17 => ?_) (fun c_17 => ?_)
      ·
        refine r_iload_n hc dX10_roomsInReach_35 rfl ?_
        exact hR _ _ ⟨τ0, rfl, congrArg nI (by rw [hf, show k = 8 by omega]; rfl), hfr⟩ rfl _ _ dX10_roomsInReach_36
      ·
        have hx256 : x < 256 := by rw [hf]; exact rcC_lt hb (Nat.pow_lt_pow_right (by decide) h3 : 2 ^ v 3 < 2 ^ 8) k
        refine r_iload_n hc dX10_roomsInReach_20 rfl ?_
        refine r_aload_n hc dX10_roomsInReach_21 rfl ?_
        refine r_aload_n hc dX10_roomsInReach_22 rfl ?_
        refine r_iload_n hc dX10_roomsInReach_23 rfl ?_
        refine cl_X10_48 (As := [.ref h, .int (nI x)]) hc (c_X10_roomsBeyond hK hH hV hah hok hKn (rm := x) (by omega)) hK.1.1 rfl ⟨by decide, by decide⟩ ⟨rfl, rfl⟩ ⟨by decide, by decide⟩ rfl (Nat.le_of_ble_eq_true rfl) dX10_roomsInReach_24 (fun r u hp => ?_)
        obtain ⟨rfl, hu⟩ := hp
        rw [hu]
        refine r_ior (v := nI (x ||| (beyF v x (v 4)))) hc dX10_roomsInReach_27 (or_NN _ _) ?_
        refine r_istore_n (ls' := [(2, .int (nI (x ||| (beyF v x (v 4))))), (0, .ref a), (1, .ref h), (3, .int (nI k))]) hc dX10_roomsInReach_28 (by decide) rfl ?_
        refine r_iinc (v := nI (k + 1)) (ls' := [(3, .int (nI (k + 1))), (2, .int (nI (x ||| (beyF v x (v 4))))), (0, .ref a), (1, .ref h)]) hc dX10_roomsInReach_29 rfl (ad_NN _ 1) (by decide) rfl ?_
        refine r_goto (tgt := 14) hc dX10_roomsInReach_32 (by decide) ?_
        refine r_locp [2, 3, 1, 0] (ls' := [(0, .ref a), (1, .ref h), (2, .int (nI (x ||| (beyF v x (v 4))))), (3, .int (nI (k + 1)))]) rfl ?_
        exact ih14 (x ||| (beyF v x (v 4))) (k + 1) (by omega) (by rw [rcC, ← hf]) (by omega)
  refine r_locp [2, 3, 1, 0] (ls' := [(0, .ref a), (1, .ref h), (2, .int (nI (2 ^ (v 3)))), (3, .int (nI 0))]) rfl ?_
  exact loop14 _ (2 ^ (v 3)) 0 (by omega) rfl (Nat.lt_succ_self _)
set_option maxRecDepth 100000 in
set_option maxHeartbeats 4000000 in
theorem c_X10_enqueue {Ω : OmT} {z : Nat} {sh : Nat → Option Kd} {σ : Nat → Nat → Int32} {ρ : Nat → Nat → Option Nat} {a : Nat} (hK : WSh sh ρ a) {s : BfT} (hI : BInv s) (hQ : WQu σ a s) {x r : Nat} (hx : x < 256) (hr : r < 8) {e : Int} (he : 0 ≤ e) : CtV Ω yX10_enqueue cX10_enqueue 4 rm_X10_enqueue [.ref a, .int (nI x), .int (nI r)] (z, sh, σ, ρ) (fun u => ∃ τ : Nat → Nat → Int32, u = (z, sh, τ, ρ) ∧ WQu τ a (bfE s (8 * x + r) e) ∧ τ a 4 = σ a 4 ∧ ∀ q, q ≠ a → q ≠ a + 3 → q ≠ a + 4 → τ q = σ q) := by
  have hQ1 := hQ
  obtain ⟨hqu, hsn, hn5⟩ := hQ1
  refine CtV.enter (by decide) (Nat.le_of_ble_eq_true rfl) (fun Φ hc hi hR => ?_)
  show Vw Ω Φ (z, sh, σ, ρ) (0, 0) 0 [(0, .ref a), (1, .int (nI x)), (2, .int (nI r))] []
  have hle := hI.le
  refine r_iload_n hc dX10_enqueue_0 rfl ?_
  refine r_iconst (v := nI 3) hc dX10_enqueue_1 rfl ?_
  refine r_ishl (v := nI (x * 2 ^ 3)) hc dX10_enqueue_2 (sl_NN x 3 (by omega) (by omega)) ?_
  refine r_iload_n hc dX10_enqueue_3 rfl ?_
  refine r_ior (v := nI (8 * x + r)) hc dX10_enqueue_4 (by rw [or_NN, pack8 hr]) ?_
  refine r_istore_n (ls' := [(3, .int (nI (8 * x + r))), (0, .ref a), (1, .int (nI x)), (2, .int (nI r))]) hc dX10_enqueue_5 (by decide) rfl ?_
  refine r_aload_n hc dX10_enqueue_6 rfl ?_
  refine gf_X10_21 (q := a + 4) hc hK.1.1 hK.2.2.2.2 dX10_enqueue_7 ?_
  refine r_iload_n hc dX10_enqueue_10 rfl ?_
  refine r_zald (x := bI (decide (0 ≤ s.2.2 (8 * x + r)))) (j := 8 * x + r) hc hK.1.2.2.2.2 rfl (by omega) (by decide) (hsn _ (by omega)) dX10_enqueue_11 ?_
  refine r_if_ne (tgt := 25) hc dX10_enqueue_12 (by decide) (bI_0 _) (fun c_12 => ?_) (fun c_12 => ?_)
  ·
    have c_12 := bnf c_12
    have c_12 := of_decide_eq_true c_12
    exact hR _ ⟨_, rfl, by unfold bfE; rw [if_neg (by omega)]; exact hQ, rfl, fun _ _ _ _ => rfl⟩ _ _ dX10_enqueue_25
  ·
    have c_12 := of_decide_eq_false c_12
    have hneg : s.2.2 (8 * x + r) < 0 := by omega
    refine r_aload_n hc dX10_enqueue_15 rfl ?_
    refine gf_X10_67 (x := nI s.2.1) hc hK.1.1 hn5 dX10_enqueue_16 ?_
    refine r_sipush (v := nI 2048) hc dX10_enqueue_19 rfl ?_
    refine r_icmp_lt (tgt := 26) hc dX10_enqueue_22 (by decide) (lt_NN (by omega) (by omega)) (fun c_22 => ?_) (fun c_22 => ?_)
    ·
      refine r_aload_n hc dX10_enqueue_26 rfl ?_
      refine gf_X10_21 (q := a + 4) hc hK.1.1 hK.2.2.2.2 dX10_enqueue_27 ?_
      refine r_iload_n hc dX10_enqueue_30 rfl ?_
      refine r_iconst (v := nI 1) hc dX10_enqueue_31 rfl ?_
      refine r_zast (j := 8 * x + r) hc hK.1.2.2.2.2 rfl (by omega) (by decide) (by rfl) dX10_enqueue_32 ?_
      generalize hσ1 : s2 σ (a + 4) (8 * x + r) (nI 1) = σ1
      have hn5 : σ1 a 5 = nI s.2.1 := by rw [← hσ1]; exact s2_keep hn5 (by omega)
      refine r_aload_n hc dX10_enqueue_33 rfl ?_
      refine gf_X10_18 (q := a + 3) hc hK.1.1 hK.2.2.2.1 dX10_enqueue_34 ?_
      refine r_aload_n hc dX10_enqueue_37 rfl ?_
      refine gf_X10_67 (x := nI s.2.1) hc hK.1.1 hn5 dX10_enqueue_38 ?_
      refine r_iload_n hc dX10_enqueue_41 rfl ?_
      refine r_iast (j := s.2.1) hc hK.1.2.2.2.1 rfl (by omega) (by decide) dX10_enqueue_42 ?_
      generalize hσ2 : s2 σ1 (a + 3) s.2.1 (nI (8 * x + r)) = σ2
      have hn5 : σ2 a 5 = nI s.2.1 := by rw [← hσ2]; exact s2_keep hn5 (by omega)
      refine r_aload_n hc dX10_enqueue_43 rfl ?_
      refine r_dup hc dX10_enqueue_44 rfl ?_
      refine gf_X10_67 (x := nI s.2.1) hc hK.1.1 hn5 dX10_enqueue_45 ?_
      refine r_iconst (v := nI 1) hc dX10_enqueue_48 rfl ?_
      refine r_iadd (v := nI (s.2.1 + 1)) hc dX10_enqueue_49 (ad_NN _ _) ?_
      refine pf_X10_67 hc hK.1.1 dX10_enqueue_50 ?_
      generalize hσ3 : s2 σ2 a 5 (nI (s.2.1 + 1)) = σ3
      have hn5 : σ3 a 5 = nI (s.2.1 + 1) := by rw [← hσ3]; exact s2_same _ _ _ _
      refine hR _ ⟨_, rfl, ?_, ?_, ?_⟩ _ _ dX10_enqueue_53
      · rw [← hσ3, ← hσ2, ← hσ1]; exact hQ.enq he hneg
      · rw [← hσ3, ← hσ2, ← hσ1, s2_nk (by decide), s2_na (by omega), s2_na (by omega)]
      · exact fun q q1 q2 q3 => by rw [← hσ3, s2_ne (by omega), ← hσ2, s2_ne (by omega), ← hσ1, s2_ne (by omega)]
    ·
      exact absurd (hI.lt (x := 8 * x + r) (by omega) hneg) c_22
set_option maxRecDepth 100000 in
set_option maxHeartbeats 4000000 in
theorem c_X10_enqueueBeyond {Ω : OmT} {z : Nat} {sh : Nat → Option Kd} {σ : Nat → Nat → Int32} {ρ : Nat → Nat → Option Nat} {a : Nat} (hK : WSh sh ρ a) {h : Nat} {v : Nat → Nat} (hH : HSh sh ρ h) (hV : HV σ h v) (hah : a + 5 ≤ h ∨ h + 34 ≤ a) (hok : okR v) {s : BfT} (hI : BInv s) (hQ : WQu σ a s) (hKn : WKn σ a v) {st : Nat} (hst0 : st < 2048) (hf0 : 0 ≤ s.2.2 st) : CtV Ω yX10_enqueueBeyond cX10_enqueueBeyond 7 rm_X10_enqueueBeyond [.ref a, .ref h, .int (nI st)] (z, sh, σ, ρ) (fun u => ∃ τ : Nat → Nat → Int32, u = (z, sh, τ, ρ) ∧ WQu τ a (bfD v st s (v 4)) ∧ WKn τ a v ∧ ∀ q, (q < a ∨ a + 5 ≤ q) → τ q = σ q) := by
  have hok1 := hok
  obtain ⟨⟨h01, h02⟩, hl1, ⟨h21, h22⟩, h3, h4, h5, h9, hdo, hke, hpn, hpd, htc⟩ := hok1
  have hdr : ∀ d, d < v 4 → v (20 + 6 * d + 2) < 10000 ∧ v (20 + 6 * d + 3) < 10000 := fun d hd => ⟨(hdo d hd).2.2.1, (hdo d hd).2.2.2⟩
  have hcu : ∀ k, k < v 5 → v (80 + 4 * k) < 10000 := fun k hk => (hke k hk).1
  have hwh : ∀ k, k < v 5 → v (80 + 4 * k + 2) ≤ 9 := fun k hk => (hke k hk).2.2
  have hky : ∀ k, k < v 5 → v (80 + 4 * k) < 10000 ∧ v (80 + 4 * k + 2) ≤ 9 ∧ 40 ≤ v (80 + 4 * k + 1) ∧ v (80 + 4 * k + 1) ≤ 90 := fun k hk => ⟨(hke k hk).1, (hke k hk).2.2, (hke k hk).2.1⟩
  have hpl : ∀ p, p < v 9 → v (150 + 3 * p) < 10 := fun p hp => by have := (hpn p hp).1; omega
  have hV0 := hV
  have hKn1 := hKn
  obtain ⟨hca, hop, hki⟩ := hKn1
  refine CtV.enter (by decide) (Nat.le_of_ble_eq_true rfl) (fun Φ hc hi hR => ?_)
  show Vw Ω Φ (z, sh, σ, ρ) (0, 0) 0 [(0, .ref a), (1, .ref h), (2, .int (nI st))] []
  refine r_iload_n hc dX10_enqueueBeyond_0 rfl ?_
  refine r_iconst (v := nI 3) hc dX10_enqueueBeyond_1 rfl ?_
  refine r_ishr (v := nI (st / 8)) hc dX10_enqueueBeyond_2 (sr_NN st 3 (by omega) (by omega)) ?_
  refine r_istore_n (ls' := [(3, .int (nI (st / 8))), (0, .ref a), (1, .ref h), (2, .int (nI st))]) hc dX10_enqueueBeyond_3 (by decide) rfl ?_
  refine r_aload_n hc dX10_enqueueBeyond_4 rfl ?_
  refine r_iload_n hc dX10_enqueueBeyond_5 rfl ?_
  refine cl_X10_52 (As := [.int (nI (st / 8))]) hc (c_X10_keysAfter hK (v := v) hKn (rm := st / 8) (by omega)) hK.1.1 rfl ⟨by decide, by decide⟩ ⟨rfl, rfl⟩ ⟨by decide, by decide⟩ rfl (Nat.le_of_ble_eq_true rfl) dX10_enqueueBeyond_6 (fun r u hp => ?_)
  obtain ⟨rfl, hu⟩ := hp
  rw [hu]
  refine r_istore (ls' := [(4, .int (nI (ksOf v (st / 8)))), (3, .int (nI (st / 8))), (0, .ref a), (1, .ref h), (2, .int (nI st))]) hc dX10_enqueueBeyond_9 (by decide) rfl ?_
  refine r_iconst (v := nI 0) hc dX10_enqueueBeyond_11 rfl ?_
  refine r_istore (ls' := [(5, .int (nI 0)), (4, .int (nI (ksOf v (st / 8)))), (3, .int (nI (st / 8))), (0, .ref a), (1, .ref h), (2, .int (nI st))]) hc dX10_enqueueBeyond_12 (by decide) rfl ?_
  have loop14 : ∀ (n14 : Nat) (τ : Nat → Nat → Int32) (k : Nat), (k ≤ v 4) → (WQu τ a (bfD v st s k)) → (WKn τ a v) → (∀ q, (q < a ∨ a + 5 ≤ q) → τ q = σ q) → (v 4 - k) < n14 → Vw Ω Φ (z, sh, τ, ρ) (0, 0) 14 [(0, .ref a), (1, .ref h), (2, .int (nI st)), (3, .int (nI (st / 8))), (4, .int (nI (ksOf v (st / 8)))), (5, .int (nI k))] [] := by
    intro n14
    induction n14 with
    | zero => intro τ k hk hQ hKn hfr hm; exact absurd hm (Nat.not_lt_zero _)
    | succ n14 ih14 =>
      intro τ k hk hQ hKn hfr hm14
      have hV : HV τ h v := hV0.keep (fun q q1 q2 => hfr q (by omega)) h4 h5
      have hKn1 := hKn
      obtain ⟨hca, hop, hki⟩ := hKn1
      refine r_iload hc dX10_enqueueBeyond_14 rfl ?_
      refine r_aload_n hc dX10_enqueueBeyond_16 rfl ?_
      refine gf_X10_35 (x := nI (v 4)) hc (HS0 hH) (HV4 hV) dX10_enqueueBeyond_17 ?_
      refine r_icmp_ge (tgt := 77) hc dX10_enqueueBeyond_20 (by decide) (le_NN (by omega) (by omega)) (fun c_20 => ?_) (fun c_20 => ?_)
      ·
        exact hR _ ⟨_, rfl, by rw [show k = v 4 by omega] at hQ; exact hQ, hKn, hfr⟩ _ _ dX10_enqueueBeyond_77
      ·
        have hdk := hdo k (by omega)
        have hbd := bfD_all (v := v) hI hst0 hf0 (fun d hd => ⟨(hdo d hd).1, (hdo d hd).2.1⟩) k (by omega)
        have hbr := behR_rng (v := v) (d := k) (r := st % 8) hdk.1 hdk.2.1
        have hks := ksF_lt v (st / 8) 8 h5
        refine r_aload_n hc dX10_enqueueBeyond_23 rfl ?_
        refine gf_X10_55 (q := h + 2) hc (HS0 hH) (HR0 hH 1 2 (by decide)) dX10_enqueueBeyond_24 ?_
        refine r_iload hc dX10_enqueueBeyond_27 rfl ?_
        refine al_3 (r := h + 8 + k) (j := k) hc (HSa hH 2 _ rfl) rfl (by omega) (by decide) (HRd hH (by omega)) dX10_enqueueBeyond_29 ?_
        refine r_iload_n hc dX10_enqueueBeyond_30 rfl ?_
        refine r_bipush (v := nI 7) hc dX10_enqueueBeyond_31 rfl ?_
        refine r_iand (v := nI (st % 8)) hc dX10_enqueueBeyond_33 (by rw [an_NN, and7]) ?_
        refine cl_X10_78 (As := [.int (nI (st % 8))]) hc (c_X0_beyond (r := st % 8) (f := v (20 + 6 * k)) (s := v (20 + 6 * k + 1)) (HSd hH (by omega)) (HVd hV (by omega) 0 (by decide)) (HVd hV (by omega) 1 (by decide)) (by omega) (by omega) (by omega)) (HSd hH (by omega)) rfl ⟨by decide, by decide⟩ ⟨rfl, rfl⟩ ⟨by decide, by decide⟩ rfl (Nat.le_of_ble_eq_true rfl) dX10_enqueueBeyond_34 (fun r u hp => ?_)
        obtain ⟨rfl, hu⟩ := hp
        rw [hu, beyO_eq]
        refine r_istore (ls' := [(6, .int (zI (behR v k (st % 8)))), (0, .ref a), (1, .ref h), (2, .int (nI st)), (3, .int (nI (st / 8))), (4, .int (nI (ksOf v (st / 8)))), (5, .int (nI k))]) hc dX10_enqueueBeyond_37 (by decide) rfl ?_
        refine r_iload hc dX10_enqueueBeyond_39 rfl ?_
        refine r_bipush (v := zI (-6)) hc dX10_enqueueBeyond_41 rfl ?_
        refine r_icmp_eq (tgt := 71) hc dX10_enqueueBeyond_43 (by decide) (eq_ZZ (by omega) (by omega)) (fun c_43 => ?_) (fun c_43 => ?_)
        ·
          refine r_iinc (v := nI (k + 1)) (ls' := [(5, .int (nI (k + 1))), (6, .int (zI (behR v k (st % 8)))), (0, .ref a), (1, .ref h), (2, .int (nI st)), (3, .int (nI (st / 8))), (4, .int (nI (ksOf v (st / 8))))]) hc dX10_enqueueBeyond_71 rfl (ad_NN _ 1) (by decide) rfl ?_
          refine r_goto (tgt := 14) hc dX10_enqueueBeyond_74 (by decide) ?_
          refine r_locp [2, 3, 4, 5, 6, 0] (ls' := [(0, .ref a), (1, .ref h), (2, .int (nI st)), (3, .int (nI (st / 8))), (4, .int (nI (ksOf v (st / 8)))), (5, .int (nI (k + 1)))]) rfl ?_
          exact ih14 τ (k + 1) (by omega) (by rw [bfD, bfS, if_neg (by unfold bfGo; rw [decide_eq_false (by omega)]; simp)]; exact hQ) hKn hfr (by omega)
        ·
          have hbg : 0 ≤ behR v k (st % 8) := by omega
          rw [zn (show behR v k (st % 8) = ((((behR v k (st % 8)).toNat : Nat)) : Int) by omega)]
          refine r_aload_n hc dX10_enqueueBeyond_46 rfl ?_
          refine gf_X10_9 (q := a + 1) hc hK.1.1 hK.2.1 dX10_enqueueBeyond_47 ?_
          refine r_iload hc dX10_enqueueBeyond_50 rfl ?_
          refine r_iald (x := nI ((keysFor v) k)) (j := k) hc hK.1.2.1 rfl (by omega) (by decide) (hop _ (by omega)) dX10_enqueueBeyond_52 ?_
          refine r_iload hc dX10_enqueueBeyond_53 rfl ?_
          refine r_iand (v := nI (((keysFor v) k) &&& (ksOf v (st / 8)))) hc dX10_enqueueBeyond_55 (an_NN _ _) ?_
          refine r_if_eq (tgt := 71) hc dX10_enqueueBeyond_56 (by decide) (e0_N (Nat.lt_of_le_of_lt Nat.and_le_right (Nat.lt_of_lt_of_le hks (by omega)))) (fun c_56 => ?_) (fun c_56 => ?_)
          ·
            refine r_iinc (v := nI (k + 1)) (ls' := [(5, .int (nI (k + 1))), (6, .int (nI ((behR v k (st % 8)).toNat))), (0, .ref a), (1, .ref h), (2, .int (nI st)), (3, .int (nI (st / 8))), (4, .int (nI (ksOf v (st / 8))))]) hc dX10_enqueueBeyond_71 rfl (ad_NN _ 1) (by decide) rfl ?_
            refine r_goto (tgt := 14) hc dX10_enqueueBeyond_74 (by decide) ?_
            refine r_locp [2, 3, 4, 5, 6, 0] (ls' := [(0, .ref a), (1, .ref h), (2, .int (nI st)), (3, .int (nI (st / 8))), (4, .int (nI (ksOf v (st / 8)))), (5, .int (nI (k + 1)))]) rfl ?_
            exact ih14 τ (k + 1) (by omega) (by rw [bfD, bfS, if_neg (by unfold bfGo; rw [Bool.and_eq_true]; exact fun q => keys_iff.mp q.2 c_56)]; exact hQ) hKn hfr (by omega)
          ·
            refine r_aload_n hc dX10_enqueueBeyond_59 rfl ?_
            refine r_iload_n hc dX10_enqueueBeyond_60 rfl ?_
            refine r_iconst (v := nI 1) hc dX10_enqueueBeyond_61 rfl ?_
            refine r_iload hc dX10_enqueueBeyond_62 rfl ?_
            refine r_ishl (v := nI (2 ^ ((behR v k (st % 8)).toNat))) hc dX10_enqueueBeyond_64 (sl_1 _ (by omega)) ?_
            refine r_ior (v := nI ((st / 8) ||| (2 ^ ((behR v k (st % 8)).toNat)))) hc dX10_enqueueBeyond_65 (or_NN _ _) ?_
            refine r_iload hc dX10_enqueueBeyond_66 rfl ?_
            have h61 : 2 ^ (behR v k (st % 8)).toNat < 2 ^ 8 := Nat.pow_lt_pow_right (by decide) (by omega)
            have h62 : st / 8 ||| 2 ^ (behR v k (st % 8)).toNat < 2 ^ 8 := Nat.or_lt_two_pow (by omega) h61
            refine cl_X10_70 (As := [.int (nI ((st / 8) ||| (2 ^ ((behR v k (st % 8)).toNat)))), .int (nI ((behR v k (st % 8)).toNat))]) hc (c_X10_enqueue hK (s := bfD v st s k) hbd.1 hQ (x := (st / 8) ||| (2 ^ ((behR v k (st % 8)).toNat))) (r := (behR v k (st % 8)).toNat) (by omega) (by omega) (e := (bfD v st s k).2.2 st + 1) (by rw [hbd.2.2.2.1 st hf0]; omega)) hK.1.1 rfl ⟨by decide, by decide⟩ ⟨rfl, rfl⟩ ⟨by decide, by decide⟩ rfl (Nat.le_of_ble_eq_true rfl) dX10_enqueueBeyond_68 (fun u hp => ?_)
            obtain ⟨τ2, hu, hQ2, h42, hfr2⟩ := hp
            rw [hu]
            have hgo : bfGo v st k = true := by unfold bfGo; rw [decide_eq_true hbg, keys_iff.mpr c_56]; rfl
            have hQ3 : WQu τ2 a (bfD v st s (k + 1)) := by rw [bfD, bfS, if_pos hgo]; exact hQ2
            have hKn : WKn τ2 a v := hKn.keep h42 (hfr2 _ (by omega) (by omega) (by omega)) (hfr2 _ (by omega) (by omega) (by omega))
            have hfr : ∀ q, (q < a ∨ a + 5 ≤ q) → τ2 q = σ q := fun q hq => by rw [hfr2 q (by omega) (by omega) (by omega)]; exact hfr q hq
            refine r_iinc (v := nI (k + 1)) (ls' := [(5, .int (nI (k + 1))), (6, .int (nI ((behR v k (st % 8)).toNat))), (0, .ref a), (1, .ref h), (2, .int (nI st)), (3, .int (nI (st / 8))), (4, .int (nI (ksOf v (st / 8))))]) hc dX10_enqueueBeyond_71 rfl (ad_NN _ 1) (by decide) rfl ?_
            refine r_goto (tgt := 14) hc dX10_enqueueBeyond_74 (by decide) ?_
            refine r_locp [2, 3, 4, 5, 6, 0] (ls' := [(0, .ref a), (1, .ref h), (2, .int (nI st)), (3, .int (nI (st / 8))), (4, .int (nI (ksOf v (st / 8)))), (5, .int (nI (k + 1)))]) rfl ?_
            exact ih14 τ2 (k + 1) (by omega) hQ3 hKn hfr (by omega)
  refine r_locp [3, 4, 5, 2, 1, 0] (ls' := [(0, .ref a), (1, .ref h), (2, .int (nI st)), (3, .int (nI (st / 8))), (4, .int (nI (ksOf v (st / 8)))), (5, .int (nI 0))]) rfl ?_
  exact loop14 _ σ 0 (by omega) hQ hKn (fun _ _ => rfl) (Nat.lt_succ_self _)
theorem fill_step {τ : Nat → Nat → Int32} {b k x : Nat} {y : Int32} (hz : ∀ x, x < k → τ b x = y) (hx : x < k + 1) : s2 τ b k y b x = y := by
  by_cases h : x = k
  · subst h; exact s2_same _ _ _ _
  · rw [s2_nk h]; exact hz x (by omega)
theorem bf0_eq (r : Nat) : bf0 r = (va_up (fun _ => 0) 0 (8 * 2 ^ r + r), 1, fI_up (fun _ => -6) (8 * 2 ^ r + r) 0) := by
  unfold bf0 bfE
  rw [if_pos (by show (-6 : Int) < 0; decide)]; rfl
theorem bf0_l (r : Nat) : ∀ j, 0 ≤ j → j < (bf0 r).2.1 → (bf0 r).2.2 ((bf0 r).1 j) = ((0 : Nat) : Int) := by
  rw [bf0_eq]
  intro j _ hj
  have hj1 : j < 1 := hj
  have hj2 : j = 0 := by omega
  subst hj2
  show fI_up (fun _ => -6) (8 * 2 ^ r + r) 0 (va_up (fun _ => 0) 0 (8 * 2 ^ r + r) 0) = 0
  rw [va_up_at, fI_at]
set_option maxRecDepth 100000 in
set_option maxHeartbeats 4000000 in
theorem c_X10_fewestDoors {Ω : OmT} {z : Nat} {sh : Nat → Option Kd} {σ : Nat → Nat → Int32} {ρ : Nat → Nat → Option Nat} {a : Nat} (hK : WSh sh ρ a) {h : Nat} {v : Nat → Nat} (hH : HSh sh ρ h) (hV : HV σ h v) (hah : a + 5 ≤ h ∨ h + 34 ≤ a) (hok : okR v) {t : Nat} (ht : t < 8) : CtI Ω yX10_fewestDoors cX10_fewestDoors 6 .int rm_X10_fewestDoors [.ref a, .ref h, .int (nI t)] (z, sh, σ, ρ) (fun r u => ∃ τ : Nat → Nat → Int32, u = (z, sh, τ, ρ) ∧ r = zI (bfR v t 2049 0 (bf0 (v 3))) ∧ ∀ q, (q < a ∨ a + 5 ≤ q) → τ q = σ q) := by
  have hok1 := hok
  obtain ⟨⟨h01, h02⟩, hl1, ⟨h21, h22⟩, h3, h4, h5, h9, hdo, hke, hpn, hpd, htc⟩ := hok1
  have hdr : ∀ d, d < v 4 → v (20 + 6 * d + 2) < 10000 ∧ v (20 + 6 * d + 3) < 10000 := fun d hd => ⟨(hdo d hd).2.2.1, (hdo d hd).2.2.2⟩
  have hcu : ∀ k, k < v 5 → v (80 + 4 * k) < 10000 := fun k hk => (hke k hk).1
  have hwh : ∀ k, k < v 5 → v (80 + 4 * k + 2) ≤ 9 := fun k hk => (hke k hk).2.2
  have hky : ∀ k, k < v 5 → v (80 + 4 * k) < 10000 ∧ v (80 + 4 * k + 2) ≤ 9 ∧ 40 ≤ v (80 + 4 * k + 1) ∧ v (80 + 4 * k + 1) ≤ 90 := fun k hk => ⟨(hke k hk).1, (hke k hk).2.2, (hke k hk).2.1⟩
  have hpl : ∀ p, p < v 9 → v (150 + 3 * p) < 10 := fun p hp => by have := (hpn p hp).1; omega
  have hV0 := hV
  have h238 : 2 ^ v 3 < 256 := (Nat.pow_lt_pow_right (by decide) h3 : 2 ^ v 3 < 2 ^ 8)
  have hI0 : BInv (bf0 (v 3)) := BInv.zero.step (by omega) ⟨Int.le_refl 0, Int.le_refl 0⟩
  have hl0 : ∀ j, 0 ≤ j → j < (bf0 (v 3)).2.1 → (bf0 (v 3)).2.2 ((bf0 (v 3)).1 j) = ((0 : Nat) : Int) := bf0_l (v 3)
  refine CtI.enter (by decide) (Nat.le_of_ble_eq_true rfl) (fun Φ hc hR => ?_)
  show Vw Ω Φ (z, sh, σ, ρ) (0, 0) 0 [(0, .ref a), (1, .ref h), (2, .int (nI t))] []
  refine r_aload_n hc dX10_fewestDoors_0 rfl ?_
  refine r_aload_n hc dX10_fewestDoors_1 rfl ?_
  refine cl_X10_41 (As := [.ref h]) hc (c_X10_work hK hH hV hah hok) hK.1.1 rfl ⟨by decide, by decide⟩ ⟨rfl, rfl⟩ ⟨by decide, by decide⟩ rfl (Nat.le_of_ble_eq_true rfl) dX10_fewestDoors_2 (fun u hp => ?_)
  obtain ⟨τ0, hu, hKn, hfr⟩ := hp
  rw [hu]
  have hV : HV τ0 h v := hV.keep (fun q q1 q2 => hfr q (by omega)) h4 h5
  refine r_iconst (v := nI 0) hc dX10_fewestDoors_5 rfl ?_
  refine r_istore_n (ls' := [(3, .int (nI 0)), (0, .ref a), (1, .ref h), (2, .int (nI t))]) hc dX10_fewestDoors_6 (by decide) rfl ?_
  have loop7 : ∀ (n7 : Nat) (τ : Nat → Nat → Int32) (k : Nat), (k ≤ 2048) → (∀ x, x < k → τ (a + 4) x = bI false) → (WKn τ a v) → (∀ q, (q < a ∨ a + 5 ≤ q) → τ q = σ q) → (2048 - k) < n7 → Vw Ω Φ (z, sh, τ, ρ) (0, 0) 7 [(0, .ref a), (1, .ref h), (2, .int (nI t)), (3, .int (nI k))] [] := by
    intro n7
    induction n7 with
    | zero => intro τ k hk hz hKn hfr hm; exact absurd hm (Nat.not_lt_zero _)
    | succ n7 ih7 =>
      intro τ k hk hz hKn hfr hm7
      have hV : HV τ h v := hV0.keep (fun q q1 q2 => hfr q (by omega)) h4 h5
      refine r_iload_n hc dX10_fewestDoors_7 rfl ?_
      refine r_sipush (v := nI 2048) hc dX10_fewestDoors_8 rfl ?_
      refine r_icmp_ge (tgt := 27) hc dX10_fewestDoors_11 (by decide) (le_NN (by omega) (by omega)) (fun c_11 => ?_) (fun c_11 => ?_)
      ·
        refine r_aload_n hc dX10_fewestDoors_27 rfl ?_
        refine r_iconst (v := nI 0) hc dX10_fewestDoors_28 rfl ?_
        refine pf_X10_67 hc hK.1.1 dX10_fewestDoors_29 ?_
        generalize hσ1 : s2 τ a 5 (nI 0) = σ1
        have hV : HV σ1 h v := by rw [← hσ1]; exact hV.dead (by omega) (by omega) (by right; right; right; omega)
        refine r_aload_n hc dX10_fewestDoors_32 rfl ?_
        refine r_iconst (v := nI 1) hc dX10_fewestDoors_33 rfl ?_
        refine r_aload_n hc dX10_fewestDoors_34 rfl ?_
        refine gf_X10_45 (x := nI (v 3)) hc (HS0 hH) (HV6 hV) dX10_fewestDoors_35 ?_
        refine r_ishl (v := nI (2 ^ (v 3))) hc dX10_fewestDoors_38 (sl_1 _ (by omega)) ?_
        refine r_aload_n hc dX10_fewestDoors_39 rfl ?_
        refine gf_X10_45 (x := nI (v 3)) hc (HS0 hH) (HV6 hV) dX10_fewestDoors_40 ?_
        have hKn : WKn σ1 a v := by rw [← hσ1]; exact hKn.keep (s2_nk (by decide)) (s2_ne (by omega)) (s2_ne (by omega))
        have hQ0 : WQu σ1 a bf00 := ⟨rowAt.zero, fun x hx => by rw [← hσ1, s2_na (by omega)]; exact hz x (by omega), by rw [← hσ1]; exact s2_same _ _ _ _⟩
        have hfr : ∀ q, (q < a ∨ a + 5 ≤ q) → σ1 q = σ q := (fun q hq => by rw [← hσ1, s2_ne (show q ≠ a by omega)]; exact hfr q hq)
        refine cl_X10_70 (As := [.int (nI (2 ^ (v 3))), .int (nI (v 3))]) hc (c_X10_enqueue hK (s := bf00) BInv.zero hQ0 (x := 2 ^ v 3) (r := v 3) h238 (by omega) (e := 0) (Int.le_refl 0)) hK.1.1 rfl ⟨by decide, by decide⟩ ⟨rfl, rfl⟩ ⟨by decide, by decide⟩ rfl (Nat.le_of_ble_eq_true rfl) dX10_fewestDoors_43 (fun u hp => ?_)
        obtain ⟨τ2, hu, hQ2, h42, hfr2⟩ := hp
        rw [hu]
        have hKn : WKn τ2 a v := hKn.keep h42 (hfr2 _ (by omega) (by omega) (by omega)) (hfr2 _ (by omega) (by omega) (by omega))
        have hfr : ∀ q, (q < a ∨ a + 5 ≤ q) → τ2 q = σ q := fun q hq => by rw [hfr2 q (by omega) (by omega) (by omega)]; exact hfr q hq
        refine r_iconst (v := nI 0) hc dX10_fewestDoors_46 rfl ?_
        refine r_istore_n (ls' := [(3, .int (nI 0)), (0, .ref a), (1, .ref h), (2, .int (nI t))]) hc dX10_fewestDoors_47 (by decide) rfl ?_
        refine r_iconst (v := nI 0) hc dX10_fewestDoors_48 rfl ?_
        refine r_istore (ls' := [(4, .int (nI 0)), (3, .int (nI 0)), (0, .ref a), (1, .ref h), (2, .int (nI t))]) hc dX10_fewestDoors_49 (by decide) rfl ?_
        have loop51 : ∀ (n51 : Nat) (τ : Nat → Nat → Int32) (s : BfT) (T : Nat) (D : Nat), (WKn τ a v) → (∀ q, (q < a ∨ a + 5 ≤ q) → τ q = σ q) → (WQu τ a s) → (BInv s) → (T ≤ s.2.1) → (D ≤ T) → (bfR v t (2049 - T) T s = bfR v t 2049 0 (bf0 (v 3))) → (∀ j, T ≤ j → j < s.2.1 → s.2.2 (s.1 j) = (D : Int)) → (2049 - D) < n51 → Vw Ω Φ (z, sh, τ, ρ) (0, 0) 51 [(0, .ref a), (1, .ref h), (2, .int (nI t)), (3, .int (nI T)), (4, .int (nI D))] [] := by
          intro n51
          induction n51 with
          | zero => intro τ s T D hKn hfr hQ hI hT hD hb hl hm; exact absurd hm (Nat.not_lt_zero _)
          | succ n51 ih51 =>
            intro τ s T D hKn hfr hQ hI hT hD hb hl hm51
            have hV : HV τ h v := hV0.keep (fun q q1 q2 => hfr q (by omega)) h4 h5
            have hQ1 := hQ
            obtain ⟨hqu, hsn, hn5⟩ := hQ1
            have hle := hI.le
            refine r_iload hc dX10_fewestDoors_51 rfl ?_
            refine r_sipush (v := nI 2048) hc dX10_fewestDoors_53 rfl ?_
            refine r_icmp_ge (tgt := 118) hc dX10_fewestDoors_56 (by decide) (le_NN (by omega) (by omega)) (fun c_56 => ?_) (fun c_56 => ?_)
            ·
              refine r_bipush (v := zI (-6)) hc dX10_fewestDoors_118 rfl ?_
              exact hR _ _ ⟨_, rfl, (by refine congrArg zI ?_; have hle := hI.le; rw [← hb, show 2049 - T = (2049 - (T + 1)) + 1 by omega, bfR, if_neg (by omega)]), hfr⟩ rfl _ _ dX10_fewestDoors_120
            ·
              refine r_iload_n hc dX10_fewestDoors_59 rfl ?_
              refine r_aload_n hc dX10_fewestDoors_60 rfl ?_
              refine gf_X10_67 (x := nI s.2.1) hc hK.1.1 hn5 dX10_fewestDoors_61 ?_
              refine r_icmp_ge (tgt := 118) hc dX10_fewestDoors_64 (by decide) (le_NN (by omega) (by omega)) (fun c_64 => ?_) (fun c_64 => ?_)
              ·
                refine r_bipush (v := zI (-6)) hc dX10_fewestDoors_118 rfl ?_
                exact hR _ _ ⟨_, rfl, (by refine congrArg zI ?_; have hle := hI.le; rw [← hb, show 2049 - T = (2049 - (T + 1)) + 1 by omega, bfR, if_neg (by omega)]), hfr⟩ rfl _ _ dX10_fewestDoors_120
              ·
                refine r_aload_n hc dX10_fewestDoors_67 rfl ?_
                refine gf_X10_67 (x := nI s.2.1) hc hK.1.1 hn5 dX10_fewestDoors_68 ?_
                refine r_istore (ls' := [(5, .int (nI s.2.1)), (0, .ref a), (1, .ref h), (2, .int (nI t)), (3, .int (nI T)), (4, .int (nI D))]) hc dX10_fewestDoors_71 (by decide) rfl ?_
                have loop73 : ∀ (n73 : Nat) (τ : Nat → Nat → Int32) (s : BfT) (T : Nat) (E : Nat), (WKn τ a v) → (∀ q, (q < a ∨ a + 5 ≤ q) → τ q = σ q) → (WQu τ a s) → (BInv s) → (E ≤ s.2.1 ∧ T ≤ E ∧ D < E) → (bfR v t (2049 - T) T s = bfR v t 2049 0 (bf0 (v 3))) → (∀ j, T ≤ j → j < E → s.2.2 (s.1 j) = (D : Int)) → (∀ j, E ≤ j → j < s.2.1 → s.2.2 (s.1 j) = (D : Int) + 1) → (E - T) < n73 → Vw Ω Φ (z, sh, τ, ρ) (0, 0) 73 [(0, .ref a), (1, .ref h), (2, .int (nI t)), (3, .int (nI T)), (4, .int (nI D)), (5, .int (nI E))] [] := by
                  intro n73
                  induction n73 with
                  | zero => intro τ s T E hKn hfr hQ hI hE hb hl1 hl2 hm; exact absurd hm (Nat.not_lt_zero _)
                  | succ n73 ih73 =>
                    intro τ s T E hKn hfr hQ hI hE hb hl1 hl2 hm73
                    have hV : HV τ h v := hV0.keep (fun q q1 q2 => hfr q (by omega)) h4 h5
                    have hQ1 := hQ
                    obtain ⟨hqu, hsn, hn5⟩ := hQ1
                    have hle := hI.le
                    refine r_iload_n hc dX10_fewestDoors_73 rfl ?_
                    refine r_iload hc dX10_fewestDoors_74 rfl ?_
                    refine r_icmp_ge (tgt := 112) hc dX10_fewestDoors_76 (by decide) (le_NN (by omega) (by omega)) (fun c_76 => ?_) (fun c_76 => ?_)
                    ·
                      refine r_iinc (v := nI (D + 1)) (ls' := [(4, .int (nI (D + 1))), (0, .ref a), (1, .ref h), (2, .int (nI t)), (3, .int (nI T)), (5, .int (nI E))]) hc dX10_fewestDoors_112 rfl (ad_NN _ 1) (by decide) rfl ?_
                      refine r_goto (tgt := 51) hc dX10_fewestDoors_115 (by decide) ?_
                      refine r_locp [1, 2, 3, 4, 0] (ls' := [(0, .ref a), (1, .ref h), (2, .int (nI t)), (3, .int (nI T)), (4, .int (nI (D + 1)))]) rfl ?_
                      exact ih51 τ s T (D + 1) hKn hfr hQ hI (by omega) (by omega) hb (fun j h1 h2 => by rw [hl2 j (by omega) h2]; omega) (by omega)
                    ·
                      have hq2 := hI.2.1 T (by omega)
                      refine r_aload_n hc dX10_fewestDoors_79 rfl ?_
                      refine gf_X10_18 (q := a + 3) hc hK.1.1 hK.2.2.2.1 dX10_fewestDoors_80 ?_
                      refine r_iload_n hc dX10_fewestDoors_83 rfl ?_
                      refine r_iald (x := nI (s.1 T)) (j := T) hc hK.1.2.2.2.1 rfl (by omega) (by decide) (hqu _ (by omega)) dX10_fewestDoors_84 ?_
                      refine r_bipush (v := nI 7) hc dX10_fewestDoors_85 rfl ?_
                      refine r_iand (v := nI (s.1 T % 8)) hc dX10_fewestDoors_87 (by rw [an_NN, and7]) ?_
                      refine r_iload_n hc dX10_fewestDoors_88 rfl ?_
                      refine r_icmp_ne (tgt := 95) hc dX10_fewestDoors_89 (by decide) (eq_NN (by omega) (by omega)) (fun c_89 => ?_) (fun c_89 => ?_)
                      ·
                        refine r_aload_n hc dX10_fewestDoors_95 rfl ?_
                        refine r_aload_n hc dX10_fewestDoors_96 rfl ?_
                        refine r_aload_n hc dX10_fewestDoors_97 rfl ?_
                        refine gf_X10_18 (q := a + 3) hc hK.1.1 hK.2.2.2.1 dX10_fewestDoors_98 ?_
                        refine r_iload_n hc dX10_fewestDoors_101 rfl ?_
                        refine r_iald (x := nI (s.1 T)) (j := T) hc hK.1.2.2.2.1 rfl (by omega) (by decide) (hqu _ (by omega)) dX10_fewestDoors_102 ?_
                        refine cl_X10_74 (As := [.ref h, .int (nI (s.1 T))]) hc (c_X10_enqueueBeyond hK hH hV hah hok (s := s) hI hQ hKn (st := s.1 T) hq2.1 hq2.2) hK.1.1 rfl ⟨by decide, by decide⟩ ⟨rfl, rfl⟩ ⟨by decide, by decide⟩ rfl (Nat.le_of_ble_eq_true rfl) dX10_fewestDoors_103 (fun u hp => ?_)
                        obtain ⟨τ2, hu, hQ2, hKn2, hfr2⟩ := hp
                        rw [hu]
                        have hfr : ∀ q, (q < a ∨ a + 5 ≤ q) → τ2 q = σ q := fun q hq => by rw [hfr2 q hq]; exact hfr q hq
                        have hbd := bfD_all (v := v) hI hq2.1 hq2.2 (fun d hd => ⟨(hdo d hd).1, (hdo d hd).2.1⟩) (v 4) (Nat.le_refl _)
                        have hx1 := hbd.2.1
                        have hx2 := hbd.2.2.1
                        have hx3 := hbd.2.2.2.1
                        have hx4 := hbd.2.2.2.2
                        have hb2 : bfR v t (2049 - (T + 1)) (T + 1) (bfD v (s.1 T) s (v 4)) = bfR v t 2049 0 (bf0 (v 3)) := by rw [← hb, show 2049 - T = (2049 - (T + 1)) + 1 by omega, bfR, if_pos (by omega), if_neg c_89]
                        have hl1n : ∀ j, T + 1 ≤ j → j < E → (bfD v (s.1 T) s (v 4)).2.2 ((bfD v (s.1 T) s (v 4)).1 j) = (D : Int) := fun j h1 h2 => by have h7 := hl1 j (by omega) h2; rw [hx2 j (by omega), hx3 _ (by omega)]; exact h7
                        have hl2n : ∀ j, E ≤ j → j < (bfD v (s.1 T) s (v 4)).2.1 → (bfD v (s.1 T) s (v 4)).2.2 ((bfD v (s.1 T) s (v 4)).1 j) = (D : Int) + 1 := fun j h1 h2 => by
                          by_cases h8 : j < s.2.1
                          · have h7 := hl2 j h1 h8
                            rw [hx2 j h8, hx3 _ (by omega)]; exact h7
                          · rw [hx4 j (by omega) h2, hl1 T (by omega) (by omega)]
                        refine r_iinc (v := nI (T + 1)) (ls' := [(3, .int (nI (T + 1))), (0, .ref a), (1, .ref h), (2, .int (nI t)), (4, .int (nI D)), (5, .int (nI E))]) hc dX10_fewestDoors_106 rfl (ad_NN _ 1) (by decide) rfl ?_
                        refine r_goto (tgt := 73) hc dX10_fewestDoors_109 (by decide) ?_
                        refine r_locp [1, 2, 3, 0, 4, 5] (ls' := [(0, .ref a), (1, .ref h), (2, .int (nI t)), (3, .int (nI (T + 1))), (4, .int (nI D)), (5, .int (nI E))]) rfl ?_
                        exact ih73 τ2 (bfD v (s.1 T) s (v 4)) (T + 1) E hKn2 hfr hQ2 hbd.1 (by omega) hb2 hl1n hl2n (by omega)
                      ·
                        refine r_iload hc dX10_fewestDoors_92 rfl ?_
                        exact hR _ _ ⟨_, rfl, (by rw [nz]; refine congrArg zI ?_; rw [← hb, show 2049 - T = (2049 - (T + 1)) + 1 by omega, bfR, if_pos (by omega), if_pos c_89, hl1 T (by omega) (by omega)]), hfr⟩ rfl _ _ dX10_fewestDoors_94
                refine r_locp [1, 2, 3, 4, 5, 0] (ls' := [(0, .ref a), (1, .ref h), (2, .int (nI t)), (3, .int (nI T)), (4, .int (nI D)), (5, .int (nI s.2.1))]) rfl ?_
                exact loop73 _ τ s T s.2.1 hKn hfr hQ hI (by omega) hb hl (fun j h1 h2 => absurd h2 (by omega)) (Nat.lt_succ_self _)
        refine r_locp [2, 3, 4, 1, 0] (ls' := [(0, .ref a), (1, .ref h), (2, .int (nI t)), (3, .int (nI 0)), (4, .int (nI 0))]) rfl ?_
        exact loop51 _ τ2 (bf0 (v 3)) 0 0 hKn hfr hQ2 hI0 (by omega) (by omega) rfl hl0 (Nat.lt_succ_self _)
      ·
        refine r_aload_n hc dX10_fewestDoors_14 rfl ?_
        refine gf_X10_21 (q := a + 4) hc hK.1.1 hK.2.2.2.2 dX10_fewestDoors_15 ?_
        refine r_iload_n hc dX10_fewestDoors_18 rfl ?_
        refine r_iconst (v := nI 0) hc dX10_fewestDoors_19 rfl ?_
        refine r_zast (j := k) hc hK.1.2.2.2.2 rfl (by omega) (by decide) (by rfl) dX10_fewestDoors_20 ?_
        generalize hσ2 : s2 τ (a + 4) k (nI 0) = σ2
        have hV : HV σ2 h v := by rw [← hσ2]; exact hV.dead (by omega) (by omega) (by right; right; right; omega)
        refine r_iinc (v := nI (k + 1)) (ls' := [(3, .int (nI (k + 1))), (0, .ref a), (1, .ref h), (2, .int (nI t))]) hc dX10_fewestDoors_21 rfl (ad_NN _ 1) (by decide) rfl ?_
        refine r_goto (tgt := 7) hc dX10_fewestDoors_24 (by decide) ?_
        refine r_locp [1, 2, 3, 0] (ls' := [(0, .ref a), (1, .ref h), (2, .int (nI t)), (3, .int (nI (k + 1)))]) rfl ?_
        exact ih7 σ2 (k + 1) (by omega) (fun x hx => by rw [← hσ2]; exact fill_step hz hx) (by rw [← hσ2]; exact (hKn.keep (s2_na (by omega)) (s2_ne (by omega)) (s2_ne (by omega)))) (fun q hq => by rw [← hσ2, s2_ne (show q ≠ a + 4 by omega)]; exact hfr q hq) (by omega)
  refine r_locp [1, 2, 3, 0] (ls' := [(0, .ref a), (1, .ref h), (2, .int (nI t)), (3, .int (nI 0))]) rfl ?_
  exact loop7 _ τ0 0 (by omega) (fun x hx => absurd hx (Nat.not_lt_zero _)) hKn hfr (Nat.lt_succ_self _)
