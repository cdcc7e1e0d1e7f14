/-! ===== the law: rows and cells ===== -/
abbrev rm_L_cell : Room := { frames := 0, cells := 0, slots := 0, locals := 0 }
abbrev rm_L_has : Room := { frames := 0, cells := 0, slots := 0, locals := 0 }
abbrev rm_L_digit : Room := { frames := 0, cells := 0, slots := 0, locals := 0 }
abbrev rm_L_weight : Room := { frames := 1, cells := 0, slots := 0, locals := 21 }
abbrev rm_L_fits : Room := { frames := 1, cells := 0, slots := 0, locals := 21 }
abbrev rm_L_isKey : Room := { frames := 1, cells := 0, slots := 0, locals := 21 }
abbrev rm_L_loss : Room := { frames := 6, cells := 0, slots := 0, locals := 132 }
abbrev rm_L_agree : Room := { frames := 6, cells := 0, slots := 0, locals := 132 }
abbrev rm_L_isDoor : Room := { frames := 6, cells := 0, slots := 0, locals := 132 }
abbrev rm_L_isCut : Room := { frames := 7, cells := 0, slots := 0, locals := 154 }
abbrev rm_L_isCutKey : Room := { frames := 6, cells := 0, slots := 0, locals := 132 }
abbrev rm_L_isMelted : Room := { frames := 7, cells := 0, slots := 0, locals := 154 }
abbrev rm_L_isTaken : Room := { frames := 6, cells := 0, slots := 0, locals := 132 }
abbrev rm_L_isPut : Room := { frames := 6, cells := 0, slots := 0, locals := 132 }
abbrev rm_L_isGone : Room := { frames := 6, cells := 0, slots := 0, locals := 132 }
abbrev rm_L_isPlanned : Room := { frames := 6, cells := 0, slots := 0, locals := 132 }
abbrev rm_L_isCarried : Room := { frames := 6, cells := 0, slots := 0, locals := 137 }
abbrev rm_L_row : Room := { frames := 1, cells := 0, slots := 0, locals := 22 }
abbrev rm_L_isAct : Room := { frames := 8, cells := 0, slots := 0, locals := 185 }
set_option maxRecDepth 100000 in
set_option maxHeartbeats 4000000 in
theorem c_L_digit {Ω : OmT} {S : StT} {c p : Nat} (hc0 : c < 10000) (hp0 : p < 4) : CtI Ω yL_digit cL_digit 2 .int rm_L_digit [.int (nI c), .int (nI p)] S (fun r u => r = nI (dgt c (3 - p)) ∧ u = S) := by
  refine CtI.enter (by decide) (Nat.le_of_ble_eq_true rfl) (fun Φ hc hR => ?_)
  show Vw Ω Φ S (0, 0) 0 [(0, .int (nI c)), (1, .int (nI p))] []
  refine r_iload_n hc dL_digit_0 rfl ?_
  refine r_iload_n hc dL_digit_1 rfl ?_
  refine r_if_ne (tgt := 11) hc dL_digit_2 (by decide) (e0_N (by omega)) (fun c_2 => ?_) (fun c_2 => ?_)
  ·
    refine r_iload_n hc dL_digit_11 rfl ?_
    refine r_iconst (v := nI 1) hc dL_digit_12 rfl ?_
    refine r_icmp_ne (tgt := 21) hc dL_digit_13 (by decide) (eq_NN (by omega) (by omega)) (fun c_13 => ?_) (fun c_13 => ?_)
    ·
      refine r_iload_n hc dL_digit_21 rfl ?_
      refine r_iconst (v := nI 2) hc dL_digit_22 rfl ?_
      refine r_icmp_ne (tgt := 31) hc dL_digit_23 (by decide) (eq_NN (by omega) (by omega)) (fun c_23 => ?_) (fun c_23 => ?_)
      ·
        refine r_iconst (v := nI 1) hc dL_digit_31 rfl ?_
        refine r_idiv (v := nI (c / 1)) hc dL_digit_32 (nu_ne0 (by omega) (by omega)) (dv_NN _ _ (by omega) (by omega) (by omega)) ?_
        refine r_bipush (v := nI 10) hc dL_digit_33 rfl ?_
        refine r_irem (v := nI ((c / 1) % 10)) hc dL_digit_35 (nu_ne0 (by omega) (by omega)) (rm_NN _ _ (by omega) (by omega) (by omega)) ?_
        exact hR _ _ ⟨congrArg nI (by rw [show p = 3 by omega]; show c / 1 % 10 = c % 10; omega), rfl⟩ rfl _ _ dL_digit_36
      ·
        refine r_bipush (v := nI 10) hc dL_digit_26 rfl ?_
        refine r_goto (tgt := 32) hc dL_digit_28 (by decide) ?_
        refine r_idiv (v := nI (c / 10)) hc dL_digit_32 (nu_ne0 (by omega) (by omega)) (dv_NN _ _ (by omega) (by omega) (by omega)) ?_
        refine r_bipush (v := nI 10) hc dL_digit_33 rfl ?_
        refine r_irem (v := nI ((c / 10) % 10)) hc dL_digit_35 (nu_ne0 (by omega) (by omega)) (rm_NN _ _ (by omega) (by omega) (by omega)) ?_
        exact hR _ _ ⟨congrArg nI (by rw [show p = 2 by omega]; rfl), rfl⟩ rfl _ _ dL_digit_36
    ·
      refine r_bipush (v := nI 100) hc dL_digit_16 rfl ?_
      refine r_goto (tgt := 32) hc dL_digit_18 (by decide) ?_
      refine r_idiv (v := nI (c / 100)) hc dL_digit_32 (nu_ne0 (by omega) (by omega)) (dv_NN _ _ (by omega) (by omega) (by omega)) ?_
      refine r_bipush (v := nI 10) hc dL_digit_33 rfl ?_
      refine r_irem (v := nI ((c / 100) % 10)) hc dL_digit_35 (nu_ne0 (by omega) (by omega)) (rm_NN _ _ (by omega) (by omega) (by omega)) ?_
      exact hR _ _ ⟨congrArg nI (by rw [show p = 1 by omega]; show c / 100 % 10 = c / 10 / 10 % 10; omega), rfl⟩ rfl _ _ dL_digit_36
  ·
    refine r_sipush (v := nI 1000) hc dL_digit_5 rfl ?_
    refine r_goto (tgt := 32) hc dL_digit_8 (by decide) ?_
    refine r_idiv (v := nI (c / 1000)) hc dL_digit_32 (nu_ne0 (by omega) (by omega)) (dv_NN _ _ (by omega) (by omega) (by omega)) ?_
    refine r_bipush (v := nI 10) hc dL_digit_33 rfl ?_
    refine r_irem (v := nI ((c / 1000) % 10)) hc dL_digit_35 (nu_ne0 (by omega) (by omega)) (rm_NN _ _ (by omega) (by omega) (by omega)) ?_
    exact hR _ _ ⟨congrArg nI (by rw [show p = 0 by omega]; show c / 1000 % 10 = c / 10 / 10 / 10 % 10; omega), rfl⟩ rfl _ _ dL_digit_36
set_option maxRecDepth 100000 in
set_option maxHeartbeats 4000000 in
theorem c_L_has {Ω : OmT} {S : StT} {x k : Nat} (hx : x < 2147483648) (hk : k < 31) : CtI Ω yL_has cL_has 2 .boolean rm_L_has [.int (nI x), .int (nI k)] S (fun r u => r = bI (x.testBit k) ∧ u = S) := by
  refine CtI.enter (by decide) (Nat.le_of_ble_eq_true rfl) (fun Φ hc hR => ?_)
  show Vw Ω Φ S (0, 0) 0 [(0, .int (nI x)), (1, .int (nI k))] []
  refine r_iload_n hc dL_has_0 rfl ?_
  refine r_iload_n hc dL_has_1 rfl ?_
  refine r_ishr (v := nI (x / 2 ^ k)) hc dL_has_2 (sr_NN _ _ (by omega) (by omega)) ?_
  refine r_iconst (v := nI 1) hc dL_has_3 rfl ?_
  refine r_iand (v := nI ((x / 2 ^ k) &&& 1)) hc dL_has_4 (an_NN _ _) ?_
  refine r_iconst (v := nI 1) hc dL_has_5 rfl ?_
  refine r_icmp_ne (tgt := 13) hc dL_has_6 (by decide) (eq_NN (Nat.lt_of_le_of_lt Nat.and_le_right (by decide)) (by omega)) (fun c_6 => ?_) (fun c_6 => ?_)
  ·
    refine r_iconst (v := nI 0) hc dL_has_13 rfl ?_
    exact hR _ _ ⟨bI_f (Bool.eq_false_iff.mpr (fun q => c_6 ((tb_1 x k).mpr q))), rfl⟩ rfl _ _ dL_has_14
  ·
    refine r_iconst (v := nI 1) hc dL_has_9 rfl ?_
    refine r_goto (tgt := 14) hc dL_has_10 (by decide) ?_
    exact hR _ _ ⟨bI_t ((tb_1 x k).mp c_6), rfl⟩ rfl _ _ dL_has_14
def wF (f s : Nat) : Nat → Nat
  | 0 => 4
  | k + 1 => wF f s k + (dgt f (3 - k) + nd f s (3 - k))
theorem wF_le (f s k : Nat) : wF f s k ≤ 4 + 10 * k := by
  induction k with
  | zero => exact Nat.le_refl _
  | succ k ih =>
    have h1 := dgt_lt f (3 - k)
    have h2 := nd_le f s (3 - k)
    simp only [wF]
    omega
set_option maxRecDepth 100000 in
set_option maxHeartbeats 4000000 in
theorem c_L_weight {Ω : OmT} {S : StT} {f s : Nat} (hf0 : f < 10000) (hs0 : s < 10000) : CtI Ω yL_weight cL_weight 4 .int rm_L_weight [.int (nI f), .int (nI s)] S (fun r u => r = nI (lockW f s) ∧ u = S) := by
  refine CtI.enter (by decide) (Nat.le_of_ble_eq_true rfl) (fun Φ hc hR => ?_)
  show Vw Ω Φ S (0, 0) 0 [(0, .int (nI f)), (1, .int (nI s))] []
  refine r_iconst (v := nI 4) hc dL_weight_0 rfl ?_
  refine r_istore_n (ls' := [(2, .int (nI 4)), (0, .int (nI f)), (1, .int (nI s))]) hc dL_weight_1 (by decide) rfl ?_
  refine r_iconst (v := nI 0) hc dL_weight_2 rfl ?_
  refine r_istore_n (ls' := [(3, .int (nI 0)), (2, .int (nI 4)), (0, .int (nI f)), (1, .int (nI s))]) hc dL_weight_3 (by decide) rfl ?_
  have loop4 : ∀ (n4 : Nat) (k : Nat) (a : Nat), (k ≤ 4) → (a = wF f s k) → (4 - k) < n4 → Vw Ω Φ S (0, 0) 4 [(0, .int (nI f)), (1, .int (nI s)), (2, .int (nI a)), (3, .int (nI k))] [] := by
    intro n4
    induction n4 with
    | zero => intro k a hk hf hm; exact absurd hm (Nat.not_lt_zero _)
    | succ n4 ih4 =>
      intro k a hk hf hm4
      have hab := wF_le f s k
      refine r_iload_n hc dL_weight_4 rfl ?_
      refine r_iconst (v := nI 4) hc dL_weight_5 rfl ?_
      refine r_icmp_ge (tgt := 42) hc dL_weight_6 (by decide) (le_NN (by omega) (by omega)) (fun c_6 => ?_) (fun c_6 => ?_)
      ·
        refine r_iload_n hc dL_weight_42 rfl ?_
        exact hR _ _ ⟨congrArg nI (by rw [hf, show k = 4 by omega]; simp [wF, lockW, sumD]; omega), rfl⟩ rfl _ _ dL_weight_43
      ·
        refine r_iload_n hc dL_weight_9 rfl ?_
        refine r_iload_n hc dL_weight_10 rfl ?_
        refine r_iload_n hc dL_weight_11 rfl ?_
        have hdg_12 := dgt_lt f (3 - k)
        refine cl_L_8 (As := [.int (nI f), .int (nI k)]) hc (c_L_digit (c := f) (p := k) (by omega) (by omega)) rfl ⟨by decide, by decide⟩ ⟨rfl, rfl⟩ ⟨by decide, by decide⟩ rfl (Nat.le_of_ble_eq_true rfl) dL_weight_12 (fun r u hp => ?_)
        obtain ⟨rfl, hu⟩ := hp
        rw [hu]
        refine r_iload_n hc dL_weight_15 rfl ?_
        refine r_iload_n hc dL_weight_16 rfl ?_
        have hdg_17 := dgt_lt f (3 - k)
        refine cl_L_8 (As := [.int (nI f), .int (nI k)]) hc (c_L_digit (c := f) (p := k) (by omega) (by omega)) rfl ⟨by decide, by decide⟩ ⟨rfl, rfl⟩ ⟨by decide, by decide⟩ rfl (Nat.le_of_ble_eq_true rfl) dL_weight_17 (fun r u hp => ?_)
        obtain ⟨rfl, hu⟩ := hp
        rw [hu]
        refine r_iload_n hc dL_weight_20 rfl ?_
        refine r_iload_n hc dL_weight_21 rfl ?_
        have hdg_22 := dgt_lt s (3 - k)
        refine cl_L_8 (As := [.int (nI s), .int (nI k)]) hc (c_L_digit (c := s) (p := k) (by omega) (by omega)) rfl ⟨by decide, by decide⟩ ⟨rfl, rfl⟩ ⟨by decide, by decide⟩ rfl (Nat.le_of_ble_eq_true rfl) dL_weight_22 (fun r u hp => ?_)
        obtain ⟨rfl, hu⟩ := hp
        rw [hu]
        refine r_icmp_eq (tgt := 32) hc dL_weight_25 (by decide) (eq_NN (by omega) (by omega)) (fun c_25 => ?_) (fun c_25 => ?_)
        ·
          refine r_iconst (v := nI 0) hc dL_weight_32 rfl ?_
          refine r_iadd (v := nI (dgt f (3 - k))) hc dL_weight_33 (ad_NN _ 0) ?_
          refine r_iadd (v := nI (a + (dgt f (3 - k)))) hc dL_weight_34 (ad_NN _ _) ?_
          refine r_istore_n (ls' := [(2, .int (nI (a + (dgt f (3 - k))))), (0, .int (nI f)), (1, .int (nI s)), (3, .int (nI k))]) hc dL_weight_35 (by decide) rfl ?_
          refine r_iinc (v := nI (k + 1)) (ls' := [(3, .int (nI (k + 1))), (2, .int (nI (a + (dgt f (3 - k))))), (0, .int (nI f)), (1, .int (nI s))]) hc dL_weight_36 rfl (ad_NN _ 1) (by decide) rfl ?_
          refine r_goto (tgt := 4) hc dL_weight_39 (by decide) ?_
          refine r_locp [2, 3, 1, 0] (ls' := [(0, .int (nI f)), (1, .int (nI s)), (2, .int (nI (a + (dgt f (3 - k))))), (3, .int (nI (k + 1)))]) rfl ?_
          exact ih4 (k + 1) (a + (dgt f (3 - k))) (by omega) (by rw [hf, wF]; simp [nd, c_25]) (by omega)
        ·
          refine r_iconst (v := nI 1) hc dL_weight_28 rfl ?_
          refine r_goto (tgt := 33) hc dL_weight_29 (by decide) ?_
          refine r_iadd (v := nI (dgt f (3 - k) + 1)) hc dL_weight_33 (ad_NN _ _) ?_
          refine r_iadd (v := nI (a + (dgt f (3 - k) + 1))) hc dL_weight_34 (ad_NN _ _) ?_
          refine r_istore_n (ls' := [(2, .int (nI (a + (dgt f (3 - k) + 1)))), (0, .int (nI f)), (1, .int (nI s)), (3, .int (nI k))]) hc dL_weight_35 (by decide) rfl ?_
          refine r_iinc (v := nI (k + 1)) (ls' := [(3, .int (nI (k + 1))), (2, .int (nI (a + (dgt f (3 - k) + 1)))), (0, .int (nI f)), (1, .int (nI s))]) hc dL_weight_36 rfl (ad_NN _ 1) (by decide) rfl ?_
          refine r_goto (tgt := 4) hc dL_weight_39 (by decide) ?_
          refine r_locp [2, 3, 1, 0] (ls' := [(0, .int (nI f)), (1, .int (nI s)), (2, .int (nI (a + (dgt f (3 - k) + 1)))), (3, .int (nI (k + 1)))]) rfl ?_
          exact ih4 (k + 1) (a + (dgt f (3 - k) + 1)) (by omega) (by rw [hf, wF]; simp [nd, c_25]) (by omega)
  refine r_locp [2, 3, 1, 0] (ls' := [(0, .int (nI f)), (1, .int (nI s)), (2, .int (nI 4)), (3, .int (nI 0))]) rfl ?_
  exact loop4 _ 0 4 (by omega) rfl (Nat.lt_succ_self _)
theorem fitL_at {c f s : Nat} (h : fitL c f s = true) {j : Nat} (hj : j < 4) : fitK c f s j = true := by
  unfold fitL at h
  simp only [Bool.and_eq_true] at h
  rcases (show j = 0 ∨ j = 1 ∨ j = 2 ∨ j = 3 by omega) with rfl | rfl | rfl | rfl
  · exact h.1.1.1
  · exact h.1.1.2
  · exact h.1.2
  · exact h.2
set_option maxRecDepth 100000 in
set_option maxHeartbeats 4000000 in
theorem c_L_fits {Ω : OmT} {S : StT} {c f s : Nat} (hc0 : c < 10000) (hf0 : f < 10000) (hs0 : s < 10000) : CtI Ω yL_fits cL_fits 5 .boolean rm_L_fits [.int (nI c), .int (nI f), .int (nI s)] S (fun r u => r = bI (fitL c f s) ∧ u = S) := by
  refine CtI.enter (by decide) (Nat.le_of_ble_eq_true rfl) (fun Φ hc hR => ?_)
  show Vw Ω Φ S (0, 0) 0 [(0, .int (nI c)), (1, .int (nI f)), (2, .int (nI s))] []
  refine r_iconst (v := nI 0) hc dL_fits_0 rfl ?_
  refine r_istore_n (ls' := [(3, .int (nI 0)), (0, .int (nI c)), (1, .int (nI f)), (2, .int (nI s))]) hc dL_fits_1 (by decide) rfl ?_
  have loop2 : ∀ (n2 : Nat) (k : Nat), (k ≤ 4) → (fitG c f s k = true) → (4 - k) < n2 → Vw Ω Φ S (0, 0) 2 [(0, .int (nI c)), (1, .int (nI f)), (2, .int (nI s)), (3, .int (nI k))] [] := by
    intro n2
    induction n2 with
    | zero => intro k hk hf hm; exact absurd hm (Nat.not_lt_zero _)
    | succ n2 ih2 =>
      intro k hk hf hm2
      refine r_iload_n hc dL_fits_2 rfl ?_
      refine r_iconst (v := nI 4) hc dL_fits_3 rfl ?_
      refine r_icmp_ge (tgt := 42) hc dL_fits_4 (by decide) (le_NN (by omega) (by omega)) (fun c_4 => ?_) (fun c_4 => ?_)
      ·
        refine r_iconst (v := nI 1) hc dL_fits_42 rfl ?_
        exact hR _ _ ⟨bI_t (by rw [show k = 4 by omega, fitG_4] at hf; exact hf), rfl⟩ rfl _ _ dL_fits_43
      ·
        refine r_iload_n hc dL_fits_7 rfl ?_
        refine r_iload_n hc dL_fits_8 rfl ?_
        have hdg_9 := dgt_lt c (3 - k)
        refine cl_L_8 (As := [.int (nI c), .int (nI k)]) hc (c_L_digit (c := c) (p := k) (by omega) (by omega)) rfl ⟨by decide, by decide⟩ ⟨rfl, rfl⟩ ⟨by decide, by decide⟩ rfl (Nat.le_of_ble_eq_true rfl) dL_fits_9 (fun r u hp => ?_)
        obtain ⟨rfl, hu⟩ := hp
        rw [hu]
        refine r_istore (ls' := [(4, .int (nI (dgt c (3 - k)))), (0, .int (nI c)), (1, .int (nI f)), (2, .int (nI s)), (3, .int (nI k))]) hc dL_fits_12 (by decide) rfl ?_
        refine r_iload hc dL_fits_14 rfl ?_
        refine r_iload_n hc dL_fits_16 rfl ?_
        refine r_iload_n hc dL_fits_17 rfl ?_
        have hdg_18 := dgt_lt f (3 - k)
        refine cl_L_8 (As := [.int (nI f), .int (nI k)]) hc (c_L_digit (c := f) (p := k) (by omega) (by omega)) rfl ⟨by decide, by decide⟩ ⟨rfl, rfl⟩ ⟨by decide, by decide⟩ rfl (Nat.le_of_ble_eq_true rfl) dL_fits_18 (fun r u hp => ?_)
        obtain ⟨rfl, hu⟩ := hp
        rw [hu]
        refine r_icmp_eq (tgt := 36) hc dL_fits_21 (by decide) (eq_NN (by omega) (by omega)) (fun c_21 => ?_) (fun c_21 => ?_)
        ·
          refine r_iinc (v := nI (k + 1)) (ls' := [(3, .int (nI (k + 1))), (4, .int (nI (dgt c (3 - k)))), (0, .int (nI c)), (1, .int (nI f)), (2, .int (nI s))]) hc dL_fits_36 rfl (ad_NN _ 1) (by decide) rfl ?_
          refine r_goto (tgt := 2) hc dL_fits_39 (by decide) ?_
          refine r_locp [2, 3, 4, 0] (ls' := [(0, .int (nI c)), (1, .int (nI f)), (2, .int (nI s)), (3, .int (nI (k + 1)))]) rfl ?_
          exact ih2 (k + 1) (by omega) (by rw [fitG, hf]; simp [fitK, c_21]) (by omega)
        ·
          refine r_iload hc dL_fits_24 rfl ?_
          refine r_iload_n hc dL_fits_26 rfl ?_
          refine r_iload_n hc dL_fits_27 rfl ?_
          have hdg_28 := dgt_lt s (3 - k)
          refine cl_L_8 (As := [.int (nI s), .int (nI k)]) hc (c_L_digit (c := s) (p := k) (by omega) (by omega)) rfl ⟨by decide, by decide⟩ ⟨rfl, rfl⟩ ⟨by decide, by decide⟩ rfl (Nat.le_of_ble_eq_true rfl) dL_fits_28 (fun r u hp => ?_)
          obtain ⟨rfl, hu⟩ := hp
          rw [hu]
          refine r_icmp_eq (tgt := 36) hc dL_fits_31 (by decide) (eq_NN (by omega) (by omega)) (fun c_31 => ?_) (fun c_31 => ?_)
          ·
            refine r_iinc (v := nI (k + 1)) (ls' := [(3, .int (nI (k + 1))), (4, .int (nI (dgt c (3 - k)))), (0, .int (nI c)), (1, .int (nI f)), (2, .int (nI s))]) hc dL_fits_36 rfl (ad_NN _ 1) (by decide) rfl ?_
            refine r_goto (tgt := 2) hc dL_fits_39 (by decide) ?_
            refine r_locp [2, 3, 4, 0] (ls' := [(0, .int (nI c)), (1, .int (nI f)), (2, .int (nI s)), (3, .int (nI (k + 1)))]) rfl ?_
            exact ih2 (k + 1) (by omega) (by rw [fitG, hf]; simp [fitK, c_31]) (by omega)
          ·
            refine r_iconst (v := nI 0) hc dL_fits_34 rfl ?_
            exact hR _ _ ⟨bI_f (Bool.eq_false_iff.mpr (fun q => by have q2 := fitL_at q (j := 3 - k) (by omega); simp [fitK, c_21, c_31] at q2)), rfl⟩ rfl _ _ dL_fits_35
  refine r_locp [1, 2, 3, 0] (ls' := [(0, .int (nI c)), (1, .int (nI f)), (2, .int (nI s)), (3, .int (nI 0))]) rfl ?_
  exact loop2 _ 0 (by omega) rfl (Nat.lt_succ_self _)
theorem canK_at {st c : Nat} (h : canK st c = true) {k : Nat} (hk : k < 3) : adj st (dgt c (3 - k)) (dgt c (3 - (k + 1))) = true := by
  unfold canK at h
  simp only [Bool.and_eq_true] at h
  rw [adj_comm]
  rcases (show k = 0 ∨ k = 1 ∨ k = 2 by omega) with rfl | rfl | rfl
  · exact h.2
  · exact h.1.2
  · exact h.1.1
set_option maxRecDepth 100000 in
set_option maxHeartbeats 4000000 in
theorem c_L_isKey {Ω : OmT} {S : StT} {c b : Nat} (hc0 : c < 10000) (hb0 : b < 100) : CtI Ω yL_isKey cL_isKey 4 .boolean rm_L_isKey [.int (nI c), .int (nI b)] S (fun r u => r = bI (canK b c) ∧ u = S) := by
  refine CtI.enter (by decide) (Nat.le_of_ble_eq_true rfl) (fun Φ hc hR => ?_)
  show Vw Ω Φ S (0, 0) 0 [(0, .int (nI c)), (1, .int (nI b))] []
  refine r_iconst (v := nI 0) hc dL_isKey_0 rfl ?_
  refine r_istore_n (ls' := [(2, .int (nI 0)), (0, .int (nI c)), (1, .int (nI b))]) hc dL_isKey_1 (by decide) rfl ?_
  have loop2 : ∀ (n2 : Nat) (k : Nat), (k ≤ 3) → (canG b c k = true) → (3 - k) < n2 → Vw Ω Φ S (0, 0) 2 [(0, .int (nI c)), (1, .int (nI b)), (2, .int (nI k))] [] := by
    intro n2
    induction n2 with
    | zero => intro k hk hf hm; exact absurd hm (Nat.not_lt_zero _)
    | succ n2 ih2 =>
      intro k hk hf hm2
      refine r_iload_n hc dL_isKey_2 rfl ?_
      refine r_iconst (v := nI 3) hc dL_isKey_3 rfl ?_
      refine r_icmp_ge (tgt := 40) hc dL_isKey_4 (by decide) (le_NN (by omega) (by omega)) (fun c_4 => ?_) (fun c_4 => ?_)
      ·
        refine r_iconst (v := nI 1) hc dL_isKey_40 rfl ?_
        exact hR _ _ ⟨bI_t (by rw [show k = 3 by omega, canG_3] at hf; exact hf), rfl⟩ rfl _ _ dL_isKey_41
      ·
        refine r_iload_n hc dL_isKey_7 rfl ?_
        refine r_iload_n hc dL_isKey_8 rfl ?_
        have hdg_9 := dgt_lt c (3 - k)
        refine cl_L_8 (As := [.int (nI c), .int (nI k)]) hc (c_L_digit (c := c) (p := k) (by omega) (by omega)) rfl ⟨by decide, by decide⟩ ⟨rfl, rfl⟩ ⟨by decide, by decide⟩ rfl (Nat.le_of_ble_eq_true rfl) dL_isKey_9 (fun r u hp => ?_)
        obtain ⟨rfl, hu⟩ := hp
        rw [hu]
        refine r_iload_n hc dL_isKey_12 rfl ?_
        refine r_iload_n hc dL_isKey_13 rfl ?_
        refine r_iconst (v := nI 1) hc dL_isKey_14 rfl ?_
        refine r_iadd (v := nI (k + 1)) hc dL_isKey_15 (ad_NN _ _) ?_
        have hdg_16 := dgt_lt c (3 - (k + 1))
        refine cl_L_8 (As := [.int (nI c), .int (nI (k + 1))]) hc (c_L_digit (c := c) (p := k + 1) (by omega) (by omega)) rfl ⟨by decide, by decide⟩ ⟨rfl, rfl⟩ ⟨by decide, by decide⟩ rfl (Nat.le_of_ble_eq_true rfl) dL_isKey_16 (fun r u hp => ?_)
        obtain ⟨rfl, hu⟩ := hp
        rw [hu]
        refine r_isub (v := zI (((dgt c (3 - k) : Nat) : Int) - ((dgt c (3 - (k + 1)) : Nat) : Int))) hc dL_isKey_19 (sb_NN _ _) ?_
        refine r_istore_n (ls' := [(3, .int (zI (((dgt c (3 - k) : Nat) : Int) - ((dgt c (3 - (k + 1)) : Nat) : Int)))), (0, .int (nI c)), (1, .int (nI b)), (2, .int (nI k))]) hc dL_isKey_20 (by decide) rfl ?_
        refine r_iload_n hc dL_isKey_21 rfl ?_
        refine r_iload_n hc dL_isKey_22 rfl ?_
        refine r_icmp_gt (tgt := 32) hc dL_isKey_23 (by decide) (lt_NZ (by omega) (by omega)) (fun c_23 => ?_) (fun c_23 => ?_)
        ·
          refine r_iconst (v := nI 0) hc dL_isKey_32 rfl ?_
          exact hR _ _ ⟨bI_f (Bool.eq_false_iff.mpr (fun q => by have q2 := canK_at q (k := k) (by omega); simp only [adj, Bool.and_eq_true, decide_eq_true_eq] at q2; omega)), rfl⟩ rfl _ _ dL_isKey_33
        ·
          refine r_iload_n hc dL_isKey_26 rfl ?_
          refine r_iload_n hc dL_isKey_27 rfl ?_
          refine r_ineg (v := zI (-((b : Int)))) hc dL_isKey_28 (ng_N _) ?_
          refine r_icmp_ge (tgt := 34) hc dL_isKey_29 (by decide) (le_ZZ (by omega) (by omega)) (fun c_29 => ?_) (fun c_29 => ?_)
          ·
            refine r_iinc (v := nI (k + 1)) (ls' := [(2, .int (nI (k + 1))), (3, .int (zI (((dgt c (3 - k) : Nat) : Int) - ((dgt c (3 - (k + 1)) : Nat) : Int)))), (0, .int (nI c)), (1, .int (nI b))]) hc dL_isKey_34 rfl (ad_NN _ 1) (by decide) rfl ?_
            refine r_goto (tgt := 2) hc dL_isKey_37 (by decide) ?_
            refine r_locp [2, 3, 0] (ls' := [(0, .int (nI c)), (1, .int (nI b)), (2, .int (nI (k + 1)))]) rfl ?_
            exact ih2 (k + 1) (by omega) (by rw [canG, hf, Bool.true_and]; simp only [adj, Bool.and_eq_true, decide_eq_true_eq]; omega) (by omega)
          ·
            refine r_iconst (v := nI 0) hc dL_isKey_32 rfl ?_
            exact hR _ _ ⟨bI_f (Bool.eq_false_iff.mpr (fun q => by have q2 := canK_at q (k := k) (by omega); simp only [adj, Bool.and_eq_true, decide_eq_true_eq] at q2; omega)), rfl⟩ rfl _ _ dL_isKey_33
  refine r_locp [1, 2, 0] (ls' := [(0, .int (nI c)), (1, .int (nI b)), (2, .int (nI 0))]) rfl ?_
  exact loop2 _ 0 (by omega) rfl (Nat.lt_succ_self _)
theorem andM (x : Int32) (M : Nat) : ∃ c : Nat, c ≤ M ∧ x &&& nI M = nI c := by
  refine ⟨x.toUInt32.toNat &&& M, Nat.and_le_right, ?_⟩
  have h := an_NN x.toUInt32.toNat M
  rw [← nIx_of x] at h
  exact h
set_option maxRecDepth 100000 in
set_option maxHeartbeats 4000000 in
theorem c_L_cell {Ω : OmT} {S : StT} {k n : Nat} (hk : k < 10000) (hn0 : 0 < n) (hn1 : n < 100000) : CtI Ω yL_cell cL_cell 3 .int rm_L_cell [.ref (scB Ω), .int (nI k), .int (nI n)] S (fun r u => ∃ m : Nat, m < n ∧ r = nI m ∧ u = S) := by
  refine CtI.enter (by decide) (Nat.le_of_ble_eq_true rfl) (fun Φ hc hR => ?_)
  show Vw Ω Φ S (0, 0) 0 [(0, .ref (scB Ω)), (1, .int (nI k)), (2, .int (nI n))] []
  have hsc := scl hc
  refine r_aload_n hc dL_cell_0 rfl ?_
  refine r_slen hc dL_cell_1 ?_
  refine r_if_ne (tgt := 14) hc dL_cell_2 (by decide) (e0_N (by omega)) (fun c_2 => ?_) (fun c_2 => ?_)
  ·
    refine r_aload_n hc dL_cell_14 rfl ?_
    refine r_iload_n hc dL_cell_15 rfl ?_
    refine r_aload_n hc dL_cell_16 rfl ?_
    refine r_slen hc dL_cell_17 ?_
    refine r_irem (v := nI (k % (scL Ω))) hc dL_cell_18 (nu_ne0 (by omega) (by omega)) (rm_NN _ _ (by omega) (by omega) (by omega)) ?_
    refine r_sld (j := k % (scL Ω)) hc rfl (Nat.mod_lt _ (by omega)) dL_cell_19 (fun x => ?_)
    refine r_iload_n hc dL_cell_20 rfl ?_
    refine r_bipush (v := nI 7) hc dL_cell_21 rfl ?_
    refine r_irem (v := nI (k % 7)) hc dL_cell_23 (nu_ne0 (by omega) (by omega)) (rm_NN _ _ (by omega) (by omega) (by omega)) ?_
    refine r_ishr (v := x >>> (nI (k % 7) &&& 31)) hc dL_cell_24 rfl ?_
    refine lk_L_7 hc dL_cell_25 ?_
    rw [show (4194303 : Int32) = nI 4194303 from rfl]
    obtain ⟨c, hc4, hce⟩ := andM (x >>> (nI (k % 7) &&& 31)) 4194303
    refine r_iand (v := nI c) hc dL_cell_27 hce ?_
    refine r_iload_n hc dL_cell_28 rfl ?_
    refine r_irem (v := nI (c % n)) hc dL_cell_29 (nu_ne0 (by omega) (by omega)) (rm_NN _ _ (by omega) (by omega) (by omega)) ?_
    exact hR _ _ ⟨_, Nat.mod_lt _ hn0, rfl, rfl⟩ rfl _ _ dL_cell_30
  ·
    refine r_iload_n hc dL_cell_5 rfl ?_
    refine r_bipush (v := nI 37) hc dL_cell_6 rfl ?_
    refine r_imul (v := nI (k * 37)) hc dL_cell_8 (ml_NN _ _) ?_
    refine r_iconst (v := nI 5) hc dL_cell_9 rfl ?_
    refine r_iadd (v := nI (k * 37 + 5)) hc dL_cell_10 (ad_NN _ _) ?_
    refine r_goto (tgt := 28) hc dL_cell_11 (by decide) ?_
    refine r_iload_n hc dL_cell_28 rfl ?_
    refine r_irem (v := nI ((k * 37 + 5) % n)) hc dL_cell_29 (nu_ne0 (by omega) (by omega)) (rm_NN _ _ (by omega) (by omega) (by omega)) ?_
    exact hR _ _ ⟨_, Nat.mod_lt _ hn0, rfl, rfl⟩ rfl _ _ dL_cell_30
set_option maxRecDepth 100000 in
set_option maxHeartbeats 4000000 in
theorem c_L_row {Ω : OmT} {S : StT} {a : Nat} (ha : a < 9000) : CtI Ω yL_row cL_row 3 .int rm_L_row [.ref (scB Ω), .int (nI a)] S (fun r u => ∃ m : Nat, m < 10000 ∧ r = nI m ∧ u = S) := by
  refine CtI.enter (by decide) (Nat.le_of_ble_eq_true rfl) (fun Φ hc hR => ?_)
  show Vw Ω Φ S (0, 0) 0 [(0, .ref (scB Ω)), (1, .int (nI a))] []
  refine r_aload_n hc dL_row_0 rfl ?_
  refine r_iload_n hc dL_row_1 rfl ?_
  refine r_iconst (v := nI 4) hc dL_row_2 rfl ?_
  refine cl_L_95 (As := [.ref (scB Ω), .int (nI a), .int (nI 4)]) hc (c_L_cell (k := a) (n := 4) (by omega) (by omega) (by omega)) rfl ⟨by decide, by decide⟩ ⟨rfl, rfl⟩ ⟨by decide, by decide⟩ rfl (Nat.le_of_ble_eq_true rfl) dL_row_3 (fun r u hp => ?_)
  obtain ⟨m_3, hm_3, rfl, hu⟩ := hp
  rw [hu]
  refine r_if_ne (tgt := 22) hc dL_row_6 (by decide) (e0_N (by omega)) (fun c_6 => ?_) (fun c_6 => ?_)
  ·
    refine r_sipush (v := nI 2345) hc dL_row_22 rfl ?_
    refine r_istore_n (ls' := [(2, .int (nI 2345)), (0, .ref (scB Ω)), (1, .int (nI a))]) hc dL_row_25 (by decide) rfl ?_
    refine r_aload_n hc dL_row_26 rfl ?_
    refine r_iload_n hc dL_row_27 rfl ?_
    refine r_iconst (v := nI 3) hc dL_row_28 rfl ?_
    refine cl_L_95 (As := [.ref (scB Ω), .int (nI a), .int (nI 3)]) hc (c_L_cell (k := a) (n := 3) (by omega) (by omega) (by omega)) rfl ⟨by decide, by decide⟩ ⟨rfl, rfl⟩ ⟨by decide, by decide⟩ rfl (Nat.le_of_ble_eq_true rfl) dL_row_29 (fun r u hp => ?_)
    obtain ⟨m_29, hm_29, rfl, hu⟩ := hp
    rw [hu]
    refine r_if_ne (tgt := 39) hc dL_row_32 (by decide) (e0_N (by omega)) (fun c_32 => ?_) (fun c_32 => ?_)
    ·
      refine r_iload_n hc dL_row_39 rfl ?_
      refine r_bipush (v := nI 10) hc dL_row_40 rfl ?_
      refine r_idiv (v := nI (2345 / 10)) hc dL_row_42 (nu_ne0 (by omega) (by omega)) (dv_NN _ _ (by omega) (by omega) (by omega)) ?_
      refine r_bipush (v := nI 10) hc dL_row_43 rfl ?_
      refine r_imul (v := nI ((2345 / 10) * 10)) hc dL_row_45 (ml_NN _ _) ?_
      refine r_aload_n hc dL_row_46 rfl ?_
      refine r_iload_n hc dL_row_47 rfl ?_
      refine r_iconst (v := nI 2) hc dL_row_48 rfl ?_
      refine r_iadd (v := nI (a + 2)) hc dL_row_49 (ad_NN _ _) ?_
      refine r_bipush (v := nI 8) hc dL_row_50 rfl ?_
      refine cl_L_95 (As := [.ref (scB Ω), .int (nI (a + 2)), .int (nI 8)]) hc (c_L_cell (k := a + 2) (n := 8) (by omega) (by omega) (by omega)) rfl ⟨by decide, by decide⟩ ⟨rfl, rfl⟩ ⟨by decide, by decide⟩ rfl (Nat.le_of_ble_eq_true rfl) dL_row_52 (fun r u hp => ?_)
      obtain ⟨m_52, hm_52, rfl, hu⟩ := hp
      rw [hu]
      refine r_iadd (v := nI ((2345 / 10) * 10 + m_52)) hc dL_row_55 (ad_NN _ _) ?_
      exact hR _ _ ⟨_, (by omega), rfl, rfl⟩ rfl _ _ dL_row_56
    ·
      refine r_iload_n hc dL_row_35 rfl ?_
      refine r_goto (tgt := 56) hc dL_row_36 (by decide) ?_
      exact hR _ _ ⟨_, (by omega), rfl, rfl⟩ rfl _ _ dL_row_56
  ·
    refine r_aload_n hc dL_row_9 rfl ?_
    refine r_iload_n hc dL_row_10 rfl ?_
    refine r_iconst (v := nI 1) hc dL_row_11 rfl ?_
    refine r_iadd (v := nI (a + 1)) hc dL_row_12 (ad_NN _ _) ?_
    refine r_sipush (v := nI 10000) hc dL_row_13 rfl ?_
    refine cl_L_95 (As := [.ref (scB Ω), .int (nI (a + 1)), .int (nI 10000)]) hc (c_L_cell (k := a + 1) (n := 10000) (by omega) (by omega) (by omega)) rfl ⟨by decide, by decide⟩ ⟨rfl, rfl⟩ ⟨by decide, by decide⟩ rfl (Nat.le_of_ble_eq_true rfl) dL_row_16 (fun r u hp => ?_)
    obtain ⟨m_16, hm_16, rfl, hu⟩ := hp
    rw [hu]
    refine r_goto (tgt := 25) hc dL_row_19 (by decide) ?_
    refine r_istore_n (ls' := [(2, .int (nI m_16)), (0, .ref (scB Ω)), (1, .int (nI a))]) hc dL_row_25 (by decide) rfl ?_
    refine r_aload_n hc dL_row_26 rfl ?_
    refine r_iload_n hc dL_row_27 rfl ?_
    refine r_iconst (v := nI 3) hc dL_row_28 rfl ?_
    refine cl_L_95 (As := [.ref (scB Ω), .int (nI a), .int (nI 3)]) hc (c_L_cell (k := a) (n := 3) (by omega) (by omega) (by omega)) rfl ⟨by decide, by decide⟩ ⟨rfl, rfl⟩ ⟨by decide, by decide⟩ rfl (Nat.le_of_ble_eq_true rfl) dL_row_29 (fun r u hp => ?_)
    obtain ⟨m_29, hm_29, rfl, hu⟩ := hp
    rw [hu]
    refine r_if_ne (tgt := 39) hc dL_row_32 (by decide) (e0_N (by omega)) (fun c_32 => ?_) (fun c_32 => ?_)
    ·
      refine r_iload_n hc dL_row_39 rfl ?_
      refine r_bipush (v := nI 10) hc dL_row_40 rfl ?_
      refine r_idiv (v := nI (m_16 / 10)) hc dL_row_42 (nu_ne0 (by omega) (by omega)) (dv_NN _ _ (by omega) (by omega) (by omega)) ?_
      refine r_bipush (v := nI 10) hc dL_row_43 rfl ?_
      refine r_imul (v := nI ((m_16 / 10) * 10)) hc dL_row_45 (ml_NN _ _) ?_
      refine r_aload_n hc dL_row_46 rfl ?_
      refine r_iload_n hc dL_row_47 rfl ?_
      refine r_iconst (v := nI 2) hc dL_row_48 rfl ?_
      refine r_iadd (v := nI (a + 2)) hc dL_row_49 (ad_NN _ _) ?_
      refine r_bipush (v := nI 8) hc dL_row_50 rfl ?_
      refine cl_L_95 (As := [.ref (scB Ω), .int (nI (a + 2)), .int (nI 8)]) hc (c_L_cell (k := a + 2) (n := 8) (by omega) (by omega) (by omega)) rfl ⟨by decide, by decide⟩ ⟨rfl, rfl⟩ ⟨by decide, by decide⟩ rfl (Nat.le_of_ble_eq_true rfl) dL_row_52 (fun r u hp => ?_)
      obtain ⟨m_52, hm_52, rfl, hu⟩ := hp
      rw [hu]
      refine r_iadd (v := nI ((m_16 / 10) * 10 + m_52)) hc dL_row_55 (ad_NN _ _) ?_
      exact hR _ _ ⟨_, (by omega), rfl, rfl⟩ rfl _ _ dL_row_56
    ·
      refine r_iload_n hc dL_row_35 rfl ?_
      refine r_goto (tgt := 56) hc dL_row_36 (by decide) ?_
      exact hR _ _ ⟨_, (by omega), rfl, rfl⟩ rfl _ _ dL_row_56
