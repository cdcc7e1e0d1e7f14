/-! ===== as in whole: house1 ===== -/
set_option maxRecDepth 100000 in
set_option maxHeartbeats 4000000 in
theorem c_X0_weight {Ω : OmT} {z : Nat} {sh : Nat → Option Kd} {σ : Nat → Nat → Int32} {ρ : Nat → Nat → Option Nat} {a f s : Nat} (hsh : sh a = some (.inl 0)) (hf : σ a 2 = nI f) (hs : σ a 3 = nI s) (hf0 : f < 10000) (hs0 : s < 10000) : CtI Ω yX0_weight cX0_weight 1 .int rm_X0_weight [.ref a] (z, sh, σ, ρ) (fun r u => r = nI (lockW f s) ∧ u = (z, sh, σ, ρ)) := by
  refine CtI.enter (by decide) (Nat.le_of_ble_eq_true rfl) (fun Φ hc hR => ?_)
  show Vw Ω Φ (z, sh, σ, ρ) (0, 0) 0 [(0, .ref a)] []
  refine r_aload_n hc dX0_weight_0 rfl ?_
  refine gf_X0_18 (x := nI f) hc hsh hf dX0_weight_1 ?_
  refine r_aload_n hc dX0_weight_4 rfl ?_
  refine gf_X0_21 (x := nI s) hc hsh hs dX0_weight_5 ?_
  refine cl_X0_27 (As := [.int (nI f), .int (nI s)]) hc (c_X9_lockWeight (f := f) (s := s) (by omega) (by omega)) rfl ⟨by decide, by decide⟩ ⟨rfl, rfl⟩ ⟨by decide, by decide⟩ rfl (Nat.le_of_ble_eq_true rfl) dX0_weight_8 (fun r u hp => ?_)
  obtain ⟨rfl, hu⟩ := hp
  rw [hu]
  exact hR _ _ ⟨rfl, rfl⟩ rfl _ _ dX0_weight_11
set_option maxRecDepth 100000 in
set_option maxHeartbeats 4000000 in
theorem c_X0_isOpenedBy {Ω : OmT} {z : Nat} {sh : Nat → Option Kd} {σ : Nat → Nat → Int32} {ρ : Nat → Nat → Option Nat} {a f s : Nat} (hsh : sh a = some (.inl 0)) {c : Nat} (hf : σ a 2 = nI f) (hs : σ a 3 = nI s) (hc0 : c < 10000) (hf0 : f < 10000) (hs0 : s < 10000) : CtI Ω yX0_isOpenedBy cX0_isOpenedBy 7 .boolean rm_X0_isOpenedBy [.ref a, .int (nI c)] (z, sh, σ, ρ) (fun r u => r = bI (fitL c f s) ∧ u = (z, sh, σ, ρ)) := by
  refine CtI.enter (by decide) (Nat.le_of_ble_eq_true rfl) (fun Φ hc hR => ?_)
  show Vw Ω Φ (z, sh, σ, ρ) (0, 0) 0 [(0, .ref a), (1, .int (nI c))] []
  refine r_iload_n hc dX0_isOpenedBy_0 rfl ?_
  refine r_istore_n (ls' := [(2, .int (nI c)), (0, .ref a), (1, .int (nI c))]) hc dX0_isOpenedBy_1 (by decide) rfl ?_
  refine r_aload_n hc dX0_isOpenedBy_2 rfl ?_
  refine gf_X0_18 (x := nI f) hc hsh hf dX0_isOpenedBy_3 ?_
  refine r_istore_n (ls' := [(3, .int (nI f)), (2, .int (nI c)), (0, .ref a), (1, .int (nI c))]) hc dX0_isOpenedBy_6 (by decide) rfl ?_
  refine r_aload_n hc dX0_isOpenedBy_7 rfl ?_
  refine gf_X0_21 (x := nI s) hc hsh hs dX0_isOpenedBy_8 ?_
  refine r_istore (ls' := [(4, .int (nI s)), (3, .int (nI f)), (2, .int (nI c)), (0, .ref a), (1, .int (nI c))]) hc dX0_isOpenedBy_11 (by decide) rfl ?_
  refine r_iconst (v := nI 0) hc dX0_isOpenedBy_13 rfl ?_
  refine r_istore (ls' := [(5, .int (nI 0)), (4, .int (nI s)), (3, .int (nI f)), (2, .int (nI c)), (0, .ref a), (1, .int (nI c))]) hc dX0_isOpenedBy_14 (by decide) rfl ?_
  have loop16 : ∀ (n16 : Nat) (k : Nat) (q : Nat) (x : Nat) (y : Nat), (k ≤ 4) → (q < 10000) → (x < 10000) → (y < 10000) → (fitF (4 - k) q x y = fitF 4 c f s) → (4 - k) < n16 → Vw Ω Φ (z, sh, σ, ρ) (0, 0) 16 [(0, .ref a), (1, .int (nI c)), (2, .int (nI q)), (3, .int (nI x)), (4, .int (nI y)), (5, .int (nI k))] [] := by
    intro n16
    induction n16 with
    | zero => intro k q x y hk hq hx hy hg hm; exact absurd hm (Nat.not_lt_zero _)
    | succ n16 ih16 =>
      intro k q x y hk hq hx hy hg hm16
      refine r_iload hc dX0_isOpenedBy_16 rfl ?_
      refine r_iconst (v := nI 4) hc dX0_isOpenedBy_18 rfl ?_
      refine r_icmp_ge (tgt := 72) hc dX0_isOpenedBy_19 (by decide) (le_NN (by omega) (by omega)) (fun c_19 => ?_) (fun c_19 => ?_)
      ·
        refine r_iconst (v := nI 1) hc dX0_isOpenedBy_72 rfl ?_
        exact hR _ _ ⟨bI_t (by rw [show 4 - k = 0 by omega, fitF] at hg; rw [← fitF_4]; exact hg.symm), rfl⟩ rfl _ _ dX0_isOpenedBy_73
      ·
        refine r_iload_n hc dX0_isOpenedBy_22 rfl ?_
        refine r_bipush (v := nI 10) hc dX0_isOpenedBy_23 rfl ?_
        refine r_irem (v := nI (q % 10)) hc dX0_isOpenedBy_25 (nu_ne0 (by omega) (by omega)) (rm_NN _ _ (by omega) (by omega) (by omega)) ?_
        refine r_istore (ls' := [(6, .int (nI (q % 10))), (0, .ref a), (1, .int (nI c)), (2, .int (nI q)), (3, .int (nI x)), (4, .int (nI y)), (5, .int (nI k))]) hc dX0_isOpenedBy_26 (by decide) rfl ?_
        refine r_iload hc dX0_isOpenedBy_28 rfl ?_
        refine r_iload_n hc dX0_isOpenedBy_30 rfl ?_
        refine r_bipush (v := nI 10) hc dX0_isOpenedBy_31 rfl ?_
        refine r_irem (v := nI (x % 10)) hc dX0_isOpenedBy_33 (nu_ne0 (by omega) (by omega)) (rm_NN _ _ (by omega) (by omega) (by omega)) ?_
        refine r_icmp_eq (tgt := 49) hc dX0_isOpenedBy_34 (by decide) (eq_NN (by omega) (by omega)) (fun c_34 => ?_) (fun c_34 => ?_)
        ·
          refine r_iload_n hc dX0_isOpenedBy_49 rfl ?_
          refine r_bipush (v := nI 10) hc dX0_isOpenedBy_50 rfl ?_
          refine r_idiv (v := nI (q / 10)) hc dX0_isOpenedBy_52 (nu_ne0 (by omega) (by omega)) (dv_NN _ _ (by omega) (by omega) (by omega)) ?_
          refine r_istore_n (ls' := [(2, .int (nI (q / 10))), (6, .int (nI (q % 10))), (0, .ref a), (1, .int (nI c)), (3, .int (nI x)), (4, .int (nI y)), (5, .int (nI k))]) hc dX0_isOpenedBy_53 (by decide) rfl ?_
          refine r_iload_n hc dX0_isOpenedBy_54 rfl ?_
          refine r_bipush (v := nI 10) hc dX0_isOpenedBy_55 rfl ?_
          refine r_idiv (v := nI (x / 10)) hc dX0_isOpenedBy_57 (nu_ne0 (by omega) (by omega)) (dv_NN _ _ (by omega) (by omega) (by omega)) ?_
          refine r_istore_n (ls' := [(3, .int (nI (x / 10))), (2, .int (nI (q / 10))), (6, .int (nI (q % 10))), (0, .ref a), (1, .int (nI c)), (4, .int (nI y)), (5, .int (nI k))]) hc dX0_isOpenedBy_58 (by decide) rfl ?_
          refine r_iload hc dX0_isOpenedBy_59 rfl ?_
          refine r_bipush (v := nI 10) hc dX0_isOpenedBy_61 rfl ?_
          refine r_idiv (v := nI (y / 10)) hc dX0_isOpenedBy_63 (nu_ne0 (by omega) (by omega)) (dv_NN _ _ (by omega) (by omega) (by omega)) ?_
          refine r_istore (ls' := [(4, .int (nI (y / 10))), (3, .int (nI (x / 10))), (2, .int (nI (q / 10))), (6, .int (nI (q % 10))), (0, .ref a), (1, .int (nI c)), (5, .int (nI k))]) hc dX0_isOpenedBy_64 (by decide) rfl ?_
          refine r_iinc (v := nI (k + 1)) (ls' := [(5, .int (nI (k + 1))), (4, .int (nI (y / 10))), (3, .int (nI (x / 10))), (2, .int (nI (q / 10))), (6, .int (nI (q % 10))), (0, .ref a), (1, .int (nI c))]) hc dX0_isOpenedBy_66 rfl (ad_NN _ 1) (by decide) rfl ?_
          refine r_goto (tgt := 16) hc dX0_isOpenedBy_69 (by decide) ?_
          refine r_locp [5, 6, 3, 2, 1, 0] (ls' := [(0, .ref a), (1, .int (nI c)), (2, .int (nI (q / 10))), (3, .int (nI (x / 10))), (4, .int (nI (y / 10))), (5, .int (nI (k + 1)))]) rfl ?_
          exact ih16 (k + 1) (q / 10) (x / 10) (y / 10) (by omega) (by omega) (by omega) (by omega) (by rw [← hg, show 4 - k = (4 - (k + 1)) + 1 by omega, fitF]; simp [c_34]) (by omega)
        ·
          refine r_iload hc dX0_isOpenedBy_37 rfl ?_
          refine r_iload hc dX0_isOpenedBy_39 rfl ?_
          refine r_bipush (v := nI 10) hc dX0_isOpenedBy_41 rfl ?_
          refine r_irem (v := nI (y % 10)) hc dX0_isOpenedBy_43 (nu_ne0 (by omega) (by omega)) (rm_NN _ _ (by omega) (by omega) (by omega)) ?_
          refine r_icmp_eq (tgt := 49) hc dX0_isOpenedBy_44 (by decide) (eq_NN (by omega) (by omega)) (fun c_44 => ?_) (fun c_44 => ?_)
          ·
            refine r_iload_n hc dX0_isOpenedBy_49 rfl ?_
            refine r_bipush (v := nI 10) hc dX0_isOpenedBy_50 rfl ?_
            refine r_idiv (v := nI (q / 10)) hc dX0_isOpenedBy_52 (nu_ne0 (by omega) (by omega)) (dv_NN _ _ (by omega) (by omega) (by omega)) ?_
            refine r_istore_n (ls' := [(2, .int (nI (q / 10))), (6, .int (nI (q % 10))), (0, .ref a), (1, .int (nI c)), (3, .int (nI x)), (4, .int (nI y)), (5, .int (nI k))]) hc dX0_isOpenedBy_53 (by decide) rfl ?_
            refine r_iload_n hc dX0_isOpenedBy_54 rfl ?_
            refine r_bipush (v := nI 10) hc dX0_isOpenedBy_55 rfl ?_
            refine r_idiv (v := nI (x / 10)) hc dX0_isOpenedBy_57 (nu_ne0 (by omega) (by omega)) (dv_NN _ _ (by omega) (by omega) (by omega)) ?_
            refine r_istore_n (ls' := [(3, .int (nI (x / 10))), (2, .int (nI (q / 10))), (6, .int (nI (q % 10))), (0, .ref a), (1, .int (nI c)), (4, .int (nI y)), (5, .int (nI k))]) hc dX0_isOpenedBy_58 (by decide) rfl ?_
            refine r_iload hc dX0_isOpenedBy_59 rfl ?_
            refine r_bipush (v := nI 10) hc dX0_isOpenedBy_61 rfl ?_
            refine r_idiv (v := nI (y / 10)) hc dX0_isOpenedBy_63 (nu_ne0 (by omega) (by omega)) (dv_NN _ _ (by omega) (by omega) (by omega)) ?_
            refine r_istore (ls' := [(4, .int (nI (y / 10))), (3, .int (nI (x / 10))), (2, .int (nI (q / 10))), (6, .int (nI (q % 10))), (0, .ref a), (1, .int (nI c)), (5, .int (nI k))]) hc dX0_isOpenedBy_64 (by decide) rfl ?_
            refine r_iinc (v := nI (k + 1)) (ls' := [(5, .int (nI (k + 1))), (4, .int (nI (y / 10))), (3, .int (nI (x / 10))), (2, .int (nI (q / 10))), (6, .int (nI (q % 10))), (0, .ref a), (1, .int (nI c))]) hc dX0_isOpenedBy_66 rfl (ad_NN _ 1) (by decide) rfl ?_
            refine r_goto (tgt := 16) hc dX0_isOpenedBy_69 (by decide) ?_
            refine r_locp [5, 6, 3, 2, 1, 0] (ls' := [(0, .ref a), (1, .int (nI c)), (2, .int (nI (q / 10))), (3, .int (nI (x / 10))), (4, .int (nI (y / 10))), (5, .int (nI (k + 1)))]) rfl ?_
            exact ih16 (k + 1) (q / 10) (x / 10) (y / 10) (by omega) (by omega) (by omega) (by omega) (by rw [← hg, show 4 - k = (4 - (k + 1)) + 1 by omega, fitF]; simp [c_44]) (by omega)
          ·
            refine r_iconst (v := nI 0) hc dX0_isOpenedBy_47 rfl ?_
            exact hR _ _ ⟨bI_f (by rw [← fitF_4, ← hg, show 4 - k = (4 - (k + 1)) + 1 by omega, fitF]; simp [c_34, c_44]), rfl⟩ rfl _ _ dX0_isOpenedBy_48
  refine r_locp [4, 5, 3, 2, 1, 0] (ls' := [(0, .ref a), (1, .int (nI c)), (2, .int (nI c)), (3, .int (nI f)), (4, .int (nI s)), (5, .int (nI 0))]) rfl ?_
  exact loop16 _ 0 c f s (by omega) (by omega) (by omega) (by omega) rfl (Nat.lt_succ_self _)
set_option maxRecDepth 100000 in
set_option maxHeartbeats 4000000 in
theorem c_X0_beyond {Ω : OmT} {z : Nat} {sh : Nat → Option Kd} {σ : Nat → Nat → Int32} {ρ : Nat → Nat → Option Nat} {a f s : Nat} (hsh : sh a = some (.inl 0)) {r : Nat} (hf : σ a 0 = nI f) (hs : σ a 1 = nI s) (hr : r < 8) (hf0 : f < 8) (hs0 : s < 8) : CtI Ω yX0_beyond cX0_beyond 2 .int rm_X0_beyond [.ref a, .int (nI r)] (z, sh, σ, ρ) (fun r1 u => r1 = zI (beyO f s r) ∧ u = (z, sh, σ, ρ)) := by
  refine CtI.enter (by decide) (Nat.le_of_ble_eq_true rfl) (fun Φ hc hR => ?_)
  show Vw Ω Φ (z, sh, σ, ρ) (0, 0) 0 [(0, .ref a), (1, .int (nI r))] []
  refine r_iload_n hc dX0_beyond_0 rfl ?_
  refine r_aload_n hc dX0_beyond_1 rfl ?_
  refine gf_X0_9 (x := nI f) hc hsh hf dX0_beyond_2 ?_
  refine r_icmp_ne (tgt := 13) hc dX0_beyond_5 (by decide) (eq_NN (by omega) (by omega)) (fun c_5 => ?_) (fun c_5 => ?_)
  ·
    refine r_iload_n hc dX0_beyond_13 rfl ?_
    refine r_aload_n hc dX0_beyond_14 rfl ?_
    refine gf_X0_15 (x := nI s) hc hsh hs dX0_beyond_15 ?_
    refine r_icmp_ne (tgt := 28) hc dX0_beyond_18 (by decide) (eq_NN (by omega) (by omega)) (fun c_18 => ?_) (fun c_18 => ?_)
    ·
      refine r_bipush (v := zI (-6)) hc dX0_beyond_28 rfl ?_
      exact hR _ _ ⟨(by unfold beyO; rw [if_neg c_5, if_neg c_18]), rfl⟩ rfl _ _ dX0_beyond_30
    ·
      refine r_aload_n hc dX0_beyond_21 rfl ?_
      refine gf_X0_9 (x := nI f) hc hsh hf dX0_beyond_22 ?_
      refine r_goto (tgt := 30) hc dX0_beyond_25 (by decide) ?_
      exact hR _ _ ⟨(by unfold beyO; rw [if_neg c_5, if_pos c_18, nz]), rfl⟩ rfl _ _ dX0_beyond_30
  ·
    refine r_aload_n hc dX0_beyond_8 rfl ?_
    refine gf_X0_15 (x := nI s) hc hsh hs dX0_beyond_9 ?_
    exact hR _ _ ⟨(by unfold beyO; rw [if_pos c_5, nz]), rfl⟩ rfl _ _ dX0_beyond_12
set_option maxRecDepth 100000 in
set_option maxHeartbeats 4000000 in
theorem c_X2_isRoom {Ω : OmT} {S : StT} {x : Int} (hx : -2147483648 ≤ x ∧ x < 2147483648) : CtI Ω yX2_isRoom cX2_isRoom 1 .boolean rm_X2_isRoom [.int (zI x)] S (fun r u => r = bI (decide (0 ≤ x ∧ x < 8)) ∧ u = S) := by
  refine CtI.enter (by decide) (Nat.le_of_ble_eq_true rfl) (fun Φ hc hR => ?_)
  show Vw Ω Φ S (0, 0) 0 [(0, .int (zI x))] []
  refine r_iload_n hc dX2_isRoom_0 rfl ?_
  refine r_if_lt (tgt := 14) hc dX2_isRoom_1 (by decide) (l0_Z (by omega)) (fun c_1 => ?_) (fun c_1 => ?_)
  ·
    refine r_iconst (v := nI 0) hc dX2_isRoom_14 rfl ?_
    exact hR _ _ ⟨bI_f (by simp; omega), rfl⟩ rfl _ _ dX2_isRoom_15
  ·
    refine r_iload_n hc dX2_isRoom_4 rfl ?_
    refine r_bipush (v := nI 8) hc dX2_isRoom_5 rfl ?_
    refine r_icmp_ge (tgt := 14) hc dX2_isRoom_7 (by decide) (le_NZ (by omega) (by omega)) (fun c_7 => ?_) (fun c_7 => ?_)
    ·
      refine r_iconst (v := nI 0) hc dX2_isRoom_14 rfl ?_
      exact hR _ _ ⟨bI_f (by simp; omega), rfl⟩ rfl _ _ dX2_isRoom_15
    ·
      refine r_iconst (v := nI 1) hc dX2_isRoom_10 rfl ?_
      refine r_goto (tgt := 15) hc dX2_isRoom_11 (by decide) ?_
      exact hR _ _ ⟨bI_t (by simp; omega), rfl⟩ rfl _ _ dX2_isRoom_15
set_option maxRecDepth 100000 in
set_option maxHeartbeats 4000000 in
theorem c_X2_hasDoor {Ω : OmT} {z : Nat} {sh : Nat → Option Kd} {σ : Nat → Nat → Int32} {ρ : Nat → Nat → Option Nat} {h : Nat} {v : Nat → Nat} (hH : HSh sh ρ h) (hV : HV σ h v) {x : Int} (hx : -2147483648 ≤ x ∧ x < 2147483648) (h4 : v 4 ≤ 10) : CtI Ω yX2_hasDoor cX2_hasDoor 2 .boolean rm_X2_hasDoor [.ref h, .int (zI x)] (z, sh, σ, ρ) (fun r u => r = bI (decide (0 ≤ x ∧ x < ((v 4 : Nat) : Int))) ∧ u = (z, sh, σ, ρ)) := by
  refine CtI.enter (by decide) (Nat.le_of_ble_eq_true rfl) (fun Φ hc hR => ?_)
  show Vw Ω Φ (z, sh, σ, ρ) (0, 0) 0 [(0, .ref h), (1, .int (zI x))] []
  refine r_iload_n hc dX2_hasDoor_0 rfl ?_
  refine r_if_lt (tgt := 16) hc dX2_hasDoor_1 (by decide) (l0_Z (by omega)) (fun c_1 => ?_) (fun c_1 => ?_)
  ·
    refine r_iconst (v := nI 0) hc dX2_hasDoor_16 rfl ?_
    exact hR _ _ ⟨bI_f (by simp; omega), rfl⟩ rfl _ _ dX2_hasDoor_17
  ·
    refine r_iload_n hc dX2_hasDoor_4 rfl ?_
    refine r_aload_n hc dX2_hasDoor_5 rfl ?_
    refine gf_X2_36 (x := nI (v 4)) hc (HS0 hH) (HV4 hV) dX2_hasDoor_6 ?_
    refine r_icmp_ge (tgt := 16) hc dX2_hasDoor_9 (by decide) (le_NZ (by omega) (by omega)) (fun c_9 => ?_) (fun c_9 => ?_)
    ·
      refine r_iconst (v := nI 0) hc dX2_hasDoor_16 rfl ?_
      exact hR _ _ ⟨bI_f (by simp; omega), rfl⟩ rfl _ _ dX2_hasDoor_17
    ·
      refine r_iconst (v := nI 1) hc dX2_hasDoor_12 rfl ?_
      refine r_goto (tgt := 17) hc dX2_hasDoor_13 (by decide) ?_
      exact hR _ _ ⟨bI_t (by simp; omega), rfl⟩ rfl _ _ dX2_hasDoor_17
set_option maxRecDepth 100000 in
set_option maxHeartbeats 4000000 in
theorem c_X2_hasKey {Ω : OmT} {z : Nat} {sh : Nat → Option Kd} {σ : Nat → Nat → Int32} {ρ : Nat → Nat → Option Nat} {h : Nat} {v : Nat → Nat} (hH : HSh sh ρ h) (hV : HV σ h v) {x : Int} (hx : -2147483648 ≤ x ∧ x < 2147483648) (h5 : v 5 ≤ 16) : CtI Ω yX2_hasKey cX2_hasKey 2 .boolean rm_X2_hasKey [.ref h, .int (zI x)] (z, sh, σ, ρ) (fun r u => r = bI (decide (0 ≤ x ∧ x < ((v 5 : Nat) : Int))) ∧ u = (z, sh, σ, ρ)) := by
  refine CtI.enter (by decide) (Nat.le_of_ble_eq_true rfl) (fun Φ hc hR => ?_)
  show Vw Ω Φ (z, sh, σ, ρ) (0, 0) 0 [(0, .ref h), (1, .int (zI x))] []
  refine r_iload_n hc dX2_hasKey_0 rfl ?_
  refine r_if_lt (tgt := 16) hc dX2_hasKey_1 (by decide) (l0_Z (by omega)) (fun c_1 => ?_) (fun c_1 => ?_)
  ·
    refine r_iconst (v := nI 0) hc dX2_hasKey_16 rfl ?_
    exact hR _ _ ⟨bI_f (by simp; omega), rfl⟩ rfl _ _ dX2_hasKey_17
  ·
    refine r_iload_n hc dX2_hasKey_4 rfl ?_
    refine r_aload_n hc dX2_hasKey_5 rfl ?_
    refine gf_X2_44 (x := nI (v 5)) hc (HS0 hH) (HV5 hV) dX2_hasKey_6 ?_
    refine r_icmp_ge (tgt := 16) hc dX2_hasKey_9 (by decide) (le_NZ (by omega) (by omega)) (fun c_9 => ?_) (fun c_9 => ?_)
    ·
      refine r_iconst (v := nI 0) hc dX2_hasKey_16 rfl ?_
      exact hR _ _ ⟨bI_f (by simp; omega), rfl⟩ rfl _ _ dX2_hasKey_17
    ·
      refine r_iconst (v := nI 1) hc dX2_hasKey_12 rfl ?_
      refine r_goto (tgt := 17) hc dX2_hasKey_13 (by decide) ?_
      exact hR _ _ ⟨bI_t (by simp; omega), rfl⟩ rfl _ _ dX2_hasKey_17
set_option maxRecDepth 100000 in
set_option maxHeartbeats 4000000 in
theorem c_X2_keysAt {Ω : OmT} {z : Nat} {sh : Nat → Option Kd} {σ : Nat → Nat → Int32} {ρ : Nat → Nat → Option Nat} {h : Nat} {v : Nat → Nat} (hH : HSh sh ρ h) (hV : HV σ h v) {r : Nat} (hr : r < 100) (h5 : v 5 ≤ 16) (hwh : ∀ k, k < v 5 → v (80 + 4 * k + 2) ≤ 9) : CtI Ω yX2_keysAt cX2_keysAt 4 .int rm_X2_keysAt [.ref h, .int (nI r)] (z, sh, σ, ρ) (fun r1 u => r1 = nI (keysAt v r) ∧ u = (z, sh, σ, ρ)) := by
  refine CtI.enter (by decide) (Nat.le_of_ble_eq_true rfl) (fun Φ hc hR => ?_)
  show Vw Ω Φ (z, sh, σ, ρ) (0, 0) 0 [(0, .ref h), (1, .int (nI r))] []
  refine r_iconst (v := nI 0) hc dX2_keysAt_0 rfl ?_
  refine r_istore_n (ls' := [(2, .int (nI 0)), (0, .ref h), (1, .int (nI r))]) hc dX2_keysAt_1 (by decide) rfl ?_
  refine r_iconst (v := nI 0) hc dX2_keysAt_2 rfl ?_
  refine r_istore_n (ls' := [(3, .int (nI 0)), (2, .int (nI 0)), (0, .ref h), (1, .int (nI r))]) hc dX2_keysAt_3 (by decide) rfl ?_
  have loop4 : ∀ (n4 : Nat) (a : Nat) (k : Nat), (k ≤ v 5) → (a = bitsF (fun k => decide (whrR v k = r)) k) → (v 5 - k) < n4 → Vw Ω Φ (z, sh, σ, ρ) (0, 0) 4 [(0, .ref h), (1, .int (nI r)), (2, .int (nI a)), (3, .int (nI k))] [] := by
    intro n4
    induction n4 with
    | zero => intro a k hk hf hm; exact absurd hm (Nat.not_lt_zero _)
    | succ n4 ih4 =>
      intro a k hk hf hm4
      refine r_iload_n hc dX2_keysAt_4 rfl ?_
      refine r_aload_n hc dX2_keysAt_5 rfl ?_
      refine gf_X2_44 (x := nI (v 5)) hc (HS0 hH) (HV5 hV) dX2_keysAt_6 ?_
      refine r_icmp_ge (tgt := 37) hc dX2_keysAt_9 (by decide) (le_NN (by omega) (by omega)) (fun c_9 => ?_) (fun c_9 => ?_)
      ·
        refine r_iload_n hc dX2_keysAt_37 rfl ?_
        exact hR _ _ ⟨congrArg nI (by rw [hf, show k = v 5 by omega]; rfl), rfl⟩ rfl _ _ dX2_keysAt_38
      ·
        have hwk := hwh k (by omega)
        refine r_aload_n hc dX2_keysAt_12 rfl ?_
        refine gf_X2_23 (q := h + 3) hc (HS0 hH) (HR0 hH 2 3 (by decide)) dX2_keysAt_13 ?_
        refine r_iload_n hc dX2_keysAt_16 rfl ?_
        refine al_5 (r := h + 18 + k) (j := k) hc (HSa hH 3 _ rfl) rfl (by omega) (by decide) (HRk hH (by omega)) dX2_keysAt_17 ?_
        refine gf_X2_123 (x := nI (v (80 + 4 * k + 2))) hc (HSk hH (by omega)) (HVk2 hV (by omega)) dX2_keysAt_18 ?_
        refine r_iload_n hc dX2_keysAt_21 rfl ?_
        refine r_icmp_ne (tgt := 31) hc dX2_keysAt_22 (by decide) (eq_NN (by omega) (by omega)) (fun c_22 => ?_) (fun c_22 => ?_)
        ·
          refine r_iinc (v := nI (k + 1)) (ls' := [(3, .int (nI (k + 1))), (0, .ref h), (1, .int (nI r)), (2, .int (nI a))]) hc dX2_keysAt_31 rfl (ad_NN _ 1) (by decide) rfl ?_
          refine r_goto (tgt := 4) hc dX2_keysAt_34 (by decide) ?_
          refine r_locp [1, 2, 3, 0] (ls' := [(0, .ref h), (1, .int (nI r)), (2, .int (nI a)), (3, .int (nI (k + 1)))]) rfl ?_
          exact ih4 a (k + 1) (by omega) (by rw [bitsF, ← hf]; simp [whrR, c_22]) (by omega)
        ·
          refine r_iload_n hc dX2_keysAt_25 rfl ?_
          refine r_iconst (v := nI 1) hc dX2_keysAt_26 rfl ?_
          refine r_iload_n hc dX2_keysAt_27 rfl ?_
          refine r_ishl (v := nI (2 ^ k)) hc dX2_keysAt_28 (sl_1 _ (by omega)) ?_
          refine r_ior (v := nI (a ||| (2 ^ k))) hc dX2_keysAt_29 (or_NN _ _) ?_
          refine r_istore_n (ls' := [(2, .int (nI (a ||| (2 ^ k)))), (0, .ref h), (1, .int (nI r)), (3, .int (nI k))]) hc dX2_keysAt_30 (by decide) rfl ?_
          refine r_iinc (v := nI (k + 1)) (ls' := [(3, .int (nI (k + 1))), (2, .int (nI (a ||| (2 ^ k)))), (0, .ref h), (1, .int (nI r))]) hc dX2_keysAt_31 rfl (ad_NN _ 1) (by decide) rfl ?_
          refine r_goto (tgt := 4) hc dX2_keysAt_34 (by decide) ?_
          refine r_locp [2, 3, 1, 0] (ls' := [(0, .ref h), (1, .int (nI r)), (2, .int (nI (a ||| (2 ^ k)))), (3, .int (nI (k + 1)))]) rfl ?_
          exact ih4 (a ||| (2 ^ k)) (k + 1) (by omega) (by rw [bitsF, ← hf]; simp [whrR, c_22]) (by omega)
  refine r_locp [2, 3, 1, 0] (ls' := [(0, .ref h), (1, .int (nI r)), (2, .int (nI 0)), (3, .int (nI 0))]) rfl ?_
  exact loop4 _ 0 0 (by omega) rfl (Nat.lt_succ_self _)
set_option maxRecDepth 100000 in
set_option maxHeartbeats 4000000 in
theorem c_X2_keysOpening {Ω : OmT} {z : Nat} {sh : Nat → Option Kd} {σ : Nat → Nat → Int32} {ρ : Nat → Nat → Option Nat} {h : Nat} {v : Nat → Nat} (hH : HSh sh ρ h) (hV : HV σ h v) {d : Nat} (hd : d < v 4) (h4 : v 4 ≤ 10) (h5 : v 5 ≤ 16) (hdr : ∀ d, d < v 4 → v (20 + 6 * d + 2) < 10000 ∧ v (20 + 6 * d + 3) < 10000) (hcu : ∀ k, k < v 5 → v (80 + 4 * k) < 10000) (hwh : ∀ k, k < v 5 → v (80 + 4 * k + 2) ≤ 9) : CtI Ω yX2_keysOpening cX2_keysOpening 4 .int rm_X2_keysOpening [.ref h, .int (nI d)] (z, sh, σ, ρ) (fun r u => r = nI (keysFor v d) ∧ u = (z, sh, σ, ρ)) := by
  refine CtI.enter (by decide) (Nat.le_of_ble_eq_true rfl) (fun Φ hc hR => ?_)
  show Vw Ω Φ (z, sh, σ, ρ) (0, 0) 0 [(0, .ref h), (1, .int (nI d))] []
  refine r_iconst (v := nI 0) hc dX2_keysOpening_0 rfl ?_
  refine r_istore_n (ls' := [(2, .int (nI 0)), (0, .ref h), (1, .int (nI d))]) hc dX2_keysOpening_1 (by decide) rfl ?_
  refine r_iconst (v := nI 0) hc dX2_keysOpening_2 rfl ?_
  refine r_istore_n (ls' := [(3, .int (nI 0)), (2, .int (nI 0)), (0, .ref h), (1, .int (nI d))]) hc dX2_keysOpening_3 (by decide) rfl ?_
  have loop4 : ∀ (n4 : Nat) (a : Nat) (k : Nat), (k ≤ v 5) → (a = bitsF (fun k => !decide (whrR v k = 9) && opnD v (cutR v k) d) k) → (v 5 - k) < n4 → Vw Ω Φ (z, sh, σ, ρ) (0, 0) 4 [(0, .ref h), (1, .int (nI d)), (2, .int (nI a)), (3, .int (nI k))] [] := by
    intro n4
    induction n4 with
    | zero => intro a k hk hf hm; exact absurd hm (Nat.not_lt_zero _)
    | succ n4 ih4 =>
      intro a k hk hf hm4
      refine r_iload_n hc dX2_keysOpening_4 rfl ?_
      refine r_aload_n hc dX2_keysOpening_5 rfl ?_
      refine gf_X2_44 (x := nI (v 5)) hc (HS0 hH) (HV5 hV) dX2_keysOpening_6 ?_
      refine r_icmp_ge (tgt := 59) hc dX2_keysOpening_9 (by decide) (le_NN (by omega) (by omega)) (fun c_9 => ?_) (fun c_9 => ?_)
      ·
        refine r_iload_n hc dX2_keysOpening_59 rfl ?_
        exact hR _ _ ⟨congrArg nI (by rw [hf, show k = v 5 by omega]; rfl), rfl⟩ rfl _ _ dX2_keysOpening_60
      ·
        have hwk := hwh k (by omega)
        have hck := hcu k (by omega)
        have hdd := hdr d (by omega)
        refine r_aload_n hc dX2_keysOpening_12 rfl ?_
        refine gf_X2_23 (q := h + 3) hc (HS0 hH) (HR0 hH 2 3 (by decide)) dX2_keysOpening_13 ?_
        refine r_iload_n hc dX2_keysOpening_16 rfl ?_
        refine al_5 (r := h + 18 + k) (j := k) hc (HSa hH 3 _ rfl) rfl (by omega) (by decide) (HRk hH (by omega)) dX2_keysOpening_17 ?_
        refine gf_X2_123 (x := nI (v (80 + 4 * k + 2))) hc (HSk hH (by omega)) (HVk2 hV (by omega)) dX2_keysOpening_18 ?_
        refine r_bipush (v := nI 9) hc dX2_keysOpening_21 rfl ?_
        refine r_icmp_eq (tgt := 53) hc dX2_keysOpening_23 (by decide) (eq_NN (by omega) (by omega)) (fun c_23 => ?_) (fun c_23 => ?_)
        ·
          refine r_iinc (v := nI (k + 1)) (ls' := [(3, .int (nI (k + 1))), (0, .ref h), (1, .int (nI d)), (2, .int (nI a))]) hc dX2_keysOpening_53 rfl (ad_NN _ 1) (by decide) rfl ?_
          refine r_goto (tgt := 4) hc dX2_keysOpening_56 (by decide) ?_
          refine r_locp [1, 2, 3, 0] (ls' := [(0, .ref h), (1, .int (nI d)), (2, .int (nI a)), (3, .int (nI (k + 1)))]) rfl ?_
          exact ih4 a (k + 1) (by omega) (by rw [bitsF, ← hf]; simp [whrR, cutR, c_23]) (by omega)
        ·
          refine r_aload_n hc dX2_keysOpening_26 rfl ?_
          refine gf_X2_17 (q := h + 2) hc (HS0 hH) (HR0 hH 1 2 (by decide)) dX2_keysOpening_27 ?_
          refine r_iload_n hc dX2_keysOpening_30 rfl ?_
          refine al_3 (r := h + 8 + d) (j := d) hc (HSa hH 2 _ rfl) rfl (by omega) (by decide) (HRd hH (by omega)) dX2_keysOpening_31 ?_
          refine r_aload_n hc dX2_keysOpening_32 rfl ?_
          refine gf_X2_23 (q := h + 3) hc (HS0 hH) (HR0 hH 2 3 (by decide)) dX2_keysOpening_33 ?_
          refine r_iload_n hc dX2_keysOpening_36 rfl ?_
          refine al_5 (r := h + 18 + k) (j := k) hc (HSa hH 3 _ rfl) rfl (by omega) (by decide) (HRk hH (by omega)) dX2_keysOpening_37 ?_
          refine gf_X2_118 (x := nI (v (80 + 4 * k))) hc (HSk hH (by omega)) (HVk0 hV (by omega)) dX2_keysOpening_38 ?_
          refine cl_X2_185 (As := [.int (nI (v (80 + 4 * k)))]) hc (show CtI Ω yX0_isOpenedBy cX0_isOpenedBy 7 .boolean rm_X0_isOpenedBy [.ref (h + 8 + d), .int (nI (v (80 + 4 * k)))] (z, sh, σ, ρ) (fun r u => r = bI (opnD v (v (80 + 4 * k)) d) ∧ u = (z, sh, σ, ρ)) from c_X0_isOpenedBy (f := v (20 + 6 * d + 2)) (s := v (20 + 6 * d + 3)) (HSd hH (by omega)) (HVd hV (by omega) 2 (by decide)) (HVd hV (by omega) 3 (by decide)) (by omega) (by omega) (by omega)) (HSd hH (by omega)) rfl ⟨by decide, by decide⟩ ⟨rfl, rfl⟩ ⟨by decide, by decide⟩ rfl (Nat.le_of_ble_eq_true rfl) dX2_keysOpening_41 (fun r u hp => ?_)
          obtain ⟨rfl, hu⟩ := hp
          rw [hu]
          refine r_if_eq (tgt := 53) hc dX2_keysOpening_44 (by decide) (bI_0 _) (fun c_44 => ?_) (fun c_44 => ?_)
          ·
            refine r_iinc (v := nI (k + 1)) (ls' := [(3, .int (nI (k + 1))), (0, .ref h), (1, .int (nI d)), (2, .int (nI a))]) hc dX2_keysOpening_53 rfl (ad_NN _ 1) (by decide) rfl ?_
            refine r_goto (tgt := 4) hc dX2_keysOpening_56 (by decide) ?_
            refine r_locp [1, 2, 3, 0] (ls' := [(0, .ref h), (1, .int (nI d)), (2, .int (nI a)), (3, .int (nI (k + 1)))]) rfl ?_
            exact ih4 a (k + 1) (by omega) (by rw [bitsF, ← hf]; simp [whrR, cutR, c_23, c_44]) (by omega)
          ·
            have c_44 := bnf c_44
            refine r_iload_n hc dX2_keysOpening_47 rfl ?_
            refine r_iconst (v := nI 1) hc dX2_keysOpening_48 rfl ?_
            refine r_iload_n hc dX2_keysOpening_49 rfl ?_
            refine r_ishl (v := nI (2 ^ k)) hc dX2_keysOpening_50 (sl_1 _ (by omega)) ?_
            refine r_ior (v := nI (a ||| (2 ^ k))) hc dX2_keysOpening_51 (or_NN _ _) ?_
            refine r_istore_n (ls' := [(2, .int (nI (a ||| (2 ^ k)))), (0, .ref h), (1, .int (nI d)), (3, .int (nI k))]) hc dX2_keysOpening_52 (by decide) rfl ?_
            refine r_iinc (v := nI (k + 1)) (ls' := [(3, .int (nI (k + 1))), (2, .int (nI (a ||| (2 ^ k)))), (0, .ref h), (1, .int (nI d))]) hc dX2_keysOpening_53 rfl (ad_NN _ 1) (by decide) rfl ?_
            refine r_goto (tgt := 4) hc dX2_keysOpening_56 (by decide) ?_
            refine r_locp [2, 3, 1, 0] (ls' := [(0, .ref h), (1, .int (nI d)), (2, .int (nI (a ||| (2 ^ k)))), (3, .int (nI (k + 1)))]) rfl ?_
            exact ih4 (a ||| (2 ^ k)) (k + 1) (by omega) (by rw [bitsF, ← hf]; simp [whrR, cutR, c_23, c_44]) (by omega)
  refine r_locp [2, 3, 1, 0] (ls' := [(0, .ref h), (1, .int (nI d)), (2, .int (nI 0)), (3, .int (nI 0))]) rfl ?_
  exact loop4 _ 0 0 (by omega) rfl (Nat.lt_succ_self _)
set_option maxRecDepth 100000 in
set_option maxHeartbeats 4000000 in
theorem c_X2_doorsOpenedBy {Ω : OmT} {z : Nat} {sh : Nat → Option Kd} {σ : Nat → Nat → Int32} {ρ : Nat → Nat → Option Nat} {h : Nat} {v : Nat → Nat} (hH : HSh sh ρ h) (hV : HV σ h v) {c : Nat} (hc0 : c < 10000) (h4 : v 4 ≤ 10) (hdr : ∀ d, d < v 4 → v (20 + 6 * d + 2) < 10000 ∧ v (20 + 6 * d + 3) < 10000) : CtI Ω yX2_doorsOpenedBy cX2_doorsOpenedBy 4 .int rm_X2_doorsOpenedBy [.ref h, .int (nI c)] (z, sh, σ, ρ) (fun r u => r = nI (doorsBy v c) ∧ u = (z, sh, σ, ρ)) := by
  refine CtI.enter (by decide) (Nat.le_of_ble_eq_true rfl) (fun Φ hc hR => ?_)
  show Vw Ω Φ (z, sh, σ, ρ) (0, 0) 0 [(0, .ref h), (1, .int (nI c))] []
  refine r_iconst (v := nI 0) hc dX2_doorsOpenedBy_0 rfl ?_
  refine r_istore_n (ls' := [(2, .int (nI 0)), (0, .ref h), (1, .int (nI c))]) hc dX2_doorsOpenedBy_1 (by decide) rfl ?_
  refine r_iconst (v := nI 0) hc dX2_doorsOpenedBy_2 rfl ?_
  refine r_istore_n (ls' := [(3, .int (nI 0)), (2, .int (nI 0)), (0, .ref h), (1, .int (nI c))]) hc dX2_doorsOpenedBy_3 (by decide) rfl ?_
  have loop4 : ∀ (n4 : Nat) (a : Nat) (k : Nat), (k ≤ v 4) → (a = bitsF (fun d => opnD v c d) k) → (v 4 - k) < n4 → Vw Ω Φ (z, sh, σ, ρ) (0, 0) 4 [(0, .ref h), (1, .int (nI c)), (2, .int (nI a)), (3, .int (nI k))] [] := by
    intro n4
    induction n4 with
    | zero => intro a k hk hf hm; exact absurd hm (Nat.not_lt_zero _)
    | succ n4 ih4 =>
      intro a k hk hf hm4
      refine r_iload_n hc dX2_doorsOpenedBy_4 rfl ?_
      refine r_aload_n hc dX2_doorsOpenedBy_5 rfl ?_
      refine gf_X2_36 (x := nI (v 4)) hc (HS0 hH) (HV4 hV) dX2_doorsOpenedBy_6 ?_
      refine r_icmp_ge (tgt := 37) hc dX2_doorsOpenedBy_9 (by decide) (le_NN (by omega) (by omega)) (fun c_9 => ?_) (fun c_9 => ?_)
      ·
        refine r_iload_n hc dX2_doorsOpenedBy_37 rfl ?_
        exact hR _ _ ⟨congrArg nI (by rw [hf, show k = v 4 by omega]; rfl), rfl⟩ rfl _ _ dX2_doorsOpenedBy_38
      ·
        have hdk := hdr k (by omega)
        refine r_aload_n hc dX2_doorsOpenedBy_12 rfl ?_
        refine gf_X2_17 (q := h + 2) hc (HS0 hH) (HR0 hH 1 2 (by decide)) dX2_doorsOpenedBy_13 ?_
        refine r_iload_n hc dX2_doorsOpenedBy_16 rfl ?_
        refine al_3 (r := h + 8 + k) (j := k) hc (HSa hH 2 _ rfl) rfl (by omega) (by decide) (HRd hH (by omega)) dX2_doorsOpenedBy_17 ?_
        refine r_iload_n hc dX2_doorsOpenedBy_18 rfl ?_
        refine cl_X2_185 (As := [.int (nI c)]) hc (show CtI Ω yX0_isOpenedBy cX0_isOpenedBy 7 .boolean rm_X0_isOpenedBy [.ref (h + 8 + k), .int (nI (c))] (z, sh, σ, ρ) (fun r u => r = bI (opnD v c k) ∧ u = (z, sh, σ, ρ)) from c_X0_isOpenedBy (f := v (20 + 6 * k + 2)) (s := v (20 + 6 * k + 3)) (HSd hH (by omega)) (HVd hV (by omega) 2 (by decide)) (HVd hV (by omega) 3 (by decide)) (by omega) (by omega) (by omega)) (HSd hH (by omega)) rfl ⟨by decide, by decide⟩ ⟨rfl, rfl⟩ ⟨by decide, by decide⟩ rfl (Nat.le_of_ble_eq_true rfl) dX2_doorsOpenedBy_19 (fun r u hp => ?_)
        obtain ⟨rfl, hu⟩ := hp
        rw [hu]
        refine r_if_eq (tgt := 31) hc dX2_doorsOpenedBy_22 (by decide) (bI_0 _) (fun c_22 => ?_) (fun c_22 => ?_)
        ·
          refine r_iinc (v := nI (k + 1)) (ls' := [(3, .int (nI (k + 1))), (0, .ref h), (1, .int (nI c)), (2, .int (nI a))]) hc dX2_doorsOpenedBy_31 rfl (ad_NN _ 1) (by decide) rfl ?_
          refine r_goto (tgt := 4) hc dX2_doorsOpenedBy_34 (by decide) ?_
          refine r_locp [1, 2, 3, 0] (ls' := [(0, .ref h), (1, .int (nI c)), (2, .int (nI a)), (3, .int (nI (k + 1)))]) rfl ?_
          exact ih4 a (k + 1) (by omega) (by rw [bitsF, ← hf]; simp [c_22]) (by omega)
        ·
          have c_22 := bnf c_22
          refine r_iload_n hc dX2_doorsOpenedBy_25 rfl ?_
          refine r_iconst (v := nI 1) hc dX2_doorsOpenedBy_26 rfl ?_
          refine r_iload_n hc dX2_doorsOpenedBy_27 rfl ?_
          refine r_ishl (v := nI (2 ^ k)) hc dX2_doorsOpenedBy_28 (sl_1 _ (by omega)) ?_
          refine r_ior (v := nI (a ||| (2 ^ k))) hc dX2_doorsOpenedBy_29 (or_NN _ _) ?_
          refine r_istore_n (ls' := [(2, .int (nI (a ||| (2 ^ k)))), (0, .ref h), (1, .int (nI c)), (3, .int (nI k))]) hc dX2_doorsOpenedBy_30 (by decide) rfl ?_
          refine r_iinc (v := nI (k + 1)) (ls' := [(3, .int (nI (k + 1))), (2, .int (nI (a ||| (2 ^ k)))), (0, .ref h), (1, .int (nI c))]) hc dX2_doorsOpenedBy_31 rfl (ad_NN _ 1) (by decide) rfl ?_
          refine r_goto (tgt := 4) hc dX2_doorsOpenedBy_34 (by decide) ?_
          refine r_locp [2, 3, 1, 0] (ls' := [(0, .ref h), (1, .int (nI c)), (2, .int (nI (a ||| (2 ^ k)))), (3, .int (nI (k + 1)))]) rfl ?_
          exact ih4 (a ||| (2 ^ k)) (k + 1) (by omega) (by rw [bitsF, ← hf]; simp [c_22]) (by omega)
  refine r_locp [2, 3, 1, 0] (ls' := [(0, .ref h), (1, .int (nI c)), (2, .int (nI 0)), (3, .int (nI 0))]) rfl ?_
  exact loop4 _ 0 0 (by omega) rfl (Nat.lt_succ_self _)
set_option maxRecDepth 100000 in
set_option maxHeartbeats 4000000 in
theorem c_X2_brassInLocks {Ω : OmT} {z : Nat} {sh : Nat → Option Kd} {σ : Nat → Nat → Int32} {ρ : Nat → Nat → Option Nat} {h : Nat} {v : Nat → Nat} (hH : HSh sh ρ h) (hV : HV σ h v) (h4 : v 4 ≤ 10) (hdr : ∀ d, d < v 4 → v (20 + 6 * d + 2) < 10000 ∧ v (20 + 6 * d + 3) < 10000) : CtI Ω yX2_brassInLocks cX2_brassInLocks 3 .int rm_X2_brassInLocks [.ref h] (z, sh, σ, ρ) (fun r u => r = nI (inLk v) ∧ u = (z, sh, σ, ρ)) := by
  refine CtI.enter (by decide) (Nat.le_of_ble_eq_true rfl) (fun Φ hc hR => ?_)
  show Vw Ω Φ (z, sh, σ, ρ) (0, 0) 0 [(0, .ref h)] []
  refine r_iconst (v := nI 0) hc dX2_brassInLocks_0 rfl ?_
  refine r_istore_n (ls' := [(1, .int (nI 0)), (0, .ref h)]) hc dX2_brassInLocks_1 (by decide) rfl ?_
  refine r_iconst (v := nI 0) hc dX2_brassInLocks_2 rfl ?_
  refine r_istore_n (ls' := [(2, .int (nI 0)), (1, .int (nI 0)), (0, .ref h)]) hc dX2_brassInLocks_3 (by decide) rfl ?_
  have loop4 : ∀ (n4 : Nat) (a : Nat) (k : Nat), (k ≤ v 4) → (a = sumN (lockWt v) k) → (v 4 - k) < n4 → Vw Ω Φ (z, sh, σ, ρ) (0, 0) 4 [(0, .ref h), (1, .int (nI a)), (2, .int (nI k))] [] := by
    intro n4
    induction n4 with
    | zero => intro a k hk hf hm; exact absurd hm (Nat.not_lt_zero _)
    | succ n4 ih4 =>
      intro a k hk hf hm4
      refine r_iload_n hc dX2_brassInLocks_4 rfl ?_
      refine r_aload_n hc dX2_brassInLocks_5 rfl ?_
      refine gf_X2_36 (x := nI (v 4)) hc (HS0 hH) (HV4 hV) dX2_brassInLocks_6 ?_
      refine r_icmp_ge (tgt := 30) hc dX2_brassInLocks_9 (by decide) (le_NN (by omega) (by omega)) (fun c_9 => ?_) (fun c_9 => ?_)
      ·
        refine r_iload_n hc dX2_brassInLocks_30 rfl ?_
        exact hR _ _ ⟨congrArg nI (by rw [hf, show k = v 4 by omega]; rfl), rfl⟩ rfl _ _ dX2_brassInLocks_31
      ·
        have hdk := hdr k (by omega)
        refine r_iload_n hc dX2_brassInLocks_12 rfl ?_
        refine r_aload_n hc dX2_brassInLocks_13 rfl ?_
        refine gf_X2_17 (q := h + 2) hc (HS0 hH) (HR0 hH 1 2 (by decide)) dX2_brassInLocks_14 ?_
        refine r_iload_n hc dX2_brassInLocks_17 rfl ?_
        refine al_3 (r := h + 8 + k) (j := k) hc (HSa hH 2 _ rfl) rfl (by omega) (by decide) (HRd hH (by omega)) dX2_brassInLocks_18 ?_
        refine cl_X2_94 (As := []) hc (show CtI Ω yX0_weight cX0_weight 1 .int rm_X0_weight [.ref (h + 8 + k)] (z, sh, σ, ρ) (fun r u => r = nI (lockWt v k) ∧ u = (z, sh, σ, ρ)) from c_X0_weight (f := v (20 + 6 * k + 2)) (s := v (20 + 6 * k + 3)) (HSd hH (by omega)) (HVd hV (by omega) 2 (by decide)) (HVd hV (by omega) 3 (by decide)) (by omega) (by omega)) (HSd hH (by omega)) rfl ⟨by decide, by decide⟩ ⟨rfl, rfl⟩ ⟨by decide, by decide⟩ rfl (Nat.le_of_ble_eq_true rfl) dX2_brassInLocks_19 (fun r u hp => ?_)
        obtain ⟨rfl, hu⟩ := hp
        rw [hu]
        refine r_iadd (v := nI (a + (lockWt v k))) hc dX2_brassInLocks_22 (ad_NN _ _) ?_
        refine r_istore_n (ls' := [(1, .int (nI (a + (lockWt v k)))), (0, .ref h), (2, .int (nI k))]) hc dX2_brassInLocks_23 (by decide) rfl ?_
        refine r_iinc (v := nI (k + 1)) (ls' := [(2, .int (nI (k + 1))), (1, .int (nI (a + (lockWt v k)))), (0, .ref h)]) hc dX2_brassInLocks_24 rfl (ad_NN _ 1) (by decide) rfl ?_
        refine r_goto (tgt := 4) hc dX2_brassInLocks_27 (by decide) ?_
        refine r_locp [2, 1, 0] (ls' := [(0, .ref h), (1, .int (nI (a + (lockWt v k)))), (2, .int (nI (k + 1)))]) rfl ?_
        exact ih4 (a + (lockWt v k)) (k + 1) (by omega) (by rw [sumN, ← hf]) (by omega)
  refine r_locp [2, 1, 0] (ls' := [(0, .ref h), (1, .int (nI 0)), (2, .int (nI 0))]) rfl ?_
  exact loop4 _ 0 0 (by omega) rfl (Nat.lt_succ_self _)
set_option maxRecDepth 100000 in
set_option maxHeartbeats 4000000 in
theorem c_X2_brassInKeys {Ω : OmT} {z : Nat} {sh : Nat → Option Kd} {σ : Nat → Nat → Int32} {ρ : Nat → Nat → Option Nat} {h : Nat} {v : Nat → Nat} (hH : HSh sh ρ h) (hV : HV σ h v) (h5 : v 5 ≤ 16) (hky : ∀ k, k < v 5 → v (80 + 4 * k) < 10000 ∧ v (80 + 4 * k + 2) ≤ 9 ∧ 40 ≤ v (80 + 4 * k + 1) ∧ v (80 + 4 * k + 1) ≤ 90) : CtI Ω yX2_brassInKeys cX2_brassInKeys 3 .int rm_X2_brassInKeys [.ref h] (z, sh, σ, ρ) (fun r u => r = nI (inKy v) ∧ u = (z, sh, σ, ρ)) := by
  refine CtI.enter (by decide) (Nat.le_of_ble_eq_true rfl) (fun Φ hc hR => ?_)
  show Vw Ω Φ (z, sh, σ, ρ) (0, 0) 0 [(0, .ref h)] []
  refine r_iconst (v := nI 0) hc dX2_brassInKeys_0 rfl ?_
  refine r_istore_n (ls' := [(1, .int (nI 0)), (0, .ref h)]) hc dX2_brassInKeys_1 (by decide) rfl ?_
  refine r_iconst (v := nI 0) hc dX2_brassInKeys_2 rfl ?_
  refine r_istore_n (ls' := [(2, .int (nI 0)), (1, .int (nI 0)), (0, .ref h)]) hc dX2_brassInKeys_3 (by decide) rfl ?_
  have loop4 : ∀ (n4 : Nat) (a : Nat) (k : Nat), (k ≤ v 5) → (a = sumN (keyWt v) k) → (v 5 - k) < n4 → Vw Ω Φ (z, sh, σ, ρ) (0, 0) 4 [(0, .ref h), (1, .int (nI a)), (2, .int (nI k))] [] := by
    intro n4
    induction n4 with
    | zero => intro a k hk hf hm; exact absurd hm (Nat.not_lt_zero _)
    | succ n4 ih4 =>
      intro a k hk hf hm4
      refine r_iload_n hc dX2_brassInKeys_4 rfl ?_
      refine r_aload_n hc dX2_brassInKeys_5 rfl ?_
      refine gf_X2_44 (x := nI (v 5)) hc (HS0 hH) (HV5 hV) dX2_brassInKeys_6 ?_
      refine r_icmp_ge (tgt := 30) hc dX2_brassInKeys_9 (by decide) (le_NN (by omega) (by omega)) (fun c_9 => ?_) (fun c_9 => ?_)
      ·
        refine r_iload_n hc dX2_brassInKeys_30 rfl ?_
        exact hR _ _ ⟨congrArg nI (by rw [hf, show k = v 5 by omega]; rfl), rfl⟩ rfl _ _ dX2_brassInKeys_31
      ·
        refine r_iload_n hc dX2_brassInKeys_12 rfl ?_
        refine r_aload_n hc dX2_brassInKeys_13 rfl ?_
        refine gf_X2_23 (q := h + 3) hc (HS0 hH) (HR0 hH 2 3 (by decide)) dX2_brassInKeys_14 ?_
        refine r_iload_n hc dX2_brassInKeys_17 rfl ?_
        refine al_5 (r := h + 18 + k) (j := k) hc (HSa hH 3 _ rfl) rfl (by omega) (by decide) (HRk hH (by omega)) dX2_brassInKeys_18 ?_
        refine gf_X2_121 (x := nI (keyWt v k)) hc (HSk hH (by omega)) (HVk1 hV (by omega)) dX2_brassInKeys_19 ?_
        refine r_iadd (v := nI (a + (keyWt v k))) hc dX2_brassInKeys_22 (ad_NN _ _) ?_
        refine r_istore_n (ls' := [(1, .int (nI (a + (keyWt v k)))), (0, .ref h), (2, .int (nI k))]) hc dX2_brassInKeys_23 (by decide) rfl ?_
        refine r_iinc (v := nI (k + 1)) (ls' := [(2, .int (nI (k + 1))), (1, .int (nI (a + (keyWt v k)))), (0, .ref h)]) hc dX2_brassInKeys_24 rfl (ad_NN _ 1) (by decide) rfl ?_
        refine r_goto (tgt := 4) hc dX2_brassInKeys_27 (by decide) ?_
        refine r_locp [2, 1, 0] (ls' := [(0, .ref h), (1, .int (nI (a + (keyWt v k)))), (2, .int (nI (k + 1)))]) rfl ?_
        exact ih4 (a + (keyWt v k)) (k + 1) (by omega) (by rw [sumN, ← hf]) (by omega)
  refine r_locp [2, 1, 0] (ls' := [(0, .ref h), (1, .int (nI 0)), (2, .int (nI 0))]) rfl ?_
  exact loop4 _ 0 0 (by omega) rfl (Nat.lt_succ_self _)
set_option maxRecDepth 100000 in
set_option maxHeartbeats 4000000 in
theorem c_X7_placeOf {Ω : OmT} {z : Nat} {sh : Nat → Option Kd} {σ : Nat → Nat → Int32} {ρ : Nat → Nat → Option Nat} {h : Nat} {v : Nat → Nat} (hH : HSh sh ρ h) (hV : HV σ h v) {d : Nat} (hd : d < 10) (h9 : v 9 ≤ 6) (hpl : ∀ p, p < v 9 → v (150 + 3 * p) < 10) : CtI Ω yX7_placeOf cX7_placeOf 3 .int rm_X7_placeOf [.ref (h + 4), .int (nI d)] (z, sh, σ, ρ) (fun r u => r = zI (plcL v d) ∧ u = (z, sh, σ, ρ)) := by
  refine CtI.enter (by decide) (Nat.le_of_ble_eq_true rfl) (fun Φ hc hR => ?_)
  show Vw Ω Φ (z, sh, σ, ρ) (0, 0) 0 [(0, .ref (h + 4)), (1, .int (nI d))] []
  refine r_iconst (v := nI 0) hc dX7_placeOf_0 rfl ?_
  refine r_istore_n (ls' := [(2, .int (nI 0)), (0, .ref (h + 4)), (1, .int (nI d))]) hc dX7_placeOf_1 (by decide) rfl ?_
  have loop2 : ∀ (n2 : Nat) (k : Nat), (k ≤ v 9) → (ffF (fun p => decide (v (150 + 3 * p) = d)) k = -6) → (v 9 - k) < n2 → Vw Ω Φ (z, sh, σ, ρ) (0, 0) 2 [(0, .ref (h + 4)), (1, .int (nI d)), (2, .int (nI k))] [] := by
    intro n2
    induction n2 with
    | zero => intro k hk hf hm; exact absurd hm (Nat.not_lt_zero _)
    | succ n2 ih2 =>
      intro k hk hf hm2
      refine r_iload_n hc dX7_placeOf_2 rfl ?_
      refine r_aload_n hc dX7_placeOf_3 rfl ?_
      refine gf_X7_21 (x := nI (v 9)) hc (HSa hH 4 _ rfl) (HVp hV) dX7_placeOf_4 ?_
      refine r_icmp_ge (tgt := 28) hc dX7_placeOf_7 (by decide) (le_NN (by omega) (by omega)) (fun c_7 => ?_) (fun c_7 => ?_)
      ·
        refine r_bipush (v := zI (-6)) hc dX7_placeOf_28 rfl ?_
        exact hR _ _ ⟨(by refine congrArg zI ?_; unfold plcL; rw [← hf, show k = v 9 by omega]), rfl⟩ rfl _ _ dX7_placeOf_30
      ·
        have hpk := hpl k (by omega)
        refine r_aload_n hc dX7_placeOf_10 rfl ?_
        refine gf_X7_9 (q := h + 5) hc (HSa hH 4 _ rfl) (HR4 hH 0 5 (by decide)) dX7_placeOf_11 ?_
        refine r_iload_n hc dX7_placeOf_14 rfl ?_
        refine r_iald (x := nI (v (150 + 3 * k))) (j := k) hc (HSa hH 5 _ rfl) rfl (by omega) (by decide) (HVp0 hV (by omega)) dX7_placeOf_15 ?_
        refine r_iload_n hc dX7_placeOf_16 rfl ?_
        refine r_icmp_ne (tgt := 22) hc dX7_placeOf_17 (by decide) (eq_NN (by omega) (by omega)) (fun c_17 => ?_) (fun c_17 => ?_)
        ·
          refine r_iinc (v := nI (k + 1)) (ls' := [(2, .int (nI (k + 1))), (0, .ref (h + 4)), (1, .int (nI d))]) hc dX7_placeOf_22 rfl (ad_NN _ 1) (by decide) rfl ?_
          refine r_goto (tgt := 2) hc dX7_placeOf_25 (by decide) ?_
          refine r_locp [1, 2, 0] (ls' := [(0, .ref (h + 4)), (1, .int (nI d)), (2, .int (nI (k + 1)))]) rfl ?_
          exact ih2 (k + 1) (by omega) (by rw [ffF, if_pos hf, if_neg (by simp [c_17])]) (by omega)
        ·
          refine r_iload_n hc dX7_placeOf_20 rfl ?_
          exact hR _ _ ⟨(by rw [nz]; refine congrArg zI ?_; unfold plcL; have h1 : ffF (fun p => decide (v (150 + 3 * p) = d)) (k + 1) = (k : Int) := by { rw [ffF, if_pos hf, if_pos (by simp [c_17])] }; have h2 := ffF_stay (fun p => decide (v (150 + 3 * p) = d)) (k + 1) (v 9 - (k + 1)) (by rw [h1]; omega); rw [show k + 1 + (v 9 - (k + 1)) = v 9 by omega] at h2; rw [h2, h1]), rfl⟩ rfl _ _ dX7_placeOf_21
  refine r_locp [1, 2, 0] (ls' := [(0, .ref (h + 4)), (1, .int (nI d)), (2, .int (nI 0))]) rfl ?_
  exact loop2 _ 0 (by omega) rfl (Nat.lt_succ_self _)
