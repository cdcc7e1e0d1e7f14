/-! ===== as in whole: static ===== -/
abbrev rm_X0_copyFrom : Room := { frames := 0, cells := 0, slots := 0, locals := 0 }
abbrev rm_X0_build : Room := { frames := 0, cells := 0, slots := 0, locals := 0 }
abbrev rm_X0_weight : Room := { frames := 2, cells := 0, slots := 0, locals := 48 }
abbrev rm_X0_isOpenedBy : Room := { frames := 0, cells := 0, slots := 0, locals := 0 }
abbrev rm_X0_beyond : Room := { frames := 0, cells := 0, slots := 0, locals := 0 }
abbrev rm_X1_keep : Room := { frames := 0, cells := 0, slots := 0, locals := 0 }
abbrev rm_X2_copyFrom : Room := { frames := 1, cells := 0, slots := 0, locals := 22 }
abbrev rm_X2_isRoom : Room := { frames := 0, cells := 0, slots := 0, locals := 0 }
abbrev rm_X2_hasDoor : Room := { frames := 0, cells := 0, slots := 0, locals := 0 }
abbrev rm_X2_hasKey : Room := { frames := 0, cells := 0, slots := 0, locals := 0 }
abbrev rm_X2_changeSetting : Room := { frames := 0, cells := 0, slots := 0, locals := 0 }
abbrev rm_X2_bringBrass : Room := { frames := 0, cells := 0, slots := 0, locals := 0 }
abbrev rm_X2_makeDoor : Room := { frames := 2, cells := 0, slots := 0, locals := 48 }
abbrev rm_X2_cutAnew : Room := { frames := 3, cells := 0, slots := 0, locals := 68 }
abbrev rm_X2_makeKey : Room := { frames := 2, cells := 0, slots := 0, locals := 46 }
abbrev rm_X2_meltKey : Room := { frames := 1, cells := 0, slots := 0, locals := 21 }
abbrev rm_X2_takeKey : Room := { frames := 2, cells := 0, slots := 0, locals := 46 }
abbrev rm_X2_layKeyDown : Room := { frames := 2, cells := 0, slots := 0, locals := 46 }
abbrev rm_X2_moveKey : Room := { frames := 1, cells := 0, slots := 0, locals := 23 }
abbrev rm_X2_walkThrough : Room := { frames := 2, cells := 0, slots := 0, locals := 49 }
abbrev rm_X2_planCut : Room := { frames := 1, cells := 0, slots := 0, locals := 22 }
abbrev rm_X2_emptyPlan : Room := { frames := 0, cells := 0, slots := 0, locals := 0 }
abbrev rm_X2_carryPlanned : Room := { frames := 4, cells := 0, slots := 0, locals := 94 }
abbrev rm_X2_keysAt : Room := { frames := 0, cells := 0, slots := 0, locals := 0 }
abbrev rm_X2_keysOpening : Room := { frames := 1, cells := 0, slots := 0, locals := 26 }
abbrev rm_X2_doorsOpenedBy : Room := { frames := 1, cells := 0, slots := 0, locals := 26 }
abbrev rm_X2_brassInLocks : Room := { frames := 3, cells := 0, slots := 0, locals := 68 }
abbrev rm_X2_brassInKeys : Room := { frames := 0, cells := 0, slots := 0, locals := 0 }
abbrev rm_X2_aboutDoor : Room := { frames := 3, cells := 0, slots := 0, locals := 68 }
abbrev rm_X2_aboutKey : Room := { frames := 2, cells := 0, slots := 0, locals := 49 }
abbrev rm_X2_aboutAll : Room := { frames := 4, cells := 0, slots := 0, locals := 90 }
abbrev rm_X3_copyFrom : Room := { frames := 0, cells := 0, slots := 0, locals := 0 }
abbrev rm_X7_copyFrom : Room := { frames := 0, cells := 0, slots := 0, locals := 0 }
abbrev rm_X7_placeOf : Room := { frames := 0, cells := 0, slots := 0, locals := 0 }
abbrev rm_X8_work : Room := { frames := 4, cells := 0, slots := 0, locals := 91 }
abbrev rm_X8_weigh : Room := { frames := 3, cells := 0, slots := 0, locals := 68 }
abbrev rm_X8_gainOf : Room := { frames := 0, cells := 0, slots := 0, locals := 0 }
abbrev rm_X8_missingFor : Room := { frames := 1, cells := 0, slots := 0, locals := 21 }
abbrev rm_X8_lookOn : Room := { frames := 2, cells := 0, slots := 0, locals := 43 }
abbrev rm_X8_howManyOrders : Room := { frames := 0, cells := 0, slots := 0, locals := 0 }
abbrev rm_X8_leastBrass : Room := { frames := 0, cells := 0, slots := 0, locals := 0 }
abbrev rm_X8_onlyLast : Room := { frames := 0, cells := 0, slots := 0, locals := 0 }
abbrev rm_X8_firstOrderAt : Room := { frames := 3, cells := 0, slots := 0, locals := 66 }
abbrev rm_X8_leastNext : Room := { frames := 2, cells := 0, slots := 0, locals := 43 }
abbrev rm_X9_isRow : Room := { frames := 0, cells := 0, slots := 0, locals := 0 }
abbrev rm_X9_canBeKey : Room := { frames := 1, cells := 0, slots := 0, locals := 21 }
abbrev rm_X9_sumOfDepths : Room := { frames := 0, cells := 0, slots := 0, locals := 0 }
abbrev rm_X9_lockWeight : Room := { frames := 1, cells := 0, slots := 0, locals := 23 }
abbrev rm_X9_lossOf : Room := { frames := 0, cells := 0, slots := 0, locals := 0 }
abbrev rm_X10_work : Room := { frames := 2, cells := 0, slots := 0, locals := 49 }
abbrev rm_X10_keysAfter : Room := { frames := 0, cells := 0, slots := 0, locals := 0 }
abbrev rm_X10_roomsInReach : Room := { frames := 3, cells := 0, slots := 0, locals := 71 }
abbrev rm_X10_roomsBeyond : Room := { frames := 1, cells := 0, slots := 0, locals := 23 }
abbrev rm_X10_fewestDoors : Room := { frames := 3, cells := 0, slots := 0, locals := 71 }
abbrev rm_X10_enqueueBeyond : Room := { frames := 1, cells := 0, slots := 0, locals := 23 }
abbrev rm_X10_enqueue : Room := { frames := 0, cells := 0, slots := 0, locals := 0 }
abbrev rm_X11_set : Room := { frames := 2, cells := 0, slots := 0, locals := 44 }
abbrev rm_X11_brass : Room := { frames := 2, cells := 0, slots := 0, locals := 44 }
abbrev rm_X11_door : Room := { frames := 3, cells := 0, slots := 0, locals := 73 }
abbrev rm_X11_cut : Room := { frames := 4, cells := 0, slots := 0, locals := 94 }
abbrev rm_X11_key : Room := { frames := 3, cells := 0, slots := 0, locals := 70 }
abbrev rm_X11_melt : Room := { frames := 2, cells := 0, slots := 0, locals := 44 }
abbrev rm_X11_take : Room := { frames := 3, cells := 0, slots := 0, locals := 67 }
abbrev rm_X11_putDown : Room := { frames := 3, cells := 0, slots := 0, locals := 67 }
abbrev rm_X11_go : Room := { frames := 3, cells := 0, slots := 0, locals := 71 }
abbrev rm_X11_plan : Room := { frames := 2, cells := 0, slots := 0, locals := 45 }
abbrev rm_X11_dropPlan : Room := { frames := 2, cells := 0, slots := 0, locals := 44 }
abbrev rm_X11_carryPlan : Room := { frames := 5, cells := 0, slots := 0, locals := 115 }
abbrev rm_X11_ofDoor : Room := { frames := 4, cells := 0, slots := 0, locals := 91 }
abbrev rm_X11_ofKey : Room := { frames := 3, cells := 0, slots := 0, locals := 72 }
abbrev rm_X11_count : Room := { frames := 5, cells := 0, slots := 0, locals := 111 }
abbrev rm_X11_opens : Room := { frames := 1, cells := 0, slots := 0, locals := 26 }
abbrev rm_X11_reach : Room := { frames := 4, cells := 0, slots := 0, locals := 94 }
abbrev rm_X11_doorsTo : Room := { frames := 4, cells := 0, slots := 0, locals := 96 }
abbrev rm_X11_planOrder : Room := { frames := 5, cells := 0, slots := 0, locals := 114 }
abbrev rm_X11_planOrders : Room := { frames := 5, cells := 0, slots := 0, locals := 114 }
abbrev rm_X11_mustBeLast : Room := { frames := 5, cells := 0, slots := 0, locals := 114 }
abbrev rm_X11_brassForPlan : Room := { frames := 5, cells := 0, slots := 0, locals := 114 }
abbrev rm_X11_recorded : Room := { frames := 1, cells := 0, slots := 0, locals := 23 }
set_option maxRecDepth 100000 in
set_option maxHeartbeats 4000000 in
theorem c_X9_isRow {Ω : OmT} {S : StT} {x : Int} (hx : -2147483648 ≤ x ∧ x < 2147483648) : CtI Ω yX9_isRow cX9_isRow 1 .boolean rm_X9_isRow [.int (zI x)] S (fun r u => r = bI (decide (0 ≤ x ∧ x ≤ 9999)) ∧ u = S) := by
  refine CtI.enter (by decide) (Nat.le_of_ble_eq_true rfl) (fun Φ hc hR => ?_)
  show Vw Ω Φ S (0, 0) 0 [(0, .int (zI x))] []
  refine r_iload_n hc dX9_isRow_0 rfl ?_
  refine r_if_lt (tgt := 15) hc dX9_isRow_1 (by decide) (l0_Z (by omega)) (fun c_1 => ?_) (fun c_1 => ?_)
  ·
    refine r_iconst (v := nI 0) hc dX9_isRow_15 rfl ?_
    exact hR _ _ ⟨bI_f (by simp; omega), rfl⟩ rfl _ _ dX9_isRow_16
  ·
    refine r_iload_n hc dX9_isRow_4 rfl ?_
    refine r_sipush (v := nI 9999) hc dX9_isRow_5 rfl ?_
    refine r_icmp_gt (tgt := 15) hc dX9_isRow_8 (by decide) (lt_NZ (by omega) (by omega)) (fun c_8 => ?_) (fun c_8 => ?_)
    ·
      refine r_iconst (v := nI 0) hc dX9_isRow_15 rfl ?_
      exact hR _ _ ⟨bI_f (by simp; omega), rfl⟩ rfl _ _ dX9_isRow_16
    ·
      refine r_iconst (v := nI 1) hc dX9_isRow_11 rfl ?_
      refine r_goto (tgt := 16) hc dX9_isRow_12 (by decide) ?_
      exact hR _ _ ⟨bI_t (by simp; omega), rfl⟩ rfl _ _ dX9_isRow_16
set_option maxRecDepth 100000 in
set_option maxHeartbeats 4000000 in
theorem c_X9_lossOf {Ω : OmT} {S : StT} {a b : Nat} (ha : a ≤ 100) (hb : b ≤ 100) : CtI Ω yX9_lossOf cX9_lossOf 2 .int rm_X9_lossOf [.int (nI a), .int (nI b)] S (fun r u => r = nI (lossW a b) ∧ u = S) := by
  have hm : a * b ≤ 100 * 100 := Nat.mul_le_mul ha hb
  refine CtI.enter (by decide) (Nat.le_of_ble_eq_true rfl) (fun Φ hc hR => ?_)
  show Vw Ω Φ S (0, 0) 0 [(0, .int (nI a)), (1, .int (nI b))] []
  refine r_iload_n hc dX9_lossOf_0 rfl ?_
  refine r_iload_n hc dX9_lossOf_1 rfl ?_
  refine r_imul (v := nI (a * b)) hc dX9_lossOf_2 (ml_NN _ _) ?_
  refine r_bipush (v := nI 99) hc dX9_lossOf_3 rfl ?_
  refine r_iadd (v := nI (a * b + 99)) hc dX9_lossOf_5 (ad_NN _ _) ?_
  refine r_bipush (v := nI 100) hc dX9_lossOf_6 rfl ?_
  refine r_idiv (v := nI ((a * b + 99) / 100)) hc dX9_lossOf_8 (nu_ne0 (by omega) (by omega)) (dv_NN _ _ (by omega) (by omega) (by omega)) ?_
  exact hR _ _ ⟨rfl, rfl⟩ rfl _ _ dX9_lossOf_9
set_option maxRecDepth 100000 in
set_option maxHeartbeats 4000000 in
theorem c_X9_sumOfDepths {Ω : OmT} {S : StT} {c : Nat} (hc0 : c < 10000) : CtI Ω yX9_sumOfDepths cX9_sumOfDepths 4 .int rm_X9_sumOfDepths [.int (nI c)] S (fun r u => r = nI (sumD c) ∧ u = S) := by
  refine CtI.enter (by decide) (Nat.le_of_ble_eq_true rfl) (fun Φ hc hR => ?_)
  show Vw Ω Φ S (0, 0) 0 [(0, .int (nI c))] []
  refine r_iconst (v := nI 0) hc dX9_sumOfDepths_0 rfl ?_
  refine r_istore_n (ls' := [(1, .int (nI 0)), (0, .int (nI c))]) hc dX9_sumOfDepths_1 (by decide) rfl ?_
  refine r_iload_n hc dX9_sumOfDepths_2 rfl ?_
  refine r_istore_n (ls' := [(2, .int (nI c)), (1, .int (nI 0)), (0, .int (nI c))]) hc dX9_sumOfDepths_3 (by decide) rfl ?_
  refine r_iconst (v := nI 0) hc dX9_sumOfDepths_4 rfl ?_
  refine r_istore_n (ls' := [(3, .int (nI 0)), (2, .int (nI c)), (1, .int (nI 0)), (0, .int (nI c))]) hc dX9_sumOfDepths_5 (by decide) rfl ?_
  have loop6 : ∀ (n6 : Nat) (k : Nat) (q : Nat) (a : Nat), (k ≤ 4) → (q < 10000) → (a ≤ 9 * k) → (a + sumF (4 - k) q = sumF 4 c) → (4 - k) < n6 → Vw Ω Φ S (0, 0) 6 [(0, .int (nI c)), (1, .int (nI a)), (2, .int (nI q)), (3, .int (nI k))] [] := by
    intro n6
    induction n6 with
    | zero => intro k q a hk hq ha hf hm; exact absurd hm (Nat.not_lt_zero _)
    | succ n6 ih6 =>
      intro k q a hk hq ha hf hm6
      refine r_iload_n hc dX9_sumOfDepths_6 rfl ?_
      refine r_iconst (v := nI 4) hc dX9_sumOfDepths_7 rfl ?_
      refine r_icmp_ge (tgt := 29) hc dX9_sumOfDepths_8 (by decide) (le_NN (by omega) (by omega)) (fun c_8 => ?_) (fun c_8 => ?_)
      ·
        refine r_iload_n hc dX9_sumOfDepths_29 rfl ?_
        exact hR _ _ ⟨congrArg nI (by rw [show 4 - k = 0 by omega] at hf; simp [sumF] at hf; rw [← sumF_4]; simp [sumF]; omega), rfl⟩ rfl _ _ dX9_sumOfDepths_30
      ·
        refine r_iload_n hc dX9_sumOfDepths_11 rfl ?_
        refine r_iload_n hc dX9_sumOfDepths_12 rfl ?_
        refine r_bipush (v := nI 10) hc dX9_sumOfDepths_13 rfl ?_
        refine r_irem (v := nI (q % 10)) hc dX9_sumOfDepths_15 (nu_ne0 (by omega) (by omega)) (rm_NN _ _ (by omega) (by omega) (by omega)) ?_
        refine r_iadd (v := nI (a + (q % 10))) hc dX9_sumOfDepths_16 (ad_NN _ _) ?_
        refine r_istore_n (ls' := [(1, .int (nI (a + (q % 10)))), (0, .int (nI c)), (2, .int (nI q)), (3, .int (nI k))]) hc dX9_sumOfDepths_17 (by decide) rfl ?_
        refine r_iload_n hc dX9_sumOfDepths_18 rfl ?_
        refine r_bipush (v := nI 10) hc dX9_sumOfDepths_19 rfl ?_
        refine r_idiv (v := nI (q / 10)) hc dX9_sumOfDepths_21 (nu_ne0 (by omega) (by omega)) (dv_NN _ _ (by omega) (by omega) (by omega)) ?_
        refine r_istore_n (ls' := [(2, .int (nI (q / 10))), (1, .int (nI (a + (q % 10)))), (0, .int (nI c)), (3, .int (nI k))]) hc dX9_sumOfDepths_22 (by decide) rfl ?_
        refine r_iinc (v := nI (k + 1)) (ls' := [(3, .int (nI (k + 1))), (2, .int (nI (q / 10))), (1, .int (nI (a + (q % 10)))), (0, .int (nI c))]) hc dX9_sumOfDepths_23 rfl (ad_NN _ 1) (by decide) rfl ?_
        refine r_goto (tgt := 6) hc dX9_sumOfDepths_26 (by decide) ?_
        refine r_locp [3, 2, 1, 0] (ls' := [(0, .int (nI c)), (1, .int (nI (a + (q % 10)))), (2, .int (nI (q / 10))), (3, .int (nI (k + 1)))]) rfl ?_
        exact ih6 (k + 1) (q / 10) (a + (q % 10)) (by omega) (by omega) (by omega) (by rw [show 4 - k = (4 - (k + 1)) + 1 by omega, sumF] at hf; omega) (by omega)
  refine r_locp [3, 2, 1, 0] (ls' := [(0, .int (nI c)), (1, .int (nI 0)), (2, .int (nI c)), (3, .int (nI 0))]) rfl ?_
  exact loop6 _ 0 c 0 (by omega) (by omega) (by omega) (by simp) (Nat.lt_succ_self _)
set_option maxRecDepth 100000 in
set_option maxHeartbeats 4000000 in
theorem c_X9_lockWeight {Ω : OmT} {S : StT} {f s : Nat} (hf0 : f < 10000) (hs0 : s < 10000) : CtI Ω yX9_lockWeight cX9_lockWeight 6 .int rm_X9_lockWeight [.int (nI f), .int (nI s)] S (fun r u => r = nI (lockW f s) ∧ u = S) := by
  have hsd := sumD_le f
  refine CtI.enter (by decide) (Nat.le_of_ble_eq_true rfl) (fun Φ hc hR => ?_)
  show Vw Ω Φ S (0, 0) 0 [(0, .int (nI f)), (1, .int (nI s))] []
  refine r_iconst (v := nI 4) hc dX9_lockWeight_0 rfl ?_
  refine r_iload_n hc dX9_lockWeight_1 rfl ?_
  refine cl_X9_15 (As := [.int (nI f)]) hc (c_X9_sumOfDepths (c := f) (by omega)) rfl ⟨by decide, by decide⟩ ⟨rfl, rfl⟩ ⟨by decide, by decide⟩ rfl (Nat.le_of_ble_eq_true rfl) dX9_lockWeight_2 (fun r u hp => ?_)
  obtain ⟨rfl, hu⟩ := hp
  rw [hu]
  refine r_iadd (v := nI (4 + (sumD f))) hc dX9_lockWeight_5 (ad_NN _ _) ?_
  refine r_istore_n (ls' := [(2, .int (nI (4 + (sumD f)))), (0, .int (nI f)), (1, .int (nI s))]) hc dX9_lockWeight_6 (by decide) rfl ?_
  refine r_iload_n hc dX9_lockWeight_7 rfl ?_
  refine r_istore_n (ls' := [(3, .int (nI f)), (2, .int (nI (4 + (sumD f)))), (0, .int (nI f)), (1, .int (nI s))]) hc dX9_lockWeight_8 (by decide) rfl ?_
  refine r_iload_n hc dX9_lockWeight_9 rfl ?_
  refine r_istore (ls' := [(4, .int (nI s)), (3, .int (nI f)), (2, .int (nI (4 + (sumD f)))), (0, .int (nI f)), (1, .int (nI s))]) hc dX9_lockWeight_10 (by decide) rfl ?_
  refine r_iconst (v := nI 0) hc dX9_lockWeight_12 rfl ?_
  refine r_istore (ls' := [(5, .int (nI 0)), (4, .int (nI s)), (3, .int (nI f)), (2, .int (nI (4 + (sumD f)))), (0, .int (nI f)), (1, .int (nI s))]) hc dX9_lockWeight_13 (by decide) rfl ?_
  have loop15 : ∀ (n15 : Nat) (k : Nat) (p : Nat) (q : Nat) (a : Nat), (k ≤ 4) → (p < 10000) → (q < 10000) → (a ≤ 50 + k) → (a + ndF (4 - k) p q = 4 + sumD f + ndF 4 f s) → (4 - k) < n15 → Vw Ω Φ S (0, 0) 15 [(0, .int (nI f)), (1, .int (nI s)), (2, .int (nI a)), (3, .int (nI p)), (4, .int (nI q)), (5, .int (nI k))] [] := by
    intro n15
    induction n15 with
    | zero => intro k p q a hk hp hq ha hf hm; exact absurd hm (Nat.not_lt_zero _)
    | succ n15 ih15 =>
      intro k p q a hk hp hq ha hf hm15
      refine r_iload hc dX9_lockWeight_15 rfl ?_
      refine r_iconst (v := nI 4) hc dX9_lockWeight_17 rfl ?_
      refine r_icmp_ge (tgt := 54) hc dX9_lockWeight_18 (by decide) (le_NN (by omega) (by omega)) (fun c_18 => ?_) (fun c_18 => ?_)
      ·
        refine r_iload_n hc dX9_lockWeight_54 rfl ?_
        exact hR _ _ ⟨congrArg nI (by rw [show 4 - k = 0 by omega, ndF] at hf; rw [ndF_4] at hf; unfold lockW; omega), rfl⟩ rfl _ _ dX9_lockWeight_55
      ·
        refine r_iload_n hc dX9_lockWeight_21 rfl ?_
        refine r_bipush (v := nI 10) hc dX9_lockWeight_22 rfl ?_
        refine r_irem (v := nI (p % 10)) hc dX9_lockWeight_24 (nu_ne0 (by omega) (by omega)) (rm_NN _ _ (by omega) (by omega) (by omega)) ?_
        refine r_iload hc dX9_lockWeight_25 rfl ?_
        refine r_bipush (v := nI 10) hc dX9_lockWeight_27 rfl ?_
        refine r_irem (v := nI (q % 10)) hc dX9_lockWeight_29 (nu_ne0 (by omega) (by omega)) (rm_NN _ _ (by omega) (by omega) (by omega)) ?_
        refine r_icmp_eq (tgt := 36) hc dX9_lockWeight_30 (by decide) (eq_NN (by omega) (by omega)) (fun c_30 => ?_) (fun c_30 => ?_)
        ·
          refine r_iload_n hc dX9_lockWeight_36 rfl ?_
          refine r_bipush (v := nI 10) hc dX9_lockWeight_37 rfl ?_
          refine r_idiv (v := nI (p / 10)) hc dX9_lockWeight_39 (nu_ne0 (by omega) (by omega)) (dv_NN _ _ (by omega) (by omega) (by omega)) ?_
          refine r_istore_n (ls' := [(3, .int (nI (p / 10))), (0, .int (nI f)), (1, .int (nI s)), (2, .int (nI a)), (4, .int (nI q)), (5, .int (nI k))]) hc dX9_lockWeight_40 (by decide) rfl ?_
          refine r_iload hc dX9_lockWeight_41 rfl ?_
          refine r_bipush (v := nI 10) hc dX9_lockWeight_43 rfl ?_
          refine r_idiv (v := nI (q / 10)) hc dX9_lockWeight_45 (nu_ne0 (by omega) (by omega)) (dv_NN _ _ (by omega) (by omega) (by omega)) ?_
          refine r_istore (ls' := [(4, .int (nI (q / 10))), (3, .int (nI (p / 10))), (0, .int (nI f)), (1, .int (nI s)), (2, .int (nI a)), (5, .int (nI k))]) hc dX9_lockWeight_46 (by decide) rfl ?_
          refine r_iinc (v := nI (k + 1)) (ls' := [(5, .int (nI (k + 1))), (4, .int (nI (q / 10))), (3, .int (nI (p / 10))), (0, .int (nI f)), (1, .int (nI s)), (2, .int (nI a))]) hc dX9_lockWeight_48 rfl (ad_NN _ 1) (by decide) rfl ?_
          refine r_goto (tgt := 15) hc dX9_lockWeight_51 (by decide) ?_
          refine r_locp [3, 4, 5, 2, 1, 0] (ls' := [(0, .int (nI f)), (1, .int (nI s)), (2, .int (nI a)), (3, .int (nI (p / 10))), (4, .int (nI (q / 10))), (5, .int (nI (k + 1)))]) rfl ?_
          exact ih15 (k + 1) (p / 10) (q / 10) a (by omega) (by omega) (by omega) (by omega) (by rw [show 4 - k = (4 - (k + 1)) + 1 by omega, ndF, if_pos c_30] at hf; omega) (by omega)
        ·
          refine r_iinc (v := nI (a + 1)) (ls' := [(2, .int (nI (a + 1))), (0, .int (nI f)), (1, .int (nI s)), (3, .int (nI p)), (4, .int (nI q)), (5, .int (nI k))]) hc dX9_lockWeight_33 rfl (ad_NN _ 1) (by decide) rfl ?_
          refine r_iload_n hc dX9_lockWeight_36 rfl ?_
          refine r_bipush (v := nI 10) hc dX9_lockWeight_37 rfl ?_
          refine r_idiv (v := nI (p / 10)) hc dX9_lockWeight_39 (nu_ne0 (by omega) (by omega)) (dv_NN _ _ (by omega) (by omega) (by omega)) ?_
          refine r_istore_n (ls' := [(3, .int (nI (p / 10))), (2, .int (nI (a + 1))), (0, .int (nI f)), (1, .int (nI s)), (4, .int (nI q)), (5, .int (nI k))]) hc dX9_lockWeight_40 (by decide) rfl ?_
          refine r_iload hc dX9_lockWeight_41 rfl ?_
          refine r_bipush (v := nI 10) hc dX9_lockWeight_43 rfl ?_
          refine r_idiv (v := nI (q / 10)) hc dX9_lockWeight_45 (nu_ne0 (by omega) (by omega)) (dv_NN _ _ (by omega) (by omega) (by omega)) ?_
          refine r_istore (ls' := [(4, .int (nI (q / 10))), (3, .int (nI (p / 10))), (2, .int (nI (a + 1))), (0, .int (nI f)), (1, .int (nI s)), (5, .int (nI k))]) hc dX9_lockWeight_46 (by decide) rfl ?_
          refine r_iinc (v := nI (k + 1)) (ls' := [(5, .int (nI (k + 1))), (4, .int (nI (q / 10))), (3, .int (nI (p / 10))), (2, .int (nI (a + 1))), (0, .int (nI f)), (1, .int (nI s))]) hc dX9_lockWeight_48 rfl (ad_NN _ 1) (by decide) rfl ?_
          refine r_goto (tgt := 15) hc dX9_lockWeight_51 (by decide) ?_
          refine r_locp [4, 5, 3, 2, 1, 0] (ls' := [(0, .int (nI f)), (1, .int (nI s)), (2, .int (nI (a + 1))), (3, .int (nI (p / 10))), (4, .int (nI (q / 10))), (5, .int (nI (k + 1)))]) rfl ?_
          exact ih15 (k + 1) (p / 10) (q / 10) (a + 1) (by omega) (by omega) (by omega) (by omega) (by rw [show 4 - k = (4 - (k + 1)) + 1 by omega, ndF, if_neg c_30] at hf; omega) (by omega)
  refine r_locp [4, 5, 3, 2, 1, 0] (ls' := [(0, .int (nI f)), (1, .int (nI s)), (2, .int (nI (4 + (sumD f)))), (3, .int (nI f)), (4, .int (nI s)), (5, .int (nI 0))]) rfl ?_
  exact loop15 _ 0 f s (4 + (sumD f)) (by omega) (by omega) (by omega) (by have := sumD_le f; omega) (by simp) (Nat.lt_succ_self _)
set_option maxRecDepth 100000 in
set_option maxHeartbeats 4000000 in
theorem c_X9_canBeKey {Ω : OmT} {S : StT} {c b : Nat} (hc0 : c < 10000) (hb0 : b < 100) : CtI Ω yX9_canBeKey cX9_canBeKey 6 .boolean rm_X9_canBeKey [.int (nI c), .int (nI b)] S (fun r u => r = bI (canK b c) ∧ u = S) := by
  refine CtI.enter (by decide) (Nat.le_of_ble_eq_true rfl) (fun Φ hc hR => ?_)
  show Vw Ω Φ S (0, 0) 0 [(0, .int (nI c)), (1, .int (nI b))] []
  refine r_iload_n hc dX9_canBeKey_0 rfl ?_
  refine r_bipush (v := nI 10) hc dX9_canBeKey_1 rfl ?_
  refine r_irem (v := nI (c % 10)) hc dX9_canBeKey_3 (nu_ne0 (by omega) (by omega)) (rm_NN _ _ (by omega) (by omega) (by omega)) ?_
  refine r_istore_n (ls' := [(2, .int (nI (c % 10))), (0, .int (nI c)), (1, .int (nI b))]) hc dX9_canBeKey_4 (by decide) rfl ?_
  refine r_iload_n hc dX9_canBeKey_5 rfl ?_
  refine r_bipush (v := nI 10) hc dX9_canBeKey_6 rfl ?_
  refine r_idiv (v := nI (c / 10)) hc dX9_canBeKey_8 (nu_ne0 (by omega) (by omega)) (dv_NN _ _ (by omega) (by omega) (by omega)) ?_
  refine r_istore_n (ls' := [(3, .int (nI (c / 10))), (2, .int (nI (c % 10))), (0, .int (nI c)), (1, .int (nI b))]) hc dX9_canBeKey_9 (by decide) rfl ?_
  refine r_iconst (v := nI 1) hc dX9_canBeKey_10 rfl ?_
  refine r_istore (ls' := [(4, .int (nI 1)), (3, .int (nI (c / 10))), (2, .int (nI (c % 10))), (0, .int (nI c)), (1, .int (nI b))]) hc dX9_canBeKey_11 (by decide) rfl ?_
  have loop13 : ∀ (n13 : Nat) (k : Nat) (r : Nat) (q : Nat), (1 ≤ k ∧ k ≤ 4) → (r < 10) → (q < 10000) → (canF b (4 - k) r q = canF b 3 (c % 10) (c / 10)) → (4 - k) < n13 → Vw Ω Φ S (0, 0) 13 [(0, .int (nI c)), (1, .int (nI b)), (2, .int (nI r)), (3, .int (nI q)), (4, .int (nI k))] [] := by
    intro n13
    induction n13 with
    | zero => intro k r q hk hr hq hf hm; exact absurd hm (Nat.not_lt_zero _)
    | succ n13 ih13 =>
      intro k r q hk hr hq hf hm13
      refine r_iload hc dX9_canBeKey_13 rfl ?_
      refine r_iconst (v := nI 4) hc dX9_canBeKey_15 rfl ?_
      refine r_icmp_ge (tgt := 52) hc dX9_canBeKey_16 (by decide) (le_NN (by omega) (by omega)) (fun c_16 => ?_) (fun c_16 => ?_)
      ·
        refine r_iconst (v := nI 1) hc dX9_canBeKey_52 rfl ?_
        exact hR _ _ ⟨bI_t (by rw [show 4 - k = 0 by omega, canF] at hf; rw [← canF_3]; exact hf.symm), rfl⟩ rfl _ _ dX9_canBeKey_53
      ·
        refine r_iload_n hc dX9_canBeKey_19 rfl ?_
        refine r_bipush (v := nI 10) hc dX9_canBeKey_20 rfl ?_
        refine r_irem (v := nI (q % 10)) hc dX9_canBeKey_22 (nu_ne0 (by omega) (by omega)) (rm_NN _ _ (by omega) (by omega) (by omega)) ?_
        refine r_istore (ls' := [(5, .int (nI (q % 10))), (0, .int (nI c)), (1, .int (nI b)), (2, .int (nI r)), (3, .int (nI q)), (4, .int (nI k))]) hc dX9_canBeKey_23 (by decide) rfl ?_
        refine r_iload hc dX9_canBeKey_25 rfl ?_
        refine r_iload_n hc dX9_canBeKey_27 rfl ?_
        refine r_isub (v := zI (((q % 10 : Nat) : Int) - ((r : Nat) : Int))) hc dX9_canBeKey_28 (sb_NN _ _) ?_
        refine ma_X9_9 (v := zI (if (((q % 10 : Nat) : Int) - ((r : Nat) : Int) : Int) ≥ 0 then ((q % 10 : Nat) : Int) - ((r : Nat) : Int) else -(((q % 10 : Nat) : Int) - ((r : Nat) : Int)))) hc ⟨by decide, Nat.le_of_ble_eq_true rfl⟩ ⟨by decide, by decide⟩ dX9_canBeKey_29 (ab_Z (by omega)) ?_
        refine r_iload_n hc dX9_canBeKey_32 rfl ?_
        refine r_icmp_le (tgt := 38) hc dX9_canBeKey_33 (by decide) (le_ZN (by split <;> omega) (by omega)) (fun c_33 => ?_) (fun c_33 => ?_)
        ·
          refine r_iload hc dX9_canBeKey_38 rfl ?_
          refine r_istore_n (ls' := [(2, .int (nI (q % 10))), (5, .int (nI (q % 10))), (0, .int (nI c)), (1, .int (nI b)), (3, .int (nI q)), (4, .int (nI k))]) hc dX9_canBeKey_40 (by decide) rfl ?_
          refine r_iload_n hc dX9_canBeKey_41 rfl ?_
          refine r_bipush (v := nI 10) hc dX9_canBeKey_42 rfl ?_
          refine r_idiv (v := nI (q / 10)) hc dX9_canBeKey_44 (nu_ne0 (by omega) (by omega)) (dv_NN _ _ (by omega) (by omega) (by omega)) ?_
          refine r_istore_n (ls' := [(3, .int (nI (q / 10))), (2, .int (nI (q % 10))), (5, .int (nI (q % 10))), (0, .int (nI c)), (1, .int (nI b)), (4, .int (nI k))]) hc dX9_canBeKey_45 (by decide) rfl ?_
          refine r_iinc (v := nI (k + 1)) (ls' := [(4, .int (nI (k + 1))), (3, .int (nI (q / 10))), (2, .int (nI (q % 10))), (5, .int (nI (q % 10))), (0, .int (nI c)), (1, .int (nI b))]) hc dX9_canBeKey_46 rfl (ad_NN _ 1) (by decide) rfl ?_
          refine r_goto (tgt := 13) hc dX9_canBeKey_49 (by decide) ?_
          refine r_locp [4, 5, 2, 1, 0] (ls' := [(0, .int (nI c)), (1, .int (nI b)), (2, .int (nI (q % 10))), (3, .int (nI (q / 10))), (4, .int (nI (k + 1)))]) rfl ?_
          exact ih13 (k + 1) (q % 10) (q / 10) (by omega) (by omega) (by omega) (by rw [show 4 - k = (4 - (k + 1)) + 1 by omega, canF, show adj b r (q % 10) = true by simp only [adj, Bool.and_eq_true, decide_eq_true_eq]; split at c_33 <;> omega] at hf; simpa using hf) (by omega)
        ·
          refine r_iconst (v := nI 0) hc dX9_canBeKey_36 rfl ?_
          exact hR _ _ ⟨bI_f (by rw [← canF_3, ← hf, show 4 - k = (4 - (k + 1)) + 1 by omega, canF, show adj b r (q % 10) = false by simp only [adj, Bool.and_eq_false_iff, decide_eq_false_iff_not]; split at c_33 <;> omega]; rfl), rfl⟩ rfl _ _ dX9_canBeKey_37
  refine r_locp [3, 4, 2, 1, 0] (ls' := [(0, .int (nI c)), (1, .int (nI b)), (2, .int (nI (c % 10))), (3, .int (nI (c / 10))), (4, .int (nI 1))]) rfl ?_
  exact loop13 _ 1 (c % 10) (c / 10) (by omega) (by omega) (by omega) rfl (Nat.lt_succ_self _)
