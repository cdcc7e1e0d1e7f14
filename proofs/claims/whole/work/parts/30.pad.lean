/-! ===== the class's Pad at a ===== -/
def PdSh (sh : Nat → Option Kd) (ρ : Nat → Nat → Option Nat) (a : Nat) : Prop := (sh a = some (.inl 6) ∧ sh (a + 1) = some (.inr (2, 80)) ∧ sh (a + 2) = some (.inr (6, 27))) ∧ (∀ i, i < 27 → sh (a + 3 + i) = some (.inl 5)) ∧ (ρ a 0 = some (a + 1) ∧ ρ a 2 = some (a + 2)) ∧ ∀ i, i < 27 → ρ (a + 2) i = some (a + 3 + i)
def sPut (p : Nat → Nat) (ln n : Nat) : Int × Nat × (Nat → Nat) := if hmF 8 n 0 = 0 then (-2, ln, p) else if 80 < ln + hmF 8 n 0 then (-4, ln, p) else (((ln + hmF 8 n 0 : Nat) : Int), ln + hmF 8 n 0, apF p ln n (hmF 8 n 0))
def rB (b : Bool × Nat × Nat) : Int32 := if b.1 = true then nI b.2.2 else zI (-1)
/-- what an order of the text says, in the fields of an Order -/
def OrdF (σ : Nat → Nat → Int32) (o kd : Nat) (R : Nat × Nat × Nat) : Prop := σ o 0 = nI kd ∧ (kd = 107 → σ o 2 = nI R.1) ∧ (kd = 99 → σ o 1 = nI R.1 ∧ σ o 2 = nI R.2.1 ∧ σ o 3 = nI R.2.2) ∧ (kd = 116 ∨ kd = 112 ∨ kd = 103 ∨ kd = 98 → σ o 1 = nI R.1)
theorem OrdF.sig {σ τ : Nat → Nat → Int32} {o kd : Nat} {R : Nat × Nat × Nat} (h : OrdF σ o kd R) (e : τ o = σ o) : OrdF τ o kd R := by
  unfold OrdF at *
  rw [e]; exact h
theorem hm_step {f r m : Nat} (h1 : ¬ r % 256 = 0) (h2 : 33 ≤ r % 256) (h3 : r % 256 ≤ 126) : hmF (f + 1) r m = hmF f (r / 256) (m + 1) := by rw [hmF, if_neg h1, if_neg (by omega)]
theorem pC_step {p : Nat → Nat} {ln n r t : Nat} (h : (pB p ln 48 57 t).1 = true) : pC p ln (n + 1) r t = pC p ln n (r * 10 + (pB p ln 48 57 t).2.2) (pB p ln 48 57 t).2.1 := by
  rw [pC, if_pos h, (pB_ok h).2]
theorem pC_fail {p : Nat → Nat} {ln n r t : Nat} (h : ¬ (pB p ln 48 57 t).1 = true) : pC p ln (n + 1) r t = (false, t, 0) := by
  rw [pC, if_neg h]
theorem div_step (n k : Nat) : n / 256 ^ k / 256 = n / 256 ^ (k + 1) := by rw [Nat.div_div_eq_div_mul, Nat.pow_succ]
set_option maxRecDepth 100000 in
set_option maxHeartbeats 4000000 in
theorem c_X6_howManyIn {Ω : OmT} {S : StT} {n : Nat} (hn : n < 2 ^ 64) : CtI Ω yX6_howManyIn cX6_howManyIn 7 .int rm_X6_howManyIn [.long (lI n)] S (fun r u => r = nI (hmF 8 n 0) ∧ u = S) := by
  refine CtI.enter (by decide) (Nat.le_of_ble_eq_true rfl) (fun Φ hc hR => ?_)
  show Vw Ω Φ S (0, 0) 0 [(0, .long (lI n))] []
  refine r_iconst (v := nI 0) hc dX6_howManyIn_0 rfl ?_
  refine r_istore_n (ls' := [(2, .int (nI 0)), (0, .long (lI n))]) hc dX6_howManyIn_1 (by decide) rfl ?_
  refine r_lload_n hc dX6_howManyIn_2 rfl ?_
  refine r_lstore_n (ls' := [(3, .long (lI n)), (2, .int (nI 0)), (0, .long (lI n))]) hc dX6_howManyIn_3 (by decide) rfl ?_
  have loop4 : ∀ (n4 : Nat) (m : Nat) (r : Nat), (m ≤ 8) → (r < 2 ^ 64) → (hmF (8 - m) r m = hmF 8 n 0) → (8 - m) < n4 → Vw Ω Φ S (0, 0) 4 [(0, .long (lI n)), (2, .int (nI m)), (3, .long (lI r))] [] := by
    intro n4
    induction n4 with
    | zero => intro m r hm hr hf hm; exact absurd hm (Nat.not_lt_zero _)
    | succ n4 ih4 =>
      intro m r hm hr hf hm4
      refine r_iload_n hc dX6_howManyIn_4 rfl ?_
      refine r_bipush (v := nI 8) hc dX6_howManyIn_5 rfl ?_
      refine r_icmp_ge (tgt := 58) hc dX6_howManyIn_7 (by decide) (le_NN (by omega) (by omega)) (fun c_7 => ?_) (fun c_7 => ?_)
      ·
        refine r_lload_n hc dX6_howManyIn_58 rfl ?_
        refine r_lconst (v := 0) hc dX6_howManyIn_59 rfl ?_
        refine r_lcmp (v := lg_cmp (lI r) 0) hc dX6_howManyIn_60 rfl ?_
        refine r_if_ne (tgt := 68) hc dX6_howManyIn_61 (by decide) (lc_0 (by omega)) (fun c_61 => ?_) (fun c_61 => ?_)
        ·
          refine r_iconst (v := nI 0) hc dX6_howManyIn_68 rfl ?_
          exact hR _ _ ⟨(by refine congrArg nI ?_; rw [← hf, show 8 - m = 0 by omega, hmF, if_neg c_61]), rfl⟩ rfl _ _ dX6_howManyIn_69
        ·
          refine r_iload_n hc dX6_howManyIn_64 rfl ?_
          refine r_goto (tgt := 69) hc dX6_howManyIn_65 (by decide) ?_
          exact hR _ _ ⟨(by refine congrArg nI ?_; rw [← hf, show 8 - m = 0 by omega, hmF, if_pos c_61]), rfl⟩ rfl _ _ dX6_howManyIn_69
      ·
        refine r_lload_n hc dX6_howManyIn_10 rfl ?_
        refine lk_X6_30 hc dX6_howManyIn_11 ?_
        refine r_land (v := lI (r % 256)) hc dX6_howManyIn_14 (lI_and _) ?_
        refine r_lconst (v := 0) hc dX6_howManyIn_15 rfl ?_
        refine r_lcmp (v := lg_cmp (lI (r % 256)) 0) hc dX6_howManyIn_16 rfl ?_
        refine r_if_eq (tgt := 58) hc dX6_howManyIn_17 (by decide) (lc_0 (by omega)) (fun c_17 => ?_) (fun c_17 => ?_)
        ·
          refine r_lload_n hc dX6_howManyIn_58 rfl ?_
          refine r_lconst (v := 0) hc dX6_howManyIn_59 rfl ?_
          refine r_lcmp (v := lg_cmp (lI r) 0) hc dX6_howManyIn_60 rfl ?_
          refine r_if_ne (tgt := 68) hc dX6_howManyIn_61 (by decide) (lc_0 (by omega)) (fun c_61 => ?_) (fun c_61 => ?_)
          ·
            refine r_iconst (v := nI 0) hc dX6_howManyIn_68 rfl ?_
            exact hR _ _ ⟨(by refine congrArg nI ?_; rw [← hf, show 8 - m = (7 - m) + 1 by omega, hmF, if_pos c_17, if_neg c_61]), rfl⟩ rfl _ _ dX6_howManyIn_69
          ·
            refine r_iload_n hc dX6_howManyIn_64 rfl ?_
            refine r_goto (tgt := 69) hc dX6_howManyIn_65 (by decide) ?_
            exact hR _ _ ⟨(by refine congrArg nI ?_; rw [← hf, show 8 - m = (7 - m) + 1 by omega, hmF, if_pos c_17, if_pos c_61]), rfl⟩ rfl _ _ dX6_howManyIn_69
        ·
          refine r_lload_n hc dX6_howManyIn_20 rfl ?_
          refine lk_X6_30 hc dX6_howManyIn_21 ?_
          refine r_land (v := lI (r % 256)) hc dX6_howManyIn_24 (lI_and _) ?_
          refine r_lstore (ls' := [(5, .long (lI (r % 256))), (0, .long (lI n)), (2, .int (nI m)), (3, .long (lI r))]) hc dX6_howManyIn_25 (by decide) rfl ?_
          refine r_lload hc dX6_howManyIn_27 rfl ?_
          refine lk_X6_32 hc dX6_howManyIn_29 ?_
          refine r_lcmp (v := lg_cmp (lI (r % 256)) 33) hc dX6_howManyIn_32 rfl ?_
          refine r_if_lt (tgt := 45) hc dX6_howManyIn_33 (by decide) (lc_33 (by omega)) (fun c_33 => ?_) (fun c_33 => ?_)
          ·
            refine r_iconst (v := nI 0) hc dX6_howManyIn_45 rfl ?_
            exact hR _ _ ⟨(by refine congrArg nI ?_; rw [← hf, show 8 - m = (7 - m) + 1 by omega, hmF, if_neg c_17, if_pos (by omega)]), rfl⟩ rfl _ _ dX6_howManyIn_46
          ·
            refine r_lload hc dX6_howManyIn_36 rfl ?_
            refine lk_X6_34 hc dX6_howManyIn_38 ?_
            refine r_lcmp (v := lg_cmp (lI (r % 256)) 126) hc dX6_howManyIn_41 rfl ?_
            refine r_if_le (tgt := 47) hc dX6_howManyIn_42 (by decide) (lc_126 (by omega)) (fun c_42 => ?_) (fun c_42 => ?_)
            ·
              refine r_lload_n hc dX6_howManyIn_47 rfl ?_
              refine r_bipush (v := nI 8) hc dX6_howManyIn_48 rfl ?_
              refine r_lushr (v := lI (r / 256)) hc dX6_howManyIn_50 (lI_shr (by omega)) ?_
              refine r_lstore_n (ls' := [(3, .long (lI (r / 256))), (5, .long (lI (r % 256))), (0, .long (lI n)), (2, .int (nI m))]) hc dX6_howManyIn_51 (by decide) rfl ?_
              refine r_iinc (v := nI (m + 1)) (ls' := [(2, .int (nI (m + 1))), (3, .long (lI (r / 256))), (5, .long (lI (r % 256))), (0, .long (lI n))]) hc dX6_howManyIn_52 rfl (ad_NN _ 1) (by decide) rfl ?_
              refine r_goto (tgt := 4) hc dX6_howManyIn_55 (by decide) ?_
              refine r_locp [3, 0, 1] (ls' := [(0, .long (lI n)), (2, .int (nI (m + 1))), (3, .long (lI (r / 256)))]) rfl ?_
              exact ih4 (m + 1) (r / 256) (by omega) (by omega) (by rw [← hf, show 8 - m = (8 - (m + 1)) + 1 by omega, hm_step c_17 (by omega) (by omega)]) (by omega)
            ·
              refine r_iconst (v := nI 0) hc dX6_howManyIn_45 rfl ?_
              exact hR _ _ ⟨(by refine congrArg nI ?_; rw [← hf, show 8 - m = (7 - m) + 1 by omega, hmF, if_neg c_17, if_pos (by omega)]), rfl⟩ rfl _ _ dX6_howManyIn_46
  refine r_locp [2, 1, 0] (ls' := [(0, .long (lI n)), (2, .int (nI 0)), (3, .long (lI n))]) rfl ?_
  exact loop4 _ 0 n (by omega) (by omega) rfl (Nat.lt_succ_self _)
set_option maxRecDepth 100000 in
set_option maxHeartbeats 4000000 in
theorem c_X6_append {Ω : OmT} {z : Nat} {sh : Nat → Option Kd} {σ : Nat → Nat → Int32} {ρ : Nat → Nat → Option Nat} {a : Nat} (hK : PdSh sh ρ a) {p : Nat → Nat} {ln : Nat} (hln : σ a 1 = nI ln) (hpr : rowAt σ (a + 1) ln p) (hl80 : ln ≤ 80) (hp : ∀ j, j < ln → p j < 256) {n : Nat} (hn : n < 2 ^ 64) : CtI Ω yX6_append cX6_append 7 .int rm_X6_append [.ref a, .long (lI n)] (z, sh, σ, ρ) (fun r u => ∃ τ : Nat → Nat → Int32, u = (z, sh, τ, ρ) ∧ r = zI (sPut p ln n).1 ∧ τ a 1 = nI (sPut p ln n).2.1 ∧ rowAt τ (a + 1) (sPut p ln n).2.1 (sPut p ln n).2.2 ∧ (∀ q, q ≠ a → q ≠ a + 1 → τ q = σ q) ∧ ∀ k, k ≠ 1 → τ a k = σ a k) := by
  obtain ⟨m, hm⟩ : ∃ m, hmF 8 n 0 = m := ⟨_, rfl⟩
  have hm8 : m ≤ 8 := by rw [← hm]; exact hmF_le 8 n 0
  refine CtI.enter (by decide) (Nat.le_of_ble_eq_true rfl) (fun Φ hc hR => ?_)
  show Vw Ω Φ (z, sh, σ, ρ) (0, 0) 0 [(0, .ref a), (1, .long (lI n))] []
  refine r_lload_n hc dX6_append_0 rfl ?_
  refine cl_X6_22 (As := [.long (lI n)]) hc (c_X6_howManyIn (n := n) hn) rfl ⟨by decide, by decide⟩ ⟨rfl, rfl⟩ ⟨by decide, by decide⟩ rfl (Nat.le_of_ble_eq_true rfl) dX6_append_1 (fun r u hp => ?_)
  obtain ⟨rfl, hu⟩ := hp
  rw [hu]
  rw [hm]
  refine r_istore_n (ls' := [(3, .int (nI m)), (0, .ref a), (1, .long (lI n))]) hc dX6_append_4 (by decide) rfl ?_
  refine r_iload_n hc dX6_append_5 rfl ?_
  refine r_if_ne (tgt := 12) hc dX6_append_6 (by decide) (e0_N (by omega)) (fun c_6 => ?_) (fun c_6 => ?_)
  ·
    refine r_aload_n hc dX6_append_12 rfl ?_
    refine gf_X6_26 (x := nI ln) hc hK.1.1 hln dX6_append_13 ?_
    refine r_iload_n hc dX6_append_16 rfl ?_
    refine r_iadd (v := nI (ln + m)) hc dX6_append_17 (ad_NN _ _) ?_
    refine r_bipush (v := nI 80) hc dX6_append_18 rfl ?_
    refine r_icmp_le (tgt := 26) hc dX6_append_20 (by decide) (le_NN (by omega) (by omega)) (fun c_20 => ?_) (fun c_20 => ?_)
    ·
      refine r_lload_n hc dX6_append_26 rfl ?_
      refine r_lstore (ls' := [(4, .long (lI n)), (3, .int (nI m)), (0, .ref a), (1, .long (lI n))]) hc dX6_append_27 (by decide) rfl ?_
      refine r_aload_n hc dX6_append_29 rfl ?_
      refine gf_X6_26 (x := nI ln) hc hK.1.1 hln dX6_append_30 ?_
      refine r_iload_n hc dX6_append_33 rfl ?_
      refine r_iadd (v := nI (ln + m)) hc dX6_append_34 (ad_NN _ _) ?_
      refine r_iconst (v := nI 1) hc dX6_append_35 rfl ?_
      refine r_isub (v := zI (((ln + m : Nat) : Int) - ((1 : Nat) : Int))) hc dX6_append_36 (sb_NN _ _) ?_
      refine r_istore (ls' := [(6, .int (zI (((ln + m : Nat) : Int) - ((1 : Nat) : Int)))), (4, .long (lI n)), (3, .int (nI m)), (0, .ref a), (1, .long (lI n))]) hc dX6_append_37 (by decide) rfl ?_
      have loop39 : ∀ (n39 : Nat) (τ : Nat → Nat → Int32) (k : Nat) (x : Int) (r : Nat), (k ≤ m) → (x = ((ln + m : Nat) : Int) - 1 - (k : Int)) → (r = n / 256 ^ k) → (τ a 1 = nI ln) → (rowAt τ (a + 1) ln p) → (∀ j, ln + m - k ≤ j → j < ln + m → τ (a + 1) j = nI (n / 256 ^ (ln + m - 1 - j) % 256)) → ((∀ q, q ≠ a → q ≠ a + 1 → τ q = σ q) ∧ ∀ k, τ a k = σ a k) → (m - k) < n39 → Vw Ω Φ (z, sh, τ, ρ) (0, 0) 39 [(0, .ref a), (1, .long (lI n)), (3, .int (nI m)), (4, .long (lI r)), (6, .int (zI x))] [] := by
        intro n39
        induction n39 with
        | zero => intro τ k x r hk hx hr hln hpr0 hw hfr hm; exact absurd hm (Nat.not_lt_zero _)
        | succ n39 ih39 =>
          intro τ k x r hk hx hr hln hpr0 hw hfr hm39
          refine r_iload hc dX6_append_39 rfl ?_
          refine r_aload_n hc dX6_append_41 rfl ?_
          refine gf_X6_26 (x := nI ln) hc hK.1.1 hln dX6_append_42 ?_
          refine r_icmp_lt (tgt := 76) hc dX6_append_45 (by decide) (lt_ZN (by omega) (by omega)) (fun c_45 => ?_) (fun c_45 => ?_)
          ·
            refine r_aload_n hc dX6_append_76 rfl ?_
            refine r_dup hc dX6_append_77 rfl ?_
            refine gf_X6_26 (x := nI ln) hc hK.1.1 hln dX6_append_78 ?_
            refine r_iload_n hc dX6_append_81 rfl ?_
            refine r_iadd (v := nI (ln + m)) hc dX6_append_82 (ad_NN _ _) ?_
            refine pf_X6_26 hc hK.1.1 dX6_append_83 ?_
            generalize hσ1 : s2 τ a 1 (nI (ln + m)) = σ1
            have hln : σ1 a 1 = nI (ln + m) := by rw [← hσ1]; exact s2_same _ _ _ _
            refine r_aload_n hc dX6_append_86 rfl ?_
            refine gf_X6_26 (x := nI (ln + m)) hc hK.1.1 hln dX6_append_87 ?_
            have hE : sPut p ln n = (((ln + m : Nat) : Int), ln + m, apF p ln n m) := by unfold sPut; rw [hm, if_neg (by omega), if_neg (by omega)]
            rw [hE] at hR
            refine hR _ _ ⟨_, rfl, nz _, hln, fun j hj => ?_, fun q q1 q2 => by rw [← hσ1, s2_ne q1]; exact hfr.1 q q1 q2, fun k hk => by rw [← hσ1, s2_nk hk]; exact hfr.2 k⟩ rfl _ _ dX6_append_90
            have hj2 : j < ln + m := hj
            rw [← hσ1, s2_na (by omega)]
            show _ = nI (apF p ln n m j)
            unfold apF
            by_cases h7 : ln ≤ j
            · rw [if_pos ⟨h7, hj2⟩]; exact hw j (by omega) hj2
            · rw [if_neg (fun q => h7 q.1)]; exact hpr0 j (by omega)
          ·
            have hrl : r ≤ n := by rw [hr]; exact Nat.div_le_self _ _
            refine r_aload_n hc dX6_append_48 rfl ?_
            refine gf_X6_9 (q := a + 1) hc hK.1.1 hK.2.2.1.1 dX6_append_49 ?_
            refine r_iload hc dX6_append_52 rfl ?_
            refine r_lload hc dX6_append_54 rfl ?_
            refine lk_X6_30 hc dX6_append_56 ?_
            refine r_land (v := lI (r % 256)) hc dX6_append_59 (lI_and _) ?_
            refine r_l2i (v := nI ((r % 256))) hc dX6_append_60 (lI_l2i (by omega)) ?_
            refine r_i2c (v := nI (r % 256)) hc dX6_append_61 (i2c_n (by omega)) ?_
            refine r_cast (j := ln + m - 1 - k) hc hK.1.2.1 (zn (by omega)) (by omega) (by decide) (nar_c (by omega)) dX6_append_62 ?_
            generalize hσ2 : s2 τ (a + 1) (ln + m - 1 - k) (nI (r % 256)) = σ2
            have hln : σ2 a 1 = nI ln := by rw [← hσ2]; exact s2_keep hln (by omega)
            refine r_lload hc dX6_append_63 rfl ?_
            refine r_bipush (v := nI 8) hc dX6_append_65 rfl ?_
            refine r_lushr (v := lI (r / 256)) hc dX6_append_67 (lI_shr (by omega)) ?_
            refine r_lstore (ls' := [(4, .long (lI (r / 256))), (0, .ref a), (1, .long (lI n)), (3, .int (nI m)), (6, .int (zI x))]) hc dX6_append_68 (by decide) rfl ?_
            refine r_iinc (v := zI (x - 1)) (ls' := [(6, .int (zI (x - 1))), (4, .long (lI (r / 256))), (0, .ref a), (1, .long (lI n)), (3, .int (nI m))]) hc dX6_append_70 rfl (by rw [show Int32.ofInt (-1) = zI (-1) from rfl, ad_ZZ]; rfl) (by decide) rfl ?_
            refine r_goto (tgt := 39) hc dX6_append_73 (by decide) ?_
            refine r_locp [2, 3, 4, 1, 0] (ls' := [(0, .ref a), (1, .long (lI n)), (3, .int (nI m)), (4, .long (lI (r / 256))), (6, .int (zI (x - 1)))]) rfl ?_
            exact ih39 σ2 (k + 1) (x - 1) (r / 256) (by omega) (by omega) (by rw [hr, div_step]) hln (fun j hj => by rw [← hσ2, s2_nk (by omega)]; exact hpr0 j hj) (fun j h1 h2 => by
              rw [← hσ2]
              by_cases h7 : j = ln + m - 1 - k
              · subst h7; rw [s2_same, hr]; congr 4; omega
              · rw [s2_nk h7]; exact hw j (by omega) h2) ⟨fun q q1 q2 => by rw [← hσ2, s2_ne q2]; exact hfr.1 q q1 q2, fun k => by rw [← hσ2, s2_na (by omega)]; exact hfr.2 k⟩ (by omega)
      refine r_locp [3, 4, 2, 1, 0] (ls' := [(0, .ref a), (1, .long (lI n)), (3, .int (nI m)), (4, .long (lI n)), (6, .int (zI (((ln + m : Nat) : Int) - ((1 : Nat) : Int))))]) rfl ?_
      exact loop39 _ σ 0 (((ln + m : Nat) : Int) - ((1 : Nat) : Int)) n (by omega) (by omega) (by rw [Nat.pow_zero, Nat.div_one]) hln hpr (fun j h1 h2 => absurd h2 (by omega)) ⟨fun _ _ _ => rfl, fun _ => rfl⟩ (Nat.lt_succ_self _)
    ·
      refine r_bipush (v := zI (-4)) hc dX6_append_23 rfl ?_
      exact hR _ _ ⟨_, rfl, by unfold sPut; rw [if_neg (by omega), if_pos (by omega)], by unfold sPut; rw [if_neg (by omega), if_pos (by omega)]; exact hln, by unfold sPut; rw [if_neg (by omega), if_pos (by omega)]; exact hpr, fun _ _ _ => rfl, fun _ _ => rfl⟩ rfl _ _ dX6_append_25
  ·
    refine r_bipush (v := zI (-2)) hc dX6_append_9 rfl ?_
    exact hR _ _ ⟨_, rfl, by unfold sPut; rw [if_pos (by omega)], by unfold sPut; rw [if_pos (by omega)]; exact hln, by unfold sPut; rw [if_pos (by omega)]; exact hpr, fun _ _ _ => rfl, fun _ _ => rfl⟩ rfl _ _ dX6_append_11
set_option maxRecDepth 100000 in
set_option maxHeartbeats 4000000 in
theorem c_X6_clear {Ω : OmT} {z : Nat} {sh : Nat → Option Kd} {σ : Nat → Nat → Int32} {ρ : Nat → Nat → Option Nat} {a : Nat} (hK : PdSh sh ρ a) {ln : Nat} (hln : σ a 1 = nI ln) : CtI Ω yX6_clear cX6_clear 2 .int rm_X6_clear [.ref a] (z, sh, σ, ρ) (fun r u => r = nI ln ∧ u = (z, sh, s2 σ a 1 (nI 0), ρ)) := by
  refine CtI.enter (by decide) (Nat.le_of_ble_eq_true rfl) (fun Φ hc hR => ?_)
  show Vw Ω Φ (z, sh, σ, ρ) (0, 0) 0 [(0, .ref a)] []
  refine r_aload_n hc dX6_clear_0 rfl ?_
  refine gf_X6_26 (x := nI ln) hc hK.1.1 hln dX6_clear_1 ?_
  refine r_istore_n (ls' := [(1, .int (nI ln)), (0, .ref a)]) hc dX6_clear_4 (by decide) rfl ?_
  refine r_aload_n hc dX6_clear_5 rfl ?_
  refine r_iconst (v := nI 0) hc dX6_clear_6 rfl ?_
  refine pf_X6_26 hc hK.1.1 dX6_clear_7 ?_
  generalize hσ1 : s2 σ a 1 (nI 0) = σ1
  have hln : σ1 a 1 = nI 0 := by rw [← hσ1]; exact s2_same _ _ _ _
  refine r_iload_n hc dX6_clear_10 rfl ?_
  exact hR _ _ ⟨rfl, by rw [← hσ1]⟩ rfl _ _ dX6_clear_11
theorem s2_self {σ : Nat → Nat → Int32} {a k : Nat} {x : Int32} (h : σ a k = x) : s2 σ a k x = σ := by
  funext q j
  by_cases e1 : q = a
  · subst e1
    by_cases e2 : j = k
    · subst e2; rw [s2_same]; exact h.symm
    · rw [s2_nk e2]
  · rw [s2_na e1]
theorem s2_twice (σ : Nat → Nat → Int32) (a k : Nat) (x y : Int32) : s2 (s2 σ a k x) a k y = s2 σ a k y := by
  funext q j
  by_cases e1 : q = a
  · subst e1
    by_cases e2 : j = k
    · subst e2; rw [s2_same, s2_same]
    · rw [s2_nk e2, s2_nk e2, s2_nk e2]
  · rw [s2_na e1, s2_na e1, s2_na e1]
set_option maxRecDepth 100000 in
set_option maxHeartbeats 4000000 in
theorem c_X6_readSign {Ω : OmT} {z : Nat} {sh : Nat → Option Kd} {σ : Nat → Nat → Int32} {ρ : Nat → Nat → Option Nat} {a : Nat} (hK : PdSh sh ρ a) {p : Nat → Nat} {ln : Nat} (hln : σ a 1 = nI ln) (hpr : rowAt σ (a + 1) ln p) (hl80 : ln ≤ 80) (hp : ∀ j, j < ln → p j < 256) {t : Nat} (hat : σ a 4 = nI t) (ht : t ≤ ln) {c : Nat} (hc0 : 0 < c ∧ c < 200) : CtI Ω yX6_readSign cX6_readSign 2 .boolean rm_X6_readSign [.ref a, .int (nI c)] (z, sh, σ, ρ) (fun r u => r = bI (pS p ln c t).1 ∧ u = (z, sh, s2 σ a 4 (nI (pS p ln c t).2), ρ)) := by
  refine CtI.enter (by decide) (Nat.le_of_ble_eq_true rfl) (fun Φ hc hR => ?_)
  show Vw Ω Φ (z, sh, σ, ρ) (0, 0) 0 [(0, .ref a), (1, .int (nI c))] []
  refine r_aload_n hc dX6_readSign_0 rfl ?_
  refine gf_X6_36 (x := nI t) hc hK.1.1 hat dX6_readSign_1 ?_
  refine r_aload_n hc dX6_readSign_4 rfl ?_
  refine gf_X6_26 (x := nI ln) hc hK.1.1 hln dX6_readSign_5 ?_
  refine r_icmp_ge (tgt := 24) hc dX6_readSign_8 (by decide) (le_NN (by omega) (by omega)) (fun c_8 => ?_) (fun c_8 => ?_)
  ·
    refine r_iconst (v := nI 0) hc dX6_readSign_24 rfl ?_
    have hE : pS p ln c t = (false, t) := by unfold pS; rw [if_neg (by rw [sgn_out (by omega)]; omega)]
    rw [hE] at hR
    exact hR _ _ ⟨rfl, by rw [s2_self hat]⟩ (nar_bI _) _ _ dX6_readSign_25
  ·
    have hsg : sgn p ln t = p t := sgn_in (by omega)
    have hpt := hp t (by omega)
    refine r_aload_n hc dX6_readSign_11 rfl ?_
    refine gf_X6_9 (q := a + 1) hc hK.1.1 hK.2.2.1.1 dX6_readSign_12 ?_
    refine r_aload_n hc dX6_readSign_15 rfl ?_
    refine gf_X6_36 (x := nI t) hc hK.1.1 hat dX6_readSign_16 ?_
    refine r_cald (x := nI (p t)) (j := t) hc hK.1.2.1 rfl (by omega) (by decide) (hpr _ (by omega)) dX6_readSign_19 ?_
    refine r_iload_n hc dX6_readSign_20 rfl ?_
    refine r_icmp_eq (tgt := 26) hc dX6_readSign_21 (by decide) (eq_NN (by omega) (by omega)) (fun c_21 => ?_) (fun c_21 => ?_)
    ·
      refine r_aload_n hc dX6_readSign_26 rfl ?_
      refine r_dup hc dX6_readSign_27 rfl ?_
      refine gf_X6_36 (x := nI t) hc hK.1.1 hat dX6_readSign_28 ?_
      refine r_iconst (v := nI 1) hc dX6_readSign_31 rfl ?_
      refine r_iadd (v := nI (t + 1)) hc dX6_readSign_32 (ad_NN _ _) ?_
      refine pf_X6_36 hc hK.1.1 dX6_readSign_33 ?_
      generalize hσ1 : s2 σ a 4 (nI (t + 1)) = σ1
      have hln : σ1 a 1 = nI ln := by rw [← hσ1]; exact s2_keep hln (by omega)
      have hpr : rowAt σ1 (a + 1) ln p := by rw [← hσ1]; exact hpr.keep (by omega) _ _
      have hat : σ1 a 4 = nI (t + 1) := by rw [← hσ1]; exact s2_same _ _ _ _
      refine r_iconst (v := nI 1) hc dX6_readSign_36 rfl ?_
      have hE : pS p ln c t = (true, t + 1) := by unfold pS; rw [if_pos (by rw [hsg]; omega)]
      rw [hE] at hR
      exact hR _ _ ⟨rfl, by rw [← hσ1]⟩ (nar_bI _) _ _ dX6_readSign_37
    ·
      refine r_iconst (v := nI 0) hc dX6_readSign_24 rfl ?_
      have hE : pS p ln c t = (false, t) := by unfold pS; rw [if_neg (by rw [hsg]; omega)]
      rw [hE] at hR
      exact hR _ _ ⟨rfl, by rw [s2_self hat]⟩ (nar_bI _) _ _ dX6_readSign_25
set_option maxRecDepth 100000 in
set_option maxHeartbeats 4000000 in
theorem c_X6_readBetween {Ω : OmT} {z : Nat} {sh : Nat → Option Kd} {σ : Nat → Nat → Int32} {ρ : Nat → Nat → Option Nat} {a : Nat} (hK : PdSh sh ρ a) {p : Nat → Nat} {ln : Nat} (hln : σ a 1 = nI ln) (hpr : rowAt σ (a + 1) ln p) (hl80 : ln ≤ 80) (hp : ∀ j, j < ln → p j < 256) {t : Nat} (hat : σ a 4 = nI t) (ht : t ≤ ln) {lo hi : Nat} (hlo : 0 < lo ∧ hi < 200 ∧ lo < 200) : CtI Ω yX6_readBetween cX6_readBetween 3 .int rm_X6_readBetween [.ref a, .int (nI lo), .int (nI hi)] (z, sh, σ, ρ) (fun r u => r = rB (pB p ln lo hi t) ∧ u = (z, sh, s2 σ a 4 (nI (pB p ln lo hi t).2.1), ρ)) := by
  refine CtI.enter (by decide) (Nat.le_of_ble_eq_true rfl) (fun Φ hc hR => ?_)
  show Vw Ω Φ (z, sh, σ, ρ) (0, 0) 0 [(0, .ref a), (1, .int (nI lo)), (2, .int (nI hi))] []
  refine r_aload_n hc dX6_readBetween_0 rfl ?_
  refine gf_X6_36 (x := nI t) hc hK.1.1 hat dX6_readBetween_1 ?_
  refine r_aload_n hc dX6_readBetween_4 rfl ?_
  refine gf_X6_26 (x := nI ln) hc hK.1.1 hln dX6_readBetween_5 ?_
  refine r_icmp_ge (tgt := 37) hc dX6_readBetween_8 (by decide) (le_NN (by omega) (by omega)) (fun c_8 => ?_) (fun c_8 => ?_)
  ·
    refine r_iconst (v := zI (-1)) hc dX6_readBetween_37 rfl ?_
    have hE : pB p ln lo hi t = (false, t, 0) := by unfold pB; rw [if_neg (by rw [sgn_out (by omega)]; omega)]
    rw [hE] at hR
    exact hR _ _ ⟨rfl, by rw [s2_self hat]⟩ rfl _ _ dX6_readBetween_38
  ·
    have hsg : sgn p ln t = p t := sgn_in (by omega)
    have hpt := hp t (by omega)
    refine r_aload_n hc dX6_readBetween_11 rfl ?_
    refine gf_X6_9 (q := a + 1) hc hK.1.1 hK.2.2.1.1 dX6_readBetween_12 ?_
    refine r_aload_n hc dX6_readBetween_15 rfl ?_
    refine gf_X6_36 (x := nI t) hc hK.1.1 hat dX6_readBetween_16 ?_
    refine r_cald (x := nI (p t)) (j := t) hc hK.1.2.1 rfl (by omega) (by decide) (hpr _ (by omega)) dX6_readBetween_19 ?_
    refine r_iload_n hc dX6_readBetween_20 rfl ?_
    refine r_icmp_lt (tgt := 37) hc dX6_readBetween_21 (by decide) (lt_NN (by omega) (by omega)) (fun c_21 => ?_) (fun c_21 => ?_)
    ·
      refine r_iconst (v := zI (-1)) hc dX6_readBetween_37 rfl ?_
      have hE : pB p ln lo hi t = (false, t, 0) := by unfold pB; rw [if_neg (by rw [hsg]; omega)]
      rw [hE] at hR
      exact hR _ _ ⟨rfl, by rw [s2_self hat]⟩ rfl _ _ dX6_readBetween_38
    ·
      refine r_aload_n hc dX6_readBetween_24 rfl ?_
      refine gf_X6_9 (q := a + 1) hc hK.1.1 hK.2.2.1.1 dX6_readBetween_25 ?_
      refine r_aload_n hc dX6_readBetween_28 rfl ?_
      refine gf_X6_36 (x := nI t) hc hK.1.1 hat dX6_readBetween_29 ?_
      refine r_cald (x := nI (p t)) (j := t) hc hK.1.2.1 rfl (by omega) (by decide) (hpr _ (by omega)) dX6_readBetween_32 ?_
      refine r_iload_n hc dX6_readBetween_33 rfl ?_
      refine r_icmp_le (tgt := 39) hc dX6_readBetween_34 (by decide) (le_NN (by omega) (by omega)) (fun c_34 => ?_) (fun c_34 => ?_)
      ·
        refine r_aload_n hc dX6_readBetween_39 rfl ?_
        refine r_dup hc dX6_readBetween_40 rfl ?_
        refine gf_X6_36 (x := nI t) hc hK.1.1 hat dX6_readBetween_41 ?_
        refine r_iconst (v := nI 1) hc dX6_readBetween_44 rfl ?_
        refine r_iadd (v := nI (t + 1)) hc dX6_readBetween_45 (ad_NN _ _) ?_
        refine pf_X6_36 hc hK.1.1 dX6_readBetween_46 ?_
        generalize hσ1 : s2 σ a 4 (nI (t + 1)) = σ1
        have hln : σ1 a 1 = nI ln := by rw [← hσ1]; exact s2_keep hln (by omega)
        have hpr : rowAt σ1 (a + 1) ln p := by rw [← hσ1]; exact hpr.keep (by omega) _ _
        have hat : σ1 a 4 = nI (t + 1) := by rw [← hσ1]; exact s2_same _ _ _ _
        refine r_aload_n hc dX6_readBetween_49 rfl ?_
        refine gf_X6_9 (q := a + 1) hc hK.1.1 hK.2.2.1.1 dX6_readBetween_50 ?_
        refine r_aload_n hc dX6_readBetween_53 rfl ?_
        refine gf_X6_36 (x := nI (t + 1)) hc hK.1.1 hat dX6_readBetween_54 ?_
        refine r_iconst (v := nI 1) hc dX6_readBetween_57 rfl ?_
        refine r_isub (v := nI t) hc dX6_readBetween_58 (by rw [sb_N _ _ (by omega)]; rfl) ?_
        refine r_cald (x := nI (p t)) (j := t) hc hK.1.2.1 rfl (by omega) (by decide) (hpr _ (by omega)) dX6_readBetween_59 ?_
        refine r_iload_n hc dX6_readBetween_60 rfl ?_
        refine r_isub (v := nI (p t - lo)) hc dX6_readBetween_61 (sb_N _ _ (by omega)) ?_
        have hE : pB p ln lo hi t = (true, t + 1, p t - lo) := by unfold pB; rw [if_pos (by rw [hsg]; omega), hsg]
        rw [hE] at hR
        exact hR _ _ ⟨rfl, by rw [← hσ1]⟩ rfl _ _ dX6_readBetween_62
      ·
        refine r_iconst (v := zI (-1)) hc dX6_readBetween_37 rfl ?_
        have hE : pB p ln lo hi t = (false, t, 0) := by unfold pB; rw [if_neg (by rw [hsg]; omega)]
        rw [hE] at hR
        exact hR _ _ ⟨rfl, by rw [s2_self hat]⟩ rfl _ _ dX6_readBetween_38
set_option maxRecDepth 100000 in
set_option maxHeartbeats 4000000 in
theorem c_X6_readCuts {Ω : OmT} {z : Nat} {sh : Nat → Option Kd} {σ : Nat → Nat → Int32} {ρ : Nat → Nat → Option Nat} {a : Nat} (hK : PdSh sh ρ a) {p : Nat → Nat} {ln : Nat} (hln : σ a 1 = nI ln) (hpr : rowAt σ (a + 1) ln p) (hl80 : ln ≤ 80) (hp : ∀ j, j < ln → p j < 256) {t : Nat} (hat : σ a 4 = nI t) (ht : t ≤ ln)  : CtI Ω yX6_readCuts cX6_readCuts 4 .int rm_X6_readCuts [.ref a] (z, sh, σ, ρ) (fun r u => r = rB (pC p ln 4 0 t) ∧ u = (z, sh, s2 σ a 4 (nI (pC p ln 4 0 t).2.1), ρ)) := by
  refine CtI.enter (by decide) (Nat.le_of_ble_eq_true rfl) (fun Φ hc hR => ?_)
  show Vw Ω Φ (z, sh, σ, ρ) (0, 0) 0 [(0, .ref a)] []
  refine r_iconst (v := nI 0) hc dX6_readCuts_0 rfl ?_
  refine r_istore_n (ls' := [(1, .int (nI 0)), (0, .ref a)]) hc dX6_readCuts_1 (by decide) rfl ?_
  refine r_iconst (v := nI 0) hc dX6_readCuts_2 rfl ?_
  refine r_istore_n (ls' := [(2, .int (nI 0)), (1, .int (nI 0)), (0, .ref a)]) hc dX6_readCuts_3 (by decide) rfl ?_
  have loop4 : ∀ (n4 : Nat) (τ : Nat → Nat → Int32) (k : Nat) (x : Nat) (s : Nat), (k ≤ 4) → (s ≤ ln) → (τ a 1 = nI ln) → (rowAt τ (a + 1) ln p) → (τ a 4 = nI s) → (pC p ln (4 - k) x s = pC p ln 4 0 t) → (τ = s2 σ a 4 (nI s)) → (4 - k) < n4 → Vw Ω Φ (z, sh, τ, ρ) (0, 0) 4 [(0, .ref a), (1, .int (nI x)), (2, .int (nI k))] [] := by
    intro n4
    induction n4 with
    | zero => intro τ k x s hk hs hln hpr hat hf hst hm; exact absurd hm (Nat.not_lt_zero _)
    | succ n4 ih4 =>
      intro τ k x s hk hs hln hpr hat hf hst hm4
      refine r_iload_n hc dX6_readCuts_4 rfl ?_
      refine r_iconst (v := nI 4) hc dX6_readCuts_5 rfl ?_
      refine r_icmp_ge (tgt := 38) hc dX6_readCuts_6 (by decide) (le_NN (by omega) (by omega)) (fun c_6 => ?_) (fun c_6 => ?_)
      ·
        refine r_iload_n hc dX6_readCuts_38 rfl ?_
        have hE : pC p ln 4 0 t = (true, s, x) := by rw [← hf, show 4 - k = 0 by omega, pC]
        rw [hE] at hR
        exact hR _ _ ⟨rfl, by rw [hst]⟩ rfl _ _ dX6_readCuts_39
      ·
        refine r_aload_n hc dX6_readCuts_9 rfl ?_
        refine r_bipush (v := nI 48) hc dX6_readCuts_10 rfl ?_
        refine r_bipush (v := nI 57) hc dX6_readCuts_12 rfl ?_
        refine cl_X6_64 (As := [.int (nI 48), .int (nI 57)]) hc (c_X6_readBetween hK hln hpr hl80 hp (t := s) hat (by omega) (lo := 48) (hi := 57) (by omega)) hK.1.1 rfl ⟨by decide, by decide⟩ ⟨rfl, rfl⟩ ⟨by decide, by decide⟩ rfl (Nat.le_of_ble_eq_true rfl) dX6_readCuts_14 (fun r u hcl => ?_)
        obtain ⟨hrr, hu⟩ := hcl
        rw [hu, hrr]
        by_cases hb14 : (pB p ln 48 57 s).1 = true
        ·
          rw [show rB (pB p ln 48 57 s) = nI (pB p ln 48 57 s).2.2 from if_pos hb14]
          generalize hσ1 : s2 τ a 4 (nI ((pB p ln 48 57 s).2.1)) = σ1
          have hln : σ1 a 1 = nI ln := by rw [← hσ1]; exact s2_keep hln (by omega)
          have hpr : rowAt σ1 (a + 1) ln p := by rw [← hσ1]; exact hpr.keep (by omega) _ _
          have hat : σ1 a 4 = nI ((pB p ln 48 57 s).2.1) := by rw [← hσ1]; exact s2_same _ _ _ _
          have hbo := pB_ok hb14
          have hbt : (pB p ln 48 57 s).2.1 = s + 1 := by rw [hbo.2]
          have hbv : (pB p ln 48 57 s).2.2 = sgn p ln s - 48 := by rw [hbo.2]
          have hbl := sgn_pos (p := p) (ln := ln) (t := s) (by omega)
          refine r_istore_n (ls' := [(3, .int (nI ((pB p ln 48 57 s).2.2))), (0, .ref a), (1, .int (nI x)), (2, .int (nI k))]) hc dX6_readCuts_17 (by decide) rfl ?_
          refine r_iload_n hc dX6_readCuts_18 rfl ?_
          refine r_iconst (v := zI (-1)) hc dX6_readCuts_19 rfl ?_
          refine r_icmp_ne (tgt := 25) hc dX6_readCuts_20 (by decide) (eq_NZ (by omega) (by omega)) (fun c_20 => ?_) (fun c_20 => ?_)
          ·
            refine r_iload_n hc dX6_readCuts_25 rfl ?_
            refine r_bipush (v := nI 10) hc dX6_readCuts_26 rfl ?_
            refine r_imul (v := nI (x * 10)) hc dX6_readCuts_28 (ml_NN _ _) ?_
            refine r_iload_n hc dX6_readCuts_29 rfl ?_
            refine r_iadd (v := nI (x * 10 + ((pB p ln 48 57 s).2.2))) hc dX6_readCuts_30 (ad_NN _ _) ?_
            refine r_istore_n (ls' := [(1, .int (nI (x * 10 + ((pB p ln 48 57 s).2.2)))), (3, .int (nI ((pB p ln 48 57 s).2.2))), (0, .ref a), (2, .int (nI k))]) hc dX6_readCuts_31 (by decide) rfl ?_
            refine r_iinc (v := nI (k + 1)) (ls' := [(2, .int (nI (k + 1))), (1, .int (nI (x * 10 + ((pB p ln 48 57 s).2.2)))), (3, .int (nI ((pB p ln 48 57 s).2.2))), (0, .ref a)]) hc dX6_readCuts_32 rfl (ad_NN _ 1) (by decide) rfl ?_
            refine r_goto (tgt := 4) hc dX6_readCuts_35 (by decide) ?_
            refine r_locp [3, 1, 0] (ls' := [(0, .ref a), (1, .int (nI (x * 10 + ((pB p ln 48 57 s).2.2)))), (2, .int (nI (k + 1)))]) rfl ?_
            exact ih4 σ1 (k + 1) (x * 10 + ((pB p ln 48 57 s).2.2)) ((pB p ln 48 57 s).2.1) (by omega) (by omega) hln hpr hat (by rw [← hf, show 4 - k = (4 - (k + 1)) + 1 by omega, pC_step hb14]) (by rw [← hσ1, hst]; exact s2_twice _ _ _ _ _) (by omega)
          ·
            exact absurd c_20 (by omega)
        ·
          rw [show rB (pB p ln 48 57 s) = zI (-1) from if_neg hb14]
          generalize hσ2 : s2 τ a 4 (nI ((pB p ln 48 57 s).2.1)) = σ2
          have hln : σ2 a 1 = nI ln := by rw [← hσ2]; exact s2_keep hln (by omega)
          have hpr : rowAt σ2 (a + 1) ln p := by rw [← hσ2]; exact hpr.keep (by omega) _ _
          have hat : σ2 a 4 = nI ((pB p ln 48 57 s).2.1) := by rw [← hσ2]; exact s2_same _ _ _ _
          have hbn := pB_no hb14
          have hbt : (pB p ln 48 57 s).2.1 = s := by rw [hbn]
          refine r_istore_n (ls' := [(3, .int (zI (-1))), (0, .ref a), (1, .int (nI x)), (2, .int (nI k))]) hc dX6_readCuts_17 (by decide) rfl ?_
          refine r_iload_n hc dX6_readCuts_18 rfl ?_
          refine r_iconst (v := zI (-1)) hc dX6_readCuts_19 rfl ?_
          refine r_icmp_ne (tgt := 25) hc dX6_readCuts_20 (by decide) (eq_ZZ (by omega) (by omega)) (fun c_20 => ?_) (fun c_20 => ?_)
          ·
            exact absurd rfl c_20
          ·
            refine r_iconst (v := zI (-1)) hc dX6_readCuts_23 rfl ?_
            have hE : pC p ln 4 0 t = (false, s, 0) := by rw [← hf, show 4 - k = (3 - k) + 1 by omega, pC_fail hb14]
            rw [hE] at hR
            exact hR _ _ ⟨rfl, by rw [← hσ2, hbt, hst, s2_twice]⟩ rfl _ _ dX6_readCuts_24
  refine r_locp [2, 1, 0] (ls' := [(0, .ref a), (1, .int (nI 0)), (2, .int (nI 0))]) rfl ?_
  exact loop4 _ σ 0 0 t (by omega) (by omega) hln hpr hat rfl (s2_self hat).symm (Nat.lt_succ_self _)
theorem pNum_val {p : Nat → Nat} {ln t : Nat} : (pNum p ln t).2.2 < 10000 := by
  unfold pNum
  by_cases q : (pB p ln 48 57 t).1 = true
  · rw [if_pos q]
    obtain ⟨z1, z2⟩ := pB_ok q
    have hl := sgn_pos (p := p) (ln := ln) (t := t) (by omega)
    have h4 : (pB p ln 48 57 t).2.2 ≤ 9 := by rw [z2]; show sgn p ln t - 48 ≤ 9; omega
    have h5 := (pN_ok (p := p) (ln := ln) 2 (pB p ln 48 57 t).2.2 (t + 1) hl).2.2
    show (pN p ln 2 (pB p ln 48 57 t).2.2 (t + 1)).2 < 10000
    omega
  · rw [if_neg q]; show 0 < 10000; omega
theorem pS_ok {p : Nat → Nat} {ln c t : Nat} (h : (pS p ln c t).1 = true) : sgn p ln t = c ∧ (pS p ln c t).2 = t + 1 := by
  unfold pS at *
  by_cases q : sgn p ln t = c
  · rw [if_pos q]; exact ⟨q, rfl⟩
  · rw [if_neg q] at h; exact Bool.noConfusion h
theorem pS_no {p : Nat → Nat} {ln c t : Nat} (h : (pS p ln c t).1 = false) : (pS p ln c t).2 = t := by
  unfold pS at *
  by_cases q : sgn p ln t = c
  · rw [if_pos q] at h; exact Bool.noConfusion h
  · rw [if_neg q]
set_option maxRecDepth 100000 in
set_option maxHeartbeats 4000000 in
theorem c_X6_readNumber {Ω : OmT} {z : Nat} {sh : Nat → Option Kd} {σ : Nat → Nat → Int32} {ρ : Nat → Nat → Option Nat} {a : Nat} (hK : PdSh sh ρ a) {p : Nat → Nat} {ln : Nat} (hln : σ a 1 = nI ln) (hpr : rowAt σ (a + 1) ln p) (hl80 : ln ≤ 80) (hp : ∀ j, j < ln → p j < 256) {t : Nat} (hat : σ a 4 = nI t) (ht : t ≤ ln)  : CtI Ω yX6_readNumber cX6_readNumber 4 .int rm_X6_readNumber [.ref a] (z, sh, σ, ρ) (fun r u => r = rB (pNum p ln t) ∧ u = (z, sh, s2 σ a 4 (nI (pNum p ln t).2.1), ρ)) := by
  refine CtI.enter (by decide) (Nat.le_of_ble_eq_true rfl) (fun Φ hc hR => ?_)
  show Vw Ω Φ (z, sh, σ, ρ) (0, 0) 0 [(0, .ref a)] []
  refine r_aload_n hc dX6_readNumber_0 rfl ?_
  refine r_bipush (v := nI 48) hc dX6_readNumber_1 rfl ?_
  refine r_bipush (v := nI 57) hc dX6_readNumber_3 rfl ?_
  refine cl_X6_64 (As := [.int (nI 48), .int (nI 57)]) hc (c_X6_readBetween hK hln hpr hl80 hp (t := t) hat (by omega) (lo := 48) (hi := 57) (by omega)) hK.1.1 rfl ⟨by decide, by decide⟩ ⟨rfl, rfl⟩ ⟨by decide, by decide⟩ rfl (Nat.le_of_ble_eq_true rfl) dX6_readNumber_5 (fun r u hcl => ?_)
  obtain ⟨hrr, hu⟩ := hcl
  rw [hu, hrr]
  by_cases hb5 : (pB p ln 48 57 t).1 = true
  ·
    rw [show rB (pB p ln 48 57 t) = nI (pB p ln 48 57 t).2.2 from if_pos hb5]
    generalize hσ1 : s2 σ a 4 (nI ((pB p ln 48 57 t).2.1)) = σ1
    have hln : σ1 a 1 = nI ln := by rw [← hσ1]; exact s2_keep hln (by omega)
    have hpr : rowAt σ1 (a + 1) ln p := by rw [← hσ1]; exact hpr.keep (by omega) _ _
    have hat : σ1 a 4 = nI ((pB p ln 48 57 t).2.1) := by rw [← hσ1]; exact s2_same _ _ _ _
    have hbo := pB_ok hb5
    have hbt : (pB p ln 48 57 t).2.1 = t + 1 := by rw [hbo.2]
    have hbv : (pB p ln 48 57 t).2.2 = sgn p ln t - 48 := by rw [hbo.2]
    have hbl := sgn_pos (p := p) (ln := ln) (t := t) (by omega)
    refine r_istore_n (ls' := [(1, .int (nI ((pB p ln 48 57 t).2.2))), (0, .ref a)]) hc dX6_readNumber_8 (by decide) rfl ?_
    refine r_iload_n hc dX6_readNumber_9 rfl ?_
    refine r_iconst (v := zI (-1)) hc dX6_readNumber_10 rfl ?_
    refine r_icmp_ne (tgt := 16) hc dX6_readNumber_11 (by decide) (eq_NZ (by omega) (by omega)) (fun c_11 => ?_) (fun c_11 => ?_)
    ·
      refine r_iconst (v := nI 1) hc dX6_readNumber_16 rfl ?_
      refine r_istore_n (ls' := [(2, .int (nI 1)), (1, .int (nI ((pB p ln 48 57 t).2.2))), (0, .ref a)]) hc dX6_readNumber_17 (by decide) rfl ?_
      have loop18 : ∀ (n18 : Nat) (τ : Nat → Nat → Int32) (k : Nat) (x : Nat) (s : Nat), ((k = 1 ∧ x < 10) ∨ (k = 2 ∧ x < 100) ∨ (k = 3 ∧ x < 1000)) → (s ≤ ln) → (τ a 1 = nI ln) → (rowAt τ (a + 1) ln p) → (τ a 4 = nI s) → (pN p ln (3 - k) x s = pN p ln 2 (pB p ln 48 57 t).2.2 (t + 1)) → (τ = s2 σ a 4 (nI s)) → (4 - k) < n18 → Vw Ω Φ (z, sh, τ, ρ) (0, 0) 18 [(0, .ref a), (1, .int (nI x)), (2, .int (nI k))] [] := by
        intro n18
        induction n18 with
        | zero => intro τ k x s hk hs hln hpr hat hf hst hm; exact absurd hm (Nat.not_lt_zero _)
        | succ n18 ih18 =>
          intro τ k x s hk hs hln hpr hat hf hst hm18
          refine r_iload_n hc dX6_readNumber_18 rfl ?_
          refine r_iconst (v := nI 3) hc dX6_readNumber_19 rfl ?_
          refine r_icmp_ge (tgt := 56) hc dX6_readNumber_20 (by decide) (le_NN (by omega) (by omega)) (fun c_20 => ?_) (fun c_20 => ?_)
          ·
            refine r_iload_n hc dX6_readNumber_56 rfl ?_
            have hN : pN p ln 2 (pB p ln 48 57 t).2.2 (t + 1) = (s, x) := by rw [← hf, show 3 - k = 0 by omega, pN]
            have hE : pNum p ln t = (true, s, x) := by unfold pNum; rw [if_pos hb5, hN]
            rw [hE] at hR
            exact hR _ _ ⟨rfl, by rw [hst]⟩ rfl _ _ dX6_readNumber_57
          ·
            refine r_iload_n hc dX6_readNumber_23 rfl ?_
            refine r_if_le (tgt := 56) hc dX6_readNumber_24 (by decide) (le0_N (by omega)) (fun c_24 => ?_) (fun c_24 => ?_)
            ·
              refine r_iload_n hc dX6_readNumber_56 rfl ?_
              have hN : pN p ln 2 (pB p ln 48 57 t).2.2 (t + 1) = (s, x) := by rw [← hf, show 3 - k = (2 - k) + 1 by omega, pN, if_neg (fun q => by omega)]
              have hE : pNum p ln t = (true, s, x) := by unfold pNum; rw [if_pos hb5, hN]
              rw [hE] at hR
              exact hR _ _ ⟨rfl, by rw [hst]⟩ rfl _ _ dX6_readNumber_57
            ·
              refine r_aload_n hc dX6_readNumber_27 rfl ?_
              refine r_bipush (v := nI 48) hc dX6_readNumber_28 rfl ?_
              refine r_bipush (v := nI 57) hc dX6_readNumber_30 rfl ?_
              refine cl_X6_64 (As := [.int (nI 48), .int (nI 57)]) hc (c_X6_readBetween hK hln hpr hl80 hp (t := s) hat (by omega) (lo := 48) (hi := 57) (by omega)) hK.1.1 rfl ⟨by decide, by decide⟩ ⟨rfl, rfl⟩ ⟨by decide, by decide⟩ rfl (Nat.le_of_ble_eq_true rfl) dX6_readNumber_32 (fun r u hcl => ?_)
              obtain ⟨hrr, hu⟩ := hcl
              rw [hu, hrr]
              by_cases hb32 : (pB p ln 48 57 s).1 = true
              ·
                rw [show rB (pB p ln 48 57 s) = nI (pB p ln 48 57 s).2.2 from if_pos hb32]
                generalize hσ2 : s2 τ a 4 (nI ((pB p ln 48 57 s).2.1)) = σ2
                have hln : σ2 a 1 = nI ln := by rw [← hσ2]; exact s2_keep hln (by omega)
                have hpr : rowAt σ2 (a + 1) ln p := by rw [← hσ2]; exact hpr.keep (by omega) _ _
                have hat : σ2 a 4 = nI ((pB p ln 48 57 s).2.1) := by rw [← hσ2]; exact s2_same _ _ _ _
                have hbo := pB_ok hb32
                have hbt : (pB p ln 48 57 s).2.1 = s + 1 := by rw [hbo.2]
                have hbv : (pB p ln 48 57 s).2.2 = sgn p ln s - 48 := by rw [hbo.2]
                have hbl := sgn_pos (p := p) (ln := ln) (t := s) (by omega)
                refine r_istore_n (ls' := [(3, .int (nI ((pB p ln 48 57 s).2.2))), (0, .ref a), (1, .int (nI x)), (2, .int (nI k))]) hc dX6_readNumber_35 (by decide) rfl ?_
                refine r_iload_n hc dX6_readNumber_36 rfl ?_
                refine r_iconst (v := zI (-1)) hc dX6_readNumber_37 rfl ?_
                refine r_icmp_ne (tgt := 43) hc dX6_readNumber_38 (by decide) (eq_NZ (by omega) (by omega)) (fun c_38 => ?_) (fun c_38 => ?_)
                ·
                  refine r_iload_n hc dX6_readNumber_43 rfl ?_
                  refine r_bipush (v := nI 10) hc dX6_readNumber_44 rfl ?_
                  refine r_imul (v := nI (x * 10)) hc dX6_readNumber_46 (ml_NN _ _) ?_
                  refine r_iload_n hc dX6_readNumber_47 rfl ?_
                  refine r_iadd (v := nI (x * 10 + ((pB p ln 48 57 s).2.2))) hc dX6_readNumber_48 (ad_NN _ _) ?_
                  refine r_istore_n (ls' := [(1, .int (nI (x * 10 + ((pB p ln 48 57 s).2.2)))), (3, .int (nI ((pB p ln 48 57 s).2.2))), (0, .ref a), (2, .int (nI k))]) hc dX6_readNumber_49 (by decide) rfl ?_
                  refine r_iinc (v := nI (k + 1)) (ls' := [(2, .int (nI (k + 1))), (1, .int (nI (x * 10 + ((pB p ln 48 57 s).2.2)))), (3, .int (nI ((pB p ln 48 57 s).2.2))), (0, .ref a)]) hc dX6_readNumber_50 rfl (ad_NN _ 1) (by decide) rfl ?_
                  refine r_goto (tgt := 18) hc dX6_readNumber_53 (by decide) ?_
                  refine r_locp [3, 1, 0] (ls' := [(0, .ref a), (1, .int (nI (x * 10 + ((pB p ln 48 57 s).2.2)))), (2, .int (nI (k + 1)))]) rfl ?_
                  exact ih18 σ2 (k + 1) (x * 10 + ((pB p ln 48 57 s).2.2)) (s + 1) (by omega) (by omega) hln hpr (by rw [hat, hbt]) (by rw [← hf, show 3 - k = (3 - (k + 1)) + 1 by omega, pN, if_pos ⟨by omega, hb32⟩]) (by rw [← hσ2, hbt, hst]; exact s2_twice _ _ _ _ _) (by omega)
                ·
                  exact absurd c_38 (by omega)
              ·
                rw [show rB (pB p ln 48 57 s) = zI (-1) from if_neg hb32]
                generalize hσ3 : s2 τ a 4 (nI ((pB p ln 48 57 s).2.1)) = σ3
                have hln : σ3 a 1 = nI ln := by rw [← hσ3]; exact s2_keep hln (by omega)
                have hpr : rowAt σ3 (a + 1) ln p := by rw [← hσ3]; exact hpr.keep (by omega) _ _
                have hat : σ3 a 4 = nI ((pB p ln 48 57 s).2.1) := by rw [← hσ3]; exact s2_same _ _ _ _
                have hbn := pB_no hb32
                have hbt : (pB p ln 48 57 s).2.1 = s := by rw [hbn]
                refine r_istore_n (ls' := [(3, .int (zI (-1))), (0, .ref a), (1, .int (nI x)), (2, .int (nI k))]) hc dX6_readNumber_35 (by decide) rfl ?_
                refine r_iload_n hc dX6_readNumber_36 rfl ?_
                refine r_iconst (v := zI (-1)) hc dX6_readNumber_37 rfl ?_
                refine r_icmp_ne (tgt := 43) hc dX6_readNumber_38 (by decide) (eq_ZZ (by omega) (by omega)) (fun c_38 => ?_) (fun c_38 => ?_)
                ·
                  exact absurd rfl c_38
                ·
                  refine r_iload_n hc dX6_readNumber_41 rfl ?_
                  have hN : pN p ln 2 (pB p ln 48 57 t).2.2 (t + 1) = (s, x) := by rw [← hf, show 3 - k = (2 - k) + 1 by omega, pN, if_neg (fun q => hb32 q.2)]
                  have hE : pNum p ln t = (true, s, x) := by unfold pNum; rw [if_pos hb5, hN]
                  rw [hE] at hR
                  exact hR _ _ ⟨rfl, by rw [← hσ3, hbt, hst, s2_twice]⟩ rfl _ _ dX6_readNumber_42
      refine r_locp [2, 1, 0] (ls' := [(0, .ref a), (1, .int (nI ((pB p ln 48 57 t).2.2))), (2, .int (nI 1))]) rfl ?_
      exact loop18 _ σ1 1 ((pB p ln 48 57 t).2.2) (t + 1) (by omega) (by omega) hln hpr (by rw [hat, hbt]) rfl (by rw [← hσ1, hbt]) (Nat.lt_succ_self _)
    ·
      exact absurd c_11 (by omega)
  ·
    rw [show rB (pB p ln 48 57 t) = zI (-1) from if_neg hb5]
    generalize hσ4 : s2 σ a 4 (nI ((pB p ln 48 57 t).2.1)) = σ4
    have hln : σ4 a 1 = nI ln := by rw [← hσ4]; exact s2_keep hln (by omega)
    have hpr : rowAt σ4 (a + 1) ln p := by rw [← hσ4]; exact hpr.keep (by omega) _ _
    have hat : σ4 a 4 = nI ((pB p ln 48 57 t).2.1) := by rw [← hσ4]; exact s2_same _ _ _ _
    have hbn := pB_no hb5
    have hbt : (pB p ln 48 57 t).2.1 = t := by rw [hbn]
    refine r_istore_n (ls' := [(1, .int (zI (-1))), (0, .ref a)]) hc dX6_readNumber_8 (by decide) rfl ?_
    refine r_iload_n hc dX6_readNumber_9 rfl ?_
    refine r_iconst (v := zI (-1)) hc dX6_readNumber_10 rfl ?_
    refine r_icmp_ne (tgt := 16) hc dX6_readNumber_11 (by decide) (eq_ZZ (by omega) (by omega)) (fun c_11 => ?_) (fun c_11 => ?_)
    ·
      exact absurd rfl c_11
    ·
      refine r_iconst (v := zI (-1)) hc dX6_readNumber_14 rfl ?_
      have hE : pNum p ln t = (false, t, 0) := by unfold pNum; rw [if_neg hb5]
      rw [hE] at hR
      exact hR _ _ ⟨rfl, by rw [← hσ4, hbt]⟩ rfl _ _ dX6_readNumber_15
set_option maxRecDepth 100000 in
set_option maxHeartbeats 4000000 in
theorem c_X6_readNewLock {Ω : OmT} {z : Nat} {sh : Nat → Option Kd} {σ : Nat → Nat → Int32} {ρ : Nat → Nat → Option Nat} {a : Nat} (hK : PdSh sh ρ a) {p : Nat → Nat} {ln : Nat} (hln : σ a 1 = nI ln) (hpr : rowAt σ (a + 1) ln p) (hl80 : ln ≤ 80) (hp : ∀ j, j < ln → p j < 256) {t : Nat} (hat : σ a 4 = nI t) (ht : t ≤ ln) {o : Nat} (hso : sh o = some (.inl 5)) (hao : a + 3 ≤ o) {x0 x1 x2 x3 : Int32} (ho0 : σ o 0 = x0) (ho1 : σ o 1 = x1) (ho2 : σ o 2 = x2) (ho3 : σ o 3 = x3)  : CtI Ω yX6_readNewLock cX6_readNewLock 2 .boolean rm_X6_readNewLock [.ref a, .ref o] (z, sh, σ, ρ) (fun r u => ∃ τ : Nat → Nat → Int32, u = (z, sh, τ, ρ) ∧ r = bI (pK p ln t).1 ∧ τ a 4 = nI (pK p ln t).2.1 ∧ ((pK p ln t).1 = true → τ o 1 = nI (pK p ln t).2.2.1 ∧ τ o 2 = nI (pK p ln t).2.2.2.1 ∧ τ o 3 = nI (pK p ln t).2.2.2.2) ∧ τ o 0 = x0 ∧ (∀ q, q ≠ a → q ≠ o → τ q = σ q) ∧ ∀ k, k ≠ 4 → τ a k = σ a k) := by
  refine CtI.enter (by decide) (Nat.le_of_ble_eq_true rfl) (fun Φ hc hR => ?_)
  show Vw Ω Φ (z, sh, σ, ρ) (0, 0) 0 [(0, .ref a), (1, .ref o)] []
  refine r_aload_n hc dX6_readNewLock_0 rfl ?_
  refine r_aload_n hc dX6_readNewLock_1 rfl ?_
  refine r_bipush (v := nI 48) hc dX6_readNewLock_2 rfl ?_
  refine r_bipush (v := nI 57) hc dX6_readNewLock_4 rfl ?_
  refine cl_X6_64 (As := [.int (nI 48), .int (nI 57)]) hc (c_X6_readBetween hK hln hpr hl80 hp (t := t) hat (by omega) (lo := 48) (hi := 57) (by omega)) hK.1.1 rfl ⟨by decide, by decide⟩ ⟨rfl, rfl⟩ ⟨by decide, by decide⟩ rfl (Nat.le_of_ble_eq_true rfl) dX6_readNewLock_6 (fun r u hcl => ?_)
  obtain ⟨hrr, hu⟩ := hcl
  rw [hu, hrr]
  by_cases hb6 : (pB p ln 48 57 t).1 = true
  ·
    rw [show rB (pB p ln 48 57 t) = nI (pB p ln 48 57 t).2.2 from if_pos hb6]
    generalize hσ1 : s2 σ a 4 (nI ((pB p ln 48 57 t).2.1)) = σ1
    have hln : σ1 a 1 = nI ln := by rw [← hσ1]; exact s2_keep hln (by omega)
    have hpr : rowAt σ1 (a + 1) ln p := by rw [← hσ1]; exact hpr.keep (by omega) _ _
    have hat : σ1 a 4 = nI ((pB p ln 48 57 t).2.1) := by rw [← hσ1]; exact s2_same _ _ _ _
    have ho0 : σ1 o 0 = x0 := by rw [← hσ1]; exact s2_keep ho0 (by omega)
    have ho1 : σ1 o 1 = x1 := by rw [← hσ1]; exact s2_keep ho1 (by omega)
    have ho2 : σ1 o 2 = x2 := by rw [← hσ1]; exact s2_keep ho2 (by omega)
    have ho3 : σ1 o 3 = x3 := by rw [← hσ1]; exact s2_keep ho3 (by omega)
    have hbo := pB_ok hb6
    have hbt : (pB p ln 48 57 t).2.1 = t + 1 := by rw [hbo.2]
    have hbv : (pB p ln 48 57 t).2.2 = sgn p ln t - 48 := by rw [hbo.2]
    have hbl := sgn_pos (p := p) (ln := ln) (t := t) (by omega)
    have hat : σ1 a 4 = nI (t + 1) := by rw [hat, hbt]
    refine pf_X6_68 hc hso dX6_readNewLock_9 ?_
    generalize hσ2 : s2 σ1 o 1 (nI ((pB p ln 48 57 t).2.2)) = σ2
    have hln : σ2 a 1 = nI ln := by rw [← hσ2]; exact s2_keep hln (by omega)
    have hpr : rowAt σ2 (a + 1) ln p := by rw [← hσ2]; exact hpr.keep (by omega) _ _
    have hat : σ2 a 4 = nI (t + 1) := by rw [← hσ2]; exact s2_keep hat (by omega)
    have ho0 : σ2 o 0 = x0 := by rw [← hσ2]; exact s2_keep ho0 (by omega)
    have ho1 : σ2 o 1 = nI ((pB p ln 48 57 t).2.2) := by rw [← hσ2]; exact s2_same _ _ _ _
    have ho2 : σ2 o 2 = x2 := by rw [← hσ2]; exact s2_keep ho2 (by omega)
    have ho3 : σ2 o 3 = x3 := by rw [← hσ2]; exact s2_keep ho3 (by omega)
    refine r_aload_n hc dX6_readNewLock_12 rfl ?_
    refine gf_X6_68 (x := nI ((pB p ln 48 57 t).2.2)) hc hso ho1 dX6_readNewLock_13 ?_
    refine r_iconst (v := zI (-1)) hc dX6_readNewLock_16 rfl ?_
    refine r_icmp_eq (tgt := 29) hc dX6_readNewLock_17 (by decide) (eq_NZ (by omega) (by omega)) (fun c_17 => ?_) (fun c_17 => ?_)
    ·
      exact absurd c_17 (by omega)
    ·
      refine r_aload_n hc dX6_readNewLock_20 rfl ?_
      refine r_bipush (v := nI 61) hc dX6_readNewLock_21 rfl ?_
      refine cl_X6_46 (As := [.int (nI 61)]) hc (c_X6_readSign hK hln hpr hl80 hp (t := t + 1) hat (by omega) (c := 61) (by omega)) hK.1.1 rfl ⟨by decide, by decide⟩ ⟨rfl, rfl⟩ ⟨by decide, by decide⟩ rfl (Nat.le_of_ble_eq_true rfl) dX6_readNewLock_23 (fun r u hcl => ?_)
      obtain ⟨hrr, hu⟩ := hcl
      rw [hu, hrr]
      generalize hσ3 : s2 σ2 a 4 (nI ((pS p ln 61 (t + 1)).2)) = σ3
      have hln : σ3 a 1 = nI ln := by rw [← hσ3]; exact s2_keep hln (by omega)
      have hpr : rowAt σ3 (a + 1) ln p := by rw [← hσ3]; exact hpr.keep (by omega) _ _
      have hat : σ3 a 4 = nI ((pS p ln 61 (t + 1)).2) := by rw [← hσ3]; exact s2_same _ _ _ _
      have ho0 : σ3 o 0 = x0 := by rw [← hσ3]; exact s2_keep ho0 (by omega)
      have ho1 : σ3 o 1 = nI ((pB p ln 48 57 t).2.2) := by rw [← hσ3]; exact s2_keep ho1 (by omega)
      have ho2 : σ3 o 2 = x2 := by rw [← hσ3]; exact s2_keep ho2 (by omega)
      have ho3 : σ3 o 3 = x3 := by rw [← hσ3]; exact s2_keep ho3 (by omega)
      refine r_if_ne (tgt := 31) hc dX6_readNewLock_26 (by decide) (bI_0 _) (fun c_26 => ?_) (fun c_26 => ?_)
      ·
        have c_26 := bnf c_26
        have hs26 := c_26
        have hso26 := pS_ok hs26
        have hsl26 := sgn_pos (p := p) (ln := ln) (t := t + 1) (by omega)
        have hat : σ3 a 4 = nI (t + 1 + 1) := by rw [hat, hso26.2]
        refine r_aload_n hc dX6_readNewLock_31 rfl ?_
        refine r_aload_n hc dX6_readNewLock_32 rfl ?_
        refine cl_X6_54 (As := []) hc (c_X6_readCuts hK hln hpr hl80 hp (t := t + 2) hat (by omega)) hK.1.1 rfl ⟨by decide, by decide⟩ ⟨rfl, rfl⟩ ⟨by decide, by decide⟩ rfl (Nat.le_of_ble_eq_true rfl) dX6_readNewLock_33 (fun r u hcl => ?_)
        obtain ⟨hrr, hu⟩ := hcl
        rw [hu, hrr]
        by_cases hb33 : (pC p ln 4 0 (t + 2)).1 = true
        ·
          rw [show rB (pC p ln 4 0 (t + 2)) = nI (pC p ln 4 0 (t + 2)).2.2 from if_pos hb33]
          generalize hσ4 : s2 σ3 a 4 (nI ((pC p ln 4 0 (t + 2)).2.1)) = σ4
          have hln : σ4 a 1 = nI ln := by rw [← hσ4]; exact s2_keep hln (by omega)
          have hpr : rowAt σ4 (a + 1) ln p := by rw [← hσ4]; exact hpr.keep (by omega) _ _
          have hat : σ4 a 4 = nI ((pC p ln 4 0 (t + 2)).2.1) := by rw [← hσ4]; exact s2_same _ _ _ _
          have ho0 : σ4 o 0 = x0 := by rw [← hσ4]; exact s2_keep ho0 (by omega)
          have ho1 : σ4 o 1 = nI ((pB p ln 48 57 t).2.2) := by rw [← hσ4]; exact s2_keep ho1 (by omega)
          have ho2 : σ4 o 2 = x2 := by rw [← hσ4]; exact s2_keep ho2 (by omega)
          have ho3 : σ4 o 3 = x3 := by rw [← hσ4]; exact s2_keep ho3 (by omega)
          have hcp33 := pC_ok 4 0 (t + 2) hb33 (by omega)
          refine pf_X6_58 hc hso dX6_readNewLock_36 ?_
          generalize hσ5 : s2 σ4 o 2 (nI ((pC p ln 4 0 (t + 2)).2.2)) = σ5
          have hln : σ5 a 1 = nI ln := by rw [← hσ5]; exact s2_keep hln (by omega)
          have hpr : rowAt σ5 (a + 1) ln p := by rw [← hσ5]; exact hpr.keep (by omega) _ _
          have hat : σ5 a 4 = nI ((pC p ln 4 0 (t + 2)).2.1) := by rw [← hσ5]; exact s2_keep hat (by omega)
          have ho0 : σ5 o 0 = x0 := by rw [← hσ5]; exact s2_keep ho0 (by omega)
          have ho1 : σ5 o 1 = nI ((pB p ln 48 57 t).2.2) := by rw [← hσ5]; exact s2_keep ho1 (by omega)
          have ho2 : σ5 o 2 = nI ((pC p ln 4 0 (t + 2)).2.2) := by rw [← hσ5]; exact s2_same _ _ _ _
          have ho3 : σ5 o 3 = x3 := by rw [← hσ5]; exact s2_keep ho3 (by omega)
          refine r_aload_n hc dX6_readNewLock_39 rfl ?_
          refine gf_X6_58 (x := nI ((pC p ln 4 0 (t + 2)).2.2)) hc hso ho2 dX6_readNewLock_40 ?_
          refine r_iconst (v := zI (-1)) hc dX6_readNewLock_43 rfl ?_
          refine r_icmp_eq (tgt := 56) hc dX6_readNewLock_44 (by decide) (eq_NZ (by omega) (by omega)) (fun c_44 => ?_) (fun c_44 => ?_)
          ·
            exact absurd c_44 (by omega)
          ·
            refine r_aload_n hc dX6_readNewLock_47 rfl ?_
            refine r_bipush (v := nI 47) hc dX6_readNewLock_48 rfl ?_
            refine cl_X6_46 (As := [.int (nI 47)]) hc (c_X6_readSign hK hln hpr hl80 hp (t := (pC p ln 4 0 (t + 2)).2.1) hat (by omega) (c := 47) (by omega)) hK.1.1 rfl ⟨by decide, by decide⟩ ⟨rfl, rfl⟩ ⟨by decide, by decide⟩ rfl (Nat.le_of_ble_eq_true rfl) dX6_readNewLock_50 (fun r u hcl => ?_)
            obtain ⟨hrr, hu⟩ := hcl
            rw [hu, hrr]
            generalize hσ6 : s2 σ5 a 4 (nI ((pS p ln 47 ((pC p ln 4 0 (t + 2)).2.1)).2)) = σ6
            have hln : σ6 a 1 = nI ln := by rw [← hσ6]; exact s2_keep hln (by omega)
            have hpr : rowAt σ6 (a + 1) ln p := by rw [← hσ6]; exact hpr.keep (by omega) _ _
            have hat : σ6 a 4 = nI ((pS p ln 47 ((pC p ln 4 0 (t + 2)).2.1)).2) := by rw [← hσ6]; exact s2_same _ _ _ _
            have ho0 : σ6 o 0 = x0 := by rw [← hσ6]; exact s2_keep ho0 (by omega)
            have ho1 : σ6 o 1 = nI ((pB p ln 48 57 t).2.2) := by rw [← hσ6]; exact s2_keep ho1 (by omega)
            have ho2 : σ6 o 2 = nI ((pC p ln 4 0 (t + 2)).2.2) := by rw [← hσ6]; exact s2_keep ho2 (by omega)
            have ho3 : σ6 o 3 = x3 := by rw [← hσ6]; exact s2_keep ho3 (by omega)
            refine r_if_ne (tgt := 58) hc dX6_readNewLock_53 (by decide) (bI_0 _) (fun c_53 => ?_) (fun c_53 => ?_)
            ·
              have c_53 := bnf c_53
              have hs53 := c_53
              have hso53 := pS_ok hs53
              have hsl53 := sgn_pos (p := p) (ln := ln) (t := (pC p ln 4 0 (t + 2)).2.1) (by omega)
              have hat : σ6 a 4 = nI ((pC p ln 4 0 (t + 2)).2.1 + 1) := by rw [hat, hso53.2]
              refine r_aload_n hc dX6_readNewLock_58 rfl ?_
              refine r_aload_n hc dX6_readNewLock_59 rfl ?_
              refine cl_X6_54 (As := []) hc (c_X6_readCuts hK hln hpr hl80 hp (t := (pC p ln 4 0 (t + 2)).2.1 + 1) hat (by omega)) hK.1.1 rfl ⟨by decide, by decide⟩ ⟨rfl, rfl⟩ ⟨by decide, by decide⟩ rfl (Nat.le_of_ble_eq_true rfl) dX6_readNewLock_60 (fun r u hcl => ?_)
              obtain ⟨hrr, hu⟩ := hcl
              rw [hu, hrr]
              by_cases hb60 : (pC p ln 4 0 ((pC p ln 4 0 (t + 2)).2.1 + 1)).1 = true
              ·
                rw [show rB (pC p ln 4 0 ((pC p ln 4 0 (t + 2)).2.1 + 1)) = nI (pC p ln 4 0 ((pC p ln 4 0 (t + 2)).2.1 + 1)).2.2 from if_pos hb60]
                generalize hσ7 : s2 σ6 a 4 (nI ((pC p ln 4 0 ((pC p ln 4 0 (t + 2)).2.1 + 1)).2.1)) = σ7
                have hln : σ7 a 1 = nI ln := by rw [← hσ7]; exact s2_keep hln (by omega)
                have hpr : rowAt σ7 (a + 1) ln p := by rw [← hσ7]; exact hpr.keep (by omega) _ _
                have hat : σ7 a 4 = nI ((pC p ln 4 0 ((pC p ln 4 0 (t + 2)).2.1 + 1)).2.1) := by rw [← hσ7]; exact s2_same _ _ _ _
                have ho0 : σ7 o 0 = x0 := by rw [← hσ7]; exact s2_keep ho0 (by omega)
                have ho1 : σ7 o 1 = nI ((pB p ln 48 57 t).2.2) := by rw [← hσ7]; exact s2_keep ho1 (by omega)
                have ho2 : σ7 o 2 = nI ((pC p ln 4 0 (t + 2)).2.2) := by rw [← hσ7]; exact s2_keep ho2 (by omega)
                have ho3 : σ7 o 3 = x3 := by rw [← hσ7]; exact s2_keep ho3 (by omega)
                have hcp60 := pC_ok 4 0 ((pC p ln 4 0 (t + 2)).2.1 + 1) hb60 (by omega)
                refine pf_X6_74 hc hso dX6_readNewLock_63 ?_
                generalize hσ8 : s2 σ7 o 3 (nI ((pC p ln 4 0 ((pC p ln 4 0 (t + 2)).2.1 + 1)).2.2)) = σ8
                have hln : σ8 a 1 = nI ln := by rw [← hσ8]; exact s2_keep hln (by omega)
                have hpr : rowAt σ8 (a + 1) ln p := by rw [← hσ8]; exact hpr.keep (by omega) _ _
                have hat : σ8 a 4 = nI ((pC p ln 4 0 ((pC p ln 4 0 (t + 2)).2.1 + 1)).2.1) := by rw [← hσ8]; exact s2_keep hat (by omega)
                have ho0 : σ8 o 0 = x0 := by rw [← hσ8]; exact s2_keep ho0 (by omega)
                have ho1 : σ8 o 1 = nI ((pB p ln 48 57 t).2.2) := by rw [← hσ8]; exact s2_keep ho1 (by omega)
                have ho2 : σ8 o 2 = nI ((pC p ln 4 0 (t + 2)).2.2) := by rw [← hσ8]; exact s2_keep ho2 (by omega)
                have ho3 : σ8 o 3 = nI ((pC p ln 4 0 ((pC p ln 4 0 (t + 2)).2.1 + 1)).2.2) := by rw [← hσ8]; exact s2_same _ _ _ _
                refine r_aload_n hc dX6_readNewLock_66 rfl ?_
                refine gf_X6_74 (x := nI ((pC p ln 4 0 ((pC p ln 4 0 (t + 2)).2.1 + 1)).2.2)) hc hso ho3 dX6_readNewLock_67 ?_
                refine r_iconst (v := zI (-1)) hc dX6_readNewLock_70 rfl ?_
                refine r_icmp_eq (tgt := 78) hc dX6_readNewLock_71 (by decide) (eq_NZ (by omega) (by omega)) (fun c_71 => ?_) (fun c_71 => ?_)
                ·
                  exact absurd c_71 (by omega)
                ·
                  refine r_iconst (v := nI 1) hc dX6_readNewLock_74 rfl ?_
                  refine r_goto (tgt := 79) hc dX6_readNewLock_75 (by decide) ?_
                  have hE : pK p ln t = ((pC p ln 4 0 ((pC p ln 4 0 (t + 2)).2.1 + 1)).1, (pC p ln 4 0 ((pC p ln 4 0 (t + 2)).2.1 + 1)).2.1, (pB p ln 48 57 t).2.2, (pC p ln 4 0 (t + 2)).2.2, (pC p ln 4 0 ((pC p ln 4 0 (t + 2)).2.1 + 1)).2.2) := by unfold pK; rw [if_pos hb6, if_pos hs26, if_pos hb33, if_pos hs53]
                  rw [hE] at hR
                  exact hR _ _ ⟨_, rfl, bI_t hb60, hat, fun _ => ⟨ho1, ho2, ho3⟩, ho0, ⟨fun q q1 q2 => by rw [← hσ8, s2_ne q2, ← hσ7, s2_ne q1, ← hσ6, s2_ne q1, ← hσ5, s2_ne q2, ← hσ4, s2_ne q1, ← hσ3, s2_ne q1, ← hσ2, s2_ne q2, ← hσ1, s2_ne q1], fun k hk => by rw [← hσ8, s2_na (by omega), ← hσ7, s2_nk hk, ← hσ6, s2_nk hk, ← hσ5, s2_na (by omega), ← hσ4, s2_nk hk, ← hσ3, s2_nk hk, ← hσ2, s2_na (by omega), ← hσ1, s2_nk hk]⟩⟩ (nar_bI true) _ _ dX6_readNewLock_79
              ·
                rw [show rB (pC p ln 4 0 ((pC p ln 4 0 (t + 2)).2.1 + 1)) = zI (-1) from if_neg hb60]
                generalize hσ9 : s2 σ6 a 4 (nI ((pC p ln 4 0 ((pC p ln 4 0 (t + 2)).2.1 + 1)).2.1)) = σ9
                have hln : σ9 a 1 = nI ln := by rw [← hσ9]; exact s2_keep hln (by omega)
                have hpr : rowAt σ9 (a + 1) ln p := by rw [← hσ9]; exact hpr.keep (by omega) _ _
                have hat : σ9 a 4 = nI ((pC p ln 4 0 ((pC p ln 4 0 (t + 2)).2.1 + 1)).2.1) := by rw [← hσ9]; exact s2_same _ _ _ _
                have ho0 : σ9 o 0 = x0 := by rw [← hσ9]; exact s2_keep ho0 (by omega)
                have ho1 : σ9 o 1 = nI ((pB p ln 48 57 t).2.2) := by rw [← hσ9]; exact s2_keep ho1 (by omega)
                have ho2 : σ9 o 2 = nI ((pC p ln 4 0 (t + 2)).2.2) := by rw [← hσ9]; exact s2_keep ho2 (by omega)
                have ho3 : σ9 o 3 = x3 := by rw [← hσ9]; exact s2_keep ho3 (by omega)
                have hcp60 := pC_no (p := p) (ln := ln) 4 0 ((pC p ln 4 0 (t + 2)).2.1 + 1) (by omega)
                refine pf_X6_74 hc hso dX6_readNewLock_63 ?_
                generalize hσ10 : s2 σ9 o 3 (zI (-1)) = σ10
                have hln : σ10 a 1 = nI ln := by rw [← hσ10]; exact s2_keep hln (by omega)
                have hpr : rowAt σ10 (a + 1) ln p := by rw [← hσ10]; exact hpr.keep (by omega) _ _
                have hat : σ10 a 4 = nI ((pC p ln 4 0 ((pC p ln 4 0 (t + 2)).2.1 + 1)).2.1) := by rw [← hσ10]; exact s2_keep hat (by omega)
                have ho0 : σ10 o 0 = x0 := by rw [← hσ10]; exact s2_keep ho0 (by omega)
                have ho1 : σ10 o 1 = nI ((pB p ln 48 57 t).2.2) := by rw [← hσ10]; exact s2_keep ho1 (by omega)
                have ho2 : σ10 o 2 = nI ((pC p ln 4 0 (t + 2)).2.2) := by rw [← hσ10]; exact s2_keep ho2 (by omega)
                have ho3 : σ10 o 3 = zI (-1) := by rw [← hσ10]; exact s2_same _ _ _ _
                refine r_aload_n hc dX6_readNewLock_66 rfl ?_
                refine gf_X6_74 (x := zI (-1)) hc hso ho3 dX6_readNewLock_67 ?_
                refine r_iconst (v := zI (-1)) hc dX6_readNewLock_70 rfl ?_
                refine r_icmp_eq (tgt := 78) hc dX6_readNewLock_71 (by decide) (eq_ZZ (by omega) (by omega)) (fun c_71 => ?_) (fun c_71 => ?_)
                ·
                  refine r_iconst (v := nI 0) hc dX6_readNewLock_78 rfl ?_
                  have hE : pK p ln t = ((pC p ln 4 0 ((pC p ln 4 0 (t + 2)).2.1 + 1)).1, (pC p ln 4 0 ((pC p ln 4 0 (t + 2)).2.1 + 1)).2.1, (pB p ln 48 57 t).2.2, (pC p ln 4 0 (t + 2)).2.2, (pC p ln 4 0 ((pC p ln 4 0 (t + 2)).2.1 + 1)).2.2) := by unfold pK; rw [if_pos hb6, if_pos hs26, if_pos hb33, if_pos hs53]
                  rw [hE] at hR
                  exact hR _ _ ⟨_, rfl, bI_f (Bool.eq_false_iff.mpr hb60), hat, fun q => absurd q hb60, ho0, ⟨fun q q1 q2 => by rw [← hσ10, s2_ne q2, ← hσ9, s2_ne q1, ← hσ6, s2_ne q1, ← hσ5, s2_ne q2, ← hσ4, s2_ne q1, ← hσ3, s2_ne q1, ← hσ2, s2_ne q2, ← hσ1, s2_ne q1], fun k hk => by rw [← hσ10, s2_na (by omega), ← hσ9, s2_nk hk, ← hσ6, s2_nk hk, ← hσ5, s2_na (by omega), ← hσ4, s2_nk hk, ← hσ3, s2_nk hk, ← hσ2, s2_na (by omega), ← hσ1, s2_nk hk]⟩⟩ (nar_bI false) _ _ dX6_readNewLock_79
                ·
                  exact absurd rfl c_71
            ·
              have hs53 := c_53
              have hsn53 := pS_no hs53
              have hat : σ6 a 4 = nI ((pC p ln 4 0 (t + 2)).2.1) := by rw [hat, hsn53]
              refine r_iconst (v := nI 0) hc dX6_readNewLock_56 rfl ?_
              have hE : pK p ln t = (false, (pC p ln 4 0 (t + 2)).2.1, 0, 0, 0) := by unfold pK; rw [if_pos hb6, if_pos hs26, if_pos hb33, if_neg (by rw [hs53]; decide)]
              rw [hE] at hR
              exact hR _ _ ⟨_, rfl, rfl, hat, fun q => Bool.noConfusion q, ho0, ⟨fun q q1 q2 => by rw [← hσ6, s2_ne q1, ← hσ5, s2_ne q2, ← hσ4, s2_ne q1, ← hσ3, s2_ne q1, ← hσ2, s2_ne q2, ← hσ1, s2_ne q1], fun k hk => by rw [← hσ6, s2_nk hk, ← hσ5, s2_na (by omega), ← hσ4, s2_nk hk, ← hσ3, s2_nk hk, ← hσ2, s2_na (by omega), ← hσ1, s2_nk hk]⟩⟩ (nar_bI false) _ _ dX6_readNewLock_57
        ·
          rw [show rB (pC p ln 4 0 (t + 2)) = zI (-1) from if_neg hb33]
          generalize hσ11 : s2 σ3 a 4 (nI ((pC p ln 4 0 (t + 2)).2.1)) = σ11
          have hln : σ11 a 1 = nI ln := by rw [← hσ11]; exact s2_keep hln (by omega)
          have hpr : rowAt σ11 (a + 1) ln p := by rw [← hσ11]; exact hpr.keep (by omega) _ _
          have hat : σ11 a 4 = nI ((pC p ln 4 0 (t + 2)).2.1) := by rw [← hσ11]; exact s2_same _ _ _ _
          have ho0 : σ11 o 0 = x0 := by rw [← hσ11]; exact s2_keep ho0 (by omega)
          have ho1 : σ11 o 1 = nI ((pB p ln 48 57 t).2.2) := by rw [← hσ11]; exact s2_keep ho1 (by omega)
          have ho2 : σ11 o 2 = x2 := by rw [← hσ11]; exact s2_keep ho2 (by omega)
          have ho3 : σ11 o 3 = x3 := by rw [← hσ11]; exact s2_keep ho3 (by omega)
          have hcp33 := pC_no (p := p) (ln := ln) 4 0 (t + 2) (by omega)
          refine pf_X6_58 hc hso dX6_readNewLock_36 ?_
          generalize hσ12 : s2 σ11 o 2 (zI (-1)) = σ12
          have hln : σ12 a 1 = nI ln := by rw [← hσ12]; exact s2_keep hln (by omega)
          have hpr : rowAt σ12 (a + 1) ln p := by rw [← hσ12]; exact hpr.keep (by omega) _ _
          have hat : σ12 a 4 = nI ((pC p ln 4 0 (t + 2)).2.1) := by rw [← hσ12]; exact s2_keep hat (by omega)
          have ho0 : σ12 o 0 = x0 := by rw [← hσ12]; exact s2_keep ho0 (by omega)
          have ho1 : σ12 o 1 = nI ((pB p ln 48 57 t).2.2) := by rw [← hσ12]; exact s2_keep ho1 (by omega)
          have ho2 : σ12 o 2 = zI (-1) := by rw [← hσ12]; exact s2_same _ _ _ _
          have ho3 : σ12 o 3 = x3 := by rw [← hσ12]; exact s2_keep ho3 (by omega)
          refine r_aload_n hc dX6_readNewLock_39 rfl ?_
          refine gf_X6_58 (x := zI (-1)) hc hso ho2 dX6_readNewLock_40 ?_
          refine r_iconst (v := zI (-1)) hc dX6_readNewLock_43 rfl ?_
          refine r_icmp_eq (tgt := 56) hc dX6_readNewLock_44 (by decide) (eq_ZZ (by omega) (by omega)) (fun c_44 => ?_) (fun c_44 => ?_)
          ·
            refine r_iconst (v := nI 0) hc dX6_readNewLock_56 rfl ?_
            have hE : pK p ln t = (false, (pC p ln 4 0 (t + 2)).2.1, 0, 0, 0) := by unfold pK; rw [if_pos hb6, if_pos hs26, if_neg hb33]
            rw [hE] at hR
            exact hR _ _ ⟨_, rfl, rfl, hat, fun q => Bool.noConfusion q, ho0, ⟨fun q q1 q2 => by rw [← hσ12, s2_ne q2, ← hσ11, s2_ne q1, ← hσ3, s2_ne q1, ← hσ2, s2_ne q2, ← hσ1, s2_ne q1], fun k hk => by rw [← hσ12, s2_na (by omega), ← hσ11, s2_nk hk, ← hσ3, s2_nk hk, ← hσ2, s2_na (by omega), ← hσ1, s2_nk hk]⟩⟩ (nar_bI false) _ _ dX6_readNewLock_57
          ·
            exact absurd rfl c_44
      ·
        have hs26 := c_26
        have hsn26 := pS_no hs26
        have hat : σ3 a 4 = nI (t + 1) := by rw [hat, hsn26]
        refine r_iconst (v := nI 0) hc dX6_readNewLock_29 rfl ?_
        have hE : pK p ln t = (false, t + 1, 0, 0, 0) := by unfold pK; rw [if_pos hb6, if_neg (by rw [hs26]; decide)]
        rw [hE] at hR
        exact hR _ _ ⟨_, rfl, rfl, hat, fun q => Bool.noConfusion q, ho0, ⟨fun q q1 q2 => by rw [← hσ3, s2_ne q1, ← hσ2, s2_ne q2, ← hσ1, s2_ne q1], fun k hk => by rw [← hσ3, s2_nk hk, ← hσ2, s2_na (by omega), ← hσ1, s2_nk hk]⟩⟩ (nar_bI false) _ _ dX6_readNewLock_30
  ·
    rw [show rB (pB p ln 48 57 t) = zI (-1) from if_neg hb6]
    generalize hσ13 : s2 σ a 4 (nI ((pB p ln 48 57 t).2.1)) = σ13
    have hln : σ13 a 1 = nI ln := by rw [← hσ13]; exact s2_keep hln (by omega)
    have hpr : rowAt σ13 (a + 1) ln p := by rw [← hσ13]; exact hpr.keep (by omega) _ _
    have hat : σ13 a 4 = nI ((pB p ln 48 57 t).2.1) := by rw [← hσ13]; exact s2_same _ _ _ _
    have ho0 : σ13 o 0 = x0 := by rw [← hσ13]; exact s2_keep ho0 (by omega)
    have ho1 : σ13 o 1 = x1 := by rw [← hσ13]; exact s2_keep ho1 (by omega)
    have ho2 : σ13 o 2 = x2 := by rw [← hσ13]; exact s2_keep ho2 (by omega)
    have ho3 : σ13 o 3 = x3 := by rw [← hσ13]; exact s2_keep ho3 (by omega)
    have hbn := pB_no hb6
    have hbt : (pB p ln 48 57 t).2.1 = t := by rw [hbn]
    have hat : σ13 a 4 = nI (t) := by rw [hat, hbt]
    refine pf_X6_68 hc hso dX6_readNewLock_9 ?_
    generalize hσ14 : s2 σ13 o 1 (zI (-1)) = σ14
    have hln : σ14 a 1 = nI ln := by rw [← hσ14]; exact s2_keep hln (by omega)
    have hpr : rowAt σ14 (a + 1) ln p := by rw [← hσ14]; exact hpr.keep (by omega) _ _
    have hat : σ14 a 4 = nI t := by rw [← hσ14]; exact s2_keep hat (by omega)
    have ho0 : σ14 o 0 = x0 := by rw [← hσ14]; exact s2_keep ho0 (by omega)
    have ho1 : σ14 o 1 = zI (-1) := by rw [← hσ14]; exact s2_same _ _ _ _
    have ho2 : σ14 o 2 = x2 := by rw [← hσ14]; exact s2_keep ho2 (by omega)
    have ho3 : σ14 o 3 = x3 := by rw [← hσ14]; exact s2_keep ho3 (by omega)
    refine r_aload_n hc dX6_readNewLock_12 rfl ?_
    refine gf_X6_68 (x := zI (-1)) hc hso ho1 dX6_readNewLock_13 ?_
    refine r_iconst (v := zI (-1)) hc dX6_readNewLock_16 rfl ?_
    refine r_icmp_eq (tgt := 29) hc dX6_readNewLock_17 (by decide) (eq_ZZ (by omega) (by omega)) (fun c_17 => ?_) (fun c_17 => ?_)
    ·
      refine r_iconst (v := nI 0) hc dX6_readNewLock_29 rfl ?_
      have hE : pK p ln t = (false, t, 0, 0, 0) := by unfold pK; rw [if_neg hb6]
      rw [hE] at hR
      exact hR _ _ ⟨_, rfl, rfl, hat, fun q => Bool.noConfusion q, ho0, ⟨fun q q1 q2 => by rw [← hσ14, s2_ne q2, ← hσ13, s2_ne q1], fun k hk => by rw [← hσ14, s2_na (by omega), ← hσ13, s2_nk hk]⟩⟩ (nar_bI false) _ _ dX6_readNewLock_30
    ·
      exact absurd rfl c_17
set_option maxRecDepth 100000 in
set_option maxHeartbeats 4000000 in
theorem c_X6_readOrder {Ω : OmT} {z : Nat} {sh : Nat → Option Kd} {σ : Nat → Nat → Int32} {ρ : Nat → Nat → Option Nat} {a : Nat} (hK : PdSh sh ρ a) {p : Nat → Nat} {ln : Nat} (hln : σ a 1 = nI ln) (hpr : rowAt σ (a + 1) ln p) (hl80 : ln ≤ 80) (hp : ∀ j, j < ln → p j < 256) {t : Nat} (hat : σ a 4 = nI t) (ht : t ≤ ln) {o : Nat} (hso : sh o = some (.inl 5)) (hao : a + 3 ≤ o) {x0 x1 x2 x3 : Int32} (ho0 : σ o 0 = x0) (ho1 : σ o 1 = x1) (ho2 : σ o 2 = x2) (ho3 : σ o 3 = x3)  : CtI Ω yX6_readOrder cX6_readOrder 2 .boolean rm_X6_readOrder [.ref a, .ref o] (z, sh, σ, ρ) (fun r u => ∃ τ : Nat → Nat → Int32, u = (z, sh, τ, ρ) ∧ r = bI (pO p ln t).1 ∧ τ a 4 = nI (pO p ln t).2.1 ∧ ((pO p ln t).1 = true → OrdF τ o (p t) (pO p ln t).2.2) ∧ (∀ q, q ≠ a → q ≠ o → τ q = σ q) ∧ ∀ k, k ≠ 4 → τ a k = σ a k) := by
  refine CtI.enter (by decide) (Nat.le_of_ble_eq_true rfl) (fun Φ hc hR => ?_)
  show Vw Ω Φ (z, sh, σ, ρ) (0, 0) 0 [(0, .ref a), (1, .ref o)] []
  refine r_aload_n hc dX6_readOrder_0 rfl ?_
  refine gf_X6_36 (x := nI t) hc hK.1.1 hat dX6_readOrder_1 ?_
  refine r_aload_n hc dX6_readOrder_4 rfl ?_
  refine gf_X6_26 (x := nI ln) hc hK.1.1 hln dX6_readOrder_5 ?_
  refine r_icmp_lt (tgt := 13) hc dX6_readOrder_8 (by decide) (lt_NN (by omega) (by omega)) (fun c_8 => ?_) (fun c_8 => ?_)
  ·
    have hsg : sgn p ln t = p t := sgn_in (by omega)
    have hpt := hp t (by omega)
    refine r_aload_n hc dX6_readOrder_13 rfl ?_
    refine r_aload_n hc dX6_readOrder_14 rfl ?_
    refine gf_X6_9 (q := a + 1) hc hK.1.1 hK.2.2.1.1 dX6_readOrder_15 ?_
    refine r_aload_n hc dX6_readOrder_18 rfl ?_
    refine gf_X6_36 (x := nI t) hc hK.1.1 hat dX6_readOrder_19 ?_
    refine r_cald (x := nI (p t)) (j := t) hc hK.1.2.1 rfl (by omega) (by decide) (hpr _ (by omega)) dX6_readOrder_22 ?_
    refine pf_X6_50 hc hso (nar_c (by omega)) (fit_c (by omega)) dX6_readOrder_23 ?_
    generalize hσ1 : s2 σ o 0 (nI (p t)) = σ1
    have hln : σ1 a 1 = nI ln := by rw [← hσ1]; exact s2_keep hln (by omega)
    have hpr : rowAt σ1 (a + 1) ln p := by rw [← hσ1]; exact hpr.keep (by omega) _ _
    have hat : σ1 a 4 = nI t := by rw [← hσ1]; exact s2_keep hat (by omega)
    have ho0 : σ1 o 0 = nI (p t) := by rw [← hσ1]; exact s2_same _ _ _ _
    have ho1 : σ1 o 1 = x1 := by rw [← hσ1]; exact s2_keep ho1 (by omega)
    have ho2 : σ1 o 2 = x2 := by rw [← hσ1]; exact s2_keep ho2 (by omega)
    have ho3 : σ1 o 3 = x3 := by rw [← hσ1]; exact s2_keep ho3 (by omega)
    refine r_aload_n hc dX6_readOrder_26 rfl ?_
    refine gf_X6_50 (x := nI (p t)) hc hso ho0 dX6_readOrder_27 ?_
    rw [nz (p t)]
    rcases (show ((p t : Nat) : Int) < 98 ∨ 116 < ((p t : Nat) : Int) ∨ ((p t : Nat) : Int) = 98 ∨ ((p t : Nat) : Int) = 99 ∨ ((p t : Nat) : Int) = 100 ∨ ((p t : Nat) : Int) = 101 ∨ ((p t : Nat) : Int) = 102 ∨ ((p t : Nat) : Int) = 103 ∨ ((p t : Nat) : Int) = 104 ∨ ((p t : Nat) : Int) = 105 ∨ ((p t : Nat) : Int) = 106 ∨ ((p t : Nat) : Int) = 107 ∨ ((p t : Nat) : Int) = 108 ∨ ((p t : Nat) : Int) = 109 ∨ ((p t : Nat) : Int) = 110 ∨ ((p t : Nat) : Int) = 111 ∨ ((p t : Nat) : Int) = 112 ∨ ((p t : Nat) : Int) = 113 ∨ ((p t : Nat) : Int) = 114 ∨ ((p t : Nat) : Int) = 115 ∨ ((p t : Nat) : Int) = 116 by omega) with c_30 | c_30 | c_30 | c_30 | c_30 | c_30 | c_30 | c_30 | c_30 | c_30 | c_30 | c_30 | c_30 | c_30 | c_30 | c_30 | c_30 | c_30 | c_30 | c_30 | c_30
    ·
      refine r_tableOut (tgt := 272) hc dX6_readOrder_30 (by rw [zI_toInt (by omega) (by omega)]; omega) (by decide) ?_
      refine r_iconst (v := nI 0) hc dX6_readOrder_272 rfl ?_
      have hE : pO p ln t = (false, t, 0, 0, 0) := by unfold pO; rw [if_neg (show ¬ sgn p ln t = 107 by omega), if_neg (show ¬ sgn p ln t = 99 by omega), if_neg (show ¬ sgn p ln t = 116 by omega), if_neg (show ¬ sgn p ln t = 112 by omega), if_neg (show ¬ sgn p ln t = 103 by omega), if_neg (show ¬ sgn p ln t = 98 by omega)]
      rw [hE] at hR
      exact hR _ _ ⟨_, rfl, rfl, hat, fun q => Bool.noConfusion q, ⟨fun q q1 q2 => by rw [← hσ1, s2_ne q2], fun k hk => by rw [← hσ1, s2_na (by omega)]⟩⟩ (nar_bI false) _ _ dX6_readOrder_273
    ·
      refine r_tableOut (tgt := 272) hc dX6_readOrder_30 (by rw [zI_toInt (by omega) (by omega)]; omega) (by decide) ?_
      refine r_iconst (v := nI 0) hc dX6_readOrder_272 rfl ?_
      have hE : pO p ln t = (false, t, 0, 0, 0) := by unfold pO; rw [if_neg (show ¬ sgn p ln t = 107 by omega), if_neg (show ¬ sgn p ln t = 99 by omega), if_neg (show ¬ sgn p ln t = 116 by omega), if_neg (show ¬ sgn p ln t = 112 by omega), if_neg (show ¬ sgn p ln t = 103 by omega), if_neg (show ¬ sgn p ln t = 98 by omega)]
      rw [hE] at hR
      exact hR _ _ ⟨_, rfl, rfl, hat, fun q => Bool.noConfusion q, ⟨fun q q1 q2 => by rw [← hσ1, s2_ne q2], fun k hk => by rw [← hσ1, s2_na (by omega)]⟩⟩ (nar_bI false) _ _ dX6_readOrder_273
    ·
      refine r_tableIn (off := 210) (tgt := 240) hc dX6_readOrder_30 (by rw [zI_toInt (by omega) (by omega)]; omega) (by rw [zI_toInt (by omega) (by omega)]; omega) (by rw [zI_toInt (by omega) (by omega), c_30]; rfl) (by decide) ?_
      refine r_aload_n hc dX6_readOrder_240 rfl ?_
      refine r_dup hc dX6_readOrder_241 rfl ?_
      refine gf_X6_36 (x := nI t) hc hK.1.1 hat dX6_readOrder_242 ?_
      refine r_iconst (v := nI 1) hc dX6_readOrder_245 rfl ?_
      refine r_iadd (v := nI (t + 1)) hc dX6_readOrder_246 (ad_NN _ _) ?_
      refine pf_X6_36 hc hK.1.1 dX6_readOrder_247 ?_
      generalize hσ2 : s2 σ1 a 4 (nI (t + 1)) = σ2
      have hln : σ2 a 1 = nI ln := by rw [← hσ2]; exact s2_keep hln (by omega)
      have hpr : rowAt σ2 (a + 1) ln p := by rw [← hσ2]; exact hpr.keep (by omega) _ _
      have hat : σ2 a 4 = nI (t + 1) := by rw [← hσ2]; exact s2_same _ _ _ _
      have ho0 : σ2 o 0 = nI (p t) := by rw [← hσ2]; exact s2_keep ho0 (by omega)
      have ho1 : σ2 o 1 = x1 := by rw [← hσ2]; exact s2_keep ho1 (by omega)
      have ho2 : σ2 o 2 = x2 := by rw [← hσ2]; exact s2_keep ho2 (by omega)
      have ho3 : σ2 o 3 = x3 := by rw [← hσ2]; exact s2_keep ho3 (by omega)
      refine r_aload_n hc dX6_readOrder_250 rfl ?_
      refine r_aload_n hc dX6_readOrder_251 rfl ?_
      refine cl_X6_71 (As := []) hc (c_X6_readNumber hK hln hpr hl80 hp (t := t + 1) hat (by omega)) hK.1.1 rfl ⟨by decide, by decide⟩ ⟨rfl, rfl⟩ ⟨by decide, by decide⟩ rfl (Nat.le_of_ble_eq_true rfl) dX6_readOrder_252 (fun r u hcl => ?_)
      obtain ⟨hrr, hu⟩ := hcl
      rw [hu, hrr]
      by_cases hb252 : (pNum p ln (t + 1)).1 = true
      ·
        rw [show rB (pNum p ln (t + 1)) = nI (pNum p ln (t + 1)).2.2 from if_pos hb252]
        generalize hσ3 : s2 σ2 a 4 (nI ((pNum p ln (t + 1)).2.1)) = σ3
        have hln : σ3 a 1 = nI ln := by rw [← hσ3]; exact s2_keep hln (by omega)
        have hpr : rowAt σ3 (a + 1) ln p := by rw [← hσ3]; exact hpr.keep (by omega) _ _
        have hat : σ3 a 4 = nI ((pNum p ln (t + 1)).2.1) := by rw [← hσ3]; exact s2_same _ _ _ _
        have ho0 : σ3 o 0 = nI (p t) := by rw [← hσ3]; exact s2_keep ho0 (by omega)
        have ho1 : σ3 o 1 = x1 := by rw [← hσ3]; exact s2_keep ho1 (by omega)
        have ho2 : σ3 o 2 = x2 := by rw [← hσ3]; exact s2_keep ho2 (by omega)
        have ho3 : σ3 o 3 = x3 := by rw [← hσ3]; exact s2_keep ho3 (by omega)
        have hq1 : (pNum p ln (t + 1)).2.2 < 10000 := pNum_val
        refine pf_X6_68 hc hso dX6_readOrder_255 ?_
        generalize hσ4 : s2 σ3 o 1 (nI ((pNum p ln (t + 1)).2.2)) = σ4
        have hln : σ4 a 1 = nI ln := by rw [← hσ4]; exact s2_keep hln (by omega)
        have hpr : rowAt σ4 (a + 1) ln p := by rw [← hσ4]; exact hpr.keep (by omega) _ _
        have hat : σ4 a 4 = nI ((pNum p ln (t + 1)).2.1) := by rw [← hσ4]; exact s2_keep hat (by omega)
        have ho0 : σ4 o 0 = nI (p t) := by rw [← hσ4]; exact s2_keep ho0 (by omega)
        have ho1 : σ4 o 1 = nI ((pNum p ln (t + 1)).2.2) := by rw [← hσ4]; exact s2_same _ _ _ _
        have ho2 : σ4 o 2 = x2 := by rw [← hσ4]; exact s2_keep ho2 (by omega)
        have ho3 : σ4 o 3 = x3 := by rw [← hσ4]; exact s2_keep ho3 (by omega)
        refine r_aload_n hc dX6_readOrder_258 rfl ?_
        refine gf_X6_68 (x := nI ((pNum p ln (t + 1)).2.2)) hc hso ho1 dX6_readOrder_259 ?_
        refine r_iconst (v := zI (-1)) hc dX6_readOrder_262 rfl ?_
        refine r_icmp_eq (tgt := 270) hc dX6_readOrder_263 (by decide) (eq_NZ (by omega) (by omega)) (fun c_263 => ?_) (fun c_263 => ?_)
        ·
          exact absurd c_263 (by omega)
        ·
          refine r_iconst (v := nI 1) hc dX6_readOrder_266 rfl ?_
          refine r_goto (tgt := 271) hc dX6_readOrder_267 (by decide) ?_
          have hE : pO p ln t = p1 (pNum p ln (t + 1)) := by unfold pO; rw [if_neg (show ¬ sgn p ln t = 107 by omega), if_neg (show ¬ sgn p ln t = 99 by omega), if_neg (show ¬ sgn p ln t = 116 by omega), if_neg (show ¬ sgn p ln t = 112 by omega), if_neg (show ¬ sgn p ln t = 103 by omega), if_pos (show sgn p ln t = 98 by omega)]
          rw [hE] at hR
          exact hR _ _ ⟨_, rfl, bI_t hb252, by rw [hat]; rfl, fun _ => ⟨ho0, fun e => absurd e (by omega), fun e => absurd e (by omega), fun _ => ho1⟩, ⟨fun q q1 q2 => by rw [← hσ4, s2_ne q2, ← hσ3, s2_ne q1, ← hσ2, s2_ne q1, ← hσ1, s2_ne q2], fun k hk => by rw [← hσ4, s2_na (by omega), ← hσ3, s2_nk hk, ← hσ2, s2_nk hk, ← hσ1, s2_na (by omega)]⟩⟩ (nar_bI true) _ _ dX6_readOrder_271
      ·
        rw [show rB (pNum p ln (t + 1)) = zI (-1) from if_neg hb252]
        generalize hσ5 : s2 σ2 a 4 (nI ((pNum p ln (t + 1)).2.1)) = σ5
        have hln : σ5 a 1 = nI ln := by rw [← hσ5]; exact s2_keep hln (by omega)
        have hpr : rowAt σ5 (a + 1) ln p := by rw [← hσ5]; exact hpr.keep (by omega) _ _
        have hat : σ5 a 4 = nI ((pNum p ln (t + 1)).2.1) := by rw [← hσ5]; exact s2_same _ _ _ _
        have ho0 : σ5 o 0 = nI (p t) := by rw [← hσ5]; exact s2_keep ho0 (by omega)
        have ho1 : σ5 o 1 = x1 := by rw [← hσ5]; exact s2_keep ho1 (by omega)
        have ho2 : σ5 o 2 = x2 := by rw [← hσ5]; exact s2_keep ho2 (by omega)
        have ho3 : σ5 o 3 = x3 := by rw [← hσ5]; exact s2_keep ho3 (by omega)
        refine pf_X6_68 hc hso dX6_readOrder_255 ?_
        generalize hσ6 : s2 σ5 o 1 (zI (-1)) = σ6
        have hln : σ6 a 1 = nI ln := by rw [← hσ6]; exact s2_keep hln (by omega)
        have hpr : rowAt σ6 (a + 1) ln p := by rw [← hσ6]; exact hpr.keep (by omega) _ _
        have hat : σ6 a 4 = nI ((pNum p ln (t + 1)).2.1) := by rw [← hσ6]; exact s2_keep hat (by omega)
        have ho0 : σ6 o 0 = nI (p t) := by rw [← hσ6]; exact s2_keep ho0 (by omega)
        have ho1 : σ6 o 1 = zI (-1) := by rw [← hσ6]; exact s2_same _ _ _ _
        have ho2 : σ6 o 2 = x2 := by rw [← hσ6]; exact s2_keep ho2 (by omega)
        have ho3 : σ6 o 3 = x3 := by rw [← hσ6]; exact s2_keep ho3 (by omega)
        refine r_aload_n hc dX6_readOrder_258 rfl ?_
        refine gf_X6_68 (x := zI (-1)) hc hso ho1 dX6_readOrder_259 ?_
        refine r_iconst (v := zI (-1)) hc dX6_readOrder_262 rfl ?_
        refine r_icmp_eq (tgt := 270) hc dX6_readOrder_263 (by decide) (eq_ZZ (by omega) (by omega)) (fun c_263 => ?_) (fun c_263 => ?_)
        ·
          refine r_iconst (v := nI 0) hc dX6_readOrder_270 rfl ?_
          have hE : pO p ln t = p1 (pNum p ln (t + 1)) := by unfold pO; rw [if_neg (show ¬ sgn p ln t = 107 by omega), if_neg (show ¬ sgn p ln t = 99 by omega), if_neg (show ¬ sgn p ln t = 116 by omega), if_neg (show ¬ sgn p ln t = 112 by omega), if_neg (show ¬ sgn p ln t = 103 by omega), if_pos (show sgn p ln t = 98 by omega)]
          rw [hE] at hR
          exact hR _ _ ⟨_, rfl, bI_f (Bool.eq_false_iff.mpr hb252), by rw [hat]; rfl, fun q => absurd q hb252, ⟨fun q q1 q2 => by rw [← hσ6, s2_ne q2, ← hσ5, s2_ne q1, ← hσ2, s2_ne q1, ← hσ1, s2_ne q2], fun k hk => by rw [← hσ6, s2_na (by omega), ← hσ5, s2_nk hk, ← hσ2, s2_nk hk, ← hσ1, s2_na (by omega)]⟩⟩ (nar_bI false) _ _ dX6_readOrder_271
        ·
          exact absurd rfl c_263
    ·
      refine r_tableIn (off := 122) (tgt := 152) hc dX6_readOrder_30 (by rw [zI_toInt (by omega) (by omega)]; omega) (by rw [zI_toInt (by omega) (by omega)]; omega) (by rw [zI_toInt (by omega) (by omega), c_30]; rfl) (by decide) ?_
      refine r_aload_n hc dX6_readOrder_152 rfl ?_
      refine r_dup hc dX6_readOrder_153 rfl ?_
      refine gf_X6_36 (x := nI t) hc hK.1.1 hat dX6_readOrder_154 ?_
      refine r_iconst (v := nI 1) hc dX6_readOrder_157 rfl ?_
      refine r_iadd (v := nI (t + 1)) hc dX6_readOrder_158 (ad_NN _ _) ?_
      refine pf_X6_36 hc hK.1.1 dX6_readOrder_159 ?_
      generalize hσ7 : s2 σ1 a 4 (nI (t + 1)) = σ7
      have hln : σ7 a 1 = nI ln := by rw [← hσ7]; exact s2_keep hln (by omega)
      have hpr : rowAt σ7 (a + 1) ln p := by rw [← hσ7]; exact hpr.keep (by omega) _ _
      have hat : σ7 a 4 = nI (t + 1) := by rw [← hσ7]; exact s2_same _ _ _ _
      have ho0 : σ7 o 0 = nI (p t) := by rw [← hσ7]; exact s2_keep ho0 (by omega)
      have ho1 : σ7 o 1 = x1 := by rw [← hσ7]; exact s2_keep ho1 (by omega)
      have ho2 : σ7 o 2 = x2 := by rw [← hσ7]; exact s2_keep ho2 (by omega)
      have ho3 : σ7 o 3 = x3 := by rw [← hσ7]; exact s2_keep ho3 (by omega)
      refine r_aload_n hc dX6_readOrder_162 rfl ?_
      refine r_aload_n hc dX6_readOrder_163 rfl ?_
      refine cl_X6_61 (As := [.ref o]) hc (c_X6_readNewLock hK hln hpr hl80 hp (t := t + 1) hat (by omega) hso hao ho0 ho1 ho2 ho3) hK.1.1 rfl ⟨by decide, by decide⟩ ⟨rfl, rfl⟩ ⟨by decide, by decide⟩ rfl (Nat.le_of_ble_eq_true rfl) dX6_readOrder_164 (fun r u hcl => ?_)
      obtain ⟨τ2, hu, hrr, hat, hK3, ho0, hfr2⟩ := hcl
      rw [hu, hrr]
      have hfo : (∀ q, q ≠ a → q ≠ o → τ2 q = σ q) ∧ ∀ k, k ≠ 4 → τ2 a k = σ a k := ⟨fun q q1 q2 => by rw [hfr2.1 q q1 q2, ← hσ7, s2_ne q1, ← hσ1, s2_ne q2], fun k hk => by rw [hfr2.2 k hk, ← hσ7, s2_nk hk, ← hσ1, s2_na (by omega)]⟩
      have hE : pO p ln t = pK p ln (t + 1) := by unfold pO; rw [if_neg (show ¬ sgn p ln t = 107 by omega), if_pos (show sgn p ln t = 99 by omega)]
      rw [hE] at hR
      exact hR _ _ ⟨_, rfl, rfl, hat, fun q => ⟨ho0, fun e => absurd e (by omega), fun _ => hK3 q, fun e => absurd e (by omega)⟩, hfo⟩ (nar_bI _) _ _ dX6_readOrder_167
    ·
      refine r_tableIn (off := 242) (tgt := 272) hc dX6_readOrder_30 (by rw [zI_toInt (by omega) (by omega)]; omega) (by rw [zI_toInt (by omega) (by omega)]; omega) (by rw [zI_toInt (by omega) (by omega), c_30]; rfl) (by decide) ?_
      refine r_iconst (v := nI 0) hc dX6_readOrder_272 rfl ?_
      have hE : pO p ln t = (false, t, 0, 0, 0) := by unfold pO; rw [if_neg (show ¬ sgn p ln t = 107 by omega), if_neg (show ¬ sgn p ln t = 99 by omega), if_neg (show ¬ sgn p ln t = 116 by omega), if_neg (show ¬ sgn p ln t = 112 by omega), if_neg (show ¬ sgn p ln t = 103 by omega), if_neg (show ¬ sgn p ln t = 98 by omega)]
      rw [hE] at hR
      exact hR _ _ ⟨_, rfl, rfl, hat, fun q => Bool.noConfusion q, ⟨fun q q1 q2 => by rw [← hσ1, s2_ne q2], fun k hk => by rw [← hσ1, s2_na (by omega)]⟩⟩ (nar_bI false) _ _ dX6_readOrder_273
    ·
      refine r_tableIn (off := 242) (tgt := 272) hc dX6_readOrder_30 (by rw [zI_toInt (by omega) (by omega)]; omega) (by rw [zI_toInt (by omega) (by omega)]; omega) (by rw [zI_toInt (by omega) (by omega), c_30]; rfl) (by decide) ?_
      refine r_iconst (v := nI 0) hc dX6_readOrder_272 rfl ?_
      have hE : pO p ln t = (false, t, 0, 0, 0) := by unfold pO; rw [if_neg (show ¬ sgn p ln t = 107 by omega), if_neg (show ¬ sgn p ln t = 99 by omega), if_neg (show ¬ sgn p ln t = 116 by omega), if_neg (show ¬ sgn p ln t = 112 by omega), if_neg (show ¬ sgn p ln t = 103 by omega), if_neg (show ¬ sgn p ln t = 98 by omega)]
      rw [hE] at hR
      exact hR _ _ ⟨_, rfl, rfl, hat, fun q => Bool.noConfusion q, ⟨fun q q1 q2 => by rw [← hσ1, s2_ne q2], fun k hk => by rw [← hσ1, s2_na (by omega)]⟩⟩ (nar_bI false) _ _ dX6_readOrder_273
    ·
      refine r_tableIn (off := 242) (tgt := 272) hc dX6_readOrder_30 (by rw [zI_toInt (by omega) (by omega)]; omega) (by rw [zI_toInt (by omega) (by omega)]; omega) (by rw [zI_toInt (by omega) (by omega), c_30]; rfl) (by decide) ?_
      refine r_iconst (v := nI 0) hc dX6_readOrder_272 rfl ?_
      have hE : pO p ln t = (false, t, 0, 0, 0) := by unfold pO; rw [if_neg (show ¬ sgn p ln t = 107 by omega), if_neg (show ¬ sgn p ln t = 99 by omega), if_neg (show ¬ sgn p ln t = 116 by omega), if_neg (show ¬ sgn p ln t = 112 by omega), if_neg (show ¬ sgn p ln t = 103 by omega), if_neg (show ¬ sgn p ln t = 98 by omega)]
      rw [hE] at hR
      exact hR _ _ ⟨_, rfl, rfl, hat, fun q => Bool.noConfusion q, ⟨fun q q1 q2 => by rw [← hσ1, s2_ne q2], fun k hk => by rw [← hσ1, s2_na (by omega)]⟩⟩ (nar_bI false) _ _ dX6_readOrder_273
    ·
      refine r_tableIn (off := 174) (tgt := 204) hc dX6_readOrder_30 (by rw [zI_toInt (by omega) (by omega)]; omega) (by rw [zI_toInt (by omega) (by omega)]; omega) (by rw [zI_toInt (by omega) (by omega), c_30]; rfl) (by decide) ?_
      refine r_aload_n hc dX6_readOrder_204 rfl ?_
      refine r_dup hc dX6_readOrder_205 rfl ?_
      refine gf_X6_36 (x := nI t) hc hK.1.1 hat dX6_readOrder_206 ?_
      refine r_iconst (v := nI 1) hc dX6_readOrder_209 rfl ?_
      refine r_iadd (v := nI (t + 1)) hc dX6_readOrder_210 (ad_NN _ _) ?_
      refine pf_X6_36 hc hK.1.1 dX6_readOrder_211 ?_
      generalize hσ8 : s2 σ1 a 4 (nI (t + 1)) = σ8
      have hln : σ8 a 1 = nI ln := by rw [← hσ8]; exact s2_keep hln (by omega)
      have hpr : rowAt σ8 (a + 1) ln p := by rw [← hσ8]; exact hpr.keep (by omega) _ _
      have hat : σ8 a 4 = nI (t + 1) := by rw [← hσ8]; exact s2_same _ _ _ _
      have ho0 : σ8 o 0 = nI (p t) := by rw [← hσ8]; exact s2_keep ho0 (by omega)
      have ho1 : σ8 o 1 = x1 := by rw [← hσ8]; exact s2_keep ho1 (by omega)
      have ho2 : σ8 o 2 = x2 := by rw [← hσ8]; exact s2_keep ho2 (by omega)
      have ho3 : σ8 o 3 = x3 := by rw [← hσ8]; exact s2_keep ho3 (by omega)
      refine r_aload_n hc dX6_readOrder_214 rfl ?_
      refine r_aload_n hc dX6_readOrder_215 rfl ?_
      refine r_bipush (v := nI 48) hc dX6_readOrder_216 rfl ?_
      refine r_bipush (v := nI 57) hc dX6_readOrder_218 rfl ?_
      refine cl_X6_64 (As := [.int (nI 48), .int (nI 57)]) hc (c_X6_readBetween hK hln hpr hl80 hp (t := t + 1) hat (by omega) (lo := 48) (hi := 57) (by omega)) hK.1.1 rfl ⟨by decide, by decide⟩ ⟨rfl, rfl⟩ ⟨by decide, by decide⟩ rfl (Nat.le_of_ble_eq_true rfl) dX6_readOrder_220 (fun r u hcl => ?_)
      obtain ⟨hrr, hu⟩ := hcl
      rw [hu, hrr]
      by_cases hb220 : (pB p ln 48 57 (t + 1)).1 = true
      ·
        rw [show rB (pB p ln 48 57 (t + 1)) = nI (pB p ln 48 57 (t + 1)).2.2 from if_pos hb220]
        generalize hσ9 : s2 σ8 a 4 (nI ((pB p ln 48 57 (t + 1)).2.1)) = σ9
        have hln : σ9 a 1 = nI ln := by rw [← hσ9]; exact s2_keep hln (by omega)
        have hpr : rowAt σ9 (a + 1) ln p := by rw [← hσ9]; exact hpr.keep (by omega) _ _
        have hat : σ9 a 4 = nI ((pB p ln 48 57 (t + 1)).2.1) := by rw [← hσ9]; exact s2_same _ _ _ _
        have ho0 : σ9 o 0 = nI (p t) := by rw [← hσ9]; exact s2_keep ho0 (by omega)
        have ho1 : σ9 o 1 = x1 := by rw [← hσ9]; exact s2_keep ho1 (by omega)
        have ho2 : σ9 o 2 = x2 := by rw [← hσ9]; exact s2_keep ho2 (by omega)
        have ho3 : σ9 o 3 = x3 := by rw [← hσ9]; exact s2_keep ho3 (by omega)
        have hbo := pB_ok hb220
        have hbt : (pB p ln 48 57 (t + 1)).2.1 = (t + 1) + 1 := by rw [hbo.2]
        have hbv : (pB p ln 48 57 (t + 1)).2.2 = sgn p ln (t + 1) - 48 := by rw [hbo.2]
        have hbl := sgn_pos (p := p) (ln := ln) (t := (t + 1)) (by omega)
        refine pf_X6_68 hc hso dX6_readOrder_223 ?_
        generalize hσ10 : s2 σ9 o 1 (nI ((pB p ln 48 57 (t + 1)).2.2)) = σ10
        have hln : σ10 a 1 = nI ln := by rw [← hσ10]; exact s2_keep hln (by omega)
        have hpr : rowAt σ10 (a + 1) ln p := by rw [← hσ10]; exact hpr.keep (by omega) _ _
        have hat : σ10 a 4 = nI ((pB p ln 48 57 (t + 1)).2.1) := by rw [← hσ10]; exact s2_keep hat (by omega)
        have ho0 : σ10 o 0 = nI (p t) := by rw [← hσ10]; exact s2_keep ho0 (by omega)
        have ho1 : σ10 o 1 = nI ((pB p ln 48 57 (t + 1)).2.2) := by rw [← hσ10]; exact s2_same _ _ _ _
        have ho2 : σ10 o 2 = x2 := by rw [← hσ10]; exact s2_keep ho2 (by omega)
        have ho3 : σ10 o 3 = x3 := by rw [← hσ10]; exact s2_keep ho3 (by omega)
        refine r_aload_n hc dX6_readOrder_226 rfl ?_
        refine gf_X6_68 (x := nI ((pB p ln 48 57 (t + 1)).2.2)) hc hso ho1 dX6_readOrder_227 ?_
        refine r_iconst (v := zI (-1)) hc dX6_readOrder_230 rfl ?_
        refine r_icmp_eq (tgt := 238) hc dX6_readOrder_231 (by decide) (eq_NZ (by omega) (by omega)) (fun c_231 => ?_) (fun c_231 => ?_)
        ·
          exact absurd c_231 (by omega)
        ·
          refine r_iconst (v := nI 1) hc dX6_readOrder_234 rfl ?_
          refine r_goto (tgt := 239) hc dX6_readOrder_235 (by decide) ?_
          have hE : pO p ln t = p1 (pB p ln 48 57 (t + 1)) := by unfold pO; rw [if_neg (show ¬ sgn p ln t = 107 by omega), if_neg (show ¬ sgn p ln t = 99 by omega), if_neg (show ¬ sgn p ln t = 116 by omega), if_neg (show ¬ sgn p ln t = 112 by omega), if_pos (show sgn p ln t = 103 by omega)]
          rw [hE] at hR
          exact hR _ _ ⟨_, rfl, bI_t hb220, by rw [hat]; rfl, fun _ => ⟨ho0, fun e => absurd e (by omega), fun e => absurd e (by omega), fun _ => ho1⟩, ⟨fun q q1 q2 => by rw [← hσ10, s2_ne q2, ← hσ9, s2_ne q1, ← hσ8, s2_ne q1, ← hσ1, s2_ne q2], fun k hk => by rw [← hσ10, s2_na (by omega), ← hσ9, s2_nk hk, ← hσ8, s2_nk hk, ← hσ1, s2_na (by omega)]⟩⟩ (nar_bI true) _ _ dX6_readOrder_239
      ·
        rw [show rB (pB p ln 48 57 (t + 1)) = zI (-1) from if_neg hb220]
        generalize hσ11 : s2 σ8 a 4 (nI ((pB p ln 48 57 (t + 1)).2.1)) = σ11
        have hln : σ11 a 1 = nI ln := by rw [← hσ11]; exact s2_keep hln (by omega)
        have hpr : rowAt σ11 (a + 1) ln p := by rw [← hσ11]; exact hpr.keep (by omega) _ _
        have hat : σ11 a 4 = nI ((pB p ln 48 57 (t + 1)).2.1) := by rw [← hσ11]; exact s2_same _ _ _ _
        have ho0 : σ11 o 0 = nI (p t) := by rw [← hσ11]; exact s2_keep ho0 (by omega)
        have ho1 : σ11 o 1 = x1 := by rw [← hσ11]; exact s2_keep ho1 (by omega)
        have ho2 : σ11 o 2 = x2 := by rw [← hσ11]; exact s2_keep ho2 (by omega)
        have ho3 : σ11 o 3 = x3 := by rw [← hσ11]; exact s2_keep ho3 (by omega)
        refine pf_X6_68 hc hso dX6_readOrder_223 ?_
        generalize hσ12 : s2 σ11 o 1 (zI (-1)) = σ12
        have hln : σ12 a 1 = nI ln := by rw [← hσ12]; exact s2_keep hln (by omega)
        have hpr : rowAt σ12 (a + 1) ln p := by rw [← hσ12]; exact hpr.keep (by omega) _ _
        have hat : σ12 a 4 = nI ((pB p ln 48 57 (t + 1)).2.1) := by rw [← hσ12]; exact s2_keep hat (by omega)
        have ho0 : σ12 o 0 = nI (p t) := by rw [← hσ12]; exact s2_keep ho0 (by omega)
        have ho1 : σ12 o 1 = zI (-1) := by rw [← hσ12]; exact s2_same _ _ _ _
        have ho2 : σ12 o 2 = x2 := by rw [← hσ12]; exact s2_keep ho2 (by omega)
        have ho3 : σ12 o 3 = x3 := by rw [← hσ12]; exact s2_keep ho3 (by omega)
        refine r_aload_n hc dX6_readOrder_226 rfl ?_
        refine gf_X6_68 (x := zI (-1)) hc hso ho1 dX6_readOrder_227 ?_
        refine r_iconst (v := zI (-1)) hc dX6_readOrder_230 rfl ?_
        refine r_icmp_eq (tgt := 238) hc dX6_readOrder_231 (by decide) (eq_ZZ (by omega) (by omega)) (fun c_231 => ?_) (fun c_231 => ?_)
        ·
          refine r_iconst (v := nI 0) hc dX6_readOrder_238 rfl ?_
          have hE : pO p ln t = p1 (pB p ln 48 57 (t + 1)) := by unfold pO; rw [if_neg (show ¬ sgn p ln t = 107 by omega), if_neg (show ¬ sgn p ln t = 99 by omega), if_neg (show ¬ sgn p ln t = 116 by omega), if_neg (show ¬ sgn p ln t = 112 by omega), if_pos (show sgn p ln t = 103 by omega)]
          rw [hE] at hR
          exact hR _ _ ⟨_, rfl, bI_f (Bool.eq_false_iff.mpr hb220), by rw [hat]; rfl, fun q => absurd q hb220, ⟨fun q q1 q2 => by rw [← hσ12, s2_ne q2, ← hσ11, s2_ne q1, ← hσ8, s2_ne q1, ← hσ1, s2_ne q2], fun k hk => by rw [← hσ12, s2_na (by omega), ← hσ11, s2_nk hk, ← hσ8, s2_nk hk, ← hσ1, s2_na (by omega)]⟩⟩ (nar_bI false) _ _ dX6_readOrder_239
        ·
          exact absurd rfl c_231
    ·
      refine r_tableIn (off := 242) (tgt := 272) hc dX6_readOrder_30 (by rw [zI_toInt (by omega) (by omega)]; omega) (by rw [zI_toInt (by omega) (by omega)]; omega) (by rw [zI_toInt (by omega) (by omega), c_30]; rfl) (by decide) ?_
      refine r_iconst (v := nI 0) hc dX6_readOrder_272 rfl ?_
      have hE : pO p ln t = (false, t, 0, 0, 0) := by unfold pO; rw [if_neg (show ¬ sgn p ln t = 107 by omega), if_neg (show ¬ sgn p ln t = 99 by omega), if_neg (show ¬ sgn p ln t = 116 by omega), if_neg (show ¬ sgn p ln t = 112 by omega), if_neg (show ¬ sgn p ln t = 103 by omega), if_neg (show ¬ sgn p ln t = 98 by omega)]
      rw [hE] at hR
      exact hR _ _ ⟨_, rfl, rfl, hat, fun q => Bool.noConfusion q, ⟨fun q q1 q2 => by rw [← hσ1, s2_ne q2], fun k hk => by rw [← hσ1, s2_na (by omega)]⟩⟩ (nar_bI false) _ _ dX6_readOrder_273
    ·
      refine r_tableIn (off := 242) (tgt := 272) hc dX6_readOrder_30 (by rw [zI_toInt (by omega) (by omega)]; omega) (by rw [zI_toInt (by omega) (by omega)]; omega) (by rw [zI_toInt (by omega) (by omega), c_30]; rfl) (by decide) ?_
      refine r_iconst (v := nI 0) hc dX6_readOrder_272 rfl ?_
      have hE : pO p ln t = (false, t, 0, 0, 0) := by unfold pO; rw [if_neg (show ¬ sgn p ln t = 107 by omega), if_neg (show ¬ sgn p ln t = 99 by omega), if_neg (show ¬ sgn p ln t = 116 by omega), if_neg (show ¬ sgn p ln t = 112 by omega), if_neg (show ¬ sgn p ln t = 103 by omega), if_neg (show ¬ sgn p ln t = 98 by omega)]
      rw [hE] at hR
      exact hR _ _ ⟨_, rfl, rfl, hat, fun q => Bool.noConfusion q, ⟨fun q q1 q2 => by rw [← hσ1, s2_ne q2], fun k hk => by rw [← hσ1, s2_na (by omega)]⟩⟩ (nar_bI false) _ _ dX6_readOrder_273
    ·
      refine r_tableIn (off := 242) (tgt := 272) hc dX6_readOrder_30 (by rw [zI_toInt (by omega) (by omega)]; omega) (by rw [zI_toInt (by omega) (by omega)]; omega) (by rw [zI_toInt (by omega) (by omega), c_30]; rfl) (by decide) ?_
      refine r_iconst (v := nI 0) hc dX6_readOrder_272 rfl ?_
      have hE : pO p ln t = (false, t, 0, 0, 0) := by unfold pO; rw [if_neg (show ¬ sgn p ln t = 107 by omega), if_neg (show ¬ sgn p ln t = 99 by omega), if_neg (show ¬ sgn p ln t = 116 by omega), if_neg (show ¬ sgn p ln t = 112 by omega), if_neg (show ¬ sgn p ln t = 103 by omega), if_neg (show ¬ sgn p ln t = 98 by omega)]
      rw [hE] at hR
      exact hR _ _ ⟨_, rfl, rfl, hat, fun q => Bool.noConfusion q, ⟨fun q q1 q2 => by rw [← hσ1, s2_ne q2], fun k hk => by rw [← hσ1, s2_na (by omega)]⟩⟩ (nar_bI false) _ _ dX6_readOrder_273
    ·
      refine r_tableIn (off := 90) (tgt := 120) hc dX6_readOrder_30 (by rw [zI_toInt (by omega) (by omega)]; omega) (by rw [zI_toInt (by omega) (by omega)]; omega) (by rw [zI_toInt (by omega) (by omega), c_30]; rfl) (by decide) ?_
      refine r_aload_n hc dX6_readOrder_120 rfl ?_
      refine r_dup hc dX6_readOrder_121 rfl ?_
      refine gf_X6_36 (x := nI t) hc hK.1.1 hat dX6_readOrder_122 ?_
      refine r_iconst (v := nI 1) hc dX6_readOrder_125 rfl ?_
      refine r_iadd (v := nI (t + 1)) hc dX6_readOrder_126 (ad_NN _ _) ?_
      refine pf_X6_36 hc hK.1.1 dX6_readOrder_127 ?_
      generalize hσ13 : s2 σ1 a 4 (nI (t + 1)) = σ13
      have hln : σ13 a 1 = nI ln := by rw [← hσ13]; exact s2_keep hln (by omega)
      have hpr : rowAt σ13 (a + 1) ln p := by rw [← hσ13]; exact hpr.keep (by omega) _ _
      have hat : σ13 a 4 = nI (t + 1) := by rw [← hσ13]; exact s2_same _ _ _ _
      have ho0 : σ13 o 0 = nI (p t) := by rw [← hσ13]; exact s2_keep ho0 (by omega)
      have ho1 : σ13 o 1 = x1 := by rw [← hσ13]; exact s2_keep ho1 (by omega)
      have ho2 : σ13 o 2 = x2 := by rw [← hσ13]; exact s2_keep ho2 (by omega)
      have ho3 : σ13 o 3 = x3 := by rw [← hσ13]; exact s2_keep ho3 (by omega)
      refine r_aload_n hc dX6_readOrder_130 rfl ?_
      refine r_aload_n hc dX6_readOrder_131 rfl ?_
      refine cl_X6_54 (As := []) hc (c_X6_readCuts hK hln hpr hl80 hp (t := t + 1) hat (by omega)) hK.1.1 rfl ⟨by decide, by decide⟩ ⟨rfl, rfl⟩ ⟨by decide, by decide⟩ rfl (Nat.le_of_ble_eq_true rfl) dX6_readOrder_132 (fun r u hcl => ?_)
      obtain ⟨hrr, hu⟩ := hcl
      rw [hu, hrr]
      by_cases hb132 : (pC p ln 4 0 (t + 1)).1 = true
      ·
        rw [show rB (pC p ln 4 0 (t + 1)) = nI (pC p ln 4 0 (t + 1)).2.2 from if_pos hb132]
        generalize hσ14 : s2 σ13 a 4 (nI ((pC p ln 4 0 (t + 1)).2.1)) = σ14
        have hln : σ14 a 1 = nI ln := by rw [← hσ14]; exact s2_keep hln (by omega)
        have hpr : rowAt σ14 (a + 1) ln p := by rw [← hσ14]; exact hpr.keep (by omega) _ _
        have hat : σ14 a 4 = nI ((pC p ln 4 0 (t + 1)).2.1) := by rw [← hσ14]; exact s2_same _ _ _ _
        have ho0 : σ14 o 0 = nI (p t) := by rw [← hσ14]; exact s2_keep ho0 (by omega)
        have ho1 : σ14 o 1 = x1 := by rw [← hσ14]; exact s2_keep ho1 (by omega)
        have ho2 : σ14 o 2 = x2 := by rw [← hσ14]; exact s2_keep ho2 (by omega)
        have ho3 : σ14 o 3 = x3 := by rw [← hσ14]; exact s2_keep ho3 (by omega)
        have hcp132 := pC_ok 4 0 (t + 1) hb132 (by omega)
        refine pf_X6_58 hc hso dX6_readOrder_135 ?_
        generalize hσ15 : s2 σ14 o 2 (nI ((pC p ln 4 0 (t + 1)).2.2)) = σ15
        have hln : σ15 a 1 = nI ln := by rw [← hσ15]; exact s2_keep hln (by omega)
        have hpr : rowAt σ15 (a + 1) ln p := by rw [← hσ15]; exact hpr.keep (by omega) _ _
        have hat : σ15 a 4 = nI ((pC p ln 4 0 (t + 1)).2.1) := by rw [← hσ15]; exact s2_keep hat (by omega)
        have ho0 : σ15 o 0 = nI (p t) := by rw [← hσ15]; exact s2_keep ho0 (by omega)
        have ho1 : σ15 o 1 = x1 := by rw [← hσ15]; exact s2_keep ho1 (by omega)
        have ho2 : σ15 o 2 = nI ((pC p ln 4 0 (t + 1)).2.2) := by rw [← hσ15]; exact s2_same _ _ _ _
        have ho3 : σ15 o 3 = x3 := by rw [← hσ15]; exact s2_keep ho3 (by omega)
        refine r_aload_n hc dX6_readOrder_138 rfl ?_
        refine gf_X6_58 (x := nI ((pC p ln 4 0 (t + 1)).2.2)) hc hso ho2 dX6_readOrder_139 ?_
        refine r_iconst (v := zI (-1)) hc dX6_readOrder_142 rfl ?_
        refine r_icmp_eq (tgt := 150) hc dX6_readOrder_143 (by decide) (eq_NZ (by omega) (by omega)) (fun c_143 => ?_) (fun c_143 => ?_)
        ·
          exact absurd c_143 (by omega)
        ·
          refine r_iconst (v := nI 1) hc dX6_readOrder_146 rfl ?_
          refine r_goto (tgt := 151) hc dX6_readOrder_147 (by decide) ?_
          have hE : pO p ln t = p1 (pC p ln 4 0 (t + 1)) := by unfold pO; rw [if_pos (show sgn p ln t = 107 by omega)]
          rw [hE] at hR
          exact hR _ _ ⟨_, rfl, bI_t hb132, by rw [hat]; rfl, fun _ => ⟨ho0, fun _ => ho2, fun e => absurd e (by omega), fun e => absurd e (by omega)⟩, ⟨fun q q1 q2 => by rw [← hσ15, s2_ne q2, ← hσ14, s2_ne q1, ← hσ13, s2_ne q1, ← hσ1, s2_ne q2], fun k hk => by rw [← hσ15, s2_na (by omega), ← hσ14, s2_nk hk, ← hσ13, s2_nk hk, ← hσ1, s2_na (by omega)]⟩⟩ (nar_bI true) _ _ dX6_readOrder_151
      ·
        rw [show rB (pC p ln 4 0 (t + 1)) = zI (-1) from if_neg hb132]
        generalize hσ16 : s2 σ13 a 4 (nI ((pC p ln 4 0 (t + 1)).2.1)) = σ16
        have hln : σ16 a 1 = nI ln := by rw [← hσ16]; exact s2_keep hln (by omega)
        have hpr : rowAt σ16 (a + 1) ln p := by rw [← hσ16]; exact hpr.keep (by omega) _ _
        have hat : σ16 a 4 = nI ((pC p ln 4 0 (t + 1)).2.1) := by rw [← hσ16]; exact s2_same _ _ _ _
        have ho0 : σ16 o 0 = nI (p t) := by rw [← hσ16]; exact s2_keep ho0 (by omega)
        have ho1 : σ16 o 1 = x1 := by rw [← hσ16]; exact s2_keep ho1 (by omega)
        have ho2 : σ16 o 2 = x2 := by rw [← hσ16]; exact s2_keep ho2 (by omega)
        have ho3 : σ16 o 3 = x3 := by rw [← hσ16]; exact s2_keep ho3 (by omega)
        have hcp132 := pC_no (p := p) (ln := ln) 4 0 (t + 1) (by omega)
        refine pf_X6_58 hc hso dX6_readOrder_135 ?_
        generalize hσ17 : s2 σ16 o 2 (zI (-1)) = σ17
        have hln : σ17 a 1 = nI ln := by rw [← hσ17]; exact s2_keep hln (by omega)
        have hpr : rowAt σ17 (a + 1) ln p := by rw [← hσ17]; exact hpr.keep (by omega) _ _
        have hat : σ17 a 4 = nI ((pC p ln 4 0 (t + 1)).2.1) := by rw [← hσ17]; exact s2_keep hat (by omega)
        have ho0 : σ17 o 0 = nI (p t) := by rw [← hσ17]; exact s2_keep ho0 (by omega)
        have ho1 : σ17 o 1 = x1 := by rw [← hσ17]; exact s2_keep ho1 (by omega)
        have ho2 : σ17 o 2 = zI (-1) := by rw [← hσ17]; exact s2_same _ _ _ _
        have ho3 : σ17 o 3 = x3 := by rw [← hσ17]; exact s2_keep ho3 (by omega)
        refine r_aload_n hc dX6_readOrder_138 rfl ?_
        refine gf_X6_58 (x := zI (-1)) hc hso ho2 dX6_readOrder_139 ?_
        refine r_iconst (v := zI (-1)) hc dX6_readOrder_142 rfl ?_
        refine r_icmp_eq (tgt := 150) hc dX6_readOrder_143 (by decide) (eq_ZZ (by omega) (by omega)) (fun c_143 => ?_) (fun c_143 => ?_)
        ·
          refine r_iconst (v := nI 0) hc dX6_readOrder_150 rfl ?_
          have hE : pO p ln t = p1 (pC p ln 4 0 (t + 1)) := by unfold pO; rw [if_pos (show sgn p ln t = 107 by omega)]
          rw [hE] at hR
          exact hR _ _ ⟨_, rfl, bI_f (Bool.eq_false_iff.mpr hb132), by rw [hat]; rfl, fun q => absurd q hb132, ⟨fun q q1 q2 => by rw [← hσ17, s2_ne q2, ← hσ16, s2_ne q1, ← hσ13, s2_ne q1, ← hσ1, s2_ne q2], fun k hk => by rw [← hσ17, s2_na (by omega), ← hσ16, s2_nk hk, ← hσ13, s2_nk hk, ← hσ1, s2_na (by omega)]⟩⟩ (nar_bI false) _ _ dX6_readOrder_151
        ·
          exact absurd rfl c_143
    ·
      refine r_tableIn (off := 242) (tgt := 272) hc dX6_readOrder_30 (by rw [zI_toInt (by omega) (by omega)]; omega) (by rw [zI_toInt (by omega) (by omega)]; omega) (by rw [zI_toInt (by omega) (by omega), c_30]; rfl) (by decide) ?_
      refine r_iconst (v := nI 0) hc dX6_readOrder_272 rfl ?_
      have hE : pO p ln t = (false, t, 0, 0, 0) := by unfold pO; rw [if_neg (show ¬ sgn p ln t = 107 by omega), if_neg (show ¬ sgn p ln t = 99 by omega), if_neg (show ¬ sgn p ln t = 116 by omega), if_neg (show ¬ sgn p ln t = 112 by omega), if_neg (show ¬ sgn p ln t = 103 by omega), if_neg (show ¬ sgn p ln t = 98 by omega)]
      rw [hE] at hR
      exact hR _ _ ⟨_, rfl, rfl, hat, fun q => Bool.noConfusion q, ⟨fun q q1 q2 => by rw [← hσ1, s2_ne q2], fun k hk => by rw [← hσ1, s2_na (by omega)]⟩⟩ (nar_bI false) _ _ dX6_readOrder_273
    ·
      refine r_tableIn (off := 242) (tgt := 272) hc dX6_readOrder_30 (by rw [zI_toInt (by omega) (by omega)]; omega) (by rw [zI_toInt (by omega) (by omega)]; omega) (by rw [zI_toInt (by omega) (by omega), c_30]; rfl) (by decide) ?_
      refine r_iconst (v := nI 0) hc dX6_readOrder_272 rfl ?_
      have hE : pO p ln t = (false, t, 0, 0, 0) := by unfold pO; rw [if_neg (show ¬ sgn p ln t = 107 by omega), if_neg (show ¬ sgn p ln t = 99 by omega), if_neg (show ¬ sgn p ln t = 116 by omega), if_neg (show ¬ sgn p ln t = 112 by omega), if_neg (show ¬ sgn p ln t = 103 by omega), if_neg (show ¬ sgn p ln t = 98 by omega)]
      rw [hE] at hR
      exact hR _ _ ⟨_, rfl, rfl, hat, fun q => Bool.noConfusion q, ⟨fun q q1 q2 => by rw [← hσ1, s2_ne q2], fun k hk => by rw [← hσ1, s2_na (by omega)]⟩⟩ (nar_bI false) _ _ dX6_readOrder_273
    ·
      refine r_tableIn (off := 242) (tgt := 272) hc dX6_readOrder_30 (by rw [zI_toInt (by omega) (by omega)]; omega) (by rw [zI_toInt (by omega) (by omega)]; omega) (by rw [zI_toInt (by omega) (by omega), c_30]; rfl) (by decide) ?_
      refine r_iconst (v := nI 0) hc dX6_readOrder_272 rfl ?_
      have hE : pO p ln t = (false, t, 0, 0, 0) := by unfold pO; rw [if_neg (show ¬ sgn p ln t = 107 by omega), if_neg (show ¬ sgn p ln t = 99 by omega), if_neg (show ¬ sgn p ln t = 116 by omega), if_neg (show ¬ sgn p ln t = 112 by omega), if_neg (show ¬ sgn p ln t = 103 by omega), if_neg (show ¬ sgn p ln t = 98 by omega)]
      rw [hE] at hR
      exact hR _ _ ⟨_, rfl, rfl, hat, fun q => Bool.noConfusion q, ⟨fun q q1 q2 => by rw [← hσ1, s2_ne q2], fun k hk => by rw [← hσ1, s2_na (by omega)]⟩⟩ (nar_bI false) _ _ dX6_readOrder_273
    ·
      refine r_tableIn (off := 242) (tgt := 272) hc dX6_readOrder_30 (by rw [zI_toInt (by omega) (by omega)]; omega) (by rw [zI_toInt (by omega) (by omega)]; omega) (by rw [zI_toInt (by omega) (by omega), c_30]; rfl) (by decide) ?_
      refine r_iconst (v := nI 0) hc dX6_readOrder_272 rfl ?_
      have hE : pO p ln t = (false, t, 0, 0, 0) := by unfold pO; rw [if_neg (show ¬ sgn p ln t = 107 by omega), if_neg (show ¬ sgn p ln t = 99 by omega), if_neg (show ¬ sgn p ln t = 116 by omega), if_neg (show ¬ sgn p ln t = 112 by omega), if_neg (show ¬ sgn p ln t = 103 by omega), if_neg (show ¬ sgn p ln t = 98 by omega)]
      rw [hE] at hR
      exact hR _ _ ⟨_, rfl, rfl, hat, fun q => Bool.noConfusion q, ⟨fun q q1 q2 => by rw [← hσ1, s2_ne q2], fun k hk => by rw [← hσ1, s2_na (by omega)]⟩⟩ (nar_bI false) _ _ dX6_readOrder_273
    ·
      refine r_tableIn (off := 138) (tgt := 168) hc dX6_readOrder_30 (by rw [zI_toInt (by omega) (by omega)]; omega) (by rw [zI_toInt (by omega) (by omega)]; omega) (by rw [zI_toInt (by omega) (by omega), c_30]; rfl) (by decide) ?_
      refine r_aload_n hc dX6_readOrder_168 rfl ?_
      refine r_dup hc dX6_readOrder_169 rfl ?_
      refine gf_X6_36 (x := nI t) hc hK.1.1 hat dX6_readOrder_170 ?_
      refine r_iconst (v := nI 1) hc dX6_readOrder_173 rfl ?_
      refine r_iadd (v := nI (t + 1)) hc dX6_readOrder_174 (ad_NN _ _) ?_
      refine pf_X6_36 hc hK.1.1 dX6_readOrder_175 ?_
      generalize hσ18 : s2 σ1 a 4 (nI (t + 1)) = σ18
      have hln : σ18 a 1 = nI ln := by rw [← hσ18]; exact s2_keep hln (by omega)
      have hpr : rowAt σ18 (a + 1) ln p := by rw [← hσ18]; exact hpr.keep (by omega) _ _
      have hat : σ18 a 4 = nI (t + 1) := by rw [← hσ18]; exact s2_same _ _ _ _
      have ho0 : σ18 o 0 = nI (p t) := by rw [← hσ18]; exact s2_keep ho0 (by omega)
      have ho1 : σ18 o 1 = x1 := by rw [← hσ18]; exact s2_keep ho1 (by omega)
      have ho2 : σ18 o 2 = x2 := by rw [← hσ18]; exact s2_keep ho2 (by omega)
      have ho3 : σ18 o 3 = x3 := by rw [← hσ18]; exact s2_keep ho3 (by omega)
      refine r_aload_n hc dX6_readOrder_178 rfl ?_
      refine r_aload_n hc dX6_readOrder_179 rfl ?_
      refine r_bipush (v := nI 65) hc dX6_readOrder_180 rfl ?_
      refine r_bipush (v := nI 80) hc dX6_readOrder_182 rfl ?_
      refine cl_X6_64 (As := [.int (nI 65), .int (nI 80)]) hc (c_X6_readBetween hK hln hpr hl80 hp (t := t + 1) hat (by omega) (lo := 65) (hi := 80) (by omega)) hK.1.1 rfl ⟨by decide, by decide⟩ ⟨rfl, rfl⟩ ⟨by decide, by decide⟩ rfl (Nat.le_of_ble_eq_true rfl) dX6_readOrder_184 (fun r u hcl => ?_)
      obtain ⟨hrr, hu⟩ := hcl
      rw [hu, hrr]
      by_cases hb184 : (pB p ln 65 80 (t + 1)).1 = true
      ·
        rw [show rB (pB p ln 65 80 (t + 1)) = nI (pB p ln 65 80 (t + 1)).2.2 from if_pos hb184]
        generalize hσ19 : s2 σ18 a 4 (nI ((pB p ln 65 80 (t + 1)).2.1)) = σ19
        have hln : σ19 a 1 = nI ln := by rw [← hσ19]; exact s2_keep hln (by omega)
        have hpr : rowAt σ19 (a + 1) ln p := by rw [← hσ19]; exact hpr.keep (by omega) _ _
        have hat : σ19 a 4 = nI ((pB p ln 65 80 (t + 1)).2.1) := by rw [← hσ19]; exact s2_same _ _ _ _
        have ho0 : σ19 o 0 = nI (p t) := by rw [← hσ19]; exact s2_keep ho0 (by omega)
        have ho1 : σ19 o 1 = x1 := by rw [← hσ19]; exact s2_keep ho1 (by omega)
        have ho2 : σ19 o 2 = x2 := by rw [← hσ19]; exact s2_keep ho2 (by omega)
        have ho3 : σ19 o 3 = x3 := by rw [← hσ19]; exact s2_keep ho3 (by omega)
        have hbo := pB_ok hb184
        have hbt : (pB p ln 65 80 (t + 1)).2.1 = (t + 1) + 1 := by rw [hbo.2]
        have hbv : (pB p ln 65 80 (t + 1)).2.2 = sgn p ln (t + 1) - 65 := by rw [hbo.2]
        have hbl := sgn_pos (p := p) (ln := ln) (t := (t + 1)) (by omega)
        refine pf_X6_68 hc hso dX6_readOrder_187 ?_
        generalize hσ20 : s2 σ19 o 1 (nI ((pB p ln 65 80 (t + 1)).2.2)) = σ20
        have hln : σ20 a 1 = nI ln := by rw [← hσ20]; exact s2_keep hln (by omega)
        have hpr : rowAt σ20 (a + 1) ln p := by rw [← hσ20]; exact hpr.keep (by omega) _ _
        have hat : σ20 a 4 = nI ((pB p ln 65 80 (t + 1)).2.1) := by rw [← hσ20]; exact s2_keep hat (by omega)
        have ho0 : σ20 o 0 = nI (p t) := by rw [← hσ20]; exact s2_keep ho0 (by omega)
        have ho1 : σ20 o 1 = nI ((pB p ln 65 80 (t + 1)).2.2) := by rw [← hσ20]; exact s2_same _ _ _ _
        have ho2 : σ20 o 2 = x2 := by rw [← hσ20]; exact s2_keep ho2 (by omega)
        have ho3 : σ20 o 3 = x3 := by rw [← hσ20]; exact s2_keep ho3 (by omega)
        refine r_aload_n hc dX6_readOrder_190 rfl ?_
        refine gf_X6_68 (x := nI ((pB p ln 65 80 (t + 1)).2.2)) hc hso ho1 dX6_readOrder_191 ?_
        refine r_iconst (v := zI (-1)) hc dX6_readOrder_194 rfl ?_
        refine r_icmp_eq (tgt := 202) hc dX6_readOrder_195 (by decide) (eq_NZ (by omega) (by omega)) (fun c_195 => ?_) (fun c_195 => ?_)
        ·
          exact absurd c_195 (by omega)
        ·
          refine r_iconst (v := nI 1) hc dX6_readOrder_198 rfl ?_
          refine r_goto (tgt := 203) hc dX6_readOrder_199 (by decide) ?_
          have hE : pO p ln t = p1 (pB p ln 65 80 (t + 1)) := by unfold pO; rw [if_neg (show ¬ sgn p ln t = 107 by omega), if_neg (show ¬ sgn p ln t = 99 by omega), if_neg (show ¬ sgn p ln t = 116 by omega), if_pos (show sgn p ln t = 112 by omega)]
          rw [hE] at hR
          exact hR _ _ ⟨_, rfl, bI_t hb184, by rw [hat]; rfl, fun _ => ⟨ho0, fun e => absurd e (by omega), fun e => absurd e (by omega), fun _ => ho1⟩, ⟨fun q q1 q2 => by rw [← hσ20, s2_ne q2, ← hσ19, s2_ne q1, ← hσ18, s2_ne q1, ← hσ1, s2_ne q2], fun k hk => by rw [← hσ20, s2_na (by omega), ← hσ19, s2_nk hk, ← hσ18, s2_nk hk, ← hσ1, s2_na (by omega)]⟩⟩ (nar_bI true) _ _ dX6_readOrder_203
      ·
        rw [show rB (pB p ln 65 80 (t + 1)) = zI (-1) from if_neg hb184]
        generalize hσ21 : s2 σ18 a 4 (nI ((pB p ln 65 80 (t + 1)).2.1)) = σ21
        have hln : σ21 a 1 = nI ln := by rw [← hσ21]; exact s2_keep hln (by omega)
        have hpr : rowAt σ21 (a + 1) ln p := by rw [← hσ21]; exact hpr.keep (by omega) _ _
        have hat : σ21 a 4 = nI ((pB p ln 65 80 (t + 1)).2.1) := by rw [← hσ21]; exact s2_same _ _ _ _
        have ho0 : σ21 o 0 = nI (p t) := by rw [← hσ21]; exact s2_keep ho0 (by omega)
        have ho1 : σ21 o 1 = x1 := by rw [← hσ21]; exact s2_keep ho1 (by omega)
        have ho2 : σ21 o 2 = x2 := by rw [← hσ21]; exact s2_keep ho2 (by omega)
        have ho3 : σ21 o 3 = x3 := by rw [← hσ21]; exact s2_keep ho3 (by omega)
        refine pf_X6_68 hc hso dX6_readOrder_187 ?_
        generalize hσ22 : s2 σ21 o 1 (zI (-1)) = σ22
        have hln : σ22 a 1 = nI ln := by rw [← hσ22]; exact s2_keep hln (by omega)
        have hpr : rowAt σ22 (a + 1) ln p := by rw [← hσ22]; exact hpr.keep (by omega) _ _
        have hat : σ22 a 4 = nI ((pB p ln 65 80 (t + 1)).2.1) := by rw [← hσ22]; exact s2_keep hat (by omega)
        have ho0 : σ22 o 0 = nI (p t) := by rw [← hσ22]; exact s2_keep ho0 (by omega)
        have ho1 : σ22 o 1 = zI (-1) := by rw [← hσ22]; exact s2_same _ _ _ _
        have ho2 : σ22 o 2 = x2 := by rw [← hσ22]; exact s2_keep ho2 (by omega)
        have ho3 : σ22 o 3 = x3 := by rw [← hσ22]; exact s2_keep ho3 (by omega)
        refine r_aload_n hc dX6_readOrder_190 rfl ?_
        refine gf_X6_68 (x := zI (-1)) hc hso ho1 dX6_readOrder_191 ?_
        refine r_iconst (v := zI (-1)) hc dX6_readOrder_194 rfl ?_
        refine r_icmp_eq (tgt := 202) hc dX6_readOrder_195 (by decide) (eq_ZZ (by omega) (by omega)) (fun c_195 => ?_) (fun c_195 => ?_)
        ·
          refine r_iconst (v := nI 0) hc dX6_readOrder_202 rfl ?_
          have hE : pO p ln t = p1 (pB p ln 65 80 (t + 1)) := by unfold pO; rw [if_neg (show ¬ sgn p ln t = 107 by omega), if_neg (show ¬ sgn p ln t = 99 by omega), if_neg (show ¬ sgn p ln t = 116 by omega), if_pos (show sgn p ln t = 112 by omega)]
          rw [hE] at hR
          exact hR _ _ ⟨_, rfl, bI_f (Bool.eq_false_iff.mpr hb184), by rw [hat]; rfl, fun q => absurd q hb184, ⟨fun q q1 q2 => by rw [← hσ22, s2_ne q2, ← hσ21, s2_ne q1, ← hσ18, s2_ne q1, ← hσ1, s2_ne q2], fun k hk => by rw [← hσ22, s2_na (by omega), ← hσ21, s2_nk hk, ← hσ18, s2_nk hk, ← hσ1, s2_na (by omega)]⟩⟩ (nar_bI false) _ _ dX6_readOrder_203
        ·
          exact absurd rfl c_195
    ·
      refine r_tableIn (off := 242) (tgt := 272) hc dX6_readOrder_30 (by rw [zI_toInt (by omega) (by omega)]; omega) (by rw [zI_toInt (by omega) (by omega)]; omega) (by rw [zI_toInt (by omega) (by omega), c_30]; rfl) (by decide) ?_
      refine r_iconst (v := nI 0) hc dX6_readOrder_272 rfl ?_
      have hE : pO p ln t = (false, t, 0, 0, 0) := by unfold pO; rw [if_neg (show ¬ sgn p ln t = 107 by omega), if_neg (show ¬ sgn p ln t = 99 by omega), if_neg (show ¬ sgn p ln t = 116 by omega), if_neg (show ¬ sgn p ln t = 112 by omega), if_neg (show ¬ sgn p ln t = 103 by omega), if_neg (show ¬ sgn p ln t = 98 by omega)]
      rw [hE] at hR
      exact hR _ _ ⟨_, rfl, rfl, hat, fun q => Bool.noConfusion q, ⟨fun q q1 q2 => by rw [← hσ1, s2_ne q2], fun k hk => by rw [← hσ1, s2_na (by omega)]⟩⟩ (nar_bI false) _ _ dX6_readOrder_273
    ·
      refine r_tableIn (off := 242) (tgt := 272) hc dX6_readOrder_30 (by rw [zI_toInt (by omega) (by omega)]; omega) (by rw [zI_toInt (by omega) (by omega)]; omega) (by rw [zI_toInt (by omega) (by omega), c_30]; rfl) (by decide) ?_
      refine r_iconst (v := nI 0) hc dX6_readOrder_272 rfl ?_
      have hE : pO p ln t = (false, t, 0, 0, 0) := by unfold pO; rw [if_neg (show ¬ sgn p ln t = 107 by omega), if_neg (show ¬ sgn p ln t = 99 by omega), if_neg (show ¬ sgn p ln t = 116 by omega), if_neg (show ¬ sgn p ln t = 112 by omega), if_neg (show ¬ sgn p ln t = 103 by omega), if_neg (show ¬ sgn p ln t = 98 by omega)]
      rw [hE] at hR
      exact hR _ _ ⟨_, rfl, rfl, hat, fun q => Bool.noConfusion q, ⟨fun q q1 q2 => by rw [← hσ1, s2_ne q2], fun k hk => by rw [← hσ1, s2_na (by omega)]⟩⟩ (nar_bI false) _ _ dX6_readOrder_273
    ·
      refine r_tableIn (off := 242) (tgt := 272) hc dX6_readOrder_30 (by rw [zI_toInt (by omega) (by omega)]; omega) (by rw [zI_toInt (by omega) (by omega)]; omega) (by rw [zI_toInt (by omega) (by omega), c_30]; rfl) (by decide) ?_
      refine r_iconst (v := nI 0) hc dX6_readOrder_272 rfl ?_
      have hE : pO p ln t = (false, t, 0, 0, 0) := by unfold pO; rw [if_neg (show ¬ sgn p ln t = 107 by omega), if_neg (show ¬ sgn p ln t = 99 by omega), if_neg (show ¬ sgn p ln t = 116 by omega), if_neg (show ¬ sgn p ln t = 112 by omega), if_neg (show ¬ sgn p ln t = 103 by omega), if_neg (show ¬ sgn p ln t = 98 by omega)]
      rw [hE] at hR
      exact hR _ _ ⟨_, rfl, rfl, hat, fun q => Bool.noConfusion q, ⟨fun q q1 q2 => by rw [← hσ1, s2_ne q2], fun k hk => by rw [← hσ1, s2_na (by omega)]⟩⟩ (nar_bI false) _ _ dX6_readOrder_273
    ·
      refine r_tableIn (off := 138) (tgt := 168) hc dX6_readOrder_30 (by rw [zI_toInt (by omega) (by omega)]; omega) (by rw [zI_toInt (by omega) (by omega)]; omega) (by rw [zI_toInt (by omega) (by omega), c_30]; rfl) (by decide) ?_
      refine r_aload_n hc dX6_readOrder_168 rfl ?_
      refine r_dup hc dX6_readOrder_169 rfl ?_
      refine gf_X6_36 (x := nI t) hc hK.1.1 hat dX6_readOrder_170 ?_
      refine r_iconst (v := nI 1) hc dX6_readOrder_173 rfl ?_
      refine r_iadd (v := nI (t + 1)) hc dX6_readOrder_174 (ad_NN _ _) ?_
      refine pf_X6_36 hc hK.1.1 dX6_readOrder_175 ?_
      generalize hσ23 : s2 σ1 a 4 (nI (t + 1)) = σ23
      have hln : σ23 a 1 = nI ln := by rw [← hσ23]; exact s2_keep hln (by omega)
      have hpr : rowAt σ23 (a + 1) ln p := by rw [← hσ23]; exact hpr.keep (by omega) _ _
      have hat : σ23 a 4 = nI (t + 1) := by rw [← hσ23]; exact s2_same _ _ _ _
      have ho0 : σ23 o 0 = nI (p t) := by rw [← hσ23]; exact s2_keep ho0 (by omega)
      have ho1 : σ23 o 1 = x1 := by rw [← hσ23]; exact s2_keep ho1 (by omega)
      have ho2 : σ23 o 2 = x2 := by rw [← hσ23]; exact s2_keep ho2 (by omega)
      have ho3 : σ23 o 3 = x3 := by rw [← hσ23]; exact s2_keep ho3 (by omega)
      refine r_aload_n hc dX6_readOrder_178 rfl ?_
      refine r_aload_n hc dX6_readOrder_179 rfl ?_
      refine r_bipush (v := nI 65) hc dX6_readOrder_180 rfl ?_
      refine r_bipush (v := nI 80) hc dX6_readOrder_182 rfl ?_
      refine cl_X6_64 (As := [.int (nI 65), .int (nI 80)]) hc (c_X6_readBetween hK hln hpr hl80 hp (t := t + 1) hat (by omega) (lo := 65) (hi := 80) (by omega)) hK.1.1 rfl ⟨by decide, by decide⟩ ⟨rfl, rfl⟩ ⟨by decide, by decide⟩ rfl (Nat.le_of_ble_eq_true rfl) dX6_readOrder_184 (fun r u hcl => ?_)
      obtain ⟨hrr, hu⟩ := hcl
      rw [hu, hrr]
      by_cases hb184 : (pB p ln 65 80 (t + 1)).1 = true
      ·
        rw [show rB (pB p ln 65 80 (t + 1)) = nI (pB p ln 65 80 (t + 1)).2.2 from if_pos hb184]
        generalize hσ24 : s2 σ23 a 4 (nI ((pB p ln 65 80 (t + 1)).2.1)) = σ24
        have hln : σ24 a 1 = nI ln := by rw [← hσ24]; exact s2_keep hln (by omega)
        have hpr : rowAt σ24 (a + 1) ln p := by rw [← hσ24]; exact hpr.keep (by omega) _ _
        have hat : σ24 a 4 = nI ((pB p ln 65 80 (t + 1)).2.1) := by rw [← hσ24]; exact s2_same _ _ _ _
        have ho0 : σ24 o 0 = nI (p t) := by rw [← hσ24]; exact s2_keep ho0 (by omega)
        have ho1 : σ24 o 1 = x1 := by rw [← hσ24]; exact s2_keep ho1 (by omega)
        have ho2 : σ24 o 2 = x2 := by rw [← hσ24]; exact s2_keep ho2 (by omega)
        have ho3 : σ24 o 3 = x3 := by rw [← hσ24]; exact s2_keep ho3 (by omega)
        have hbo := pB_ok hb184
        have hbt : (pB p ln 65 80 (t + 1)).2.1 = (t + 1) + 1 := by rw [hbo.2]
        have hbv : (pB p ln 65 80 (t + 1)).2.2 = sgn p ln (t + 1) - 65 := by rw [hbo.2]
        have hbl := sgn_pos (p := p) (ln := ln) (t := (t + 1)) (by omega)
        refine pf_X6_68 hc hso dX6_readOrder_187 ?_
        generalize hσ25 : s2 σ24 o 1 (nI ((pB p ln 65 80 (t + 1)).2.2)) = σ25
        have hln : σ25 a 1 = nI ln := by rw [← hσ25]; exact s2_keep hln (by omega)
        have hpr : rowAt σ25 (a + 1) ln p := by rw [← hσ25]; exact hpr.keep (by omega) _ _
        have hat : σ25 a 4 = nI ((pB p ln 65 80 (t + 1)).2.1) := by rw [← hσ25]; exact s2_keep hat (by omega)
        have ho0 : σ25 o 0 = nI (p t) := by rw [← hσ25]; exact s2_keep ho0 (by omega)
        have ho1 : σ25 o 1 = nI ((pB p ln 65 80 (t + 1)).2.2) := by rw [← hσ25]; exact s2_same _ _ _ _
        have ho2 : σ25 o 2 = x2 := by rw [← hσ25]; exact s2_keep ho2 (by omega)
        have ho3 : σ25 o 3 = x3 := by rw [← hσ25]; exact s2_keep ho3 (by omega)
        refine r_aload_n hc dX6_readOrder_190 rfl ?_
        refine gf_X6_68 (x := nI ((pB p ln 65 80 (t + 1)).2.2)) hc hso ho1 dX6_readOrder_191 ?_
        refine r_iconst (v := zI (-1)) hc dX6_readOrder_194 rfl ?_
        refine r_icmp_eq (tgt := 202) hc dX6_readOrder_195 (by decide) (eq_NZ (by omega) (by omega)) (fun c_195 => ?_) (fun c_195 => ?_)
        ·
          exact absurd c_195 (by omega)
        ·
          refine r_iconst (v := nI 1) hc dX6_readOrder_198 rfl ?_
          refine r_goto (tgt := 203) hc dX6_readOrder_199 (by decide) ?_
          have hE : pO p ln t = p1 (pB p ln 65 80 (t + 1)) := by unfold pO; rw [if_neg (show ¬ sgn p ln t = 107 by omega), if_neg (show ¬ sgn p ln t = 99 by omega), if_pos (show sgn p ln t = 116 by omega)]
          rw [hE] at hR
          exact hR _ _ ⟨_, rfl, bI_t hb184, by rw [hat]; rfl, fun _ => ⟨ho0, fun e => absurd e (by omega), fun e => absurd e (by omega), fun _ => ho1⟩, ⟨fun q q1 q2 => by rw [← hσ25, s2_ne q2, ← hσ24, s2_ne q1, ← hσ23, s2_ne q1, ← hσ1, s2_ne q2], fun k hk => by rw [← hσ25, s2_na (by omega), ← hσ24, s2_nk hk, ← hσ23, s2_nk hk, ← hσ1, s2_na (by omega)]⟩⟩ (nar_bI true) _ _ dX6_readOrder_203
      ·
        rw [show rB (pB p ln 65 80 (t + 1)) = zI (-1) from if_neg hb184]
        generalize hσ26 : s2 σ23 a 4 (nI ((pB p ln 65 80 (t + 1)).2.1)) = σ26
        have hln : σ26 a 1 = nI ln := by rw [← hσ26]; exact s2_keep hln (by omega)
        have hpr : rowAt σ26 (a + 1) ln p := by rw [← hσ26]; exact hpr.keep (by omega) _ _
        have hat : σ26 a 4 = nI ((pB p ln 65 80 (t + 1)).2.1) := by rw [← hσ26]; exact s2_same _ _ _ _
        have ho0 : σ26 o 0 = nI (p t) := by rw [← hσ26]; exact s2_keep ho0 (by omega)
        have ho1 : σ26 o 1 = x1 := by rw [← hσ26]; exact s2_keep ho1 (by omega)
        have ho2 : σ26 o 2 = x2 := by rw [← hσ26]; exact s2_keep ho2 (by omega)
        have ho3 : σ26 o 3 = x3 := by rw [← hσ26]; exact s2_keep ho3 (by omega)
        refine pf_X6_68 hc hso dX6_readOrder_187 ?_
        generalize hσ27 : s2 σ26 o 1 (zI (-1)) = σ27
        have hln : σ27 a 1 = nI ln := by rw [← hσ27]; exact s2_keep hln (by omega)
        have hpr : rowAt σ27 (a + 1) ln p := by rw [← hσ27]; exact hpr.keep (by omega) _ _
        have hat : σ27 a 4 = nI ((pB p ln 65 80 (t + 1)).2.1) := by rw [← hσ27]; exact s2_keep hat (by omega)
        have ho0 : σ27 o 0 = nI (p t) := by rw [← hσ27]; exact s2_keep ho0 (by omega)
        have ho1 : σ27 o 1 = zI (-1) := by rw [← hσ27]; exact s2_same _ _ _ _
        have ho2 : σ27 o 2 = x2 := by rw [← hσ27]; exact s2_keep ho2 (by omega)
        have ho3 : σ27 o 3 = x3 := by rw [← hσ27]; exact s2_keep ho3 (by omega)
        refine r_aload_n hc dX6_readOrder_190 rfl ?_
        refine gf_X6_68 (x := zI (-1)) hc hso ho1 dX6_readOrder_191 ?_
        refine r_iconst (v := zI (-1)) hc dX6_readOrder_194 rfl ?_
        refine r_icmp_eq (tgt := 202) hc dX6_readOrder_195 (by decide) (eq_ZZ (by omega) (by omega)) (fun c_195 => ?_) (fun c_195 => ?_)
        ·
          refine r_iconst (v := nI 0) hc dX6_readOrder_202 rfl ?_
          have hE : pO p ln t = p1 (pB p ln 65 80 (t + 1)) := by unfold pO; rw [if_neg (show ¬ sgn p ln t = 107 by omega), if_neg (show ¬ sgn p ln t = 99 by omega), if_pos (show sgn p ln t = 116 by omega)]
          rw [hE] at hR
          exact hR _ _ ⟨_, rfl, bI_f (Bool.eq_false_iff.mpr hb184), by rw [hat]; rfl, fun q => absurd q hb184, ⟨fun q q1 q2 => by rw [← hσ27, s2_ne q2, ← hσ26, s2_ne q1, ← hσ23, s2_ne q1, ← hσ1, s2_ne q2], fun k hk => by rw [← hσ27, s2_na (by omega), ← hσ26, s2_nk hk, ← hσ23, s2_nk hk, ← hσ1, s2_na (by omega)]⟩⟩ (nar_bI false) _ _ dX6_readOrder_203
        ·
          exact absurd rfl c_195
  ·
    refine r_iconst (v := nI 0) hc dX6_readOrder_11 rfl ?_
    have hsg : sgn p ln t = 0 := sgn_out (by omega)
    have hE : pO p ln t = (false, t, 0, 0, 0) := by unfold pO; rw [if_neg (show ¬ sgn p ln t = 107 by omega), if_neg (show ¬ sgn p ln t = 99 by omega), if_neg (show ¬ sgn p ln t = 116 by omega), if_neg (show ¬ sgn p ln t = 112 by omega), if_neg (show ¬ sgn p ln t = 103 by omega), if_neg (show ¬ sgn p ln t = 98 by omega)]
    rw [hE] at hR
    exact hR _ _ ⟨_, rfl, rfl, hat, fun q => Bool.noConfusion q, ⟨fun _ _ _ => rfl, fun _ _ => rfl⟩⟩ (nar_bI false) _ _ dX6_readOrder_12
set_option maxRecDepth 100000 in
set_option maxHeartbeats 4000000 in
theorem c_X6_read {Ω : OmT} {z : Nat} {sh : Nat → Option Kd} {σ : Nat → Nat → Int32} {ρ : Nat → Nat → Option Nat} {a : Nat} (hK : PdSh sh ρ a) {p : Nat → Nat} {ln : Nat} (hln : σ a 1 = nI ln) (hpr : rowAt σ (a + 1) ln p) (hl80 : ln ≤ 80) (hp : ∀ j, j < ln → p j < 256) {y3 y4 : Int32} (hy3 : σ a 3 = y3) (hy4 : σ a 4 = y4) : CtI Ω yX6_read cX6_read 2 .int rm_X6_read [.ref a] (z, sh, σ, ρ) (fun r u => ∃ τ : Nat → Nat → Int32, u = (z, sh, τ, ρ) ∧ r = zI (RD p ln).1 ∧ τ a 1 = nI ln ∧ rowAt τ (a + 1) ln p ∧ ((RD p ln).1 = -6 → τ a 3 = nI (RD p ln).2 ∧ (RD p ln).2 ≤ 27 ∧ ∀ j, j < (RD p ln).2 → (pO p ln (psF p ln j)).1 = true ∧ psF p ln j < ln ∧ OrdF τ (a + 3 + j) (p (psF p ln j)) (pO p ln (psF p ln j)).2.2) ∧ (∀ q, (q < a ∨ a + 30 ≤ q) → τ q = σ q) ∧ τ (a + 1) = σ (a + 1) ∧ ∀ k, k ≠ 3 → k ≠ 4 → τ a k = σ a k) := by
  refine CtI.enter (by decide) (Nat.le_of_ble_eq_true rfl) (fun Φ hc hR => ?_)
  show Vw Ω Φ (z, sh, σ, ρ) (0, 0) 0 [(0, .ref a)] []
  refine r_aload_n hc dX6_read_0 rfl ?_
  refine r_iconst (v := nI 0) hc dX6_read_1 rfl ?_
  refine pf_X6_36 hc hK.1.1 dX6_read_2 ?_
  generalize hσ1 : s2 σ a 4 (nI 0) = σ1
  have hln : σ1 a 1 = nI ln := by rw [← hσ1]; exact s2_keep hln (by omega)
  have hpr : rowAt σ1 (a + 1) ln p := by rw [← hσ1]; exact hpr.keep (by omega) _ _
  have hy4 : σ1 a 4 = nI 0 := by rw [← hσ1]; exact s2_same _ _ _ _
  have hy3 : σ1 a 3 = y3 := by rw [← hσ1]; exact s2_keep hy3 (by omega)
  refine r_aload_n hc dX6_read_5 rfl ?_
  refine r_iconst (v := nI 0) hc dX6_read_6 rfl ?_
  refine pf_X6_39 hc hK.1.1 dX6_read_7 ?_
  generalize hσ2 : s2 σ1 a 3 (nI 0) = σ2
  have hln : σ2 a 1 = nI ln := by rw [← hσ2]; exact s2_keep hln (by omega)
  have hpr : rowAt σ2 (a + 1) ln p := by rw [← hσ2]; exact hpr.keep (by omega) _ _
  have hy4 : σ2 a 4 = nI 0 := by rw [← hσ2]; exact s2_keep hy4 (by omega)
  have hy3 : σ2 a 3 = nI 0 := by rw [← hσ2]; exact s2_same _ _ _ _
  refine r_iconst (v := nI 0) hc dX6_read_10 rfl ?_
  refine r_istore_n (ls' := [(1, .int (nI 0)), (0, .ref a)]) hc dX6_read_11 (by decide) rfl ?_
  have loop12 : ∀ (n12 : Nat) (τ : Nat → Nat → Int32) (i : Nat) (t : Nat), (3 * i ≤ t) → (t ≤ ln) → (t = psF p ln i) → (τ a 1 = nI ln) → (rowAt τ (a + 1) ln p) → (τ a 4 = nI t) → (τ a 3 = nI i) → (rdF p ln (28 - i) i t = RD p ln) → (∀ j, j < i → (pO p ln (psF p ln j)).1 = true ∧ psF p ln j < ln ∧ OrdF τ (a + 3 + j) (p (psF p ln j)) (pO p ln (psF p ln j)).2.2) → ((∀ q, (q < a ∨ a + 30 ≤ q) → τ q = σ q) ∧ τ (a + 1) = σ (a + 1) ∧ ∀ k, k ≠ 3 → k ≠ 4 → τ a k = σ a k) → (28 - i) < n12 → Vw Ω Φ (z, sh, τ, ρ) (0, 0) 12 [(0, .ref a), (1, .int (nI i))] [] := by
    intro n12
    induction n12 with
    | zero => intro τ i t hi hti htp hln hpr hat h3 hf hds hfr hm; exact absurd hm (Nat.not_lt_zero _)
    | succ n12 ih12 =>
      intro τ i t hi hti htp hln hpr hat h3 hf hds hfr hm12
      refine r_iload_n hc dX6_read_12 rfl ?_
      refine r_bipush (v := nI 27) hc dX6_read_13 rfl ?_
      refine r_icmp_ge (tgt := 80) hc dX6_read_15 (by decide) (le_NN (by omega) (by omega)) (fun c_15 => ?_) (fun c_15 => ?_)
      ·
        exact absurd c_15 (by omega)
      ·
        refine r_aload_n hc dX6_read_18 rfl ?_
        refine r_aload_n hc dX6_read_19 rfl ?_
        refine gf_X6_17 (q := a + 2) hc hK.1.1 hK.2.2.1.2 dX6_read_20 ?_
        refine r_iload_n hc dX6_read_23 rfl ?_
        refine al_6 (r := a + 3 + i) (j := i) hc hK.1.2.2 rfl (by omega) (by decide) (hK.2.2.2 _ (by omega)) dX6_read_24 ?_
        refine cl_X6_42 (As := [.ref (a + 3 + i)]) hc (c_X6_readOrder hK hln hpr hl80 hp (t := t) hat (by omega) (o := a + 3 + i) (hK.2.1 _ (by omega)) (by omega) rfl rfl rfl rfl) hK.1.1 rfl ⟨by decide, by decide⟩ ⟨rfl, rfl⟩ ⟨by decide, by decide⟩ rfl (Nat.le_of_ble_eq_true rfl) dX6_read_25 (fun r u hcl => ?_)
        obtain ⟨τ2, hu, hrr, hat, hOk, hfr2⟩ := hcl
        rw [hu, hrr]
        have hln : τ2 a 1 = nI ln := by rw [hfr2.2 1 (by decide)]; exact hln
        have h3 : τ2 a 3 = nI i := by rw [hfr2.2 3 (by decide)]; exact h3
        have hpr : rowAt τ2 (a + 1) ln p := hpr.sig (hfr2.1 _ (by omega) (by omega))
        have hfr : (∀ q, (q < a ∨ a + 30 ≤ q) → τ2 q = σ q) ∧ τ2 (a + 1) = σ (a + 1) ∧ ∀ k, k ≠ 3 → k ≠ 4 → τ2 a k = σ a k := ⟨fun q hq => by rw [hfr2.1 q (by omega) (by omega)]; exact hfr.1 q hq, by rw [hfr2.1 _ (by omega) (by omega)]; exact hfr.2.1, fun k q1 q2 => by rw [hfr2.2 k q2]; exact hfr.2.2 k q1 q2⟩
        have hds2 : ∀ j, j < i → (pO p ln (psF p ln j)).1 = true ∧ psF p ln j < ln ∧ OrdF τ2 (a + 3 + j) (p (psF p ln j)) (pO p ln (psF p ln j)).2.2 := fun j hj => ⟨(hds j hj).1, (hds j hj).2.1, (hds j hj).2.2.sig (hfr2.1 _ (by omega) (by omega))⟩
        have hple := pO_le (p := p) hti
        refine r_if_ne (tgt := 36) hc dX6_read_28 (by decide) (bI_0 _) (fun c_28 => ?_) (fun c_28 => ?_)
        ·
          have c_28 := bnf c_28
          have hpo := pO_ok hti c_28
          have htl := sgn_pos (p := p) (ln := ln) (t := t) (by omega)
          have hO2 := hOk c_28
          refine r_aload_n hc dX6_read_36 rfl ?_
          refine r_dup hc dX6_read_37 rfl ?_
          refine gf_X6_39 (x := nI i) hc hK.1.1 h3 dX6_read_38 ?_
          refine r_iconst (v := nI 1) hc dX6_read_41 rfl ?_
          refine r_iadd (v := nI (i + 1)) hc dX6_read_42 (ad_NN _ _) ?_
          refine pf_X6_39 hc hK.1.1 dX6_read_43 ?_
          generalize hσ3 : s2 τ2 a 3 (nI (i + 1)) = σ3
          have hln : σ3 a 1 = nI ln := by rw [← hσ3]; exact s2_keep hln (by omega)
          have hpr : rowAt σ3 (a + 1) ln p := by rw [← hσ3]; exact hpr.keep (by omega) _ _
          have hat : σ3 a 4 = nI ((pO p ln t).2.1) := by rw [← hσ3]; exact s2_keep hat (by omega)
          have h3 : σ3 a 3 = nI (i + 1) := by rw [← hσ3]; exact s2_same _ _ _ _
          refine r_aload_n hc dX6_read_46 rfl ?_
          refine gf_X6_36 (x := nI ((pO p ln t).2.1)) hc hK.1.1 hat dX6_read_47 ?_
          refine r_aload_n hc dX6_read_50 rfl ?_
          refine gf_X6_26 (x := nI ln) hc hK.1.1 hln dX6_read_51 ?_
          refine r_icmp_lt (tgt := 60) hc dX6_read_54 (by decide) (lt_NN (by omega) (by omega)) (fun c_54 => ?_) (fun c_54 => ?_)
          ·
            refine r_aload_n hc dX6_read_60 rfl ?_
            refine r_bipush (v := nI 59) hc dX6_read_61 rfl ?_
            refine cl_X6_46 (As := [.int (nI 59)]) hc (c_X6_readSign hK hln hpr hl80 hp (t := (pO p ln t).2.1) hat (by omega) (c := 59) (by omega)) hK.1.1 rfl ⟨by decide, by decide⟩ ⟨rfl, rfl⟩ ⟨by decide, by decide⟩ rfl (Nat.le_of_ble_eq_true rfl) dX6_read_63 (fun r u hcl => ?_)
            obtain ⟨hrr, hu⟩ := hcl
            rw [hu, hrr]
            generalize hσ4 : s2 σ3 a 4 (nI ((pS p ln 59 ((pO p ln t).2.1)).2)) = σ4
            have hln : σ4 a 1 = nI ln := by rw [← hσ4]; exact s2_keep hln (by omega)
            have hpr : rowAt σ4 (a + 1) ln p := by rw [← hσ4]; exact hpr.keep (by omega) _ _
            have hat : σ4 a 4 = nI ((pS p ln 59 ((pO p ln t).2.1)).2) := by rw [← hσ4]; exact s2_same _ _ _ _
            have h3 : σ4 a 3 = nI (i + 1) := by rw [← hσ4]; exact s2_keep h3 (by omega)
            refine r_if_ne (tgt := 74) hc dX6_read_66 (by decide) (bI_0 _) (fun c_66 => ?_) (fun c_66 => ?_)
            ·
              have c_66 := bnf c_66
              have hso := pS_ok c_66
              have hsl := sgn_pos (p := p) (ln := ln) (t := (pO p ln t).2.1) (by omega)
              refine r_iinc (v := nI (i + 1)) (ls' := [(1, .int (nI (i + 1))), (0, .ref a)]) hc dX6_read_74 rfl (ad_NN _ 1) (by decide) rfl ?_
              refine r_goto (tgt := 12) hc dX6_read_77 (by decide) ?_
              refine r_locp [1, 0] (ls' := [(0, .ref a), (1, .int (nI (i + 1)))]) rfl ?_
              exact ih12 σ4 (i + 1) ((pO p ln t).2.1 + 1) (by omega) (by omega) (by rw [psF, ← htp]) hln hpr (by rw [hat, hso.2]) h3 (by rw [← hf, show 28 - i = (28 - (i + 1)) + 1 by omega, rdF, if_pos c_28, if_neg (by omega), if_pos hso.1]) (fun j hj => by
                by_cases e : j = i
                · subst e; rw [← htp]; exact ⟨c_28, htl, hO2.sig (by rw [← hσ4, s2_ne (show a + 3 + j ≠ a by omega), ← hσ3, s2_ne (show a + 3 + j ≠ a by omega)])⟩
                · exact ⟨(hds2 j (by omega)).1, (hds2 j (by omega)).2.1, (hds2 j (by omega)).2.2.sig (by rw [← hσ4, s2_ne (show a + 3 + j ≠ a by omega), ← hσ3, s2_ne (show a + 3 + j ≠ a by omega)])⟩) ⟨fun q hq => by rw [← hσ4, s2_ne (show q ≠ a by omega), ← hσ3, s2_ne (show q ≠ a by omega)]; exact hfr.1 q hq, by rw [← hσ4, s2_ne (show a + 1 ≠ a by omega), ← hσ3, s2_ne (show a + 1 ≠ a by omega)]; exact hfr.2.1, fun k q1 q2 => by rw [← hσ4, s2_nk q2, ← hσ3, s2_nk q1]; exact hfr.2.2 k q1 q2⟩ (by omega)
            ·
              refine r_aload_n hc dX6_read_69 rfl ?_
              refine gf_X6_36 (x := nI ((pS p ln 59 ((pO p ln t).2.1)).2)) hc hK.1.1 hat dX6_read_70 ?_
              have hns : ¬ sgn p ln (pO p ln t).2.1 = 59 := fun q => by unfold pS at c_66; rw [if_pos q] at c_66; exact Bool.noConfusion c_66
              have hsn := pS_no c_66
              have hE : RD p ln = ((((pO p ln t).2.1 : Nat) : Int), i + 1) := by rw [← hf, show 28 - i = (27 - i) + 1 by omega, rdF, if_pos c_28, if_neg (by omega), if_neg hns]
              rw [hE] at hR
              exact hR _ _ ⟨_, rfl, by rw [hsn]; exact nz _, hln, hpr, fun q => absurd q (by omega), ⟨fun q hq => by rw [← hσ4, s2_ne (show q ≠ a by omega), ← hσ3, s2_ne (show q ≠ a by omega)]; exact hfr.1 q hq, by rw [← hσ4, s2_ne (show a + 1 ≠ a by omega), ← hσ3, s2_ne (show a + 1 ≠ a by omega)]; exact hfr.2.1, fun k q1 q2 => by rw [← hσ4, s2_nk q2, ← hσ3, s2_nk q1]; exact hfr.2.2 k q1 q2⟩⟩ rfl _ _ dX6_read_73
          ·
            refine r_bipush (v := zI (-6)) hc dX6_read_57 rfl ?_
            have hE : RD p ln = (-6, i + 1) := by rw [← hf, show 28 - i = (27 - i) + 1 by omega, rdF, if_pos c_28, if_pos (by omega)]
            rw [hE] at hR
            exact hR _ _ ⟨_, rfl, rfl, hln, hpr, fun _ => ⟨h3, by omega, (fun j hj => by
              by_cases e : j = i
              · subst e; rw [← htp]; exact ⟨c_28, htl, hO2.sig (by rw [← hσ3, s2_ne (show a + 3 + j ≠ a by omega)])⟩
              · exact ⟨(hds2 j (by omega)).1, (hds2 j (by omega)).2.1, (hds2 j (by omega)).2.2.sig (by rw [← hσ3, s2_ne (show a + 3 + j ≠ a by omega)])⟩)⟩, ⟨fun q hq => by rw [← hσ3, s2_ne (show q ≠ a by omega)]; exact hfr.1 q hq, by rw [← hσ3, s2_ne (show a + 1 ≠ a by omega)]; exact hfr.2.1, fun k q1 q2 => by rw [← hσ3, s2_nk q1]; exact hfr.2.2 k q1 q2⟩⟩ rfl _ _ dX6_read_59
        ·
          refine r_aload_n hc dX6_read_31 rfl ?_
          refine gf_X6_36 (x := nI ((pO p ln t).2.1)) hc hK.1.1 hat dX6_read_32 ?_
          have hE : RD p ln = ((((pO p ln t).2.1 : Nat) : Int), i) := by rw [← hf, show 28 - i = (27 - i) + 1 by omega, rdF, if_neg (by rw [c_28]; decide)]
          rw [hE] at hR
          exact hR _ _ ⟨_, rfl, nz _, hln, hpr, fun q => absurd q (by omega), hfr⟩ rfl _ _ dX6_read_35
  refine r_locp [1, 0] (ls' := [(0, .ref a), (1, .int (nI 0))]) rfl ?_
  exact loop12 _ σ2 0 0 (by omega) (by omega) rfl hln hpr hy4 hy3 rfl (fun j hj => absurd hj (Nat.not_lt_zero _)) ⟨fun q hq => by rw [← hσ2, s2_ne (show q ≠ a by omega), ← hσ1, s2_ne (show q ≠ a by omega)], by rw [← hσ2, s2_ne (show a + 1 ≠ a by omega), ← hσ1, s2_ne (show a + 1 ≠ a by omega)], fun k q1 q2 => by rw [← hσ2, s2_nk q1, ← hσ1, s2_nk q2]⟩ (Nat.lt_succ_self _)
