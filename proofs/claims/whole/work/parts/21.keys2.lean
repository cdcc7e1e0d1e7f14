/-! ===== the class's KeySearch at a ===== -/
def KSh (sh : Nat → Option Kd) (ρ : Nat → Nat → Option Nat) (a : Nat) : Prop := (sh a = some (.inl 4) ∧ sh (a + 1) = some (.inr (0, 4)) ∧ sh (a + 2) = some (.inr (0, 10)) ∧ sh (a + 3) = some (.inr (0, 10))) ∧ ρ a 0 = some (a + 1) ∧ ρ a 1 = some (a + 2) ∧ ρ a 2 = some (a + 3)
theorem kfF_step {σ τ : Nat → Nat → Int32} {a f s j : Nat} {F : Nat → Nat} (hj : j < 4) (h : rowAt σ a 4 (kfF f s F j)) (e : τ = s2 σ a (3 - j) (nI (kfF f s F j (3 - j) &&& (2 ^ dgt f j ||| 2 ^ dgt s j)))) : rowAt τ a 4 (kfF f s F (j + 1)) := by
  subst e
  intro i hi
  by_cases h1 : i = 3 - j
  · subst h1
    rw [s2_same]
    congr 1
    unfold kfF fitM
    rw [if_neg (by omega), if_pos (by omega), show 3 - (3 - j) = j by omega]
  · rw [s2_nk h1, h i hi]
    congr 1
    unfold kfF
    by_cases h2 : 4 ≤ i + j
    · rw [if_pos h2, if_pos (by omega)]
    · rw [if_neg h2, if_neg (by omega)]
set_option maxRecDepth 100000 in
set_option maxHeartbeats 4000000 in
theorem c_X4_keepFitting {Ω : OmT} {z : Nat} {sh : Nat → Option Kd} {σ : Nat → Nat → Int32} {ρ : Nat → Nat → Option Nat} {a : Nat} (hK : KSh sh ρ a) {dd f s : Nat} (hdd : sh dd = some (.inl 0)) (hf : σ dd 2 = nI f) (hs : σ dd 3 = nI s) (hf0 : f < 10000) (hs0 : s < 10000) {F : Nat → Nat} (hF : rowAt σ (a + 1) 4 F) : CtV Ω yX4_keepFitting cX4_keepFitting 5 rm_X4_keepFitting [.ref a, .ref dd] (z, sh, σ, ρ) (fun u => ∃ τ : Nat → Nat → Int32, u = (z, sh, τ, ρ) ∧ rowAt τ (a + 1) 4 (kfF f s F 4) ∧ ∀ q, q ≠ a + 1 → τ q = σ q) := by
  refine CtV.enter (by decide) (Nat.le_of_ble_eq_true rfl) (fun Φ hc hi hR => ?_)
  show Vw Ω Φ (z, sh, σ, ρ) (0, 0) 0 [(0, .ref a), (1, .ref dd)] []
  refine r_aload_n hc dX4_keepFitting_0 rfl ?_
  refine gf_X4_41 (x := nI f) hc hdd hf dX4_keepFitting_1 ?_
  refine r_istore_n (ls' := [(2, .int (nI f)), (0, .ref a), (1, .ref dd)]) hc dX4_keepFitting_4 (by decide) rfl ?_
  refine r_aload_n hc dX4_keepFitting_5 rfl ?_
  refine gf_X4_46 (x := nI s) hc hdd hs dX4_keepFitting_6 ?_
  refine r_istore_n (ls' := [(3, .int (nI s)), (2, .int (nI f)), (0, .ref a), (1, .ref dd)]) hc dX4_keepFitting_9 (by decide) rfl ?_
  refine r_iconst (v := nI 3) hc dX4_keepFitting_10 rfl ?_
  refine r_istore (ls' := [(4, .int (nI 3)), (3, .int (nI s)), (2, .int (nI f)), (0, .ref a), (1, .ref dd)]) hc dX4_keepFitting_11 (by decide) rfl ?_
  have loop13 : ∀ (n13 : Nat) (τ : Nat → Nat → Int32) (j : Nat) (x : Nat) (y : Nat), (j ≤ 4) → (x < 10000) → (y < 10000) → (∀ k, dgt x k = dgt f (j + k)) → (∀ k, dgt y k = dgt s (j + k)) → (rowAt τ (a + 1) 4 (kfF f s F j)) → (∀ q, q ≠ a + 1 → τ q = σ q) → (4 - j) < n13 → Vw Ω Φ (z, sh, τ, ρ) (0, 0) 13 [(0, .ref a), (1, .ref dd), (2, .int (nI x)), (3, .int (nI y)), (4, .int (zI (3 - ((j : Nat) : Int))))] [] := by
    intro n13
    induction n13 with
    | zero => intro τ j x y hj hx hy hxe hye hr hfr hm; exact absurd hm (Nat.not_lt_zero _)
    | succ n13 ih13 =>
      intro τ j x y hj hx hy hxe hye hr hfr hm13
      refine r_iload hc dX4_keepFitting_13 rfl ?_
      refine r_if_lt (tgt := 57) hc dX4_keepFitting_15 (by decide) (l0_Z (by omega)) (fun c_15 => ?_) (fun c_15 => ?_)
      ·
        exact hR _ ⟨_, rfl, by rw [show j = 4 by omega] at hr; exact hr, hfr⟩ _ _ dX4_keepFitting_57
      ·
        refine r_aload_n hc dX4_keepFitting_18 rfl ?_
        refine gf_X4_9 (q := a + 1) hc hK.1.1 hK.2.1 dX4_keepFitting_19 ?_
        refine r_iload hc dX4_keepFitting_22 rfl ?_
        refine r_dup2 hc dX4_keepFitting_24 rfl rfl ?_
        have hr0 := hr
        refine r_iald (x := nI ((kfF f s F j) (3 - j))) (j := 3 - j) hc hK.1.2.1 (zn (by omega)) (by omega) (by decide) (hr _ (by omega)) dX4_keepFitting_25 ?_
        refine r_iconst (v := nI 1) hc dX4_keepFitting_26 rfl ?_
        refine r_iload_n hc dX4_keepFitting_27 rfl ?_
        refine r_bipush (v := nI 10) hc dX4_keepFitting_28 rfl ?_
        refine r_irem (v := nI (x % 10)) hc dX4_keepFitting_30 (nu_ne0 (by omega) (by omega)) (rm_NN _ _ (by omega) (by omega) (by omega)) ?_
        refine r_ishl (v := nI (2 ^ (x % 10))) hc dX4_keepFitting_31 (sl_1 _ (by omega)) ?_
        refine r_iconst (v := nI 1) hc dX4_keepFitting_32 rfl ?_
        refine r_iload_n hc dX4_keepFitting_33 rfl ?_
        refine r_bipush (v := nI 10) hc dX4_keepFitting_34 rfl ?_
        refine r_irem (v := nI (y % 10)) hc dX4_keepFitting_36 (nu_ne0 (by omega) (by omega)) (rm_NN _ _ (by omega) (by omega) (by omega)) ?_
        refine r_ishl (v := nI (2 ^ (y % 10))) hc dX4_keepFitting_37 (sl_1 _ (by omega)) ?_
        refine r_ior (v := nI ((2 ^ (x % 10)) ||| (2 ^ (y % 10)))) hc dX4_keepFitting_38 (or_NN _ _) ?_
        refine r_iand (v := nI (((kfF f s F j) (3 - j)) &&& ((2 ^ (x % 10)) ||| (2 ^ (y % 10))))) hc dX4_keepFitting_39 (an_NN _ _) ?_
        refine r_iast (j := 3 - j) hc hK.1.2.1 (zn (by omega)) (by omega) (by decide) dX4_keepFitting_40 ?_
        generalize hσ1 : s2 τ (a + 1) (3 - j) (nI (((kfF f s F j) (3 - j)) &&& ((2 ^ (x % 10)) ||| (2 ^ (y % 10))))) = σ1
        have hr : rowAt σ1 (a + 1) 4 (va_up (kfF f s F j) (3 - j) (((kfF f s F j) (3 - j)) &&& ((2 ^ (x % 10)) ||| (2 ^ (y % 10))))) := by rw [← hσ1]; exact hr.upd _ _
        refine r_iload_n hc dX4_keepFitting_41 rfl ?_
        refine r_bipush (v := nI 10) hc dX4_keepFitting_42 rfl ?_
        refine r_idiv (v := nI (x / 10)) hc dX4_keepFitting_44 (nu_ne0 (by omega) (by omega)) (dv_NN _ _ (by omega) (by omega) (by omega)) ?_
        refine r_istore_n (ls' := [(2, .int (nI (x / 10))), (0, .ref a), (1, .ref dd), (3, .int (nI y)), (4, .int (zI (3 - ((j : Nat) : Int))))]) hc dX4_keepFitting_45 (by decide) rfl ?_
        refine r_iload_n hc dX4_keepFitting_46 rfl ?_
        refine r_bipush (v := nI 10) hc dX4_keepFitting_47 rfl ?_
        refine r_idiv (v := nI (y / 10)) hc dX4_keepFitting_49 (nu_ne0 (by omega) (by omega)) (dv_NN _ _ (by omega) (by omega) (by omega)) ?_
        refine r_istore_n (ls' := [(3, .int (nI (y / 10))), (2, .int (nI (x / 10))), (0, .ref a), (1, .ref dd), (4, .int (zI (3 - ((j : Nat) : Int))))]) hc dX4_keepFitting_50 (by decide) rfl ?_
        refine r_iinc (v := zI (3 - (((j + 1 : Nat)) : Int))) (ls' := [(4, .int (zI (3 - (((j + 1 : Nat)) : Int)))), (3, .int (nI (y / 10))), (2, .int (nI (x / 10))), (0, .ref a), (1, .ref dd)]) hc dX4_keepFitting_51 rfl (by rw [show Int32.ofInt (-1) = zI (-1) from rfl, ad_ZZ]; exact congrArg zI (by omega)) (by decide) rfl ?_
        refine r_goto (tgt := 13) hc dX4_keepFitting_54 (by decide) ?_
        refine r_locp [3, 4, 2, 1, 0] (ls' := [(0, .ref a), (1, .ref dd), (2, .int (nI (x / 10))), (3, .int (nI (y / 10))), (4, .int (zI (3 - (((j + 1 : Nat)) : Int))))]) rfl ?_
        exact ih13 σ1 (j + 1) (x / 10) (y / 10) (by omega) (by omega) (by omega) (fun k => (hxe (k + 1)).trans (congrArg (dgt f) (by omega))) (fun k => (hye (k + 1)).trans (congrArg (dgt s) (by omega))) (by refine kfF_step (by omega) hr0 ?_; rw [← hσ1, show dgt f j = x % 10 from (hxe 0).symm, show dgt s j = y % 10 from (hye 0).symm]) (fun q hq => by rw [← hσ1, s2_ne hq]; exact hfr q hq) (by omega)
  rw [nz 3]
  refine r_locp [3, 4, 2, 1, 0] (ls' := [(0, .ref a), (1, .ref dd), (2, .int (nI f)), (3, .int (nI s)), (4, .int (zI (((3 : Nat) : Int))))]) rfl ?_
  exact loop13 _ σ 0 f s (by omega) (by omega) (by omega) (fun k => by rw [Nat.zero_add]) (fun k => by rw [Nat.zero_add]) (hF.cong (fun i hi => by unfold kfF; rw [if_neg (by omega)])) (fun _ _ => rfl) (Nat.lt_succ_self _)
set_option maxRecDepth 100000 in
set_option maxHeartbeats 4000000 in
theorem c_X4_fits {Ω : OmT} {z : Nat} {sh : Nat → Option Kd} {σ : Nat → Nat → Int32} {ρ : Nat → Nat → Option Nat} {a : Nat} (hK : KSh sh ρ a) {F : Nat → Nat} (hF : rowAt σ (a + 1) 4 F) (hF0 : ∀ i, i < 4 → F i < 1024) {p e : Nat} (hp : p < 4) (he : e < 10) : CtI Ω yX4_fits cX4_fits 3 .boolean rm_X4_fits [.ref a, .int (nI p), .int (nI e)] (z, sh, σ, ρ) (fun r u => r = bI ((F p).testBit e) ∧ u = (z, sh, σ, ρ)) := by
  refine CtI.enter (by decide) (Nat.le_of_ble_eq_true rfl) (fun Φ hc hR => ?_)
  show Vw Ω Φ (z, sh, σ, ρ) (0, 0) 0 [(0, .ref a), (1, .int (nI p)), (2, .int (nI e))] []
  have hFp := hF0 p hp
  refine r_aload_n hc dX4_fits_0 rfl ?_
  refine gf_X4_9 (q := a + 1) hc hK.1.1 hK.2.1 dX4_fits_1 ?_
  refine r_iload_n hc dX4_fits_4 rfl ?_
  refine r_iald (x := nI (F p)) (j := p) hc hK.1.2.1 rfl (by omega) (by decide) (hF _ (by omega)) dX4_fits_5 ?_
  refine r_iload_n hc dX4_fits_6 rfl ?_
  refine r_ishr (v := nI ((F p) / 2 ^ e)) hc dX4_fits_7 (sr_NN _ _ (by omega) (by omega)) ?_
  refine r_iconst (v := nI 1) hc dX4_fits_8 rfl ?_
  refine r_iand (v := nI (((F p) / 2 ^ e) &&& 1)) hc dX4_fits_9 (an_NN _ _) ?_
  refine r_if_eq (tgt := 17) hc dX4_fits_10 (by decide) (e0_N (Nat.lt_of_le_of_lt Nat.and_le_right (by decide))) (fun c_10 => ?_) (fun c_10 => ?_)
  ·
    refine r_iconst (v := nI 0) hc dX4_fits_17 rfl ?_
    exact hR _ _ ⟨bI_f (Bool.eq_false_iff.mpr (fun q => (tb_0 (F p) e).mpr q c_10)), rfl⟩ rfl _ _ dX4_fits_18
  ·
    refine r_iconst (v := nI 1) hc dX4_fits_13 rfl ?_
    refine r_goto (tgt := 18) hc dX4_fits_14 (by decide) ?_
    exact hR _ _ ⟨bI_t ((tb_0 (F p) e).mp c_10), rfl⟩ rfl _ _ dX4_fits_18
set_option maxRecDepth 100000 in
set_option maxHeartbeats 4000000 in
theorem c_X4_waysBeside {Ω : OmT} {z : Nat} {sh : Nat → Option Kd} {σ : Nat → Nat → Int32} {ρ : Nat → Nat → Option Nat} {a : Nat} (hK : KSh sh ρ a) {st e : Nat} (hst : σ a 3 = nI st) (hs0 : st ≤ 9) (he : e < 10) {G : Nat → Nat} (hG : rowAt σ (a + 2) 10 G) : CtI Ω yX4_waysBeside cX4_waysBeside 5 .int rm_X4_waysBeside [.ref a, .int (nI e)] (z, sh, σ, ρ) (fun r u => r = nI (sumN (fun l => if adj st l e = true then G l else 0) 10) ∧ u = (z, sh, σ, ρ)) := by
  refine CtI.enter (by decide) (Nat.le_of_ble_eq_true rfl) (fun Φ hc hR => ?_)
  show Vw Ω Φ (z, sh, σ, ρ) (0, 0) 0 [(0, .ref a), (1, .int (nI e))] []
  refine r_bipush (v := nI 9) hc dX4_waysBeside_0 rfl ?_
  refine r_iload_n hc dX4_waysBeside_2 rfl ?_
  refine r_aload_n hc dX4_waysBeside_3 rfl ?_
  refine gf_X4_26 (x := nI st) hc hK.1.1 hst dX4_waysBeside_4 ?_
  refine r_iadd (v := nI (e + st)) hc dX4_waysBeside_7 (ad_NN _ _) ?_
  refine ma_X4_65 (v := nI (min 9 (e + st))) hc ⟨by decide, Nat.le_of_ble_eq_true rfl⟩ ⟨by decide, by decide⟩ dX4_waysBeside_8 (mn_NN (by omega) (by omega)) ?_
  refine r_istore_n (ls' := [(2, .int (nI (min 9 (e + st)))), (0, .ref a), (1, .int (nI e))]) hc dX4_waysBeside_11 (by decide) rfl ?_
  refine r_iconst (v := nI 0) hc dX4_waysBeside_12 rfl ?_
  refine r_istore_n (ls' := [(3, .int (nI 0)), (2, .int (nI (min 9 (e + st)))), (0, .ref a), (1, .int (nI e))]) hc dX4_waysBeside_13 (by decide) rfl ?_
  refine r_iconst (v := nI 0) hc dX4_waysBeside_14 rfl ?_
  refine r_iload_n hc dX4_waysBeside_15 rfl ?_
  refine r_aload_n hc dX4_waysBeside_16 rfl ?_
  refine gf_X4_26 (x := nI st) hc hK.1.1 hst dX4_waysBeside_17 ?_
  refine r_isub (v := zI (((e : Nat) : Int) - ((st : Nat) : Int))) hc dX4_waysBeside_20 (sb_NN _ _) ?_
  refine ma_X4_71 (v := nI (max 0 (e - st))) hc ⟨by decide, Nat.le_of_ble_eq_true rfl⟩ ⟨by decide, by decide⟩ dX4_waysBeside_21 (by rw [mx_NZ (by omega) (by omega)]; exact congrArg nI (by omega)) ?_
  refine r_istore (ls' := [(4, .int (nI (max 0 (e - st)))), (3, .int (nI 0)), (2, .int (nI (min 9 (e + st)))), (0, .ref a), (1, .int (nI e))]) hc dX4_waysBeside_24 (by decide) rfl ?_
  have loop26 : ∀ (n26 : Nat) (k : Nat) (s : Nat), (max 0 (e - st) ≤ k ∧ k ≤ min 9 (e + st) + 1) → (s = sumN (fun l => if adj st l e = true then G l else 0) k) → (11 - k) < n26 → Vw Ω Φ (z, sh, σ, ρ) (0, 0) 26 [(0, .ref a), (1, .int (nI e)), (2, .int (nI (min 9 (e + st)))), (3, .int (nI s)), (4, .int (nI k))] [] := by
    intro n26
    induction n26 with
    | zero => intro k s hk hf hm; exact absurd hm (Nat.not_lt_zero _)
    | succ n26 ih26 =>
      intro k s hk hf hm26
      refine r_iload hc dX4_waysBeside_26 rfl ?_
      refine r_iload_n hc dX4_waysBeside_28 rfl ?_
      refine r_icmp_gt (tgt := 48) hc dX4_waysBeside_29 (by decide) (lt_NN (by omega) (by omega)) (fun c_29 => ?_) (fun c_29 => ?_)
      ·
        refine r_iload_n hc dX4_waysBeside_48 rfl ?_
        exact hR _ _ ⟨congrArg nI (by rw [hf]; exact beside_all st e G k (by omega) (by omega) he), rfl⟩ rfl _ _ dX4_waysBeside_49
      ·
        refine r_iload_n hc dX4_waysBeside_32 rfl ?_
        refine r_aload_n hc dX4_waysBeside_33 rfl ?_
        refine gf_X4_15 (q := a + 2) hc hK.1.1 hK.2.2.1 dX4_waysBeside_34 ?_
        refine r_iload hc dX4_waysBeside_37 rfl ?_
        refine r_iald (x := nI (G k)) (j := k) hc hK.1.2.2.1 rfl (by omega) (by decide) (hG _ (by omega)) dX4_waysBeside_39 ?_
        refine r_iadd (v := nI (s + (G k))) hc dX4_waysBeside_40 (ad_NN _ _) ?_
        refine r_istore_n (ls' := [(3, .int (nI (s + (G k)))), (0, .ref a), (1, .int (nI e)), (2, .int (nI (min 9 (e + st)))), (4, .int (nI k))]) hc dX4_waysBeside_41 (by decide) rfl ?_
        refine r_iinc (v := nI (k + 1)) (ls' := [(4, .int (nI (k + 1))), (3, .int (nI (s + (G k)))), (0, .ref a), (1, .int (nI e)), (2, .int (nI (min 9 (e + st))))]) hc dX4_waysBeside_42 rfl (ad_NN _ 1) (by decide) rfl ?_
        refine r_goto (tgt := 26) hc dX4_waysBeside_45 (by decide) ?_
        refine r_locp [2, 3, 4, 1, 0] (ls' := [(0, .ref a), (1, .int (nI e)), (2, .int (nI (min 9 (e + st)))), (3, .int (nI (s + (G k)))), (4, .int (nI (k + 1)))]) rfl ?_
        exact ih26 (k + 1) (s + (G k)) (by omega) (by rw [sumN, ← hf, if_pos (by unfold adj; simp; omega)]) (by omega)
  refine r_locp [3, 4, 2, 1, 0] (ls' := [(0, .ref a), (1, .int (nI e)), (2, .int (nI (min 9 (e + st)))), (3, .int (nI 0)), (4, .int (nI (max 0 (e - st))))]) rfl ?_
  exact loop26 _ (max 0 (e - st)) 0 (by omega) (beside_none st e G _ (by omega)).symm (Nat.lt_succ_self _)
set_option maxRecDepth 100000 in
set_option maxHeartbeats 4000000 in
theorem c_X4_countOn {Ω : OmT} {z : Nat} {sh : Nat → Option Kd} {σ : Nat → Nat → Int32} {ρ : Nat → Nat → Option Nat} {a : Nat} (hK : KSh sh ρ a) {st p : Nat} (hst1 : σ a 3 = nI st) (hs0 : st ≤ 9) (hp : p < 4) {F G : Nat → Nat} (hF1 : rowAt σ (a + 1) 4 F) (hF0 : ∀ i, i < 4 → F i < 1024) (hG1 : rowAt σ (a + 2) 10 G) : CtV Ω yX4_countOn cX4_countOn 3 rm_X4_countOn [.ref a, .int (nI p)] (z, sh, σ, ρ) (fun u => ∃ τ : Nat → Nat → Int32, u = (z, sh, τ, ρ) ∧ rowAt τ (a + 2) 10 (fun e => if (F p).testBit e = true then sumN (fun l => if adj st l e = true then G l else 0) 10 else 0) ∧ ∀ q, q ≠ a + 2 → q ≠ a + 3 → τ q = σ q) := by
  refine CtV.enter (by decide) (Nat.le_of_ble_eq_true rfl) (fun Φ hc hi hR => ?_)
  show Vw Ω Φ (z, sh, σ, ρ) (0, 0) 0 [(0, .ref a), (1, .int (nI p))] []
  refine r_iconst (v := nI 0) hc dX4_countOn_0 rfl ?_
  refine r_istore_n (ls' := [(2, .int (nI 0)), (0, .ref a), (1, .int (nI p))]) hc dX4_countOn_1 (by decide) rfl ?_
  have loop2 : ∀ (n2 : Nat) (τ : Nat → Nat → Int32) (k : Nat), (k ≤ 10) → (rowAt τ (a + 3) k (fun e => if (F p).testBit e = true then sumN (fun l => if adj st l e = true then G l else 0) 10 else 0)) → (∀ q, q ≠ a + 3 → q ≠ a + 3 → τ q = σ q) → (10 - k) < n2 → Vw Ω Φ (z, sh, τ, ρ) (0, 0) 2 [(0, .ref a), (1, .int (nI p)), (2, .int (nI k))] [] := by
    intro n2
    induction n2 with
    | zero => intro τ k hk hg hfr hm; exact absurd hm (Nat.not_lt_zero _)
    | succ n2 ih2 =>
      intro τ k hk hg hfr hm2
      have hF := hF1.sig (hfr (a + 1) (by omega) (by omega))
      have hG := hG1.sig (hfr (a + 2) (by omega) (by omega))
      have hst : τ a 3 = nI st := by rw [hfr a (by omega) (by omega)]; exact hst1
      refine r_iload_n hc dX4_countOn_2 rfl ?_
      refine r_bipush (v := nI 10) hc dX4_countOn_3 rfl ?_
      refine r_icmp_ge (tgt := 38) hc dX4_countOn_5 (by decide) (le_NN (by omega) (by omega)) (fun c_5 => ?_) (fun c_5 => ?_)
      ·
        refine r_iconst (v := nI 0) hc dX4_countOn_38 rfl ?_
        refine r_istore_n (ls' := [(2, .int (nI 0)), (0, .ref a), (1, .int (nI p))]) hc dX4_countOn_39 (by decide) rfl ?_
        have loop40 : ∀ (n40 : Nat) (τ : Nat → Nat → Int32) (k : Nat), (k ≤ 10) → (rowAt τ (a + 3) 10 (fun e => if (F p).testBit e = true then sumN (fun l => if adj st l e = true then G l else 0) 10 else 0)) → (rowAt τ (a + 2) k (fun e => if (F p).testBit e = true then sumN (fun l => if adj st l e = true then G l else 0) 10 else 0)) → (∀ q, q ≠ a + 2 → q ≠ a + 3 → τ q = σ q) → (10 - k) < n40 → Vw Ω Φ (z, sh, τ, ρ) (0, 0) 40 [(0, .ref a), (1, .int (nI p)), (2, .int (nI k))] [] := by
          intro n40
          induction n40 with
          | zero => intro τ k hk hw hg hfr hm; exact absurd hm (Nat.not_lt_zero _)
          | succ n40 ih40 =>
            intro τ k hk hw hg hfr hm40
            refine r_iload_n hc dX4_countOn_40 rfl ?_
            refine r_bipush (v := nI 10) hc dX4_countOn_41 rfl ?_
            refine r_icmp_ge (tgt := 64) hc dX4_countOn_43 (by decide) (le_NN (by omega) (by omega)) (fun c_43 => ?_) (fun c_43 => ?_)
            ·
              exact hR _ ⟨_, rfl, by rw [show k = 10 by omega] at hg; exact hg, hfr⟩ _ _ dX4_countOn_64
            ·
              refine r_aload_n hc dX4_countOn_46 rfl ?_
              refine gf_X4_15 (q := a + 2) hc hK.1.1 hK.2.2.1 dX4_countOn_47 ?_
              refine r_iload_n hc dX4_countOn_50 rfl ?_
              refine r_aload_n hc dX4_countOn_51 rfl ?_
              refine gf_X4_18 (q := a + 3) hc hK.1.1 hK.2.2.2 dX4_countOn_52 ?_
              refine r_iload_n hc dX4_countOn_55 rfl ?_
              refine r_iald (x := nI ((fun e => if (F p).testBit e = true then sumN (fun l => if adj st l e = true then G l else 0) 10 else 0) k)) (j := k) hc hK.1.2.2.2 rfl (by omega) (by decide) (hw _ (by omega)) dX4_countOn_56 ?_
              refine r_iast (j := k) hc hK.1.2.2.1 rfl (by omega) (by decide) dX4_countOn_57 ?_
              generalize hσ1 : s2 τ (a + 2) k (nI ((fun e => if (F p).testBit e = true then sumN (fun l => if adj st l e = true then G l else 0) 10 else 0) k)) = σ1
              have hw : rowAt σ1 (a + 3) 10 (fun e => if (F p).testBit e = true then sumN (fun l => if adj st l e = true then G l else 0) 10 else 0) := by rw [← hσ1]; exact hw.keep (by omega) _ _
              refine r_iinc (v := nI (k + 1)) (ls' := [(2, .int (nI (k + 1))), (0, .ref a), (1, .int (nI p))]) hc dX4_countOn_58 rfl (ad_NN _ 1) (by decide) rfl ?_
              refine r_goto (tgt := 40) hc dX4_countOn_61 (by decide) ?_
              refine r_locp [1, 2, 0] (ls' := [(0, .ref a), (1, .int (nI p)), (2, .int (nI (k + 1)))]) rfl ?_
              exact ih40 σ1 (k + 1) (by omega) (by omega) (by rw [← hσ1]; exact hg.ext1 _ rfl) (fun q q1 q2 => by rw [← hσ1, s2_ne (show q ≠ a + 2 by omega)]; exact hfr q q1 q2) (by omega)
        refine r_locp [1, 2, 0] (ls' := [(0, .ref a), (1, .int (nI p)), (2, .int (nI 0))]) rfl ?_
        exact loop40 _ τ 0 (by omega) (by rw [show k = 10 by omega] at hg; exact hg) rowAt.zero (fun q _ q2 => hfr q q2 q2) (Nat.lt_succ_self _)
      ·
        refine r_aload_n hc dX4_countOn_8 rfl ?_
        refine gf_X4_18 (q := a + 3) hc hK.1.1 hK.2.2.2 dX4_countOn_9 ?_
        refine r_iload_n hc dX4_countOn_12 rfl ?_
        refine r_aload_n hc dX4_countOn_13 rfl ?_
        refine r_iload_n hc dX4_countOn_14 rfl ?_
        refine r_iload_n hc dX4_countOn_15 rfl ?_
        refine cl_X4_53 (As := [.int (nI p), .int (nI k)]) hc (c_X4_fits hK (F := F) hF hF0 (p := p) (e := k) (by omega) (by omega)) hK.1.1 rfl ⟨by decide, by decide⟩ ⟨rfl, rfl⟩ ⟨by decide, by decide⟩ rfl (Nat.le_of_ble_eq_true rfl) dX4_countOn_16 (fun r u hp => ?_)
        obtain ⟨rfl, hu⟩ := hp
        rw [hu]
        refine r_if_eq (tgt := 30) hc dX4_countOn_19 (by decide) (bI_0 _) (fun c_19 => ?_) (fun c_19 => ?_)
        ·
          refine r_iconst (v := nI 0) hc dX4_countOn_30 rfl ?_
          refine r_iast (j := k) hc hK.1.2.2.2 rfl (by omega) (by decide) dX4_countOn_31 ?_
          generalize hσ2 : s2 τ (a + 3) k (nI 0) = σ2
          have hF : rowAt σ2 (a + 1) 4 F := by rw [← hσ2]; exact hF.keep (by omega) _ _
          have hG : rowAt σ2 (a + 2) 10 G := by rw [← hσ2]; exact hG.keep (by omega) _ _
          have hst : σ2 a 3 = nI st := by rw [← hσ2]; exact s2_keep hst (by omega)
          refine r_iinc (v := nI (k + 1)) (ls' := [(2, .int (nI (k + 1))), (0, .ref a), (1, .int (nI p))]) hc dX4_countOn_32 rfl (ad_NN _ 1) (by decide) rfl ?_
          refine r_goto (tgt := 2) hc dX4_countOn_35 (by decide) ?_
          refine r_locp [1, 2, 0] (ls' := [(0, .ref a), (1, .int (nI p)), (2, .int (nI (k + 1)))]) rfl ?_
          exact ih2 σ2 (k + 1) (by omega) (by rw [← hσ2]; exact hg.ext1 _ (by simp [c_19])) (fun q q1 q2 => by rw [← hσ2, s2_ne (show q ≠ a + 3 by omega)]; exact hfr q q1 q2) (by omega)
        ·
          have c_19 := bnf c_19
          refine r_aload_n hc dX4_countOn_22 rfl ?_
          refine r_iload_n hc dX4_countOn_23 rfl ?_
          refine cl_X4_61 (As := [.int (nI k)]) hc (c_X4_waysBeside hK (st := st) (e := k) hst (by omega) (by omega) (G := G) hG) hK.1.1 rfl ⟨by decide, by decide⟩ ⟨rfl, rfl⟩ ⟨by decide, by decide⟩ rfl (Nat.le_of_ble_eq_true rfl) dX4_countOn_24 (fun r u hp => ?_)
          obtain ⟨rfl, hu⟩ := hp
          rw [hu]
          refine r_goto (tgt := 31) hc dX4_countOn_27 (by decide) ?_
          refine r_iast (j := k) hc hK.1.2.2.2 rfl (by omega) (by decide) dX4_countOn_31 ?_
          generalize hσ3 : s2 τ (a + 3) k (nI (sumN (fun l => if adj st l k = true then G l else 0) 10)) = σ3
          have hF : rowAt σ3 (a + 1) 4 F := by rw [← hσ3]; exact hF.keep (by omega) _ _
          have hG : rowAt σ3 (a + 2) 10 G := by rw [← hσ3]; exact hG.keep (by omega) _ _
          have hst : σ3 a 3 = nI st := by rw [← hσ3]; exact s2_keep hst (by omega)
          refine r_iinc (v := nI (k + 1)) (ls' := [(2, .int (nI (k + 1))), (0, .ref a), (1, .int (nI p))]) hc dX4_countOn_32 rfl (ad_NN _ 1) (by decide) rfl ?_
          refine r_goto (tgt := 2) hc dX4_countOn_35 (by decide) ?_
          refine r_locp [1, 2, 0] (ls' := [(0, .ref a), (1, .int (nI p)), (2, .int (nI (k + 1)))]) rfl ?_
          exact ih2 σ3 (k + 1) (by omega) (by rw [← hσ3]; exact hg.ext1 _ (by simp [c_19])) (fun q q1 q2 => by rw [← hσ3, s2_ne (show q ≠ a + 3 by omega)]; exact hfr q q1 q2) (by omega)
  refine r_locp [1, 2, 0] (ls' := [(0, .ref a), (1, .int (nI p)), (2, .int (nI 0))]) rfl ?_
  exact loop2 _ σ 0 (by omega) rowAt.zero (fun _ _ _ => rfl) (Nat.lt_succ_self _)
