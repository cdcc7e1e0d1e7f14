/-! ===== as in whole: class1 ===== -/
def kpF {α : Type} (nu : Nat) (t : Nat → α) (h0 : α) (d : Nat) : α := if nu = 6 then (if d < 5 then t (d + 1) else h0) else if d = nu then h0 else t d
theorem kpF_map {α β : Type} (f : α → β) (nu : Nat) (t : Nat → α) (h0 : α) (d : Nat) : kpF nu (fun d => f (t d)) (f h0) d = f (kpF nu t h0 d) := by
  unfold kpF
  split
  · split <;> rfl
  · split <;> rfl
set_option maxRecDepth 100000 in
set_option maxHeartbeats 4000000 in
theorem c_X1_keep {Ω : OmT} {z : Nat} {sh : Nat → Option Kd} {σ : Nat → Nat → Int32} {ρ : Nat → Nat → Option Nat} {a nu : Nat} {t : Nat → Nat} (hs1 : sh a = some (.inl 1)) (hs2 : sh (a + 1) = some (.inr (4, 6))) (hr0 : ρ a 0 = some (a + 1)) (hrt : ∀ d, d < 6 → ρ (a + 1) d = some (t d)) (hst : ∀ d, d < 6 → sh (t d) = some (.inl 2)) (hn : σ a 1 = nI nu) (hnu : nu ≤ 6) {h0 : Nat} (hs0 : sh h0 = some (.inl 2)) : CtA Ω yX1_keep cX1_keep 4 (.object "PinHouse$House") rm_X1_keep [.ref a, .ref h0] (z, sh, σ, ρ) (fun r u => ∃ (σ1 : Nat → Nat → Int32) (ρ1 : Nat → Nat → Option Nat), u = (z, sh, σ1, ρ1) ∧ r = t (if nu = 6 then 0 else nu) ∧ σ1 a 1 = nI (recC nu + 1) ∧ (∀ q, q ≠ a → σ1 q = σ q) ∧ (∀ q, q ≠ a + 1 → ρ1 q = ρ q) ∧ ∀ d, d < 6 → ρ1 (a + 1) d = some (kpF nu t h0 d)) := by
  refine CtA.enter (by decide) (Nat.le_of_ble_eq_true rfl) (Or.inl ⟨_, rfl⟩) (fun Φ hc hR => ?_)
  show Vw Ω Φ (z, sh, σ, ρ) (0, 0) 0 [(0, .ref a), (1, .ref h0)] []
  refine r_aload_n hc dX1_keep_0 rfl ?_
  refine gf_X1_18 (x := nI nu) hc hs1 hn dX1_keep_1 ?_
  refine r_bipush (v := nI 6) hc dX1_keep_4 rfl ?_
  refine r_icmp_ge (tgt := 42) hc dX1_keep_6 (by decide) (le_NN (by omega) (by omega)) (fun c_6 => ?_) (fun c_6 => ?_)
  ·
    have en : nu = 6 := by omega
    refine r_aload_n hc dX1_keep_42 rfl ?_
    refine gf_X1_11 (q := a + 1) hc hs1 hr0 dX1_keep_43 ?_
    refine r_iconst (v := nI 0) hc dX1_keep_46 rfl ?_
    refine al_4 (r := t 0) (j := 0) hc hs2 rfl (by omega) (by decide) (hrt _ (by omega)) dX1_keep_47 ?_
    refine r_astore_n (ls' := [(2, .ref (t 0)), (0, .ref a), (1, .ref h0)]) hc dX1_keep_48 (by decide) rfl ?_
    refine r_iconst (v := nI 1) hc dX1_keep_49 rfl ?_
    refine r_istore_n (ls' := [(3, .int (nI 1)), (2, .ref (t 0)), (0, .ref a), (1, .ref h0)]) hc dX1_keep_50 (by decide) rfl ?_
    have loop51 : ∀ (n51 : Nat) (ρ2 : Nat → Nat → Option Nat) (k : Nat), (1 ≤ k ∧ k ≤ 6) → (ρ2 a 0 = some (a + 1)) → (∀ d, d < 6 → ρ2 (a + 1) d = some (if d + 1 < k then t (d + 1) else t d)) → (∀ q, q ≠ a + 1 → ρ2 q = ρ q) → (6 - k) < n51 → Vw Ω Φ (z, sh, σ, ρ2) (0, 0) 51 [(0, .ref a), (1, .ref h0), (2, .ref (t 0)), (3, .int (nI k))] [] := by
      intro n51
      induction n51 with
      | zero => intro ρ2 k hk hrA hrB hrC hm; exact absurd hm (Nat.not_lt_zero _)
      | succ n51 ih51 =>
        intro ρ2 k hk hrA hrB hrC hm51
        refine r_iload_n hc dX1_keep_51 rfl ?_
        refine r_bipush (v := nI 6) hc dX1_keep_52 rfl ?_
        refine r_icmp_ge (tgt := 77) hc dX1_keep_54 (by decide) (le_NN (by omega) (by omega)) (fun c_54 => ?_) (fun c_54 => ?_)
        ·
          refine r_aload_n hc dX1_keep_77 rfl ?_
          refine gf_X1_11 (q := a + 1) hc hs1 hrA dX1_keep_78 ?_
          refine r_iconst (v := nI 5) hc dX1_keep_81 rfl ?_
          refine r_aload_n hc dX1_keep_82 rfl ?_
          refine as_4 (j := 5) hc hs2 rfl (by omega) (by decide) hs0 dX1_keep_83 ?_
          generalize hρ4 : s2 ρ2 (a + 1) 5 (some h0) = ρ4
          refine r_aload_n hc dX1_keep_84 rfl ?_
          have en : nu = 6 := by omega
          exact hR _ _ ⟨_, _, rfl, by rw [if_pos en], by rw [show recC nu = 5 from if_pos en, hn, en], fun _ _ => rfl, fun q hq => by rw [← hρ4, s2_ne hq]; exact hrC q hq, fun e he => by unfold kpF; rw [if_pos en, ← hρ4]; by_cases e1 : e = 5; · { subst e1; rw [s2_same, if_neg (by omega)] }; · { rw [s2_nk e1, hrB e he, if_pos (by omega), if_pos (by omega)] }⟩ _ _ dX1_keep_85
        ·
          refine r_aload_n hc dX1_keep_57 rfl ?_
          refine gf_X1_11 (q := a + 1) hc hs1 hrA dX1_keep_58 ?_
          refine r_iload_n hc dX1_keep_61 rfl ?_
          refine r_iconst (v := nI 1) hc dX1_keep_62 rfl ?_
          refine r_isub (v := nI (k - 1)) hc dX1_keep_63 (sb_N _ _ (by omega)) ?_
          refine r_aload_n hc dX1_keep_64 rfl ?_
          refine gf_X1_11 (q := a + 1) hc hs1 hrA dX1_keep_65 ?_
          refine r_iload_n hc dX1_keep_68 rfl ?_
          refine al_4 (r := t k) (j := k) hc hs2 rfl (by omega) (by decide) (by show ρ2 (a + 1) k = _; rw [hrB _ (by omega), if_neg (by omega)]) dX1_keep_69 ?_
          refine as_4 (j := k - 1) hc hs2 rfl (by omega) (by decide) (hst _ (by omega)) dX1_keep_70 ?_
          generalize hρ3 : s2 ρ2 (a + 1) (k - 1) (some (t k)) = ρ3
          refine r_iinc (v := nI (k + 1)) (ls' := [(3, .int (nI (k + 1))), (0, .ref a), (1, .ref h0), (2, .ref (t 0))]) hc dX1_keep_71 rfl (ad_NN _ 1) (by decide) rfl ?_
          refine r_goto (tgt := 51) hc dX1_keep_74 (by decide) ?_
          refine r_locp [1, 2, 3, 0] (ls' := [(0, .ref a), (1, .ref h0), (2, .ref (t 0)), (3, .int (nI (k + 1)))]) rfl ?_
          exact ih51 ρ3 (k + 1) (by omega) (by rw [← hρ3, s2_ne (by omega)]; exact hrA) (fun d hd => by rw [← hρ3]; by_cases e1 : d = k - 1; · { subst e1; rw [s2_same, if_pos (by omega), show k - 1 + 1 = k by omega] }; · { rw [s2_nk e1, hrB d hd]; by_cases e2 : d + 1 < k; · { rw [if_pos e2, if_pos (by omega)] }; · { rw [if_neg e2, if_neg (by omega)] } }) (fun q hq => by rw [← hρ3, s2_ne hq]; exact hrC q hq) (by omega)
    refine r_locp [2, 3, 1, 0] (ls' := [(0, .ref a), (1, .ref h0), (2, .ref (t 0)), (3, .int (nI 1))]) rfl ?_
    exact loop51 _ ρ 1 (by omega) hr0 (fun d hd => by rw [if_neg (by omega)]; exact hrt d hd) (fun _ _ => rfl) (Nat.lt_succ_self _)
  ·
    refine r_aload_n hc dX1_keep_9 rfl ?_
    refine gf_X1_11 (q := a + 1) hc hs1 hr0 dX1_keep_10 ?_
    refine r_aload_n hc dX1_keep_13 rfl ?_
    refine gf_X1_18 (x := nI nu) hc hs1 hn dX1_keep_14 ?_
    refine al_4 (r := t nu) (j := nu) hc hs2 rfl (by omega) (by decide) (hrt _ (by omega)) dX1_keep_17 ?_
    refine r_astore_n (ls' := [(2, .ref (t nu)), (0, .ref a), (1, .ref h0)]) hc dX1_keep_18 (by decide) rfl ?_
    refine r_aload_n hc dX1_keep_19 rfl ?_
    refine gf_X1_11 (q := a + 1) hc hs1 hr0 dX1_keep_20 ?_
    refine r_aload_n hc dX1_keep_23 rfl ?_
    refine gf_X1_18 (x := nI nu) hc hs1 hn dX1_keep_24 ?_
    refine r_aload_n hc dX1_keep_27 rfl ?_
    refine as_4 (j := nu) hc hs2 rfl (by omega) (by decide) hs0 dX1_keep_28 ?_
    generalize hρ1 : s2 ρ (a + 1) nu (some h0) = ρ1
    refine r_aload_n hc dX1_keep_29 rfl ?_
    refine r_dup hc dX1_keep_30 rfl ?_
    refine gf_X1_18 (x := nI nu) hc hs1 hn dX1_keep_31 ?_
    refine r_iconst (v := nI 1) hc dX1_keep_34 rfl ?_
    refine r_iadd (v := nI (nu + 1)) hc dX1_keep_35 (ad_NN _ _) ?_
    refine pf_X1_18 hc hs1 dX1_keep_36 ?_
    generalize hσ1 : s2 σ a 1 (nI (nu + 1)) = σ1
    have hn : σ1 a 1 = nI (nu + 1) := by rw [← hσ1]; exact s2_same _ _ _ _
    refine r_goto (tgt := 84) hc dX1_keep_39 (by decide) ?_
    refine r_aload_n hc dX1_keep_84 rfl ?_
    exact hR _ _ ⟨_, _, rfl, by rw [if_neg (by omega)], by rw [show recC nu = nu from if_neg (by omega)]; exact hn, fun q hq => by rw [← hσ1, s2_ne hq], fun q hq => by rw [← hρ1, s2_ne hq], fun e he => by unfold kpF; rw [if_neg (by omega), ← hρ1]; by_cases e1 : e = nu; · { subst e1; rw [s2_same, if_pos rfl] }; · { rw [s2_nk e1, if_neg e1]; exact hrt e he }⟩ _ _ dX1_keep_85
abbrev bsP (P i : Nat) : Nat := if i = 0 then P + 35 else P + 37 + 34 * i
theorem bs_sep (P : Nat) {i j : Nat} (h : i ≠ j) : bsP P i + 34 ≤ bsP P j ∨ bsP P j + 34 ≤ bsP P i := by
  unfold bsP
  split <;> split <;> omega
theorem bs_rng (P : Nat) {i : Nat} (h : i < 7) : P + 35 ≤ bsP P i ∧ bsP P i + 34 ≤ P + 275 ∧ (bsP P i + 34 ≤ P + 69 ∨ P + 71 ≤ bsP P i) := by
  unfold bsP
  split <;> omega
theorem CSh.bs {sh : Nat → Option Kd} {ρ : Nat → Nat → Option Nat} {P : Nat} (H : CSh sh ρ P) {i : Nat} (h : i < 7) : HSh sh ρ (bsP P i) := by
  unfold bsP
  split
  · exact H.2.2.2.2.1
  · have h1 := H.2.2.2.2.2.1 (i - 1) (by omega)
    rw [show P + 71 + 34 * (i - 1) = P + 37 + 34 * i by omega] at h1
    exact h1
def Prm (ρ : Nat → Nat → Option Nat) (P b : Nat) (s : Nat → Nat) : Prop := ρ P 1 = some (bsP P b) ∧ (∀ d, d < 6 → ρ (P + 70) d = some (bsP P (s d))) ∧ b < 7 ∧ (∀ d, d < 6 → s d < 7 ∧ s d ≠ b) ∧ ∀ d e, d < 6 → e < 6 → s d = s e → d = e
/-- the class's object holds: the row v, nu rows of history, the saved rows, the pad's text -/
def CSt (sh : Nat → Option Kd) (σ : Nat → Nat → Int32) (ρ : Nat → Nat → Option Nat) (P b : Nat) (s : Nat → Nat) (v : Nat → Nat) (nu : Nat) (hf : Nat → Nat) (fl : Nat → Bool) (sv p : Nat → Nat) (ln : Nat) : Prop :=
  (CSh sh ρ P ∧ ∀ d, d < 2 → HSh sh ρ (P + 323 + 34 * d) ∧ ρ (P + 275) d = some (P + 323 + 34 * d)) ∧ Prm ρ P b s ∧ (HV σ (P + 1) v ∧ okR v) ∧
  (nu ≤ 6 ∧ σ (P + 69) 1 = nI nu ∧ ∀ i, i < nu → HV σ (bsP P (s i)) (rwF i hf) ∧ okR (rwF i hf)) ∧
  (∀ d, d < 2 → σ (P + 276) d = bI (fl d) ∧ (fl d = true → HV σ (P + 323 + 34 * d) (rwF d sv) ∧ okR (rwF d sv))) ∧
  (σ (P + 277) 1 = nI ln ∧ rowAt σ (P + 278) ln p ∧ ln ≤ 80 ∧ ∀ j, j < ln → p j < 256)
theorem HV.cong {σ : Nat → Nat → Int32} {h : Nat} {v w : Nat → Nat} (H : HV σ h v) (h4 : v 4 ≤ 10) (h5 : v 5 ≤ 16) (h9 : v 9 ≤ 6) (e : ∀ j, j < 170 → v j = w j) : HV σ h w := by
  obtain ⟨a1, a2, a3, a4, a5⟩ := H
  refine ⟨fun j hj => by rw [← e j (by omega)]; exact a1 j hj, ?_, fun d hd j hj => ?_, fun k hk => ?_, fun p hp => ?_⟩
  · rw [← e 4 (by omega), ← e 5 (by omega), ← e 3 (by omega), ← e 10 (by omega), ← e 7 (by omega), ← e 6 (by omega), ← e 8 (by omega), ← e 9 (by omega)]; exact a2
  · rw [← e 4 (by omega)] at hd
    rw [← e _ (by omega)]; exact a3 d hd j hj
  · rw [← e 5 (by omega)] at hk
    rw [← e _ (by omega), ← e _ (by omega), ← keyWt_cong (v := w) (v1 := v) (k := k) (e _ (by omega)) (e _ (by omega)) (e _ (by omega))]; exact a4 k hk
  · rw [← e 9 (by omega)] at hp
    rw [← e _ (by omega), ← e _ (by omega), ← e _ (by omega)]; exact a5 p hp
theorem okR.cong {v w : Nat → Nat} (H : okR v) (e : ∀ j, j < 170 → v j = w j) : okR w := by
  obtain ⟨a0, a1, a2, a3, a4, a5, a9, b1, b2, b3, b4, b5⟩ := H
  unfold fstR sndR at b1
  unfold cutR whrR at b2
  have e4 := e 4 (by omega)
  have e5 := e 5 (by omega)
  have e9 := e 9 (by omega)
  refine ⟨by rw [← e 0 (by omega)]; exact a0, by rw [← e 1 (by omega)]; exact a1, by rw [← e 2 (by omega)]; exact a2, by rw [← e 3 (by omega)]; exact a3, by rw [← e4]; exact a4, by rw [← e5]; exact a5, by rw [← e9]; exact a9, fun d hd => ?_, fun k hk => ?_, fun p hp => ?_, fun p q hp hq he => ?_, fun d h1 h2 => ?_⟩
  · unfold fstR sndR
    rw [← e _ (by omega), ← e _ (by omega), ← e _ (by omega), ← e _ (by omega)]; exact b1 d (by omega)
  · unfold cutR whrR
    rw [← e _ (by omega), ← e _ (by omega), ← e _ (by omega)]; exact b2 k (by omega)
  · rw [← e (150 + 3 * p) (by omega), ← e (150 + 3 * p + 1) (by omega), ← e (150 + 3 * p + 2) (by omega), ← e4]; exact b3 p (by omega)
  · rw [← e _ (by omega), ← e _ (by omega)] at he; exact b4 p q (by omega) (by omega) he
  · rw [← e _ (by omega)]; exact b5 d (by omega) h2
/-- what recording leaves -/
def RecQ (P b : Nat) (s : Nat → Nat) (nu : Nat) (x : Int) (σ1 : Nat → Nat → Int32) (ρ : Nat → Nat → Option Nat) (σ2 : Nat → Nat → Int32) (ρ2 : Nat → Nat → Option Nat) : Prop :=
  (x < 0 ∧ σ2 = σ1 ∧ ρ2 = ρ) ∨ (0 ≤ x ∧ σ2 (P + 69) 1 = nI (recC nu + 1) ∧ (∀ q, q ≠ P + 69 → σ2 q = σ1 q) ∧ (∀ q, q ≠ P → q ≠ P + 70 → ρ2 q = ρ q) ∧ (∀ k, k ≠ 1 → ρ2 P k = ρ P k) ∧ ρ2 P 1 = some (bsP P (s (if nu = 6 then 0 else nu))) ∧ ∀ d, d < 6 → ρ2 (P + 70) d = some (bsP P (kpF nu s b d)))
theorem Prm.keep {ρ ρ2 : Nat → Nat → Option Nat} {P b nu : Nat} {s : Nat → Nat} (H : Prm ρ P b s) (hnu : nu ≤ 6) (h1 : ρ2 P 1 = some (bsP P (s (if nu = 6 then 0 else nu)))) (h2 : ∀ d, d < 6 → ρ2 (P + 70) d = some (bsP P (kpF nu s b d))) : Prm ρ2 P (s (if nu = 6 then 0 else nu)) (kpF nu s b) := by
  obtain ⟨_, _, a3, a4, a5⟩ := H
  refine ⟨h1, h2, ?_, fun d hd => ?_, fun d e hd he hde => ?_⟩
  · split
    · exact (a4 0 (by omega)).1
    · exact (a4 nu (by omega)).1
  · unfold kpF
    by_cases en : nu = 6
    · rw [if_pos en, if_pos en]
      split
      · exact ⟨(a4 _ (by omega)).1, fun q => by have := a5 _ _ (by omega) (by omega) q; omega⟩
      · exact ⟨a3, fun q => (a4 0 (by omega)).2 q.symm⟩
    · rw [if_neg en, if_neg en]
      split
      · exact ⟨a3, fun q => (a4 nu (by omega)).2 q.symm⟩
      · exact ⟨(a4 _ (by omega)).1, fun q => by have := a5 _ _ (by omega) (by omega) q; omega⟩
  · unfold kpF at hde
    by_cases en : nu = 6
    · rw [if_pos en, if_pos en] at hde
      split at hde
      · split at hde
        · have := a5 _ _ (by omega) (by omega) hde; omega
        · exact absurd hde (a4 _ (by omega)).2
      · split at hde
        · exact absurd hde.symm (a4 _ (by omega)).2
        · omega
    · rw [if_neg en, if_neg en] at hde
      split at hde
      · split at hde
        · omega
        · exact absurd hde.symm (a4 _ (by omega)).2
      · split at hde
        · exact absurd hde (a4 _ (by omega)).2
        · exact a5 _ _ (by omega) (by omega) hde
theorem CSt.chg {sh : Nat → Option Kd} {σ : Nat → Nat → Int32} {ρ : Nat → Nat → Option Nat} {P b : Nat} {s : Nat → Nat} {v : Nat → Nat} {nu : Nat} {hf : Nat → Nat} {fl : Nat → Bool} {sv p : Nat → Nat} {ln : Nat} (H : CSt sh σ ρ P b s v nu hf fl sv p ln) {σ1 : Nat → Nat → Int32} {w : Nat → Nat} (h1 : HV σ1 (bsP P b) v) (h2 : HV σ1 (P + 1) w) (hw : okR w) (hfr : ∀ q, (q < P + 1 ∨ P + 35 ≤ q) → (q < bsP P b ∨ bsP P b + 34 ≤ q) → σ1 q = σ q) {x : Int} {σ2 : Nat → Nat → Int32} {ρ2 : Nat → Nat → Option Nat} (hr : RecQ P b s nu x σ1 ρ σ2 ρ2) :
    (∃ (b2 : Nat) (s2 : Nat → Nat), CSt sh σ2 ρ2 P b2 s2 w (mH false x nu hf v).1 (mH false x nu hf v).2 fl sv p ln) ∧ ∀ q, (q < P ∨ P + 391 ≤ q) → σ2 q = σ q ∧ ρ2 q = ρ q := by
  obtain ⟨⟨c1, c2⟩, cP, ⟨c3, c4⟩, ⟨c5, c6, c7⟩, c8, ⟨c9, c10, c11, c12⟩⟩ := H
  have cP0 := cP
  obtain ⟨p1, p2, p3, p4, p5⟩ := cP
  have hb := bs_rng P p3
  have ok1 := fun {v : Nat → Nat} (h : okR v) => h.2.2.2.2.1
  have ok2 := fun {v : Nat → Nat} (h : okR v) => h.2.2.2.2.2.1
  have ok3 := fun {v : Nat → Nat} (h : okR v) => h.2.2.2.2.2.2.1
  have old : ∀ i, i < nu → HV σ1 (bsP P (s i)) (rwF i hf) := fun i hi => (c7 i hi).1.keep (fun q q1 q2 => by
    have e1 := bs_rng P (p4 i (by omega)).1
    have e2 := bs_sep P (p4 i (by omega)).2
    exact hfr q (by omega) (by omega)) (ok1 (c7 i hi).2) (ok2 (c7 i hi).2)
  rcases hr with ⟨x0, rfl, rfl⟩ | ⟨x0, r1, r2, r3, r4, r5, r6⟩
  · rw [mH_neg x0]
    refine ⟨⟨b, s, ⟨c1, c2⟩, cP0, ⟨h2, hw⟩, ⟨c5, by rw [hfr _ (by omega) (by omega)]; exact c6, fun i hi => ⟨old i hi, (c7 i hi).2⟩⟩, fun d hd => ⟨by rw [hfr _ (by omega) (by omega)]; exact (c8 d hd).1, fun hfl => ⟨((c8 d hd).2 hfl).1.keep (fun q q1 q2 => hfr q (by omega) (by omega)) (ok1 ((c8 d hd).2 hfl).2) (ok2 ((c8 d hd).2 hfl).2), ((c8 d hd).2 hfl).2⟩⟩, ⟨by rw [hfr _ (by omega) (by omega)]; exact c9, c10.sig (hfr _ (by omega) (by omega)), c11, c12⟩⟩, fun q hq => ⟨hfr q (by omega) (by omega), rfl⟩⟩
  · have hmm : mH false x nu hf v = (recC nu + 1, recH nu hf v) := if_pos ⟨rfl, x0⟩
    rw [hmm]
    have hrc : recC nu ≤ 5 := by unfold recC; split <;> omega
    have sg : ∀ q, q ≠ P + 69 → σ2 q = σ1 q := r2
    refine ⟨⟨s (if nu = 6 then 0 else nu), kpF nu s b, ⟨c1.keep (fun _ _ _ => rfl) (fun q q1 q2 q3 q4 q5 => r3 q q3 q4) r4, fun d hd => ⟨(c2 d hd).1.keep (fun q q1 q2 => ⟨rfl, r3 q (by omega) (by omega)⟩), by rw [r3 _ (by omega) (by omega)]; exact (c2 d hd).2⟩⟩, cP0.keep c5 r5 r6, ⟨h2.keep (fun q q1 q2 => sg q (by omega)) (ok1 hw) (ok2 hw), hw⟩, ⟨by show recC nu + 1 ≤ 6; omega, r1, fun i hi => ?_⟩, fun d hd => ⟨by rw [sg _ (by omega), hfr _ (by omega) (by omega)]; exact (c8 d hd).1, fun hfl => ⟨((c8 d hd).2 hfl).1.keep (fun q q1 q2 => by rw [sg q (by omega)]; exact hfr q (by omega) (by omega)) (ok1 ((c8 d hd).2 hfl).2) (ok2 ((c8 d hd).2 hfl).2), ((c8 d hd).2 hfl).2⟩⟩, ⟨by rw [sg _ (by omega), hfr _ (by omega) (by omega)]; exact c9, c10.sig (by rw [sg _ (by omega)]; exact hfr _ (by omega) (by omega)), c11, c12⟩⟩, fun q hq => ⟨by rw [sg q (by omega)]; exact hfr q (by omega) (by omega), r3 q (by omega) (by omega)⟩⟩
    have hi : i < recC nu + 1 := hi
    show HV σ2 (bsP P (kpF nu s b i)) (rwF i (recH nu hf v)) ∧ okR (rwF i (recH nu hf v))
    by_cases e1 : i = recC nu
    · have e2 : kpF nu s b i = b := by
        unfold kpF recC at *
        by_cases en : nu = 6
        · rw [if_pos en] at e1 ⊢; rw [if_neg (by omega)]
        · rw [if_neg en] at e1 ⊢; rw [if_pos e1]
      have e3 : ∀ j, j < 170 → v j = rwF i (recH nu hf v) j := fun j hj => by
        unfold rwF recH
        rw [if_neg (by rw [e1]; omega), e1, Nat.add_sub_cancel_left]
      rw [e2]
      exact ⟨(h1.keep (fun q q1 q2 => sg q (by omega)) (ok1 c4) (ok2 c4)).cong (ok1 c4) (ok2 c4) (ok3 c4) e3, c4.cong e3⟩
    · have hi2 : i < recC nu := by omega
      by_cases en : nu = 6
      · have h5 : recC nu = 5 := if_pos en
        have e2 : kpF nu s b i = s (i + 1) := by unfold kpF; rw [if_pos en, if_pos (by omega)]
        have e3 : ∀ j, j < 170 → rwF (i + 1) hf j = rwF i (recH nu hf v) j := fun j hj => by
          unfold rwF recH recB
          rw [if_pos (by rw [h5]; omega), if_pos en]
          show _ = hf (i * 170 + j + 170)
          congr 1; omega
        have ho := c7 (i + 1) (by omega)
        have e4 := bs_rng P (p4 (i + 1) (by omega)).1
        rw [e2]
        exact ⟨((old (i + 1) (by omega)).keep (fun q q1 q2 => sg q (by omega)) (ok1 ho.2) (ok2 ho.2)).cong (ok1 ho.2) (ok2 ho.2) (ok3 ho.2) e3, ho.2.cong e3⟩
      · have h5 : recC nu = nu := if_neg en
        have e2 : kpF nu s b i = s i := by unfold kpF; rw [if_neg en, if_neg (by omega)]
        have e3 : ∀ j, j < 170 → rwF i hf j = rwF i (recH nu hf v) j := fun j hj => by
          unfold rwF recH recB
          rw [if_pos (by rw [h5]; have : (i + 1) * 170 ≤ nu * 170 := Nat.mul_le_mul_right _ (by omega); omega), if_neg en]
        have ho := c7 i (by omega)
        have e4 := bs_rng P (p4 i (by omega)).1
        rw [e2]
        exact ⟨((old i (by omega)).keep (fun q q1 q2 => sg q (by omega)) (ok1 ho.2) (ok2 ho.2)).cong (ok1 ho.2) (ok2 ho.2) (ok3 ho.2) e3, ho.2.cong e3⟩
/-- cells that no part of the state reads -/
theorem CSt.sig {sh : Nat → Option Kd} {σ τ : Nat → Nat → Int32} {ρ : Nat → Nat → Option Nat} {P b : Nat} {s : Nat → Nat} {v : Nat → Nat} {nu : Nat} {hf : Nat → Nat} {fl : Nat → Bool} {sv p : Nat → Nat} {ln : Nat} (H : CSt sh σ ρ P b s v nu hf fl sv p ln) (h : ∀ q, P ≤ q → q < P + 391 → (q < P + 307 ∨ P + 323 ≤ q) → τ q = σ q) : CSt sh τ ρ P b s v nu hf fl sv p ln := by
  obtain ⟨c1, cP, ⟨c3, c4⟩, ⟨c5, c6, c7⟩, c8, ⟨c9, c10, c11, c12⟩⟩ := H
  have ok1 := fun {v : Nat → Nat} (h : okR v) => h.2.2.2.2.1
  have ok2 := fun {v : Nat → Nat} (h : okR v) => h.2.2.2.2.2.1
  refine ⟨c1, cP, ⟨c3.keep (fun q q1 q2 => h q (by omega) (by omega) (by omega)) (ok1 c4) (ok2 c4), c4⟩, ⟨c5, by rw [h _ (by omega) (by omega) (by omega)]; exact c6, fun i hi => ⟨(c7 i hi).1.keep (fun q q1 q2 => ?_) (ok1 (c7 i hi).2) (ok2 (c7 i hi).2), (c7 i hi).2⟩⟩, fun d hd => ⟨by rw [h _ (by omega) (by omega) (by omega)]; exact (c8 d hd).1, fun hfl => ⟨((c8 d hd).2 hfl).1.keep (fun q q1 q2 => h q (by omega) (by omega) (by omega)) (ok1 ((c8 d hd).2 hfl).2) (ok2 ((c8 d hd).2 hfl).2), ((c8 d hd).2 hfl).2⟩⟩, ⟨by rw [h _ (by omega) (by omega) (by omega)]; exact c9, c10.sig (h _ (by omega) (by omega) (by omega)), c11, c12⟩⟩
  have e1 := bs_rng P (cP.2.2.2.1 i (by omega)).1
  exact h q (by omega) (by omega) (by omega)
