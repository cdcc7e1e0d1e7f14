/-! ===== the orders one behind the other ===== -/
def ordF (L : List Nat) (j : Nat) : Nat := L.getD j j
def nxK (o : Nat → Nat) : Nat → Nat
  | 0 => 0
  | m + 1 => if o m > o (m + 1) then nxK o m else m + 1
def nxO (o : Nat → Nat) (x : Nat) : Nat → Nat
  | 0 => 0
  | j + 1 => if o (j + 1) < x then nxO o x j else j + 1
def swp (o : Nat → Nat) (a b : Nat) : Nat → Nat := va_up (va_up o a (o b)) b (o a)
def revF : Nat → Nat → Nat → (Nat → Nat) → (Nat → Nat)
  | 0, _, _, o => o
  | f + 1, a, b, o => if a < b then revF f (a + 1) (b - 1) (swp o a b) else o
def nxtF (n : Nat) (o : Nat → Nat) : Nat → Nat := revF 6 (nxK o (n - 1)) (n - 1) (swp o (nxK o (n - 1) - 1) (nxO o (o (nxK o (n - 1) - 1)) (n - 1)))
def eqO (o p : Nat → Nat) : Bool := Nat.beq (o 0) (p 0) && (Nat.beq (o 1) (p 1) && (Nat.beq (o 2) (p 2) && (Nat.beq (o 3) (p 3) && (Nat.beq (o 4) (p 4) && Nat.beq (o 5) (p 5)))))
def chnL (n : Nat) : List (List Nat) → Bool
  | [] => false
  | L :: r => match r with
    | [] => Nat.beq (nxK (ordF L) (n - 1)) 0
    | M :: _ => !Nat.beq (nxK (ordF L) (n - 1)) 0 && (eqO (nxtF n (ordF L)) (ordF M) && chnL n r)
def hdL (l : List (List Nat)) : Bool := match l with
  | [] => false
  | L :: _ => eqO (ordF L) (fun j => j)
def chkL (n : Nat) : Bool := chnL n (PLm n n 0) && hdL (PLm n n 0)
set_option maxRecDepth 1000000 in
theorem chk_all : (chkL 0 && (chkL 1 && (chkL 2 && (chkL 3 && (chkL 4 && (chkL 5 && chkL 6)))))) = true := by decide +kernel
theorem chk_n {n : Nat} (h : n ≤ 6) : chkL n = true := by
  have h1 := chk_all
  simp only [Bool.and_eq_true] at h1
  rcases (show n = 0 ∨ n = 1 ∨ n = 2 ∨ n = 3 ∨ n = 4 ∨ n = 5 ∨ n = 6 by omega) with rfl | rfl | rfl | rfl | rfl | rfl | rfl
  · exact h1.1
  · exact h1.2.1
  · exact h1.2.2.1
  · exact h1.2.2.2.1
  · exact h1.2.2.2.2.1
  · exact h1.2.2.2.2.2.1
  · exact h1.2.2.2.2.2.2
theorem eqO_iff {o p : Nat → Nat} (h : eqO o p = true) : ∀ j, j < 6 → o j = p j := by
  unfold eqO at h
  simp only [Bool.and_eq_true] at h
  intro j hj
  rcases (show j = 0 ∨ j = 1 ∨ j = 2 ∨ j = 3 ∨ j = 4 ∨ j = 5 by omega) with rfl | rfl | rfl | rfl | rfl | rfl
  · exact Nat.eq_of_beq_eq_true h.1
  · exact Nat.eq_of_beq_eq_true h.2.1
  · exact Nat.eq_of_beq_eq_true h.2.2.1
  · exact Nat.eq_of_beq_eq_true h.2.2.2.1
  · exact Nat.eq_of_beq_eq_true h.2.2.2.2.1
  · exact Nat.eq_of_beq_eq_true h.2.2.2.2.2
theorem ord_drop {L : List Nat} {k : Nat} (hk : k < L.length) : L.drop k = ordF L k :: L.drop (k + 1) := by
  rw [List.drop_eq_getElem_cons hk]
  unfold ordF
  rw [List.getD_eq_getElem?_getD, List.getElem?_eq_getElem hk]; rfl
theorem ord_mem {L : List Nat} {k : Nat} (hk : k < L.length) : ordF L k ∈ L := by
  unfold ordF
  rw [List.getD_eq_getElem?_getD, List.getElem?_eq_getElem hk]
  exact List.getElem_mem hk
theorem ord_off {L : List Nat} {k : Nat} (hk : L.length ≤ k) : ordF L k = k := by
  unfold ordF
  rw [List.getD_eq_getElem?_getD, List.getElem?_eq_none hk]; rfl
theorem lstB_ord (L : List Nat) : lstB L = if L.length = 0 then 0 else 2 ^ ordF L (L.length - 1) := by
  induction L with
  | nil => rfl
  | cons p l ih =>
    rw [lstB, List.length_cons, if_neg (Nat.succ_ne_zero _), Nat.add_sub_cancel]
    by_cases h : l = []
    · subst h; rfl
    · rw [if_neg h, ih]
      have h1 : 0 < l.length := List.length_pos_iff.mpr h
      rw [if_neg (by omega)]
      congr 1
      unfold ordF
      rw [List.getD_eq_getElem?_getD, List.getD_eq_getElem?_getD]
      have e : l.length = (l.length - 1) + 1 := by omega
      rw [show (p :: l)[l.length]? = l[l.length - 1]? by rw [e, List.getElem?_cons_succ, Nat.add_sub_cancel]]
      rw [List.getElem?_eq_getElem (show l.length - 1 < l.length by omega)]; rfl
theorem gn_0 (v : Nat → Nat) (n : Nat) : gnF v 0 n = 0 := by
  induction n with
  | zero => rfl
  | succ n ih => rw [gnF, ih, Nat.zero_testBit]; rfl
theorem bx_0 (v : Nat → Nat) : bxA v 0 = ((v 7 : Nat) : Int) := by unfold bxA; rw [gn_0]; omega
theorem lk_le (v : Nat → Nat) (L : List Nat) : ∀ b : Int, lkL v b L ≤ (-b).toNat + 44 * L.length := by
  induction L with
  | nil => intro b; rw [lkL]; omega
  | cons p l ih =>
    intro b
    have h := ih (b + plG v p)
    have h1 := bkP_le v p
    have h2 := ndP_le v p
    have h3 := plG_eq v p
    rw [lkL, List.length_cons]
    omega
def okN (v : Nat → Nat) (L : List Nat) : Nat := if lkL v (bxA v 0) L = 0 then 1 else 0
def lsN (v : Nat → Nat) (L : List Nat) : Nat := if lkL v (bxA v 0) L = 0 then lstB L else 0
def lkI (v : Nat → Nat) (pre : List (List Nat)) : Int := if pre = [] then -1 else ((minL (lkL v (bxA v 0)) pre : Nat) : Int)
theorem minL_le (f : List Nat → Nat) (l : List (List Nat)) : minL f l ≤ 1000000 := by
  induction l with
  | nil => exact Nat.le_refl _
  | cons x l ih => rw [minL]; omega
theorem lkI_rng (v : Nat → Nat) (pre : List (List Nat)) : -1 ≤ lkI v pre ∧ lkI v pre ≤ 1000000 := by
  have h := minL_le (lkL v (bxA v 0)) pre
  unfold lkI
  split <;> omega
theorem lkI_snoc (v : Nat → Nat) (pre : List (List Nat)) (L : List Nat) (hL : lkL v (bxA v 0) L ≤ 1000000) : lkI v (pre ++ [L]) = if lkI v pre < 0 ∨ ((lkL v (bxA v 0) L : Nat) : Int) < lkI v pre then ((lkL v (bxA v 0) L : Nat) : Int) else lkI v pre := by
  have e : minL (lkL v (bxA v 0)) [L] = lkL v (bxA v 0) L := by rw [minL, minL]; omega
  have h := minL_le (lkL v (bxA v 0)) pre
  unfold lkI
  rw [if_neg (by simp), minL_app, e]
  by_cases hp : pre = []
  · subst hp
    rw [if_pos rfl, if_pos (Or.inl (by omega)), minL]; omega
  · rw [if_neg hp]
    split <;> omega
def LAc (τ : Nat → Nat → Int32) (M : Nat) (v : Nat → Nat) (pre : List (List Nat)) : Prop := τ M 10 = nI (sumL (okN v) pre) ∧ τ M 11 = nI (orL (lsN v) pre) ∧ τ M 12 = zI (lkI v pre) ∧ ∀ F, fsL (okL v 0) pre = some F → rowAt τ (M + 7) 6 (ordF F)
theorem sumL_le_app (f : List Nat → Nat) (a b : List (List Nat)) : sumL f a ≤ sumL f (a ++ b) := by rw [sumL_app]; omega
theorem fs_snoc (v : Nat → Nat) (pre : List (List Nat)) (L F : List Nat) : fsL (okL v 0) (pre ++ [L]) = some F ↔ (fsL (okL v 0) pre = some F) ∨ (sumL (okN v) pre = 0 ∧ lkL v (bxA v 0) L = 0 ∧ F = L) := by
  have hs : sumL (fun L => if okL v 0 L = true then 1 else 0) pre = sumL (okN v) pre := sumL_cong _ (fun L => by simp [okL, okN])
  have hn := fsL_none (okL v 0) pre
  rw [hs] at hn
  rw [fsL_app]
  cases h : fsL (okL v 0) pre with
  | some a =>
    have h1 : ¬ sumL (okN v) pre = 0 := fun q => by rw [hn.mpr q] at h; cases h
    constructor
    · intro q; exact Or.inl q
    · rintro (q | q)
      · exact q
      · exact absurd q.1 h1
  | none =>
    have h1 := hn.mp h
    show fsL (okL v 0) [L] = some F ↔ _
    rw [fsL]
    by_cases hk : lkL v (bxA v 0) L = 0
    · rw [if_pos (decide_eq_true hk)]
      constructor
      · intro q; exact Or.inr ⟨h1, hk, (Option.some.inj q).symm⟩
      · rintro (q | q)
        · cases q
        · rw [q.2.2]
    · rw [if_neg (by simp [okL, hk]), fsL]
      constructor
      · intro q; cases q
      · rintro (q | q)
        · cases q
        · exact absurd q.2.1 hk
theorem chn_cons {n : Nat} {L : List Nat} {r : List (List Nat)} (h : chnL n (L :: r) = true) : (nxK (ordF L) (n - 1) = 0 ∧ r = []) ∨ (¬ nxK (ordF L) (n - 1) = 0 ∧ chnL n r = true ∧ (∀ j, j < 6 → nxtF n (ordF L) j = ordF (r.headD []) j) ∧ r ≠ []) := by
  cases r with
  | nil => left; rw [chnL] at h; exact ⟨Nat.eq_of_beq_eq_true h, rfl⟩
  | cons M r =>
    right
    rw [chnL] at h
    simp only [Bool.and_eq_true, Bool.not_eq_true'] at h
    refine ⟨fun q => ?_, h.2.2, eqO_iff h.2.1, by simp⟩
    have := h.1
    rw [q] at this
    exact Bool.noConfusion this
def sPlanOrder (v : Nat → Nat) (t : Int) : Int := if 0 ≤ t ∧ t ≤ 5 then (if t.toNat < v 9 ∧ 0 < oC v (v 9) 0 then lnF v (dnF v t.toNat) else -6) else -2
def sLast (v : Nat → Nat) : Int := ffF (fun k => decide (lC v (v 9) 0 = 2 ^ k)) (v 9)
def lfL (x : Nat) : Nat → Int
  | 0 => -6
  | k + 1 => if x = 2 ^ k then (k : Int) else lfL x k
theorem lfL_eq (v : Nat → Nat) (h9 : v 9 ≤ 6) : lfL (lC v (v 9) 0) 6 = sLast v := by
  have hl := lC_lt v (v 9) 0
  have h1 : ∀ k, lC v (v 9) 0 = 2 ^ k → k < v 9 := fun k hk => by
    rw [hk] at hl
    exact (Nat.pow_lt_pow_iff_right (by decide)).mp hl
  have inj : ∀ a b, lC v (v 9) 0 = 2 ^ a → lC v (v 9) 0 = 2 ^ b → a = b := fun a b ha hb => by
    have e := ha.symm.trans hb
    rcases Nat.lt_trichotomy a b with h | h | h
    · have := Nat.pow_lt_pow_right (a := 2) (by decide) h; omega
    · exact h
    · have := Nat.pow_lt_pow_right (a := 2) (by decide) h; omega
  have hA : ∀ n, (∀ k, lC v (v 9) 0 = 2 ^ k → k < n → lfL (lC v (v 9) 0) n = (k : Int)) ∧ ((∀ k, k < n → lC v (v 9) 0 ≠ 2 ^ k) → lfL (lC v (v 9) 0) n = -6) := by
    intro n
    induction n with
    | zero => exact ⟨fun k _ hk => absurd hk (Nat.not_lt_zero _), fun _ => rfl⟩
    | succ n ih =>
      refine ⟨fun k hk hkn => ?_, fun h => ?_⟩
      · rw [lfL]
        by_cases e : lC v (v 9) 0 = 2 ^ n
        · rw [if_pos e, inj k n hk e]
        · rw [if_neg e]
          exact ih.1 k hk (by have : k ≠ n := fun q => e (q ▸ hk); omega)
      · rw [lfL, if_neg (h n (by omega))]
        exact ih.2 (fun k hk => h k (by omega))
  have hB : ∀ n, (∀ k, lC v (v 9) 0 = 2 ^ k → k < n → ffF (fun k => decide (lC v (v 9) 0 = 2 ^ k)) n = (k : Int)) ∧ ((∀ k, k < n → lC v (v 9) 0 ≠ 2 ^ k) → ffF (fun k => decide (lC v (v 9) 0 = 2 ^ k)) n = -6) := by
    intro n
    induction n with
    | zero => exact ⟨fun k _ hk => absurd hk (Nat.not_lt_zero _), fun _ => rfl⟩
    | succ n ih =>
      refine ⟨fun k hk hkn => ?_, fun h => ?_⟩
      · rw [ffF]
        by_cases e : lC v (v 9) 0 = 2 ^ n
        · have hkk := inj k n hk e
          subst hkk
          rw [ih.2 (fun q hq e2 => by have := inj q k e2 e; omega), if_pos rfl, if_pos (decide_eq_true e)]
        · have h7 := ih.1 k hk (by have : k ≠ n := fun q => e (q ▸ hk); omega)
          rw [h7, if_neg (by omega)]
      · rw [ffF, ih.2 (fun k hk => h k (by omega)), if_pos rfl, if_neg (by rw [decide_eq_false (h n (by omega))]; decide)]
  unfold sLast
  by_cases he : ∃ k, lC v (v 9) 0 = 2 ^ k
  · obtain ⟨k, hk⟩ := he
    have := h1 k hk
    rw [(hA 6).1 k hk (by omega), (hB (v 9)).1 k hk this]
  · rw [(hA 6).2 (fun k _ hk => he ⟨k, hk⟩), (hB (v 9)).2 (fun k _ hk => he ⟨k, hk⟩)]
set_option maxRecDepth 100000 in
set_option maxHeartbeats 4000000 in
theorem c_X12_lacks {Ω : OmT} {z : Nat} {sh : Nat → Option Kd} {σ : Nat → Nat → Int32} {ρ : Nat → Nat → Option Nat} {M : Nat} {v : Nat → Nat} (hM : MSh sh ρ M) (hv : rowAt σ (M + 1) 170 v) (hok : okR v) (hbx : v 7 ≤ 1000000000) {L : List Nat} (ho : rowAt σ (M + 6) 6 (ordF L)) (hL : L.length = v 9 ∧ ∀ x ∈ L, x < v 9)  : CtI Ω yX12_lacks cX12_lacks 5 .int rm_X12_lacks [.ref M] (z, sh, σ, ρ) (fun r u => r = nI (lkL v (bxA v 0) L) ∧ u = (z, sh, σ, ρ)) := by
  have hok1 := hok
  obtain ⟨⟨h01, h02⟩, hl1, ⟨h21, h22⟩, h3, h4, h5, h9, hdo, hke, hpn, hpd, htc⟩ := hok1
  have hdr : ∀ d, d < v 4 → v (20 + 6 * d + 2) < 10000 ∧ v (20 + 6 * d + 3) < 10000 := fun d hd => ⟨(hdo d hd).2.2.1, (hdo d hd).2.2.2⟩
  have hcu : ∀ k, k < v 5 → v (80 + 4 * k) < 10000 := fun k hk => (hke k hk).1
  have hwh : ∀ k, k < v 5 → v (80 + 4 * k + 2) ≤ 9 := fun k hk => (hke k hk).2.2
  have hky : ∀ k, k < v 5 → v (80 + 4 * k) < 10000 ∧ v (80 + 4 * k + 2) ≤ 9 ∧ 40 ≤ v (80 + 4 * k + 1) ∧ v (80 + 4 * k + 1) ≤ 90 := fun k hk => ⟨(hke k hk).1, (hke k hk).2.2, (hke k hk).2.1⟩
  have hpl : ∀ p, p < v 9 → v (150 + 3 * p) < 10 := fun p hp => by have := (hpn p hp).1; omega
  refine CtI.enter (by decide) (Nat.le_of_ble_eq_true rfl) (fun Φ hc hR => ?_)
  show Vw Ω Φ (z, sh, σ, ρ) (0, 0) 0 [(0, .ref M)] []
  refine r_aload_n hc dX12_lacks_0 rfl ?_
  refine gf_X12_7 (q := M + 1) hc (MS0 hM) (MSr hM 0 1 (by decide)) dX12_lacks_1 ?_
  refine r_bipush (v := nI 7) hc dX12_lacks_4 rfl ?_
  refine r_iald (x := nI (v 7)) (j := 7) hc (MSa hM 1 0 170 rfl) rfl (by omega) (by decide) (hv _ (by omega)) dX12_lacks_6 ?_
  refine r_istore_n (ls' := [(1, .int (nI (v 7))), (0, .ref M)]) hc dX12_lacks_7 (by decide) rfl ?_
  refine r_iconst (v := nI 0) hc dX12_lacks_8 rfl ?_
  refine r_istore_n (ls' := [(2, .int (nI 0)), (1, .int (nI (v 7))), (0, .ref M)]) hc dX12_lacks_9 (by decide) rfl ?_
  refine r_iconst (v := nI 0) hc dX12_lacks_10 rfl ?_
  refine r_istore_n (ls' := [(3, .int (nI 0)), (2, .int (nI 0)), (1, .int (nI (v 7))), (0, .ref M)]) hc dX12_lacks_11 (by decide) rfl ?_
  have loop12 : ∀ (n12 : Nat) (b : Int) (l : Nat) (k : Nat), (k ≤ v 9) → (-(44 * (k : Int)) ≤ b - (v 7 : Int) ∧ b - (v 7 : Int) ≤ 44 * (k : Int)) → (l ≤ 300) → (max l (lkL v b (L.drop k)) = lkL v ((v 7 : Nat) : Int) L) → (v 9 - k) < n12 → Vw Ω Φ (z, sh, σ, ρ) (0, 0) 12 [(0, .ref M), (1, .int (zI b)), (2, .int (nI l)), (3, .int (nI k))] [] := by
    intro n12
    induction n12 with
    | zero => intro b l k hk hb hl hlk hm; exact absurd hm (Nat.not_lt_zero _)
    | succ n12 ih12 =>
      intro b l k hk hb hl hlk hm12
      refine r_iload_n hc dX12_lacks_12 rfl ?_
      refine r_aload_n hc dX12_lacks_13 rfl ?_
      refine gf_X12_7 (q := M + 1) hc (MS0 hM) (MSr hM 0 1 (by decide)) dX12_lacks_14 ?_
      refine r_bipush (v := nI 9) hc dX12_lacks_17 rfl ?_
      refine r_iald (x := nI (v 9)) (j := 9) hc (MSa hM 1 0 170 rfl) rfl (by omega) (by decide) (hv _ (by omega)) dX12_lacks_19 ?_
      refine r_icmp_ge (tgt := 92) hc dX12_lacks_20 (by decide) (le_NN (by omega) (by omega)) (fun c_20 => ?_) (fun c_20 => ?_)
      ·
        refine r_iload_n hc dX12_lacks_92 rfl ?_
        exact hR _ _ ⟨congrArg nI (by rw [show L.drop k = [] from List.drop_eq_nil_of_le (by omega), lkL] at hlk; rw [bx_0]; omega), rfl⟩ rfl _ _ dX12_lacks_93
      ·
        have hx := hL.2 _ (ord_mem (L := L) (k := k) (by omega))
        have hpp := hpn (ordF L k) hx
        have hdk := hdr (v (150 + 3 * ordF L k)) hpp.1
        have hb1 := bkP_le v (ordF L k)
        have hb2 := ndP_le v (ordF L k)
        have hb3 := plG_eq v (ordF L k)
        refine r_sipush (v := nI 150) hc dX12_lacks_23 rfl ?_
        refine r_iconst (v := nI 3) hc dX12_lacks_26 rfl ?_
        refine r_aload_n hc dX12_lacks_27 rfl ?_
        refine gf_X12_26 (q := M + 6) hc (MS0 hM) (MSr hM 8 6 (by decide)) dX12_lacks_28 ?_
        refine r_iload_n hc dX12_lacks_31 rfl ?_
        refine r_iald (x := nI ((ordF L) k)) (j := k) hc (MSa hM 6 0 6 rfl) rfl (by omega) (by decide) (ho _ (by omega)) dX12_lacks_32 ?_
        refine r_imul (v := nI (3 * ((ordF L) k))) hc dX12_lacks_33 (ml_NN _ _) ?_
        refine r_iadd (v := nI (150 + (3 * ((ordF L) k)))) hc dX12_lacks_34 (ad_NN _ _) ?_
        refine r_istore (ls' := [(4, .int (nI (150 + (3 * ((ordF L) k))))), (0, .ref M), (1, .int (zI b)), (2, .int (nI l)), (3, .int (nI k))]) hc dX12_lacks_35 (by decide) rfl ?_
        refine r_iload_n hc dX12_lacks_37 rfl ?_
        refine r_aload_n hc dX12_lacks_38 rfl ?_
        refine r_aload_n hc dX12_lacks_39 rfl ?_
        refine gf_X12_7 (q := M + 1) hc (MS0 hM) (MSr hM 0 1 (by decide)) dX12_lacks_40 ?_
        refine r_iload hc dX12_lacks_43 rfl ?_
        refine r_iald (x := nI (v (150 + (3 * ((ordF L) k))))) (j := 150 + (3 * ((ordF L) k))) hc (MSa hM 1 0 170 rfl) rfl (by omega) (by decide) (hv _ (by omega)) dX12_lacks_45 ?_
        refine cl_X12_77 (As := [.int (nI (v (150 + (3 * ((ordF L) k)))))]) hc (c_X12_givesOf hM hv (d := v (150 + (3 * ((ordF L) k)))) (by omega) (by omega) (by omega) (by omega)) (MS0 hM) rfl ⟨by decide, by decide⟩ ⟨rfl, rfl⟩ ⟨by decide, by decide⟩ rfl (Nat.le_of_ble_eq_true rfl) dX12_lacks_46 (fun r u hp => ?_)
        obtain ⟨rfl, hu⟩ := hp
        rw [hu]
        refine r_aload_n hc dX12_lacks_49 rfl ?_
        refine gf_X12_7 (q := M + 1) hc (MS0 hM) (MSr hM 0 1 (by decide)) dX12_lacks_50 ?_
        refine r_iload hc dX12_lacks_53 rfl ?_
        refine r_iconst (v := nI 1) hc dX12_lacks_55 rfl ?_
        refine r_iadd (v := nI (150 + (3 * ((ordF L) k)) + 1)) hc dX12_lacks_56 (ad_NN _ _) ?_
        refine r_iald (x := nI (v (150 + (3 * ((ordF L) k)) + 1))) (j := 150 + (3 * ((ordF L) k)) + 1) hc (MSa hM 1 0 170 rfl) rfl (by omega) (by decide) (hv _ (by omega)) dX12_lacks_57 ?_
        refine r_aload_n hc dX12_lacks_58 rfl ?_
        refine gf_X12_7 (q := M + 1) hc (MS0 hM) (MSr hM 0 1 (by decide)) dX12_lacks_59 ?_
        refine r_iload hc dX12_lacks_62 rfl ?_
        refine r_iconst (v := nI 2) hc dX12_lacks_64 rfl ?_
        refine r_iadd (v := nI (150 + (3 * ((ordF L) k)) + 2)) hc dX12_lacks_65 (ad_NN _ _) ?_
        refine r_iald (x := nI (v (150 + (3 * ((ordF L) k)) + 2))) (j := 150 + (3 * ((ordF L) k)) + 2) hc (MSa hM 1 0 170 rfl) rfl (by omega) (by decide) (hv _ (by omega)) dX12_lacks_66 ?_
        refine cl_X12_64 (As := [.int (nI (v (150 + (3 * ((ordF L) k)) + 1))), .int (nI (v (150 + (3 * ((ordF L) k)) + 2)))]) hc (c_X12_weightOf (f := v (150 + (3 * ((ordF L) k)) + 1)) (s := v (150 + (3 * ((ordF L) k)) + 2)) (by omega) (by omega)) rfl ⟨by decide, by decide⟩ ⟨rfl, rfl⟩ ⟨by decide, by decide⟩ rfl (Nat.le_of_ble_eq_true rfl) dX12_lacks_67 (fun r u hp => ?_)
        obtain ⟨rfl, hu⟩ := hp
        rw [hu]
        refine r_isub (v := zI (((givW v (v (150 + (3 * ((ordF L) k)))) : Nat) : Int) - ((lockW (v (150 + (3 * ((ordF L) k)) + 1)) (v (150 + (3 * ((ordF L) k)) + 2)) : Nat) : Int))) hc dX12_lacks_70 (sb_NN _ _) ?_
        refine r_iadd (v := zI (b + (((givW v (v (150 + (3 * ((ordF L) k)))) : Nat) : Int) - ((lockW (v (150 + (3 * ((ordF L) k)) + 1)) (v (150 + (3 * ((ordF L) k)) + 2)) : Nat) : Int)))) hc dX12_lacks_71 (ad_ZZ _ _) ?_
        rw [show b + (((givW v (v (150 + 3 * (ordF L k))) : Nat) : Int) - ((lockW (v (150 + 3 * (ordF L k) + 1)) (v (150 + 3 * (ordF L k) + 2)) : Nat) : Int)) = b + plG v (ordF L k) from rfl]
        refine r_istore_n (ls' := [(1, .int (zI (b + plG v (ordF L k)))), (4, .int (nI (150 + (3 * ((ordF L) k))))), (0, .ref M), (2, .int (nI l)), (3, .int (nI k))]) hc dX12_lacks_72 (by decide) rfl ?_
        refine r_iload_n hc dX12_lacks_73 rfl ?_
        refine r_ineg (v := zI (-(b + plG v (ordF L k)))) hc dX12_lacks_74 (ng_Z _) ?_
        refine r_iload_n hc dX12_lacks_75 rfl ?_
        refine r_icmp_le (tgt := 84) hc dX12_lacks_76 (by decide) (le_ZN (by omega) (by omega)) (fun c_76 => ?_) (fun c_76 => ?_)
        ·
          refine r_iload_n hc dX12_lacks_84 rfl ?_
          refine r_istore_n (ls' := [(2, .int (nI l)), (1, .int (zI (b + plG v (ordF L k)))), (4, .int (nI (150 + (3 * ((ordF L) k))))), (0, .ref M), (3, .int (nI k))]) hc dX12_lacks_85 (by decide) rfl ?_
          refine r_iinc (v := nI (k + 1)) (ls' := [(3, .int (nI (k + 1))), (2, .int (nI l)), (1, .int (zI (b + plG v (ordF L k)))), (4, .int (nI (150 + (3 * ((ordF L) k))))), (0, .ref M)]) hc dX12_lacks_86 rfl (ad_NN _ 1) (by decide) rfl ?_
          refine r_goto (tgt := 12) hc dX12_lacks_89 (by decide) ?_
          refine r_locp [4, 2, 1, 0] (ls' := [(0, .ref M), (1, .int (zI (b + plG v (ordF L k)))), (2, .int (nI l)), (3, .int (nI (k + 1)))]) rfl ?_
          exact ih12 (b + plG v (ordF L k)) l (k + 1) (by omega) (by omega) (by omega) (by rw [ord_drop (show k < L.length by omega), lkL] at hlk; rw [← hlk]; omega) (by omega)
        ·
          refine r_iload_n hc dX12_lacks_79 rfl ?_
          refine r_ineg (v := zI (-(b + plG v (ordF L k)))) hc dX12_lacks_80 (ng_Z _) ?_
          refine r_goto (tgt := 85) hc dX12_lacks_81 (by decide) ?_
          rw [zn (show -(b + plG v (ordF L k)) = (((-(b + plG v (ordF L k))).toNat : Nat) : Int) by omega)]
          refine r_istore_n (ls' := [(2, .int (nI ((-(b + plG v (ordF L k))).toNat))), (1, .int (zI (b + plG v (ordF L k)))), (4, .int (nI (150 + (3 * ((ordF L) k))))), (0, .ref M), (3, .int (nI k))]) hc dX12_lacks_85 (by decide) rfl ?_
          refine r_iinc (v := nI (k + 1)) (ls' := [(3, .int (nI (k + 1))), (2, .int (nI ((-(b + plG v (ordF L k))).toNat))), (1, .int (zI (b + plG v (ordF L k)))), (4, .int (nI (150 + (3 * ((ordF L) k))))), (0, .ref M)]) hc dX12_lacks_86 rfl (ad_NN _ 1) (by decide) rfl ?_
          refine r_goto (tgt := 12) hc dX12_lacks_89 (by decide) ?_
          refine r_locp [4, 2, 1, 0] (ls' := [(0, .ref M), (1, .int (zI (b + plG v (ordF L k)))), (2, .int (nI ((-(b + plG v (ordF L k))).toNat))), (3, .int (nI (k + 1)))]) rfl ?_
          exact ih12 (b + plG v (ordF L k)) ((-(b + plG v (ordF L k))).toNat) (k + 1) (by omega) (by omega) (by omega) (by rw [ord_drop (show k < L.length by omega), lkL] at hlk; rw [← hlk]; omega) (by omega)
  rw [nz (v 7)]
  refine r_locp [3, 2, 1, 0] (ls' := [(0, .ref M), (1, .int (zI (((v 7 : Nat) : Int)))), (2, .int (nI 0)), (3, .int (nI 0))]) rfl ?_
  exact loop12 _ (((v 7 : Nat) : Int)) 0 0 (by omega) (by omega) (by omega) (by rw [List.drop_zero]; omega) (Nat.lt_succ_self _)
set_option maxRecDepth 100000 in
set_option maxHeartbeats 4000000 in
theorem c_X12_nextOrder {Ω : OmT} {z : Nat} {sh : Nat → Option Kd} {σ : Nat → Nat → Int32} {ρ : Nat → Nat → Option Nat} {M : Nat} {v : Nat → Nat} (hM : MSh sh ρ M) (hv : rowAt σ (M + 1) 170 v) (hok : okR v) (hbx : v 7 ≤ 1000000000) {o : Nat → Nat} (ho : rowAt σ (M + 6) 6 o) (ho6 : ∀ j, j < 6 → o j < 6) : CtI Ω yX12_nextOrder cX12_nextOrder 7 .boolean rm_X12_nextOrder [.ref M] (z, sh, σ, ρ) (fun r u => ∃ τ : Nat → Nat → Int32, u = (z, sh, τ, ρ) ∧ r = bI (decide (¬ nxK o (v 9 - 1) = 0)) ∧ rowAt τ (M + 6) 6 (if nxK o (v 9 - 1) = 0 then o else nxtF (v 9) o) ∧ ∀ q, q ≠ M + 6 → τ q = σ q) := by
  have hok1 := hok
  obtain ⟨⟨h01, h02⟩, hl1, ⟨h21, h22⟩, h3, h4, h5, h9, hdo, hke, hpn, hpd, htc⟩ := hok1
  have hdr : ∀ d, d < v 4 → v (20 + 6 * d + 2) < 10000 ∧ v (20 + 6 * d + 3) < 10000 := fun d hd => ⟨(hdo d hd).2.2.1, (hdo d hd).2.2.2⟩
  have hcu : ∀ k, k < v 5 → v (80 + 4 * k) < 10000 := fun k hk => (hke k hk).1
  have hwh : ∀ k, k < v 5 → v (80 + 4 * k + 2) ≤ 9 := fun k hk => (hke k hk).2.2
  have hky : ∀ k, k < v 5 → v (80 + 4 * k) < 10000 ∧ v (80 + 4 * k + 2) ≤ 9 ∧ 40 ≤ v (80 + 4 * k + 1) ∧ v (80 + 4 * k + 1) ≤ 90 := fun k hk => ⟨(hke k hk).1, (hke k hk).2.2, (hke k hk).2.1⟩
  have hpl : ∀ p, p < v 9 → v (150 + 3 * p) < 10 := fun p hp => by have := (hpn p hp).1; omega
  refine CtI.enter (by decide) (Nat.le_of_ble_eq_true rfl) (fun Φ hc hR => ?_)
  show Vw Ω Φ (z, sh, σ, ρ) (0, 0) 0 [(0, .ref M)] []
  refine r_aload_n hc dX12_nextOrder_0 rfl ?_
  refine gf_X12_7 (q := M + 1) hc (MS0 hM) (MSr hM 0 1 (by decide)) dX12_nextOrder_1 ?_
  refine r_bipush (v := nI 9) hc dX12_nextOrder_4 rfl ?_
  refine r_iald (x := nI (v 9)) (j := 9) hc (MSa hM 1 0 170 rfl) rfl (by omega) (by decide) (hv _ (by omega)) dX12_nextOrder_6 ?_
  refine r_istore_n (ls' := [(1, .int (nI (v 9))), (0, .ref M)]) hc dX12_nextOrder_7 (by decide) rfl ?_
  refine r_iload_n hc dX12_nextOrder_8 rfl ?_
  refine r_iconst (v := nI 2) hc dX12_nextOrder_9 rfl ?_
  refine r_isub (v := zI (((v 9 : Nat) : Int) - ((2 : Nat) : Int))) hc dX12_nextOrder_10 (sb_NN _ _) ?_
  refine r_istore_n (ls' := [(2, .int (zI (((v 9 : Nat) : Int) - ((2 : Nat) : Int)))), (1, .int (nI (v 9))), (0, .ref M)]) hc dX12_nextOrder_11 (by decide) rfl ?_
  have loop12 : ∀ (n12 : Nat) (x : Int) (m : Nat), (x = (m : Int) - 1 ∨ (x = -2 ∧ m = 0)) → (m ≤ v 9 - 1) → (nxK o m = nxK o (v 9 - 1)) → (m) < n12 → Vw Ω Φ (z, sh, σ, ρ) (0, 0) 12 [(0, .ref M), (1, .int (nI (v 9))), (2, .int (zI x))] [] := by
    intro n12
    induction n12 with
    | zero => intro x m hx hm hKm hm; exact absurd hm (Nat.not_lt_zero _)
    | succ n12 ih12 =>
      intro x m hx hm hKm hm12
      refine r_iload_n hc dX12_nextOrder_12 rfl ?_
      refine r_if_lt (tgt := 39) hc dX12_nextOrder_13 (by decide) (l0_Z (by omega)) (fun c_13 => ?_) (fun c_13 => ?_)
      ·
        refine r_iload_n hc dX12_nextOrder_39 rfl ?_
        refine r_if_ge (tgt := 45) hc dX12_nextOrder_40 (by decide) (ge0_Z (by omega)) (fun c_40 => ?_) (fun c_40 => ?_)
        ·
          exact absurd c_40 (by omega)
        ·
          have hK0 : nxK o (v 9 - 1) = 0 := by rw [← hKm, show m = 0 by omega]; rfl
          refine r_iconst (v := nI 0) hc dX12_nextOrder_43 rfl ?_
          exact hR _ _ ⟨_, rfl, bI_f (decide_eq_false (fun q => q hK0)), by rw [if_pos hK0]; exact ho, fun _ _ => rfl⟩ rfl _ _ dX12_nextOrder_44
      ·
        obtain ⟨k, rfl⟩ : ∃ k, m = k + 1 := ⟨m - 1, by omega⟩
        rw [zn (show x = ((k : Nat) : Int) by omega)]
        refine r_aload_n hc dX12_nextOrder_16 rfl ?_
        refine gf_X12_26 (q := M + 6) hc (MS0 hM) (MSr hM 8 6 (by decide)) dX12_nextOrder_17 ?_
        have ho6d := ho6 k (by omega)
        have ho6e := ho6 (k + 1) (by omega)
        refine r_iload_n hc dX12_nextOrder_20 rfl ?_
        refine r_iald (x := nI (o k)) (j := k) hc (MSa hM 6 0 6 rfl) rfl (by omega) (by decide) (ho _ (by omega)) dX12_nextOrder_21 ?_
        refine r_aload_n hc dX12_nextOrder_22 rfl ?_
        refine gf_X12_26 (q := M + 6) hc (MS0 hM) (MSr hM 8 6 (by decide)) dX12_nextOrder_23 ?_
        refine r_iload_n hc dX12_nextOrder_26 rfl ?_
        refine r_iconst (v := nI 1) hc dX12_nextOrder_27 rfl ?_
        refine r_iadd (v := nI (k + 1)) hc dX12_nextOrder_28 (ad_NN _ _) ?_
        refine r_iald (x := nI (o (k + 1))) (j := k + 1) hc (MSa hM 6 0 6 rfl) rfl (by omega) (by decide) (ho _ (by omega)) dX12_nextOrder_29 ?_
        refine r_icmp_le (tgt := 39) hc dX12_nextOrder_30 (by decide) (le_NN (by omega) (by omega)) (fun c_30 => ?_) (fun c_30 => ?_)
        ·
          refine r_iload_n hc dX12_nextOrder_39 rfl ?_
          refine r_if_ge (tgt := 45) hc dX12_nextOrder_40 (by decide) (ge0_N (by omega)) (fun c_40 => ?_) (fun c_40 => ?_)
          ·
            refine r_iload_n hc dX12_nextOrder_45 rfl ?_
            refine r_iconst (v := nI 1) hc dX12_nextOrder_46 rfl ?_
            refine r_isub (v := nI (v 9 - 1)) hc dX12_nextOrder_47 (sb_N _ _ (by omega)) ?_
            refine r_istore_n (ls' := [(3, .int (nI (v 9 - 1))), (0, .ref M), (1, .int (nI (v 9))), (2, .int (nI k))]) hc dX12_nextOrder_48 (by decide) rfl ?_
            have loop49 : ∀ (n49 : Nat) (j : Nat), (k + 1 ≤ j ∧ j ≤ v 9 - 1) → (nxO o (o k) j = nxO o (o k) (v 9 - 1)) → (j) < n49 → Vw Ω Φ (z, sh, σ, ρ) (0, 0) 49 [(0, .ref M), (1, .int (nI (v 9))), (2, .int (nI k)), (3, .int (nI j))] [] := by
              intro n49
              induction n49 with
              | zero => intro j hj hO hm; exact absurd hm (Nat.not_lt_zero _)
              | succ n49 ih49 =>
                intro j hj hO hm49
                have ho6a := ho6 j (by omega)
                have ho6b := ho6 k (by omega)
                have ho6c := ho6 (k + 1) (by omega)
                refine r_aload_n hc dX12_nextOrder_49 rfl ?_
                refine gf_X12_26 (q := M + 6) hc (MS0 hM) (MSr hM 8 6 (by decide)) dX12_nextOrder_50 ?_
                refine r_iload_n hc dX12_nextOrder_53 rfl ?_
                refine r_iald (x := nI (o j)) (j := j) hc (MSa hM 6 0 6 rfl) rfl (by omega) (by decide) (ho _ (by omega)) dX12_nextOrder_54 ?_
                refine r_aload_n hc dX12_nextOrder_55 rfl ?_
                refine gf_X12_26 (q := M + 6) hc (MS0 hM) (MSr hM 8 6 (by decide)) dX12_nextOrder_56 ?_
                refine r_iload_n hc dX12_nextOrder_59 rfl ?_
                refine r_iald (x := nI (o k)) (j := k) hc (MSa hM 6 0 6 rfl) rfl (by omega) (by decide) (ho _ (by omega)) dX12_nextOrder_60 ?_
                refine r_icmp_ge (tgt := 70) hc dX12_nextOrder_61 (by decide) (le_NN (by omega) (by omega)) (fun c_61 => ?_) (fun c_61 => ?_)
                ·
                  refine r_aload_n hc dX12_nextOrder_70 rfl ?_
                  refine gf_X12_26 (q := M + 6) hc (MS0 hM) (MSr hM 8 6 (by decide)) dX12_nextOrder_71 ?_
                  refine r_iload_n hc dX12_nextOrder_74 rfl ?_
                  refine r_iald (x := nI (o k)) (j := k) hc (MSa hM 6 0 6 rfl) rfl (by omega) (by decide) (ho _ (by omega)) dX12_nextOrder_75 ?_
                  refine r_istore (ls' := [(4, .int (nI (o k))), (0, .ref M), (1, .int (nI (v 9))), (2, .int (nI k)), (3, .int (nI j))]) hc dX12_nextOrder_76 (by decide) rfl ?_
                  refine r_aload_n hc dX12_nextOrder_78 rfl ?_
                  refine gf_X12_26 (q := M + 6) hc (MS0 hM) (MSr hM 8 6 (by decide)) dX12_nextOrder_79 ?_
                  refine r_iload_n hc dX12_nextOrder_82 rfl ?_
                  refine r_aload_n hc dX12_nextOrder_83 rfl ?_
                  refine gf_X12_26 (q := M + 6) hc (MS0 hM) (MSr hM 8 6 (by decide)) dX12_nextOrder_84 ?_
                  refine r_iload_n hc dX12_nextOrder_87 rfl ?_
                  refine r_iald (x := nI (o j)) (j := j) hc (MSa hM 6 0 6 rfl) rfl (by omega) (by decide) (ho _ (by omega)) dX12_nextOrder_88 ?_
                  refine r_iast (j := k) hc (MSa hM 6 0 6 rfl) rfl (by omega) (by decide) dX12_nextOrder_89 ?_
                  generalize hσ1 : s2 σ (M + 6) k (nI (o j)) = σ1
                  have hv : rowAt σ1 (M + 1) 170 v := by rw [← hσ1]; exact hv.keep (by omega) _ _
                  have ho : rowAt σ1 (M + 6) 6 (va_up o k (o j)) := by rw [← hσ1]; exact ho.upd _ _
                  refine r_aload_n hc dX12_nextOrder_90 rfl ?_
                  refine gf_X12_26 (q := M + 6) hc (MS0 hM) (MSr hM 8 6 (by decide)) dX12_nextOrder_91 ?_
                  refine r_iload_n hc dX12_nextOrder_94 rfl ?_
                  refine r_iload hc dX12_nextOrder_95 rfl ?_
                  refine r_iast (j := j) hc (MSa hM 6 0 6 rfl) rfl (by omega) (by decide) dX12_nextOrder_97 ?_
                  generalize hσ2 : s2 σ1 (M + 6) j (nI (o k)) = σ2
                  have hv : rowAt σ2 (M + 1) 170 v := by rw [← hσ2]; exact hv.keep (by omega) _ _
                  have ho : rowAt σ2 (M + 6) 6 (va_up (va_up o k (o j)) j (o k)) := by rw [← hσ2]; exact ho.upd _ _
                  refine r_iload_n hc dX12_nextOrder_98 rfl ?_
                  refine r_iconst (v := nI 1) hc dX12_nextOrder_99 rfl ?_
                  refine r_iadd (v := nI (k + 1)) hc dX12_nextOrder_100 (ad_NN _ _) ?_
                  refine r_istore (ls' := [(5, .int (nI (k + 1))), (4, .int (nI (o k))), (0, .ref M), (1, .int (nI (v 9))), (2, .int (nI k)), (3, .int (nI j))]) hc dX12_nextOrder_101 (by decide) rfl ?_
                  refine r_iload_n hc dX12_nextOrder_103 rfl ?_
                  refine r_iconst (v := nI 1) hc dX12_nextOrder_104 rfl ?_
                  refine r_isub (v := nI (v 9 - 1)) hc dX12_nextOrder_105 (sb_N _ _ (by omega)) ?_
                  refine r_istore (ls' := [(6, .int (nI (v 9 - 1))), (5, .int (nI (k + 1))), (4, .int (nI (o k))), (0, .ref M), (1, .int (nI (v 9))), (2, .int (nI k)), (3, .int (nI j))]) hc dX12_nextOrder_106 (by decide) rfl ?_
                  have hKk : nxK o (v 9 - 1) = k + 1 := by rw [← hKm, nxK, if_neg (by omega)]
                  have hKn : ¬ nxK o (v 9 - 1) = 0 := by rw [hKk]; omega
                  have hOj : nxO o (o k) (v 9 - 1) = j := by rw [← hO, show j = (j - 1) + 1 by omega, nxO, if_neg (by rw [show j - 1 + 1 = j by omega]; omega)]
                  have hnx : nxtF (v 9) o = revF 6 (k + 1) (v 9 - 1) (swp o k j) := by unfold nxtF; rw [hKk, Nat.add_sub_cancel, hOj]
                  have hrw : rowAt σ2 (M + 6) 6 (swp o k j) := by rw [show swp o k j = va_up (va_up o k (o j)) j (o k) from rfl]; exact ho
                  have hfr1 : ∀ q, q ≠ M + 6 → σ2 q = σ q := fun q hq => by rw [← hσ2, s2_ne hq, ← hσ1, s2_ne hq]
                  have loop108 : ∀ (n108 : Nat) (τ : Nat → Nat → Int32) (f : Nat) (a : Nat) (b : Nat) (oo : Nat → Nat), (a ≤ 6 ∧ b ≤ 5 ∧ b ≤ a + 2 * f) → (rowAt τ (M + 6) 6 oo) → (revF f a b oo = revF 6 (k + 1) (v 9 - 1) (swp o k j)) → (∀ q, q ≠ M + 6 → τ q = σ q) → (b - a + 1) < n108 → Vw Ω Φ (z, sh, τ, ρ) (0, 0) 108 [(0, .ref M), (5, .int (nI a)), (6, .int (nI b))] [] := by
                    intro n108
                    induction n108 with
                    | zero => intro τ f a b oo ha ho hRv hfr hm; exact absurd hm (Nat.not_lt_zero _)
                    | succ n108 ih108 =>
                      intro τ f a b oo ha ho hRv hfr hm108
                      refine r_iload hc dX12_nextOrder_108 rfl ?_
                      refine r_iload hc dX12_nextOrder_110 rfl ?_
                      refine r_icmp_ge (tgt := 156) hc dX12_nextOrder_112 (by decide) (le_NN (by omega) (by omega)) (fun c_112 => ?_) (fun c_112 => ?_)
                      ·
                        have hRow : rowAt τ (M + 6) 6 (nxtF (v 9) o) := by rw [hnx, ← hRv]; cases f with | zero => exact ho | succ f => rw [revF, if_neg (by omega)]; exact ho
                        refine r_iconst (v := nI 1) hc dX12_nextOrder_156 rfl ?_
                        exact hR _ _ ⟨_, rfl, bI_t (decide_eq_true hKn), by rw [if_neg hKn]; exact hRow, hfr⟩ rfl _ _ dX12_nextOrder_157
                      ·
                        obtain ⟨f, rfl⟩ : ∃ g, f = g + 1 := ⟨f - 1, by omega⟩
                        refine r_aload_n hc dX12_nextOrder_115 rfl ?_
                        refine gf_X12_26 (q := M + 6) hc (MS0 hM) (MSr hM 8 6 (by decide)) dX12_nextOrder_116 ?_
                        refine r_iload hc dX12_nextOrder_119 rfl ?_
                        refine r_iald (x := nI (oo a)) (j := a) hc (MSa hM 6 0 6 rfl) rfl (by omega) (by decide) (ho _ (by omega)) dX12_nextOrder_121 ?_
                        refine r_istore (ls' := [(4, .int (nI (oo a))), (0, .ref M), (5, .int (nI a)), (6, .int (nI b))]) hc dX12_nextOrder_122 (by decide) rfl ?_
                        refine r_aload_n hc dX12_nextOrder_124 rfl ?_
                        refine gf_X12_26 (q := M + 6) hc (MS0 hM) (MSr hM 8 6 (by decide)) dX12_nextOrder_125 ?_
                        refine r_iload hc dX12_nextOrder_128 rfl ?_
                        refine r_aload_n hc dX12_nextOrder_130 rfl ?_
                        refine gf_X12_26 (q := M + 6) hc (MS0 hM) (MSr hM 8 6 (by decide)) dX12_nextOrder_131 ?_
                        refine r_iload hc dX12_nextOrder_134 rfl ?_
                        refine r_iald (x := nI (oo b)) (j := b) hc (MSa hM 6 0 6 rfl) rfl (by omega) (by decide) (ho _ (by omega)) dX12_nextOrder_136 ?_
                        refine r_iast (j := a) hc (MSa hM 6 0 6 rfl) rfl (by omega) (by decide) dX12_nextOrder_137 ?_
                        generalize hσ3 : s2 τ (M + 6) a (nI (oo b)) = σ3
                        have ho : rowAt σ3 (M + 6) 6 (va_up oo a (oo b)) := by rw [← hσ3]; exact ho.upd _ _
                        refine r_aload_n hc dX12_nextOrder_138 rfl ?_
                        refine gf_X12_26 (q := M + 6) hc (MS0 hM) (MSr hM 8 6 (by decide)) dX12_nextOrder_139 ?_
                        refine r_iload hc dX12_nextOrder_142 rfl ?_
                        refine r_iload hc dX12_nextOrder_144 rfl ?_
                        refine r_iast (j := b) hc (MSa hM 6 0 6 rfl) rfl (by omega) (by decide) dX12_nextOrder_146 ?_
                        generalize hσ4 : s2 σ3 (M + 6) b (nI (oo a)) = σ4
                        have ho : rowAt σ4 (M + 6) 6 (va_up (va_up oo a (oo b)) b (oo a)) := by rw [← hσ4]; exact ho.upd _ _
                        refine r_iinc (v := nI (a + 1)) (ls' := [(5, .int (nI (a + 1))), (4, .int (nI (oo a))), (0, .ref M), (6, .int (nI b))]) hc dX12_nextOrder_147 rfl (ad_NN _ 1) (by decide) rfl ?_
                        refine r_iinc (v := nI (b - 1)) (ls' := [(6, .int (nI (b - 1))), (5, .int (nI (a + 1))), (4, .int (nI (oo a))), (0, .ref M)]) hc dX12_nextOrder_150 rfl (by rw [show Int32.ofInt (-1) = zI (-1) from rfl, ad_NZ]; exact zn (by omega)) (by decide) rfl ?_
                        refine r_goto (tgt := 108) hc dX12_nextOrder_153 (by decide) ?_
                        refine r_locp [3, 1, 0] (ls' := [(0, .ref M), (5, .int (nI (a + 1))), (6, .int (nI (b - 1)))]) rfl ?_
                        exact ih108 σ4 f (a + 1) (b - 1) (swp oo a b) (by omega) ho (by rw [← hRv, revF, if_pos (by omega)]) (fun q hq => by rw [← hσ4, s2_ne hq, ← hσ3, s2_ne hq]; exact hfr q hq) (by omega)
                  refine r_locp [3, 1, 0] (ls' := [(0, .ref M), (5, .int (nI (k + 1))), (6, .int (nI (v 9 - 1)))]) rfl ?_
                  exact loop108 _ σ2 6 (k + 1) (v 9 - 1) (swp o k j) (by omega) hrw rfl hfr1 (Nat.lt_succ_self _)
                ·
                  refine r_iinc (v := nI (j - 1)) (ls' := [(3, .int (nI (j - 1))), (0, .ref M), (1, .int (nI (v 9))), (2, .int (nI k))]) hc dX12_nextOrder_64 rfl (by rw [show Int32.ofInt (-1) = zI (-1) from rfl, ad_NZ]; exact zn (by omega)) (by decide) rfl ?_
                  refine r_goto (tgt := 49) hc dX12_nextOrder_67 (by decide) ?_
                  refine r_locp [1, 2, 3, 0] (ls' := [(0, .ref M), (1, .int (nI (v 9))), (2, .int (nI k)), (3, .int (nI (j - 1)))]) rfl ?_
                  exact ih49 (j - 1) (by by_cases hjk : j = k + 1; (subst hjk; omega); omega) (by rw [← hO, show j = (j - 1) + 1 by omega, nxO, if_pos (by rw [show j - 1 + 1 = j by omega]; omega), Nat.add_sub_cancel]) (by omega)
            refine r_locp [1, 2, 3, 0] (ls' := [(0, .ref M), (1, .int (nI (v 9))), (2, .int (nI k)), (3, .int (nI (v 9 - 1)))]) rfl ?_
            exact loop49 _ (v 9 - 1) (by omega) rfl (Nat.lt_succ_self _)
          ·
            exact absurd trivial c_40
        ·
          refine r_iinc (v := zI ((k : Int) - 1)) (ls' := [(2, .int (zI ((k : Int) - 1))), (0, .ref M), (1, .int (nI (v 9)))]) hc dX12_nextOrder_33 rfl (by rw [show Int32.ofInt (-1) = zI (-1) from rfl, ad_NZ]; rfl) (by decide) rfl ?_
          refine r_goto (tgt := 12) hc dX12_nextOrder_36 (by decide) ?_
          refine r_locp [1, 2, 0] (ls' := [(0, .ref M), (1, .int (nI (v 9))), (2, .int (zI ((k : Int) - 1)))]) rfl ?_
          exact ih12 ((k : Int) - 1) k (by omega) (by omega) (by rw [← hKm, nxK, if_pos (by omega)]) (by omega)
  refine r_locp [2, 1, 0] (ls' := [(0, .ref M), (1, .int (nI (v 9))), (2, .int (zI (((v 9 : Nat) : Int) - ((2 : Nat) : Int))))]) rfl ?_
  exact loop12 _ (((v 9 : Nat) : Int) - ((2 : Nat) : Int)) (v 9 - 1) (by omega) (by omega) rfl (Nat.lt_succ_self _)
def LayR (τ : Nat → Nat → Int32) (M : Nat) (v : Nat → Nat) : Prop := τ M 10 = nI (oC v (v 9) 0) ∧ τ M 11 = nI (lC v (v 9) 0) ∧ τ M 12 = nI (mC v (v 9) 0) ∧ (0 < oC v (v 9) 0 → ∀ k, k < v 9 → τ (M + 7) k = zI (lnF v (dnF v k)))
theorem layE {τ : Nat → Nat → Int32} {M : Nat} (v : Nat → Nat) (h9 : v 9 ≤ 6) (hbx : v 7 ≤ 1000000000) (h : LAc τ M v (PLm (v 9) (v 9) 0)) : LayR τ M v := by
  have hne : PLm (v 9) (v 9) 0 ≠ [] := fun q => by
    have h1 := chk_n h9
    unfold chkL at h1
    rw [q] at h1
    exact Bool.noConfusion h1
  obtain ⟨h1, h2, h3, h4⟩ := h
  refine ⟨by rw [h1, o_all]; rfl, by rw [h2, l_all]; rfl, ?_, fun ho k hk => ?_⟩
  · rw [h3, nz]
    unfold lkI
    rw [if_neg hne, m_all v (fun D p => Nat.le_trans (gp_le v D p h9) (by decide))]
  · obtain ⟨_, _, F, G, h5, _, _, h8⟩ := first_all v ho (v 9) (Nat.le_refl _)
    obtain ⟨p, g1, _⟩ := ln_ok v ho k hk
    rw [h4 F h5 k (by omega), g1, ← nz]
    congr 1
    have h9k := h8 k hk
    unfold ordF
    rw [List.getD_eq_getElem?_getD, h9k, g1, Int.toNat_natCast]; rfl
set_option maxRecDepth 100000 in
set_option maxHeartbeats 4000000 in
theorem c_X12_layOrders {Ω : OmT} {z : Nat} {sh : Nat → Option Kd} {σ : Nat → Nat → Int32} {ρ : Nat → Nat → Option Nat} {M : Nat} {v : Nat → Nat} (hM : MSh sh ρ M) (hv : rowAt σ (M + 1) 170 v) (hok : okR v) (hbx : v 7 ≤ 1000000000)  : CtV Ω yX12_layOrders cX12_layOrders 4 rm_X12_layOrders [.ref M] (z, sh, σ, ρ) (fun u => ∃ τ : Nat → Nat → Int32, u = (z, sh, τ, ρ) ∧ LayR τ M v ∧ (∀ q, q ≠ M → q ≠ M + 6 → q ≠ M + 7 → τ q = σ q) ∧ ∀ k, (k < 10 ∨ 12 < k) → τ M k = σ M k) := by
  have hok1 := hok
  obtain ⟨⟨h01, h02⟩, hl1, ⟨h21, h22⟩, h3, h4, h5, h9, hdo, hke, hpn, hpd, htc⟩ := hok1
  have hdr : ∀ d, d < v 4 → v (20 + 6 * d + 2) < 10000 ∧ v (20 + 6 * d + 3) < 10000 := fun d hd => ⟨(hdo d hd).2.2.1, (hdo d hd).2.2.2⟩
  have hcu : ∀ k, k < v 5 → v (80 + 4 * k) < 10000 := fun k hk => (hke k hk).1
  have hwh : ∀ k, k < v 5 → v (80 + 4 * k + 2) ≤ 9 := fun k hk => (hke k hk).2.2
  have hky : ∀ k, k < v 5 → v (80 + 4 * k) < 10000 ∧ v (80 + 4 * k + 2) ≤ 9 ∧ 40 ≤ v (80 + 4 * k + 1) ∧ v (80 + 4 * k + 1) ≤ 90 := fun k hk => ⟨(hke k hk).1, (hke k hk).2.2, (hke k hk).2.1⟩
  have hpl : ∀ p, p < v 9 → v (150 + 3 * p) < 10 := fun p hp => by have := (hpn p hp).1; omega
  have hv0 := hv
  have hck := chk_n h9
  unfold chkL at hck
  rw [Bool.and_eq_true] at hck
  have hne : PLm (v 9) (v 9) 0 ≠ [] := fun q => by rw [q] at hck; exact Bool.noConfusion hck.1
  have hhd : ∀ j, j < 6 → ordF ((PLm (v 9) (v 9) 0).headD []) j = j := by cases hq : PLm (v 9) (v 9) 0 with | nil => exact absurd hq hne | cons L r => (have h7 := hck.2; rw [hq] at h7; exact eqO_iff h7)
  refine CtV.enter (by decide) (Nat.le_of_ble_eq_true rfl) (fun Φ hc hi hR => ?_)
  show Vw Ω Φ (z, sh, σ, ρ) (0, 0) 0 [(0, .ref M)] []
  refine r_iconst (v := nI 0) hc dX12_layOrders_0 rfl ?_
  refine r_istore_n (ls' := [(1, .int (nI 0)), (0, .ref M)]) hc dX12_layOrders_1 (by decide) rfl ?_
  have loop2 : ∀ (n2 : Nat) (τ : Nat → Nat → Int32) (k : Nat), (k ≤ 6) → (rowAt τ (M + 6) k (fun j => j)) → (∀ q, q ≠ M + 6 → τ q = σ q) → (6 - k) < n2 → Vw Ω Φ (z, sh, τ, ρ) (0, 0) 2 [(0, .ref M), (1, .int (nI k))] [] := by
    intro n2
    induction n2 with
    | zero => intro τ k hk ho hfr hm; exact absurd hm (Nat.not_lt_zero _)
    | succ n2 ih2 =>
      intro τ k hk ho hfr hm2
      refine r_iload_n hc dX12_layOrders_2 rfl ?_
      refine r_bipush (v := nI 6) hc dX12_layOrders_3 rfl ?_
      refine r_icmp_ge (tgt := 21) hc dX12_layOrders_5 (by decide) (le_NN (by omega) (by omega)) (fun c_5 => ?_) (fun c_5 => ?_)
      ·
        refine r_aload_n hc dX12_layOrders_21 rfl ?_
        refine r_iconst (v := nI 0) hc dX12_layOrders_22 rfl ?_
        refine pf_X12_125 hc (MS0 hM) dX12_layOrders_23 ?_
        generalize hσ1 : s2 τ M 10 (nI 0) = σ1
        refine r_aload_n hc dX12_layOrders_26 rfl ?_
        refine r_iconst (v := nI 0) hc dX12_layOrders_27 rfl ?_
        refine pf_X12_128 hc (MS0 hM) dX12_layOrders_28 ?_
        generalize hσ2 : s2 σ1 M 11 (nI 0) = σ2
        refine r_aload_n hc dX12_layOrders_31 rfl ?_
        refine r_iconst (v := zI (-1)) hc dX12_layOrders_32 rfl ?_
        refine pf_X12_131 hc (MS0 hM) dX12_layOrders_33 ?_
        generalize hσ3 : s2 σ2 M 12 (zI (-1)) = σ3
        refine r_iconst (v := nI 1) hc dX12_layOrders_36 rfl ?_
        refine r_istore_n (ls' := [(1, .int (nI 1)), (0, .ref M)]) hc dX12_layOrders_37 (by decide) rfl ?_
        have loop38 : ∀ (n38 : Nat) (τ : Nat → Nat → Int32) (pre : List (List Nat)) (rest : List (List Nat)) (m : Bool), (PLm (v 9) (v 9) 0 = pre ++ rest) → (m = true ↔ rest ≠ []) → (rest = [] ∨ (chnL (v 9) rest = true ∧ rowAt τ (M + 6) 6 (ordF (rest.headD [])))) → (LAc τ M v pre) → ((∀ q, q ≠ M → q ≠ M + 6 → q ≠ M + 7 → τ q = σ q) ∧ ∀ k, (k < 10 ∨ 12 < k) → τ M k = σ M k) → (rest.length) < n38 → Vw Ω Φ (z, sh, τ, ρ) (0, 0) 38 [(0, .ref M), (1, .int (bI m))] [] := by
          intro n38
          induction n38 with
          | zero => intro τ pre rest m hsp hm hch hAc hfr hm; exact absurd hm (Nat.not_lt_zero _)
          | succ n38 ih38 =>
            intro τ pre rest m hsp hm hch hAc hfr hm38
            have hv : rowAt τ (M + 1) 170 v := hv0.sig (hfr.1 _ (by omega) (by omega) (by omega))
            have hAc1 := hAc
            obtain ⟨h10, h11, h12, hfi⟩ := hAc1
            refine r_iload_n hc dX12_layOrders_38 rfl ?_
            refine r_if_eq (tgt := 168) hc dX12_layOrders_39 (by decide) (bI_0 _) (fun c_39 => ?_) (fun c_39 => ?_)
            ·
              have hre : rest = [] := by cases rest with | nil => rfl | cons L r => rw [hm.mpr (by simp)] at c_39; exact Bool.noConfusion c_39
              subst hre
              rw [List.append_nil] at hsp
              subst hsp
              exact hR _ ⟨_, rfl, layE v h9 (by omega) hAc, hfr⟩ _ _ dX12_layOrders_168
            ·
              have c_39 := bnf c_39
              obtain ⟨L, post, hrest⟩ : ∃ L post, rest = L :: post := by cases rest with | nil => exact absurd rfl (hm.mp c_39) | cons L post => exact ⟨L, post, rfl⟩
              subst hrest
              have hlen : (L :: post).length = post.length + 1 := rfl
              obtain ⟨hch, ho0⟩ := hch.resolve_left (by simp)
              have ho : rowAt τ (M + 6) 6 (ordF L) := ho0
              have hLm : L ∈ PLm (v 9) (v 9) 0 := by rw [hsp]; simp
              have hL := PLm_len (v 9) 0 L hLm
              have hlk := lk_le v L (bxA v 0)
              have hb0 := bx_0 v
              have hlkr := lkI_rng v pre
              have hsn := lkI_snoc v pre L (by omega)
              have hS6 : sumL (okN v) pre ≤ 6 ^ 6 := by have h7 := sumL_le_app (okN v) pre (L :: post); rw [← hsp] at h7; exact Nat.le_trans h7 (Nat.le_trans (Nat.le_of_eq (o_all v (v 9) 0).symm) (Nat.le_trans (oC_le v h9 _ _) (Nat.pow_le_pow_right (by decide) h9)))
              refine r_aload_n hc dX12_layOrders_42 rfl ?_
              refine cl_X12_134 (As := []) hc (c_X12_lacks hM hv hok hbx ho hL) (MS0 hM) rfl ⟨by decide, by decide⟩ ⟨rfl, rfl⟩ ⟨by decide, by decide⟩ rfl (Nat.le_of_ble_eq_true rfl) dX12_layOrders_43 (fun r u hp => ?_)
              obtain ⟨rfl, hu⟩ := hp
              rw [hu]
              refine r_istore_n (ls' := [(2, .int (nI (lkL v (bxA v 0) L))), (0, .ref M), (1, .int (bI m))]) hc dX12_layOrders_46 (by decide) rfl ?_
              refine r_aload_n hc dX12_layOrders_47 rfl ?_
              refine r_aload_n hc dX12_layOrders_48 rfl ?_
              refine gf_X12_131 (x := zI (lkI v pre)) hc (MS0 hM) h12 dX12_layOrders_49 ?_
              refine r_if_lt (tgt := 63) hc dX12_layOrders_52 (by decide) (l0_Z (by omega)) (fun c_52 => ?_) (fun c_52 => ?_)
              ·
                refine r_iload_n hc dX12_layOrders_63 rfl ?_
                refine r_goto (tgt := 71) hc dX12_layOrders_64 (by decide) ?_
                refine pf_X12_131 hc (MS0 hM) dX12_layOrders_71 ?_
                generalize hσ4 : s2 τ M 12 (nI (lkL v (bxA v 0) L)) = σ4
                have hv : rowAt σ4 (M + 1) 170 v := by rw [← hσ4]; exact hv.keep (by omega) _ _
                have h10 : σ4 M 10 = nI (sumL (okN v) pre) := by rw [← hσ4]; exact s2_keep h10 (by omega)
                have h11 : σ4 M 11 = nI (orL (lsN v) pre) := by rw [← hσ4]; exact s2_keep h11 (by omega)
                have h12 : σ4 M 12 = nI (lkL v (bxA v 0) L) := by rw [← hσ4]; exact s2_same _ _ _ _
                have ho : rowAt σ4 (M + 6) 6 (ordF L) := by rw [← hσ4]; exact ho.keep (by omega) _ _
                have h12 : σ4 M 12 = zI (lkI v (pre ++ [L])) := by rw [h12, nz, hsn, if_pos (Or.inl (by omega))]
                refine r_iload_n hc dX12_layOrders_74 rfl ?_
                refine r_if_ne (tgt := 160) hc dX12_layOrders_75 (by decide) (e0_N (by omega)) (fun c_75 => ?_) (fun c_75 => ?_)
                ·
                  have hfr0 := hfr
                  refine r_aload_n hc dX12_layOrders_160 rfl ?_
                  have hvn : rowAt σ4 (M + 1) 170 v := hv
                  have ho6 : ∀ j, j < 6 → ordF L j < 6 := fun j hj => by by_cases h7 : j < L.length; exact Nat.lt_of_lt_of_le (hL.2 _ (ord_mem h7)) h9; rw [ord_off (by omega)]; exact hj
                  refine cl_X12_138 (As := []) hc (c_X12_nextOrder hM hv hok hbx ho ho6) (MS0 hM) rfl ⟨by decide, by decide⟩ ⟨rfl, rfl⟩ ⟨by decide, by decide⟩ rfl (Nat.le_of_ble_eq_true rfl) dX12_layOrders_161 (fun r u hp => ?_)
                  have hfrp : (∀ q, q ≠ M → q ≠ M + 6 → q ≠ M + 7 → σ4 q = σ q) ∧ ∀ k, (k < 10 ∨ 12 < k) → σ4 M k = σ M k := ⟨fun q q1 q2 q3 => by rw [← hσ4, s2_ne q1]; exact hfr0.1 q q1 q2 q3, fun k hk => by rw [← hσ4, s2_nk (by omega)]; exact hfr0.2 k hk⟩
                  have hAc2 : LAc σ4 M v (pre ++ [L]) := ⟨by rw [sumL_app]; show _ = nI (sumL (okN v) pre + (okN v L + 0)); rw [show okN v L = 0 from if_neg c_75]; exact h10, by rw [orL_app]; show _ = nI (orL (lsN v) pre ||| (lsN v L ||| 0)); rw [show lsN v L = 0 from if_neg c_75, show (0 ||| 0 : Nat) = 0 from rfl, Nat.or_zero]; exact h11, h12, fun F hF => by
                      rcases (fs_snoc v pre L F).mp hF with hq | hq
                      · exact (hfi F hq).sig (by rw [← hσ4, s2_ne (by omega)])
                      · exact absurd hq.2.1 c_75⟩
                  obtain ⟨τ2, hu, hr, hrow2, hfr2⟩ := hp
                  subst hr
                  rw [hu]
                  have hAc3 : LAc τ2 M v (pre ++ [L]) := ⟨by rw [hfr2 M (by omega)]; exact hAc2.1, by rw [hfr2 M (by omega)]; exact hAc2.2.1, by rw [hfr2 M (by omega)]; exact hAc2.2.2.1, fun F hF => (hAc2.2.2.2 F hF).sig (hfr2 _ (by omega))⟩
                  have hfr3 : (∀ q, q ≠ M → q ≠ M + 6 → q ≠ M + 7 → τ2 q = σ q) ∧ ∀ k, (k < 10 ∨ 12 < k) → τ2 M k = σ M k := ⟨fun q q1 q2 q3 => by rw [hfr2 q q2]; exact hfrp.1 q q1 q2 q3, fun k hk => by rw [hfr2 M (by omega)]; exact hfrp.2 k hk⟩
                  have hcc := chn_cons hch
                  have hm2 : decide (¬ nxK (ordF L) (v 9 - 1) = 0) = true ↔ post ≠ [] := by
                    rw [decide_eq_true_eq]
                    rcases hcc with h7 | h7
                    · exact ⟨fun q => absurd h7.1 q, fun q => absurd h7.2 q⟩
                    · exact ⟨fun _ => h7.2.2.2, fun _ => h7.1⟩
                  have hch2 : post = [] ∨ (chnL (v 9) post = true ∧ rowAt τ2 (M + 6) 6 (ordF (post.headD []))) := by
                    rcases hcc with h7 | h7
                    · exact Or.inl h7.2
                    · right
                      rw [if_neg h7.1] at hrow2
                      exact ⟨h7.2.1, hrow2.cong h7.2.2.1⟩
                  have hsp2 : PLm (v 9) (v 9) 0 = (pre ++ [L]) ++ post := by rw [hsp]; simp
                  refine r_istore_n (ls' := [(1, .int (bI (decide (¬ nxK (ordF L) (v 9 - 1) = 0)))), (2, .int (nI (lkL v (bxA v 0) L))), (0, .ref M)]) hc dX12_layOrders_164 (by decide) rfl ?_
                  refine r_goto (tgt := 38) hc dX12_layOrders_165 (by decide) ?_
                  refine r_locp [2, 0] (ls' := [(0, .ref M), (1, .int (bI (decide (¬ nxK (ordF L) (v 9 - 1) = 0))))]) rfl ?_
                  exact ih38 τ2 (pre ++ [L]) post (decide (¬ nxK (ordF L) (v 9 - 1) = 0)) hsp2 hm2 hch2 hAc3 hfr3 (by omega)
                ·
                  refine r_iconst (v := nI 0) hc dX12_layOrders_78 rfl ?_
                  refine r_istore_n (ls' := [(3, .int (nI 0)), (2, .int (nI (lkL v (bxA v 0) L))), (0, .ref M), (1, .int (bI m))]) hc dX12_layOrders_79 (by decide) rfl ?_
                  have loop80 : ∀ (n80 : Nat) (τ : Nat → Nat → Int32) (k : Nat), (k ≤ 6) → (rowAt τ (M + 7) k (ordF L)) → (τ M 10 = nI (sumL (okN v) pre)) → (τ M 11 = nI (orL (lsN v) pre)) → (τ M 12 = zI (lkI v (pre ++ [L]))) → (rowAt τ (M + 6) 6 (ordF L)) → (rowAt τ (M + 1) 170 v) → (sumL (okN v) pre ≠ 0 → k = 0) → (sumL (okN v) pre ≠ 0 → ∀ F, fsL (okL v 0) pre = some F → rowAt τ (M + 7) 6 (ordF F)) → ((∀ q, q ≠ M → q ≠ M + 6 → q ≠ M + 7 → τ q = σ q) ∧ ∀ k, (k < 10 ∨ 12 < k) → τ M k = σ M k) → (6 - k) < n80 → Vw Ω Φ (z, sh, τ, ρ) (0, 0) 80 [(0, .ref M), (2, .int (nI (lkL v (bxA v 0) L))), (3, .int (nI k))] [] := by
                    intro n80
                    induction n80 with
                    | zero => intro τ k hk hcp h10 h11 h12 ho hv hkS hfi2 hfr hm; exact absurd hm (Nat.not_lt_zero _)
                    | succ n80 ih80 =>
                      intro τ k hk hcp h10 h11 h12 ho hv hkS hfi2 hfr hm80
                      refine r_iload_n hc dX12_layOrders_80 rfl ?_
                      refine r_bipush (v := nI 6) hc dX12_layOrders_81 rfl ?_
                      refine r_icmp_ge (tgt := 111) hc dX12_layOrders_83 (by decide) (le_NN (by omega) (by omega)) (fun c_83 => ?_) (fun c_83 => ?_)
                      ·
                        have hf2 : ∀ F, fsL (okL v 0) (pre ++ [L]) = some F → rowAt τ (M + 7) 6 (ordF F) := by
                          intro F hF
                          rcases (fs_snoc v pre L F).mp hF with hq | ⟨hq1, hq2, hq3⟩
                          · by_cases hS : sumL (okN v) pre = 0
                            · have h8 := (fsL_none (okL v 0) pre).mpr (by rw [sumL_cong _ (fun L => show (if okL v 0 L = true then 1 else 0) = okN v L by simp [okL, okN])]; exact hS)
                              rw [h8] at hq; cases hq
                            · exact hfi2 hS F hq
                          · subst hq3
                            by_cases hk6 : 6 ≤ k
                            · rw [show k = 6 by omega] at hcp; exact hcp
                            · exact absurd hq1 (by omega)
                        refine r_aload_n hc dX12_layOrders_111 rfl ?_
                        refine r_dup hc dX12_layOrders_112 rfl ?_
                        refine gf_X12_125 (x := nI (sumL (okN v) pre)) hc (MS0 hM) h10 dX12_layOrders_113 ?_
                        refine r_iconst (v := nI 1) hc dX12_layOrders_116 rfl ?_
                        refine r_iadd (v := nI (sumL (okN v) pre + 1)) hc dX12_layOrders_117 (ad_NN _ _) ?_
                        refine pf_X12_125 hc (MS0 hM) dX12_layOrders_118 ?_
                        generalize hσ5 : s2 τ M 10 (nI (sumL (okN v) pre + 1)) = σ5
                        have hv : rowAt σ5 (M + 1) 170 v := by rw [← hσ5]; exact hv.keep (by omega) _ _
                        have h10 : σ5 M 10 = nI (sumL (okN v) pre + 1) := by rw [← hσ5]; exact s2_same _ _ _ _
                        have h11 : σ5 M 11 = nI (orL (lsN v) pre) := by rw [← hσ5]; exact s2_keep h11 (by omega)
                        have h12 : σ5 M 12 = zI (lkI v (pre ++ [L])) := by rw [← hσ5]; exact s2_keep h12 (by omega)
                        have ho : rowAt σ5 (M + 6) 6 (ordF L) := by rw [← hσ5]; exact ho.keep (by omega) _ _
                        refine r_aload_n hc dX12_layOrders_121 rfl ?_
                        refine r_dup hc dX12_layOrders_122 rfl ?_
                        refine gf_X12_128 (x := nI (orL (lsN v) pre)) hc (MS0 hM) h11 dX12_layOrders_123 ?_
                        refine r_aload_n hc dX12_layOrders_126 rfl ?_
                        refine gf_X12_7 (q := M + 1) hc (MS0 hM) (MSr hM 0 1 (by decide)) dX12_layOrders_127 ?_
                        refine r_bipush (v := nI 9) hc dX12_layOrders_130 rfl ?_
                        refine r_iald (x := nI (v 9)) (j := 9) hc (MSa hM 1 0 170 rfl) rfl (by omega) (by decide) (hv _ (by omega)) dX12_layOrders_132 ?_
                        refine r_if_le (tgt := 155) hc dX12_layOrders_133 (by decide) (le0_N (by omega)) (fun c_133 => ?_) (fun c_133 => ?_)
                        ·
                          refine r_iconst (v := nI 0) hc dX12_layOrders_155 rfl ?_
                          refine r_ior (v := nI ((orL (lsN v) pre) ||| 0)) hc dX12_layOrders_156 (or_NN _ _) ?_
                          refine pf_X12_128 hc (MS0 hM) dX12_layOrders_157 ?_
                          generalize hσ6 : s2 σ5 M 11 (nI ((orL (lsN v) pre) ||| 0)) = σ6
                          have hv : rowAt σ6 (M + 1) 170 v := by rw [← hσ6]; exact hv.keep (by omega) _ _
                          have h10 : σ6 M 10 = nI (sumL (okN v) pre + 1) := by rw [← hσ6]; exact s2_keep h10 (by omega)
                          have h11 : σ6 M 11 = nI ((orL (lsN v) pre) ||| 0) := by rw [← hσ6]; exact s2_same _ _ _ _
                          have h12 : σ6 M 12 = zI (lkI v (pre ++ [L])) := by rw [← hσ6]; exact s2_keep h12 (by omega)
                          have ho : rowAt σ6 (M + 6) 6 (ordF L) := by rw [← hσ6]; exact ho.keep (by omega) _ _
                          have hfr0 := hfr
                          have h11 : σ6 M 11 = nI (orL (lsN v) pre ||| lstB L) := by rw [h11, lstB_ord, if_pos (by omega)]
                          refine r_aload_n hc dX12_layOrders_160 rfl ?_
                          have hvn : rowAt σ6 (M + 1) 170 v := hv
                          have ho6 : ∀ j, j < 6 → ordF L j < 6 := fun j hj => by by_cases h7 : j < L.length; exact Nat.lt_of_lt_of_le (hL.2 _ (ord_mem h7)) h9; rw [ord_off (by omega)]; exact hj
                          refine cl_X12_138 (As := []) hc (c_X12_nextOrder hM hv hok hbx ho ho6) (MS0 hM) rfl ⟨by decide, by decide⟩ ⟨rfl, rfl⟩ ⟨by decide, by decide⟩ rfl (Nat.le_of_ble_eq_true rfl) dX12_layOrders_161 (fun r u hp => ?_)
                          have hfrp : (∀ q, q ≠ M → q ≠ M + 6 → q ≠ M + 7 → σ6 q = σ q) ∧ ∀ k, (k < 10 ∨ 12 < k) → σ6 M k = σ M k := ⟨fun q q1 q2 q3 => by rw [← hσ6, s2_ne q1, ← hσ5, s2_ne q1]; exact hfr0.1 q q1 q2 q3, fun k hk => by rw [← hσ6, s2_nk (by omega), ← hσ5, s2_nk (by omega)]; exact hfr0.2 k hk⟩
                          have hAc2 : LAc σ6 M v (pre ++ [L]) := ⟨by rw [sumL_app]; show _ = nI (sumL (okN v) pre + (okN v L + 0)); rw [show okN v L = 1 from if_pos c_75]; exact h10, by rw [orL_app]; show _ = nI (orL (lsN v) pre ||| (lsN v L ||| 0)); rw [show lsN v L = lstB L from if_pos c_75, Nat.or_zero]; exact h11, h12, fun F hF => (hf2 F hF).sig (by rw [← hσ6, s2_ne (by omega), ← hσ5, s2_ne (by omega)])⟩
                          obtain ⟨τ2, hu, hr, hrow2, hfr2⟩ := hp
                          subst hr
                          rw [hu]
                          have hAc3 : LAc τ2 M v (pre ++ [L]) := ⟨by rw [hfr2 M (by omega)]; exact hAc2.1, by rw [hfr2 M (by omega)]; exact hAc2.2.1, by rw [hfr2 M (by omega)]; exact hAc2.2.2.1, fun F hF => (hAc2.2.2.2 F hF).sig (hfr2 _ (by omega))⟩
                          have hfr3 : (∀ q, q ≠ M → q ≠ M + 6 → q ≠ M + 7 → τ2 q = σ q) ∧ ∀ k, (k < 10 ∨ 12 < k) → τ2 M k = σ M k := ⟨fun q q1 q2 q3 => by rw [hfr2 q q2]; exact hfrp.1 q q1 q2 q3, fun k hk => by rw [hfr2 M (by omega)]; exact hfrp.2 k hk⟩
                          have hcc := chn_cons hch
                          have hm2 : decide (¬ nxK (ordF L) (v 9 - 1) = 0) = true ↔ post ≠ [] := by
                            rw [decide_eq_true_eq]
                            rcases hcc with h7 | h7
                            · exact ⟨fun q => absurd h7.1 q, fun q => absurd h7.2 q⟩
                            · exact ⟨fun _ => h7.2.2.2, fun _ => h7.1⟩
                          have hch2 : post = [] ∨ (chnL (v 9) post = true ∧ rowAt τ2 (M + 6) 6 (ordF (post.headD []))) := by
                            rcases hcc with h7 | h7
                            · exact Or.inl h7.2
                            · right
                              rw [if_neg h7.1] at hrow2
                              exact ⟨h7.2.1, hrow2.cong h7.2.2.1⟩
                          have hsp2 : PLm (v 9) (v 9) 0 = (pre ++ [L]) ++ post := by rw [hsp]; simp
                          refine r_istore_n (ls' := [(1, .int (bI (decide (¬ nxK (ordF L) (v 9 - 1) = 0)))), (0, .ref M), (2, .int (nI (lkL v (bxA v 0) L))), (3, .int (nI k))]) hc dX12_layOrders_164 (by decide) rfl ?_
                          refine r_goto (tgt := 38) hc dX12_layOrders_165 (by decide) ?_
                          refine r_locp [1, 0] (ls' := [(0, .ref M), (1, .int (bI (decide (¬ nxK (ordF L) (v 9 - 1) = 0))))]) rfl ?_
                          exact ih38 τ2 (pre ++ [L]) post (decide (¬ nxK (ordF L) (v 9 - 1) = 0)) hsp2 hm2 hch2 hAc3 hfr3 (by omega)
                        ·
                          have hol := hL.2 _ (ord_mem (L := L) (k := v 9 - 1) (by omega))
                          refine r_iconst (v := nI 1) hc dX12_layOrders_136 rfl ?_
                          refine r_aload_n hc dX12_layOrders_137 rfl ?_
                          refine gf_X12_26 (q := M + 6) hc (MS0 hM) (MSr hM 8 6 (by decide)) dX12_layOrders_138 ?_
                          refine r_aload_n hc dX12_layOrders_141 rfl ?_
                          refine gf_X12_7 (q := M + 1) hc (MS0 hM) (MSr hM 0 1 (by decide)) dX12_layOrders_142 ?_
                          refine r_bipush (v := nI 9) hc dX12_layOrders_145 rfl ?_
                          refine r_iald (x := nI (v 9)) (j := 9) hc (MSa hM 1 0 170 rfl) rfl (by omega) (by decide) (hv _ (by omega)) dX12_layOrders_147 ?_
                          refine r_iconst (v := nI 1) hc dX12_layOrders_148 rfl ?_
                          refine r_isub (v := nI (v 9 - 1)) hc dX12_layOrders_149 (sb_N _ _ (by omega)) ?_
                          refine r_iald (x := nI ((ordF L) (v 9 - 1))) (j := v 9 - 1) hc (MSa hM 6 0 6 rfl) rfl (by omega) (by decide) (ho _ (by omega)) dX12_layOrders_150 ?_
                          refine r_ishl (v := nI (2 ^ ((ordF L) (v 9 - 1)))) hc dX12_layOrders_151 (sl_1 _ (by omega)) ?_
                          refine r_goto (tgt := 156) hc dX12_layOrders_152 (by decide) ?_
                          refine r_ior (v := nI ((orL (lsN v) pre) ||| (2 ^ ((ordF L) (v 9 - 1))))) hc dX12_layOrders_156 (or_NN _ _) ?_
                          refine pf_X12_128 hc (MS0 hM) dX12_layOrders_157 ?_
                          generalize hσ7 : s2 σ5 M 11 (nI ((orL (lsN v) pre) ||| (2 ^ ((ordF L) (v 9 - 1))))) = σ7
                          have hv : rowAt σ7 (M + 1) 170 v := by rw [← hσ7]; exact hv.keep (by omega) _ _
                          have h10 : σ7 M 10 = nI (sumL (okN v) pre + 1) := by rw [← hσ7]; exact s2_keep h10 (by omega)
                          have h11 : σ7 M 11 = nI ((orL (lsN v) pre) ||| (2 ^ ((ordF L) (v 9 - 1)))) := by rw [← hσ7]; exact s2_same _ _ _ _
                          have h12 : σ7 M 12 = zI (lkI v (pre ++ [L])) := by rw [← hσ7]; exact s2_keep h12 (by omega)
                          have ho : rowAt σ7 (M + 6) 6 (ordF L) := by rw [← hσ7]; exact ho.keep (by omega) _ _
                          have hfr0 := hfr
                          have h11 : σ7 M 11 = nI (orL (lsN v) pre ||| lstB L) := by rw [h11, lstB_ord, if_neg (by omega), hL.1]
                          refine r_aload_n hc dX12_layOrders_160 rfl ?_
                          have hvn : rowAt σ7 (M + 1) 170 v := hv
                          have ho6 : ∀ j, j < 6 → ordF L j < 6 := fun j hj => by by_cases h7 : j < L.length; exact Nat.lt_of_lt_of_le (hL.2 _ (ord_mem h7)) h9; rw [ord_off (by omega)]; exact hj
                          refine cl_X12_138 (As := []) hc (c_X12_nextOrder hM hv hok hbx ho ho6) (MS0 hM) rfl ⟨by decide, by decide⟩ ⟨rfl, rfl⟩ ⟨by decide, by decide⟩ rfl (Nat.le_of_ble_eq_true rfl) dX12_layOrders_161 (fun r u hp => ?_)
                          have hfrp : (∀ q, q ≠ M → q ≠ M + 6 → q ≠ M + 7 → σ7 q = σ q) ∧ ∀ k, (k < 10 ∨ 12 < k) → σ7 M k = σ M k := ⟨fun q q1 q2 q3 => by rw [← hσ7, s2_ne q1, ← hσ5, s2_ne q1]; exact hfr0.1 q q1 q2 q3, fun k hk => by rw [← hσ7, s2_nk (by omega), ← hσ5, s2_nk (by omega)]; exact hfr0.2 k hk⟩
                          have hAc2 : LAc σ7 M v (pre ++ [L]) := ⟨by rw [sumL_app]; show _ = nI (sumL (okN v) pre + (okN v L + 0)); rw [show okN v L = 1 from if_pos c_75]; exact h10, by rw [orL_app]; show _ = nI (orL (lsN v) pre ||| (lsN v L ||| 0)); rw [show lsN v L = lstB L from if_pos c_75, Nat.or_zero]; exact h11, h12, fun F hF => (hf2 F hF).sig (by rw [← hσ7, s2_ne (by omega), ← hσ5, s2_ne (by omega)])⟩
                          obtain ⟨τ2, hu, hr, hrow2, hfr2⟩ := hp
                          subst hr
                          rw [hu]
                          have hAc3 : LAc τ2 M v (pre ++ [L]) := ⟨by rw [hfr2 M (by omega)]; exact hAc2.1, by rw [hfr2 M (by omega)]; exact hAc2.2.1, by rw [hfr2 M (by omega)]; exact hAc2.2.2.1, fun F hF => (hAc2.2.2.2 F hF).sig (hfr2 _ (by omega))⟩
                          have hfr3 : (∀ q, q ≠ M → q ≠ M + 6 → q ≠ M + 7 → τ2 q = σ q) ∧ ∀ k, (k < 10 ∨ 12 < k) → τ2 M k = σ M k := ⟨fun q q1 q2 q3 => by rw [hfr2 q q2]; exact hfrp.1 q q1 q2 q3, fun k hk => by rw [hfr2 M (by omega)]; exact hfrp.2 k hk⟩
                          have hcc := chn_cons hch
                          have hm2 : decide (¬ nxK (ordF L) (v 9 - 1) = 0) = true ↔ post ≠ [] := by
                            rw [decide_eq_true_eq]
                            rcases hcc with h7 | h7
                            · exact ⟨fun q => absurd h7.1 q, fun q => absurd h7.2 q⟩
                            · exact ⟨fun _ => h7.2.2.2, fun _ => h7.1⟩
                          have hch2 : post = [] ∨ (chnL (v 9) post = true ∧ rowAt τ2 (M + 6) 6 (ordF (post.headD []))) := by
                            rcases hcc with h7 | h7
                            · exact Or.inl h7.2
                            · right
                              rw [if_neg h7.1] at hrow2
                              exact ⟨h7.2.1, hrow2.cong h7.2.2.1⟩
                          have hsp2 : PLm (v 9) (v 9) 0 = (pre ++ [L]) ++ post := by rw [hsp]; simp
                          refine r_istore_n (ls' := [(1, .int (bI (decide (¬ nxK (ordF L) (v 9 - 1) = 0)))), (0, .ref M), (2, .int (nI (lkL v (bxA v 0) L))), (3, .int (nI k))]) hc dX12_layOrders_164 (by decide) rfl ?_
                          refine r_goto (tgt := 38) hc dX12_layOrders_165 (by decide) ?_
                          refine r_locp [1, 0] (ls' := [(0, .ref M), (1, .int (bI (decide (¬ nxK (ordF L) (v 9 - 1) = 0))))]) rfl ?_
                          exact ih38 τ2 (pre ++ [L]) post (decide (¬ nxK (ordF L) (v 9 - 1) = 0)) hsp2 hm2 hch2 hAc3 hfr3 (by omega)
                      ·
                        refine r_aload_n hc dX12_layOrders_86 rfl ?_
                        refine gf_X12_125 (x := nI (sumL (okN v) pre)) hc (MS0 hM) h10 dX12_layOrders_87 ?_
                        refine r_if_ne (tgt := 111) hc dX12_layOrders_90 (by decide) (e0_N (by omega)) (fun c_90 => ?_) (fun c_90 => ?_)
                        ·
                          have hf2 : ∀ F, fsL (okL v 0) (pre ++ [L]) = some F → rowAt τ (M + 7) 6 (ordF F) := by
                            intro F hF
                            rcases (fs_snoc v pre L F).mp hF with hq | ⟨hq1, hq2, hq3⟩
                            · by_cases hS : sumL (okN v) pre = 0
                              · have h8 := (fsL_none (okL v 0) pre).mpr (by rw [sumL_cong _ (fun L => show (if okL v 0 L = true then 1 else 0) = okN v L by simp [okL, okN])]; exact hS)
                                rw [h8] at hq; cases hq
                              · exact hfi2 hS F hq
                            · subst hq3
                              by_cases hk6 : 6 ≤ k
                              · rw [show k = 6 by omega] at hcp; exact hcp
                              · exact absurd hq1 (by omega)
                          refine r_aload_n hc dX12_layOrders_111 rfl ?_
                          refine r_dup hc dX12_layOrders_112 rfl ?_
                          refine gf_X12_125 (x := nI (sumL (okN v) pre)) hc (MS0 hM) h10 dX12_layOrders_113 ?_
                          refine r_iconst (v := nI 1) hc dX12_layOrders_116 rfl ?_
                          refine r_iadd (v := nI (sumL (okN v) pre + 1)) hc dX12_layOrders_117 (ad_NN _ _) ?_
                          refine pf_X12_125 hc (MS0 hM) dX12_layOrders_118 ?_
                          generalize hσ8 : s2 τ M 10 (nI (sumL (okN v) pre + 1)) = σ8
                          have hv : rowAt σ8 (M + 1) 170 v := by rw [← hσ8]; exact hv.keep (by omega) _ _
                          have h10 : σ8 M 10 = nI (sumL (okN v) pre + 1) := by rw [← hσ8]; exact s2_same _ _ _ _
                          have h11 : σ8 M 11 = nI (orL (lsN v) pre) := by rw [← hσ8]; exact s2_keep h11 (by omega)
                          have h12 : σ8 M 12 = zI (lkI v (pre ++ [L])) := by rw [← hσ8]; exact s2_keep h12 (by omega)
                          have ho : rowAt σ8 (M + 6) 6 (ordF L) := by rw [← hσ8]; exact ho.keep (by omega) _ _
                          refine r_aload_n hc dX12_layOrders_121 rfl ?_
                          refine r_dup hc dX12_layOrders_122 rfl ?_
                          refine gf_X12_128 (x := nI (orL (lsN v) pre)) hc (MS0 hM) h11 dX12_layOrders_123 ?_
                          refine r_aload_n hc dX12_layOrders_126 rfl ?_
                          refine gf_X12_7 (q := M + 1) hc (MS0 hM) (MSr hM 0 1 (by decide)) dX12_layOrders_127 ?_
                          refine r_bipush (v := nI 9) hc dX12_layOrders_130 rfl ?_
                          refine r_iald (x := nI (v 9)) (j := 9) hc (MSa hM 1 0 170 rfl) rfl (by omega) (by decide) (hv _ (by omega)) dX12_layOrders_132 ?_
                          refine r_if_le (tgt := 155) hc dX12_layOrders_133 (by decide) (le0_N (by omega)) (fun c_133 => ?_) (fun c_133 => ?_)
                          ·
                            refine r_iconst (v := nI 0) hc dX12_layOrders_155 rfl ?_
                            refine r_ior (v := nI ((orL (lsN v) pre) ||| 0)) hc dX12_layOrders_156 (or_NN _ _) ?_
                            refine pf_X12_128 hc (MS0 hM) dX12_layOrders_157 ?_
                            generalize hσ9 : s2 σ8 M 11 (nI ((orL (lsN v) pre) ||| 0)) = σ9
                            have hv : rowAt σ9 (M + 1) 170 v := by rw [← hσ9]; exact hv.keep (by omega) _ _
                            have h10 : σ9 M 10 = nI (sumL (okN v) pre + 1) := by rw [← hσ9]; exact s2_keep h10 (by omega)
                            have h11 : σ9 M 11 = nI ((orL (lsN v) pre) ||| 0) := by rw [← hσ9]; exact s2_same _ _ _ _
                            have h12 : σ9 M 12 = zI (lkI v (pre ++ [L])) := by rw [← hσ9]; exact s2_keep h12 (by omega)
                            have ho : rowAt σ9 (M + 6) 6 (ordF L) := by rw [← hσ9]; exact ho.keep (by omega) _ _
                            have hfr0 := hfr
                            have h11 : σ9 M 11 = nI (orL (lsN v) pre ||| lstB L) := by rw [h11, lstB_ord, if_pos (by omega)]
                            refine r_aload_n hc dX12_layOrders_160 rfl ?_
                            have hvn : rowAt σ9 (M + 1) 170 v := hv
                            have ho6 : ∀ j, j < 6 → ordF L j < 6 := fun j hj => by by_cases h7 : j < L.length; exact Nat.lt_of_lt_of_le (hL.2 _ (ord_mem h7)) h9; rw [ord_off (by omega)]; exact hj
                            refine cl_X12_138 (As := []) hc (c_X12_nextOrder hM hv hok hbx ho ho6) (MS0 hM) rfl ⟨by decide, by decide⟩ ⟨rfl, rfl⟩ ⟨by decide, by decide⟩ rfl (Nat.le_of_ble_eq_true rfl) dX12_layOrders_161 (fun r u hp => ?_)
                            have hfrp : (∀ q, q ≠ M → q ≠ M + 6 → q ≠ M + 7 → σ9 q = σ q) ∧ ∀ k, (k < 10 ∨ 12 < k) → σ9 M k = σ M k := ⟨fun q q1 q2 q3 => by rw [← hσ9, s2_ne q1, ← hσ8, s2_ne q1]; exact hfr0.1 q q1 q2 q3, fun k hk => by rw [← hσ9, s2_nk (by omega), ← hσ8, s2_nk (by omega)]; exact hfr0.2 k hk⟩
                            have hAc2 : LAc σ9 M v (pre ++ [L]) := ⟨by rw [sumL_app]; show _ = nI (sumL (okN v) pre + (okN v L + 0)); rw [show okN v L = 1 from if_pos c_75]; exact h10, by rw [orL_app]; show _ = nI (orL (lsN v) pre ||| (lsN v L ||| 0)); rw [show lsN v L = lstB L from if_pos c_75, Nat.or_zero]; exact h11, h12, fun F hF => (hf2 F hF).sig (by rw [← hσ9, s2_ne (by omega), ← hσ8, s2_ne (by omega)])⟩
                            obtain ⟨τ2, hu, hr, hrow2, hfr2⟩ := hp
                            subst hr
                            rw [hu]
                            have hAc3 : LAc τ2 M v (pre ++ [L]) := ⟨by rw [hfr2 M (by omega)]; exact hAc2.1, by rw [hfr2 M (by omega)]; exact hAc2.2.1, by rw [hfr2 M (by omega)]; exact hAc2.2.2.1, fun F hF => (hAc2.2.2.2 F hF).sig (hfr2 _ (by omega))⟩
                            have hfr3 : (∀ q, q ≠ M → q ≠ M + 6 → q ≠ M + 7 → τ2 q = σ q) ∧ ∀ k, (k < 10 ∨ 12 < k) → τ2 M k = σ M k := ⟨fun q q1 q2 q3 => by rw [hfr2 q q2]; exact hfrp.1 q q1 q2 q3, fun k hk => by rw [hfr2 M (by omega)]; exact hfrp.2 k hk⟩
                            have hcc := chn_cons hch
                            have hm2 : decide (¬ nxK (ordF L) (v 9 - 1) = 0) = true ↔ post ≠ [] := by
                              rw [decide_eq_true_eq]
                              rcases hcc with h7 | h7
                              · exact ⟨fun q => absurd h7.1 q, fun q => absurd h7.2 q⟩
                              · exact ⟨fun _ => h7.2.2.2, fun _ => h7.1⟩
                            have hch2 : post = [] ∨ (chnL (v 9) post = true ∧ rowAt τ2 (M + 6) 6 (ordF (post.headD []))) := by
                              rcases hcc with h7 | h7
                              · exact Or.inl h7.2
                              · right
                                rw [if_neg h7.1] at hrow2
                                exact ⟨h7.2.1, hrow2.cong h7.2.2.1⟩
                            have hsp2 : PLm (v 9) (v 9) 0 = (pre ++ [L]) ++ post := by rw [hsp]; simp
                            refine r_istore_n (ls' := [(1, .int (bI (decide (¬ nxK (ordF L) (v 9 - 1) = 0)))), (0, .ref M), (2, .int (nI (lkL v (bxA v 0) L))), (3, .int (nI k))]) hc dX12_layOrders_164 (by decide) rfl ?_
                            refine r_goto (tgt := 38) hc dX12_layOrders_165 (by decide) ?_
                            refine r_locp [1, 0] (ls' := [(0, .ref M), (1, .int (bI (decide (¬ nxK (ordF L) (v 9 - 1) = 0))))]) rfl ?_
                            exact ih38 τ2 (pre ++ [L]) post (decide (¬ nxK (ordF L) (v 9 - 1) = 0)) hsp2 hm2 hch2 hAc3 hfr3 (by omega)
                          ·
                            have hol := hL.2 _ (ord_mem (L := L) (k := v 9 - 1) (by omega))
                            refine r_iconst (v := nI 1) hc dX12_layOrders_136 rfl ?_
                            refine r_aload_n hc dX12_layOrders_137 rfl ?_
                            refine gf_X12_26 (q := M + 6) hc (MS0 hM) (MSr hM 8 6 (by decide)) dX12_layOrders_138 ?_
                            refine r_aload_n hc dX12_layOrders_141 rfl ?_
                            refine gf_X12_7 (q := M + 1) hc (MS0 hM) (MSr hM 0 1 (by decide)) dX12_layOrders_142 ?_
                            refine r_bipush (v := nI 9) hc dX12_layOrders_145 rfl ?_
                            refine r_iald (x := nI (v 9)) (j := 9) hc (MSa hM 1 0 170 rfl) rfl (by omega) (by decide) (hv _ (by omega)) dX12_layOrders_147 ?_
                            refine r_iconst (v := nI 1) hc dX12_layOrders_148 rfl ?_
                            refine r_isub (v := nI (v 9 - 1)) hc dX12_layOrders_149 (sb_N _ _ (by omega)) ?_
                            refine r_iald (x := nI ((ordF L) (v 9 - 1))) (j := v 9 - 1) hc (MSa hM 6 0 6 rfl) rfl (by omega) (by decide) (ho _ (by omega)) dX12_layOrders_150 ?_
                            refine r_ishl (v := nI (2 ^ ((ordF L) (v 9 - 1)))) hc dX12_layOrders_151 (sl_1 _ (by omega)) ?_
                            refine r_goto (tgt := 156) hc dX12_layOrders_152 (by decide) ?_
                            refine r_ior (v := nI ((orL (lsN v) pre) ||| (2 ^ ((ordF L) (v 9 - 1))))) hc dX12_layOrders_156 (or_NN _ _) ?_
                            refine pf_X12_128 hc (MS0 hM) dX12_layOrders_157 ?_
                            generalize hσ10 : s2 σ8 M 11 (nI ((orL (lsN v) pre) ||| (2 ^ ((ordF L) (v 9 - 1))))) = σ10
                            have hv : rowAt σ10 (M + 1) 170 v := by rw [← hσ10]; exact hv.keep (by omega) _ _
                            have h10 : σ10 M 10 = nI (sumL (okN v) pre + 1) := by rw [← hσ10]; exact s2_keep h10 (by omega)
                            have h11 : σ10 M 11 = nI ((orL (lsN v) pre) ||| (2 ^ ((ordF L) (v 9 - 1)))) := by rw [← hσ10]; exact s2_same _ _ _ _
                            have h12 : σ10 M 12 = zI (lkI v (pre ++ [L])) := by rw [← hσ10]; exact s2_keep h12 (by omega)
                            have ho : rowAt σ10 (M + 6) 6 (ordF L) := by rw [← hσ10]; exact ho.keep (by omega) _ _
                            have hfr0 := hfr
                            have h11 : σ10 M 11 = nI (orL (lsN v) pre ||| lstB L) := by rw [h11, lstB_ord, if_neg (by omega), hL.1]
                            refine r_aload_n hc dX12_layOrders_160 rfl ?_
                            have hvn : rowAt σ10 (M + 1) 170 v := hv
                            have ho6 : ∀ j, j < 6 → ordF L j < 6 := fun j hj => by by_cases h7 : j < L.length; exact Nat.lt_of_lt_of_le (hL.2 _ (ord_mem h7)) h9; rw [ord_off (by omega)]; exact hj
                            refine cl_X12_138 (As := []) hc (c_X12_nextOrder hM hv hok hbx ho ho6) (MS0 hM) rfl ⟨by decide, by decide⟩ ⟨rfl, rfl⟩ ⟨by decide, by decide⟩ rfl (Nat.le_of_ble_eq_true rfl) dX12_layOrders_161 (fun r u hp => ?_)
                            have hfrp : (∀ q, q ≠ M → q ≠ M + 6 → q ≠ M + 7 → σ10 q = σ q) ∧ ∀ k, (k < 10 ∨ 12 < k) → σ10 M k = σ M k := ⟨fun q q1 q2 q3 => by rw [← hσ10, s2_ne q1, ← hσ8, s2_ne q1]; exact hfr0.1 q q1 q2 q3, fun k hk => by rw [← hσ10, s2_nk (by omega), ← hσ8, s2_nk (by omega)]; exact hfr0.2 k hk⟩
                            have hAc2 : LAc σ10 M v (pre ++ [L]) := ⟨by rw [sumL_app]; show _ = nI (sumL (okN v) pre + (okN v L + 0)); rw [show okN v L = 1 from if_pos c_75]; exact h10, by rw [orL_app]; show _ = nI (orL (lsN v) pre ||| (lsN v L ||| 0)); rw [show lsN v L = lstB L from if_pos c_75, Nat.or_zero]; exact h11, h12, fun F hF => (hf2 F hF).sig (by rw [← hσ10, s2_ne (by omega), ← hσ8, s2_ne (by omega)])⟩
                            obtain ⟨τ2, hu, hr, hrow2, hfr2⟩ := hp
                            subst hr
                            rw [hu]
                            have hAc3 : LAc τ2 M v (pre ++ [L]) := ⟨by rw [hfr2 M (by omega)]; exact hAc2.1, by rw [hfr2 M (by omega)]; exact hAc2.2.1, by rw [hfr2 M (by omega)]; exact hAc2.2.2.1, fun F hF => (hAc2.2.2.2 F hF).sig (hfr2 _ (by omega))⟩
                            have hfr3 : (∀ q, q ≠ M → q ≠ M + 6 → q ≠ M + 7 → τ2 q = σ q) ∧ ∀ k, (k < 10 ∨ 12 < k) → τ2 M k = σ M k := ⟨fun q q1 q2 q3 => by rw [hfr2 q q2]; exact hfrp.1 q q1 q2 q3, fun k hk => by rw [hfr2 M (by omega)]; exact hfrp.2 k hk⟩
                            have hcc := chn_cons hch
                            have hm2 : decide (¬ nxK (ordF L) (v 9 - 1) = 0) = true ↔ post ≠ [] := by
                              rw [decide_eq_true_eq]
                              rcases hcc with h7 | h7
                              · exact ⟨fun q => absurd h7.1 q, fun q => absurd h7.2 q⟩
                              · exact ⟨fun _ => h7.2.2.2, fun _ => h7.1⟩
                            have hch2 : post = [] ∨ (chnL (v 9) post = true ∧ rowAt τ2 (M + 6) 6 (ordF (post.headD []))) := by
                              rcases hcc with h7 | h7
                              · exact Or.inl h7.2
                              · right
                                rw [if_neg h7.1] at hrow2
                                exact ⟨h7.2.1, hrow2.cong h7.2.2.1⟩
                            have hsp2 : PLm (v 9) (v 9) 0 = (pre ++ [L]) ++ post := by rw [hsp]; simp
                            refine r_istore_n (ls' := [(1, .int (bI (decide (¬ nxK (ordF L) (v 9 - 1) = 0)))), (0, .ref M), (2, .int (nI (lkL v (bxA v 0) L))), (3, .int (nI k))]) hc dX12_layOrders_164 (by decide) rfl ?_
                            refine r_goto (tgt := 38) hc dX12_layOrders_165 (by decide) ?_
                            refine r_locp [1, 0] (ls' := [(0, .ref M), (1, .int (bI (decide (¬ nxK (ordF L) (v 9 - 1) = 0))))]) rfl ?_
                            exact ih38 τ2 (pre ++ [L]) post (decide (¬ nxK (ordF L) (v 9 - 1) = 0)) hsp2 hm2 hch2 hAc3 hfr3 (by omega)
                        ·
                          refine r_aload_n hc dX12_layOrders_93 rfl ?_
                          refine gf_X12_29 (q := M + 7) hc (MS0 hM) (MSr hM 9 7 (by decide)) dX12_layOrders_94 ?_
                          refine r_iload_n hc dX12_layOrders_97 rfl ?_
                          refine r_aload_n hc dX12_layOrders_98 rfl ?_
                          refine gf_X12_26 (q := M + 6) hc (MS0 hM) (MSr hM 8 6 (by decide)) dX12_layOrders_99 ?_
                          refine r_iload_n hc dX12_layOrders_102 rfl ?_
                          refine r_iald (x := nI ((ordF L) k)) (j := k) hc (MSa hM 6 0 6 rfl) rfl (by omega) (by decide) (ho _ (by omega)) dX12_layOrders_103 ?_
                          refine r_iast (j := k) hc (MSa hM 7 0 6 rfl) rfl (by omega) (by decide) dX12_layOrders_104 ?_
                          generalize hσ11 : s2 τ (M + 7) k (nI ((ordF L) k)) = σ11
                          have hv : rowAt σ11 (M + 1) 170 v := by rw [← hσ11]; exact hv.keep (by omega) _ _
                          have h10 : σ11 M 10 = nI (sumL (okN v) pre) := by rw [← hσ11]; exact s2_keep h10 (by omega)
                          have h11 : σ11 M 11 = nI (orL (lsN v) pre) := by rw [← hσ11]; exact s2_keep h11 (by omega)
                          have h12 : σ11 M 12 = zI (lkI v (pre ++ [L])) := by rw [← hσ11]; exact s2_keep h12 (by omega)
                          have ho : rowAt σ11 (M + 6) 6 (ordF L) := by rw [← hσ11]; exact ho.keep (by omega) _ _
                          refine r_iinc (v := nI (k + 1)) (ls' := [(3, .int (nI (k + 1))), (0, .ref M), (2, .int (nI (lkL v (bxA v 0) L)))]) hc dX12_layOrders_105 rfl (ad_NN _ 1) (by decide) rfl ?_
                          refine r_goto (tgt := 80) hc dX12_layOrders_108 (by decide) ?_
                          refine r_locp [1, 2, 0] (ls' := [(0, .ref M), (2, .int (nI (lkL v (bxA v 0) L))), (3, .int (nI (k + 1)))]) rfl ?_
                          exact ih80 σ11 (k + 1) (by omega) (by rw [← hσ11]; exact hcp.ext1 _ rfl) h10 h11 h12 ho hv (fun q => absurd c_90 q) (fun q => absurd c_90 q) ⟨fun q q1 q2 q3 => by rw [← hσ11, s2_ne q3]; exact hfr.1 q q1 q2 q3, fun k hk => by rw [← hσ11, s2_na (by omega)]; exact hfr.2 k hk⟩ (by omega)
                  refine r_locp [2, 1, 0] (ls' := [(0, .ref M), (2, .int (nI (lkL v (bxA v 0) L))), (3, .int (nI 0))]) rfl ?_
                  exact loop80 _ σ4 0 (by omega) rowAt.zero h10 h11 h12 ho hv (fun _ => rfl) (fun _ F hF => (hfi F hF).sig (by rw [← hσ4, s2_ne (by omega)])) ⟨fun q q1 q2 q3 => by rw [← hσ4, s2_ne q1]; exact hfr.1 q q1 q2 q3, fun k hk => by rw [← hσ4, s2_nk (by omega)]; exact hfr.2 k hk⟩ (Nat.lt_succ_self _)
              ·
                refine r_iload_n hc dX12_layOrders_55 rfl ?_
                refine r_aload_n hc dX12_layOrders_56 rfl ?_
                refine gf_X12_131 (x := zI (lkI v pre)) hc (MS0 hM) h12 dX12_layOrders_57 ?_
                refine r_icmp_ge (tgt := 67) hc dX12_layOrders_60 (by decide) (le_ZN (by omega) (by omega)) (fun c_60 => ?_) (fun c_60 => ?_)
                ·
                  refine r_aload_n hc dX12_layOrders_67 rfl ?_
                  refine gf_X12_131 (x := zI (lkI v pre)) hc (MS0 hM) h12 dX12_layOrders_68 ?_
                  refine pf_X12_131 hc (MS0 hM) dX12_layOrders_71 ?_
                  generalize hσ12 : s2 τ M 12 (zI (lkI v pre)) = σ12
                  have hv : rowAt σ12 (M + 1) 170 v := by rw [← hσ12]; exact hv.keep (by omega) _ _
                  have h10 : σ12 M 10 = nI (sumL (okN v) pre) := by rw [← hσ12]; exact s2_keep h10 (by omega)
                  have h11 : σ12 M 11 = nI (orL (lsN v) pre) := by rw [← hσ12]; exact s2_keep h11 (by omega)
                  have h12 : σ12 M 12 = zI (lkI v pre) := by rw [← hσ12]; exact s2_same _ _ _ _
                  have ho : rowAt σ12 (M + 6) 6 (ordF L) := by rw [← hσ12]; exact ho.keep (by omega) _ _
                  have h12 : σ12 M 12 = zI (lkI v (pre ++ [L])) := by rw [h12, hsn, if_neg (by omega)]
                  refine r_iload_n hc dX12_layOrders_74 rfl ?_
                  refine r_if_ne (tgt := 160) hc dX12_layOrders_75 (by decide) (e0_N (by omega)) (fun c_75 => ?_) (fun c_75 => ?_)
                  ·
                    have hfr0 := hfr
                    refine r_aload_n hc dX12_layOrders_160 rfl ?_
                    have hvn : rowAt σ12 (M + 1) 170 v := hv
                    have ho6 : ∀ j, j < 6 → ordF L j < 6 := fun j hj => by by_cases h7 : j < L.length; exact Nat.lt_of_lt_of_le (hL.2 _ (ord_mem h7)) h9; rw [ord_off (by omega)]; exact hj
                    refine cl_X12_138 (As := []) hc (c_X12_nextOrder hM hv hok hbx ho ho6) (MS0 hM) rfl ⟨by decide, by decide⟩ ⟨rfl, rfl⟩ ⟨by decide, by decide⟩ rfl (Nat.le_of_ble_eq_true rfl) dX12_layOrders_161 (fun r u hp => ?_)
                    have hfrp : (∀ q, q ≠ M → q ≠ M + 6 → q ≠ M + 7 → σ12 q = σ q) ∧ ∀ k, (k < 10 ∨ 12 < k) → σ12 M k = σ M k := ⟨fun q q1 q2 q3 => by rw [← hσ12, s2_ne q1]; exact hfr0.1 q q1 q2 q3, fun k hk => by rw [← hσ12, s2_nk (by omega)]; exact hfr0.2 k hk⟩
                    have hAc2 : LAc σ12 M v (pre ++ [L]) := ⟨by rw [sumL_app]; show _ = nI (sumL (okN v) pre + (okN v L + 0)); rw [show okN v L = 0 from if_neg c_75]; exact h10, by rw [orL_app]; show _ = nI (orL (lsN v) pre ||| (lsN v L ||| 0)); rw [show lsN v L = 0 from if_neg c_75, show (0 ||| 0 : Nat) = 0 from rfl, Nat.or_zero]; exact h11, h12, fun F hF => by
                        rcases (fs_snoc v pre L F).mp hF with hq | hq
                        · exact (hfi F hq).sig (by rw [← hσ12, s2_ne (by omega)])
                        · exact absurd hq.2.1 c_75⟩
                    obtain ⟨τ2, hu, hr, hrow2, hfr2⟩ := hp
                    subst hr
                    rw [hu]
                    have hAc3 : LAc τ2 M v (pre ++ [L]) := ⟨by rw [hfr2 M (by omega)]; exact hAc2.1, by rw [hfr2 M (by omega)]; exact hAc2.2.1, by rw [hfr2 M (by omega)]; exact hAc2.2.2.1, fun F hF => (hAc2.2.2.2 F hF).sig (hfr2 _ (by omega))⟩
                    have hfr3 : (∀ q, q ≠ M → q ≠ M + 6 → q ≠ M + 7 → τ2 q = σ q) ∧ ∀ k, (k < 10 ∨ 12 < k) → τ2 M k = σ M k := ⟨fun q q1 q2 q3 => by rw [hfr2 q q2]; exact hfrp.1 q q1 q2 q3, fun k hk => by rw [hfr2 M (by omega)]; exact hfrp.2 k hk⟩
                    have hcc := chn_cons hch
                    have hm2 : decide (¬ nxK (ordF L) (v 9 - 1) = 0) = true ↔ post ≠ [] := by
                      rw [decide_eq_true_eq]
                      rcases hcc with h7 | h7
                      · exact ⟨fun q => absurd h7.1 q, fun q => absurd h7.2 q⟩
                      · exact ⟨fun _ => h7.2.2.2, fun _ => h7.1⟩
                    have hch2 : post = [] ∨ (chnL (v 9) post = true ∧ rowAt τ2 (M + 6) 6 (ordF (post.headD []))) := by
                      rcases hcc with h7 | h7
                      · exact Or.inl h7.2
                      · right
                        rw [if_neg h7.1] at hrow2
                        exact ⟨h7.2.1, hrow2.cong h7.2.2.1⟩
                    have hsp2 : PLm (v 9) (v 9) 0 = (pre ++ [L]) ++ post := by rw [hsp]; simp
                    refine r_istore_n (ls' := [(1, .int (bI (decide (¬ nxK (ordF L) (v 9 - 1) = 0)))), (2, .int (nI (lkL v (bxA v 0) L))), (0, .ref M)]) hc dX12_layOrders_164 (by decide) rfl ?_
                    refine r_goto (tgt := 38) hc dX12_layOrders_165 (by decide) ?_
                    refine r_locp [2, 0] (ls' := [(0, .ref M), (1, .int (bI (decide (¬ nxK (ordF L) (v 9 - 1) = 0))))]) rfl ?_
                    exact ih38 τ2 (pre ++ [L]) post (decide (¬ nxK (ordF L) (v 9 - 1) = 0)) hsp2 hm2 hch2 hAc3 hfr3 (by omega)
                  ·
                    refine r_iconst (v := nI 0) hc dX12_layOrders_78 rfl ?_
                    refine r_istore_n (ls' := [(3, .int (nI 0)), (2, .int (nI (lkL v (bxA v 0) L))), (0, .ref M), (1, .int (bI m))]) hc dX12_layOrders_79 (by decide) rfl ?_
                    have loop80 : ∀ (n80 : Nat) (τ : Nat → Nat → Int32) (k : Nat), (k ≤ 6) → (rowAt τ (M + 7) k (ordF L)) → (τ M 10 = nI (sumL (okN v) pre)) → (τ M 11 = nI (orL (lsN v) pre)) → (τ M 12 = zI (lkI v (pre ++ [L]))) → (rowAt τ (M + 6) 6 (ordF L)) → (rowAt τ (M + 1) 170 v) → (sumL (okN v) pre ≠ 0 → k = 0) → (sumL (okN v) pre ≠ 0 → ∀ F, fsL (okL v 0) pre = some F → rowAt τ (M + 7) 6 (ordF F)) → ((∀ q, q ≠ M → q ≠ M + 6 → q ≠ M + 7 → τ q = σ q) ∧ ∀ k, (k < 10 ∨ 12 < k) → τ M k = σ M k) → (6 - k) < n80 → Vw Ω Φ (z, sh, τ, ρ) (0, 0) 80 [(0, .ref M), (2, .int (nI (lkL v (bxA v 0) L))), (3, .int (nI k))] [] := by
                      intro n80
                      induction n80 with
                      | zero => intro τ k hk hcp h10 h11 h12 ho hv hkS hfi2 hfr hm; exact absurd hm (Nat.not_lt_zero _)
                      | succ n80 ih80 =>
                        intro τ k hk hcp h10 h11 h12 ho hv hkS hfi2 hfr hm80
                        refine r_iload_n hc dX12_layOrders_80 rfl ?_
                        refine r_bipush (v := nI 6) hc dX12_layOrders_81 rfl ?_
                        refine r_icmp_ge (tgt := 111) hc dX12_layOrders_83 (by decide) (le_NN (by omega) (by omega)) (fun c_83 => ?_) (fun c_83 => ?_)
                        ·
                          have hf2 : ∀ F, fsL (okL v 0) (pre ++ [L]) = some F → rowAt τ (M + 7) 6 (ordF F) := by
                            intro F hF
                            rcases (fs_snoc v pre L F).mp hF with hq | ⟨hq1, hq2, hq3⟩
                            · by_cases hS : sumL (okN v) pre = 0
                              · have h8 := (fsL_none (okL v 0) pre).mpr (by rw [sumL_cong _ (fun L => show (if okL v 0 L = true then 1 else 0) = okN v L by simp [okL, okN])]; exact hS)
                                rw [h8] at hq; cases hq
                              · exact hfi2 hS F hq
                            · subst hq3
                              by_cases hk6 : 6 ≤ k
                              · rw [show k = 6 by omega] at hcp; exact hcp
                              · exact absurd hq1 (by omega)
                          refine r_aload_n hc dX12_layOrders_111 rfl ?_
                          refine r_dup hc dX12_layOrders_112 rfl ?_
                          refine gf_X12_125 (x := nI (sumL (okN v) pre)) hc (MS0 hM) h10 dX12_layOrders_113 ?_
                          refine r_iconst (v := nI 1) hc dX12_layOrders_116 rfl ?_
                          refine r_iadd (v := nI (sumL (okN v) pre + 1)) hc dX12_layOrders_117 (ad_NN _ _) ?_
                          refine pf_X12_125 hc (MS0 hM) dX12_layOrders_118 ?_
                          generalize hσ13 : s2 τ M 10 (nI (sumL (okN v) pre + 1)) = σ13
                          have hv : rowAt σ13 (M + 1) 170 v := by rw [← hσ13]; exact hv.keep (by omega) _ _
                          have h10 : σ13 M 10 = nI (sumL (okN v) pre + 1) := by rw [← hσ13]; exact s2_same _ _ _ _
                          have h11 : σ13 M 11 = nI (orL (lsN v) pre) := by rw [← hσ13]; exact s2_keep h11 (by omega)
                          have h12 : σ13 M 12 = zI (lkI v (pre ++ [L])) := by rw [← hσ13]; exact s2_keep h12 (by omega)
                          have ho : rowAt σ13 (M + 6) 6 (ordF L) := by rw [← hσ13]; exact ho.keep (by omega) _ _
                          refine r_aload_n hc dX12_layOrders_121 rfl ?_
                          refine r_dup hc dX12_layOrders_122 rfl ?_
                          refine gf_X12_128 (x := nI (orL (lsN v) pre)) hc (MS0 hM) h11 dX12_layOrders_123 ?_
                          refine r_aload_n hc dX12_layOrders_126 rfl ?_
                          refine gf_X12_7 (q := M + 1) hc (MS0 hM) (MSr hM 0 1 (by decide)) dX12_layOrders_127 ?_
                          refine r_bipush (v := nI 9) hc dX12_layOrders_130 rfl ?_
                          refine r_iald (x := nI (v 9)) (j := 9) hc (MSa hM 1 0 170 rfl) rfl (by omega) (by decide) (hv _ (by omega)) dX12_layOrders_132 ?_
                          refine r_if_le (tgt := 155) hc dX12_layOrders_133 (by decide) (le0_N (by omega)) (fun c_133 => ?_) (fun c_133 => ?_)
                          ·
                            refine r_iconst (v := nI 0) hc dX12_layOrders_155 rfl ?_
                            refine r_ior (v := nI ((orL (lsN v) pre) ||| 0)) hc dX12_layOrders_156 (or_NN _ _) ?_
                            refine pf_X12_128 hc (MS0 hM) dX12_layOrders_157 ?_
                            generalize hσ14 : s2 σ13 M 11 (nI ((orL (lsN v) pre) ||| 0)) = σ14
                            have hv : rowAt σ14 (M + 1) 170 v := by rw [← hσ14]; exact hv.keep (by omega) _ _
                            have h10 : σ14 M 10 = nI (sumL (okN v) pre + 1) := by rw [← hσ14]; exact s2_keep h10 (by omega)
                            have h11 : σ14 M 11 = nI ((orL (lsN v) pre) ||| 0) := by rw [← hσ14]; exact s2_same _ _ _ _
                            have h12 : σ14 M 12 = zI (lkI v (pre ++ [L])) := by rw [← hσ14]; exact s2_keep h12 (by omega)
                            have ho : rowAt σ14 (M + 6) 6 (ordF L) := by rw [← hσ14]; exact ho.keep (by omega) _ _
                            have hfr0 := hfr
                            have h11 : σ14 M 11 = nI (orL (lsN v) pre ||| lstB L) := by rw [h11, lstB_ord, if_pos (by omega)]
                            refine r_aload_n hc dX12_layOrders_160 rfl ?_
                            have hvn : rowAt σ14 (M + 1) 170 v := hv
                            have ho6 : ∀ j, j < 6 → ordF L j < 6 := fun j hj => by by_cases h7 : j < L.length; exact Nat.lt_of_lt_of_le (hL.2 _ (ord_mem h7)) h9; rw [ord_off (by omega)]; exact hj
                            refine cl_X12_138 (As := []) hc (c_X12_nextOrder hM hv hok hbx ho ho6) (MS0 hM) rfl ⟨by decide, by decide⟩ ⟨rfl, rfl⟩ ⟨by decide, by decide⟩ rfl (Nat.le_of_ble_eq_true rfl) dX12_layOrders_161 (fun r u hp => ?_)
                            have hfrp : (∀ q, q ≠ M → q ≠ M + 6 → q ≠ M + 7 → σ14 q = σ q) ∧ ∀ k, (k < 10 ∨ 12 < k) → σ14 M k = σ M k := ⟨fun q q1 q2 q3 => by rw [← hσ14, s2_ne q1, ← hσ13, s2_ne q1]; exact hfr0.1 q q1 q2 q3, fun k hk => by rw [← hσ14, s2_nk (by omega), ← hσ13, s2_nk (by omega)]; exact hfr0.2 k hk⟩
                            have hAc2 : LAc σ14 M v (pre ++ [L]) := ⟨by rw [sumL_app]; show _ = nI (sumL (okN v) pre + (okN v L + 0)); rw [show okN v L = 1 from if_pos c_75]; exact h10, by rw [orL_app]; show _ = nI (orL (lsN v) pre ||| (lsN v L ||| 0)); rw [show lsN v L = lstB L from if_pos c_75, Nat.or_zero]; exact h11, h12, fun F hF => (hf2 F hF).sig (by rw [← hσ14, s2_ne (by omega), ← hσ13, s2_ne (by omega)])⟩
                            obtain ⟨τ2, hu, hr, hrow2, hfr2⟩ := hp
                            subst hr
                            rw [hu]
                            have hAc3 : LAc τ2 M v (pre ++ [L]) := ⟨by rw [hfr2 M (by omega)]; exact hAc2.1, by rw [hfr2 M (by omega)]; exact hAc2.2.1, by rw [hfr2 M (by omega)]; exact hAc2.2.2.1, fun F hF => (hAc2.2.2.2 F hF).sig (hfr2 _ (by omega))⟩
                            have hfr3 : (∀ q, q ≠ M → q ≠ M + 6 → q ≠ M + 7 → τ2 q = σ q) ∧ ∀ k, (k < 10 ∨ 12 < k) → τ2 M k = σ M k := ⟨fun q q1 q2 q3 => by rw [hfr2 q q2]; exact hfrp.1 q q1 q2 q3, fun k hk => by rw [hfr2 M (by omega)]; exact hfrp.2 k hk⟩
                            have hcc := chn_cons hch
                            have hm2 : decide (¬ nxK (ordF L) (v 9 - 1) = 0) = true ↔ post ≠ [] := by
                              rw [decide_eq_true_eq]
                              rcases hcc with h7 | h7
                              · exact ⟨fun q => absurd h7.1 q, fun q => absurd h7.2 q⟩
                              · exact ⟨fun _ => h7.2.2.2, fun _ => h7.1⟩
                            have hch2 : post = [] ∨ (chnL (v 9) post = true ∧ rowAt τ2 (M + 6) 6 (ordF (post.headD []))) := by
                              rcases hcc with h7 | h7
                              · exact Or.inl h7.2
                              · right
                                rw [if_neg h7.1] at hrow2
                                exact ⟨h7.2.1, hrow2.cong h7.2.2.1⟩
                            have hsp2 : PLm (v 9) (v 9) 0 = (pre ++ [L]) ++ post := by rw [hsp]; simp
                            refine r_istore_n (ls' := [(1, .int (bI (decide (¬ nxK (ordF L) (v 9 - 1) = 0)))), (0, .ref M), (2, .int (nI (lkL v (bxA v 0) L))), (3, .int (nI k))]) hc dX12_layOrders_164 (by decide) rfl ?_
                            refine r_goto (tgt := 38) hc dX12_layOrders_165 (by decide) ?_
                            refine r_locp [1, 0] (ls' := [(0, .ref M), (1, .int (bI (decide (¬ nxK (ordF L) (v 9 - 1) = 0))))]) rfl ?_
                            exact ih38 τ2 (pre ++ [L]) post (decide (¬ nxK (ordF L) (v 9 - 1) = 0)) hsp2 hm2 hch2 hAc3 hfr3 (by omega)
                          ·
                            have hol := hL.2 _ (ord_mem (L := L) (k := v 9 - 1) (by omega))
                            refine r_iconst (v := nI 1) hc dX12_layOrders_136 rfl ?_
                            refine r_aload_n hc dX12_layOrders_137 rfl ?_
                            refine gf_X12_26 (q := M + 6) hc (MS0 hM) (MSr hM 8 6 (by decide)) dX12_layOrders_138 ?_
                            refine r_aload_n hc dX12_layOrders_141 rfl ?_
                            refine gf_X12_7 (q := M + 1) hc (MS0 hM) (MSr hM 0 1 (by decide)) dX12_layOrders_142 ?_
                            refine r_bipush (v := nI 9) hc dX12_layOrders_145 rfl ?_
                            refine r_iald (x := nI (v 9)) (j := 9) hc (MSa hM 1 0 170 rfl) rfl (by omega) (by decide) (hv _ (by omega)) dX12_layOrders_147 ?_
                            refine r_iconst (v := nI 1) hc dX12_layOrders_148 rfl ?_
                            refine r_isub (v := nI (v 9 - 1)) hc dX12_layOrders_149 (sb_N _ _ (by omega)) ?_
                            refine r_iald (x := nI ((ordF L) (v 9 - 1))) (j := v 9 - 1) hc (MSa hM 6 0 6 rfl) rfl (by omega) (by decide) (ho _ (by omega)) dX12_layOrders_150 ?_
                            refine r_ishl (v := nI (2 ^ ((ordF L) (v 9 - 1)))) hc dX12_layOrders_151 (sl_1 _ (by omega)) ?_
                            refine r_goto (tgt := 156) hc dX12_layOrders_152 (by decide) ?_
                            refine r_ior (v := nI ((orL (lsN v) pre) ||| (2 ^ ((ordF L) (v 9 - 1))))) hc dX12_layOrders_156 (or_NN _ _) ?_
                            refine pf_X12_128 hc (MS0 hM) dX12_layOrders_157 ?_
                            generalize hσ15 : s2 σ13 M 11 (nI ((orL (lsN v) pre) ||| (2 ^ ((ordF L) (v 9 - 1))))) = σ15
                            have hv : rowAt σ15 (M + 1) 170 v := by rw [← hσ15]; exact hv.keep (by omega) _ _
                            have h10 : σ15 M 10 = nI (sumL (okN v) pre + 1) := by rw [← hσ15]; exact s2_keep h10 (by omega)
                            have h11 : σ15 M 11 = nI ((orL (lsN v) pre) ||| (2 ^ ((ordF L) (v 9 - 1)))) := by rw [← hσ15]; exact s2_same _ _ _ _
                            have h12 : σ15 M 12 = zI (lkI v (pre ++ [L])) := by rw [← hσ15]; exact s2_keep h12 (by omega)
                            have ho : rowAt σ15 (M + 6) 6 (ordF L) := by rw [← hσ15]; exact ho.keep (by omega) _ _
                            have hfr0 := hfr
                            have h11 : σ15 M 11 = nI (orL (lsN v) pre ||| lstB L) := by rw [h11, lstB_ord, if_neg (by omega), hL.1]
                            refine r_aload_n hc dX12_layOrders_160 rfl ?_
                            have hvn : rowAt σ15 (M + 1) 170 v := hv
                            have ho6 : ∀ j, j < 6 → ordF L j < 6 := fun j hj => by by_cases h7 : j < L.length; exact Nat.lt_of_lt_of_le (hL.2 _ (ord_mem h7)) h9; rw [ord_off (by omega)]; exact hj
                            refine cl_X12_138 (As := []) hc (c_X12_nextOrder hM hv hok hbx ho ho6) (MS0 hM) rfl ⟨by decide, by decide⟩ ⟨rfl, rfl⟩ ⟨by decide, by decide⟩ rfl (Nat.le_of_ble_eq_true rfl) dX12_layOrders_161 (fun r u hp => ?_)
                            have hfrp : (∀ q, q ≠ M → q ≠ M + 6 → q ≠ M + 7 → σ15 q = σ q) ∧ ∀ k, (k < 10 ∨ 12 < k) → σ15 M k = σ M k := ⟨fun q q1 q2 q3 => by rw [← hσ15, s2_ne q1, ← hσ13, s2_ne q1]; exact hfr0.1 q q1 q2 q3, fun k hk => by rw [← hσ15, s2_nk (by omega), ← hσ13, s2_nk (by omega)]; exact hfr0.2 k hk⟩
                            have hAc2 : LAc σ15 M v (pre ++ [L]) := ⟨by rw [sumL_app]; show _ = nI (sumL (okN v) pre + (okN v L + 0)); rw [show okN v L = 1 from if_pos c_75]; exact h10, by rw [orL_app]; show _ = nI (orL (lsN v) pre ||| (lsN v L ||| 0)); rw [show lsN v L = lstB L from if_pos c_75, Nat.or_zero]; exact h11, h12, fun F hF => (hf2 F hF).sig (by rw [← hσ15, s2_ne (by omega), ← hσ13, s2_ne (by omega)])⟩
                            obtain ⟨τ2, hu, hr, hrow2, hfr2⟩ := hp
                            subst hr
                            rw [hu]
                            have hAc3 : LAc τ2 M v (pre ++ [L]) := ⟨by rw [hfr2 M (by omega)]; exact hAc2.1, by rw [hfr2 M (by omega)]; exact hAc2.2.1, by rw [hfr2 M (by omega)]; exact hAc2.2.2.1, fun F hF => (hAc2.2.2.2 F hF).sig (hfr2 _ (by omega))⟩
                            have hfr3 : (∀ q, q ≠ M → q ≠ M + 6 → q ≠ M + 7 → τ2 q = σ q) ∧ ∀ k, (k < 10 ∨ 12 < k) → τ2 M k = σ M k := ⟨fun q q1 q2 q3 => by rw [hfr2 q q2]; exact hfrp.1 q q1 q2 q3, fun k hk => by rw [hfr2 M (by omega)]; exact hfrp.2 k hk⟩
                            have hcc := chn_cons hch
                            have hm2 : decide (¬ nxK (ordF L) (v 9 - 1) = 0) = true ↔ post ≠ [] := by
                              rw [decide_eq_true_eq]
                              rcases hcc with h7 | h7
                              · exact ⟨fun q => absurd h7.1 q, fun q => absurd h7.2 q⟩
                              · exact ⟨fun _ => h7.2.2.2, fun _ => h7.1⟩
                            have hch2 : post = [] ∨ (chnL (v 9) post = true ∧ rowAt τ2 (M + 6) 6 (ordF (post.headD []))) := by
                              rcases hcc with h7 | h7
                              · exact Or.inl h7.2
                              · right
                                rw [if_neg h7.1] at hrow2
                                exact ⟨h7.2.1, hrow2.cong h7.2.2.1⟩
                            have hsp2 : PLm (v 9) (v 9) 0 = (pre ++ [L]) ++ post := by rw [hsp]; simp
                            refine r_istore_n (ls' := [(1, .int (bI (decide (¬ nxK (ordF L) (v 9 - 1) = 0)))), (0, .ref M), (2, .int (nI (lkL v (bxA v 0) L))), (3, .int (nI k))]) hc dX12_layOrders_164 (by decide) rfl ?_
                            refine r_goto (tgt := 38) hc dX12_layOrders_165 (by decide) ?_
                            refine r_locp [1, 0] (ls' := [(0, .ref M), (1, .int (bI (decide (¬ nxK (ordF L) (v 9 - 1) = 0))))]) rfl ?_
                            exact ih38 τ2 (pre ++ [L]) post (decide (¬ nxK (ordF L) (v 9 - 1) = 0)) hsp2 hm2 hch2 hAc3 hfr3 (by omega)
                        ·
                          refine r_aload_n hc dX12_layOrders_86 rfl ?_
                          refine gf_X12_125 (x := nI (sumL (okN v) pre)) hc (MS0 hM) h10 dX12_layOrders_87 ?_
                          refine r_if_ne (tgt := 111) hc dX12_layOrders_90 (by decide) (e0_N (by omega)) (fun c_90 => ?_) (fun c_90 => ?_)
                          ·
                            have hf2 : ∀ F, fsL (okL v 0) (pre ++ [L]) = some F → rowAt τ (M + 7) 6 (ordF F) := by
                              intro F hF
                              rcases (fs_snoc v pre L F).mp hF with hq | ⟨hq1, hq2, hq3⟩
                              · by_cases hS : sumL (okN v) pre = 0
                                · have h8 := (fsL_none (okL v 0) pre).mpr (by rw [sumL_cong _ (fun L => show (if okL v 0 L = true then 1 else 0) = okN v L by simp [okL, okN])]; exact hS)
                                  rw [h8] at hq; cases hq
                                · exact hfi2 hS F hq
                              · subst hq3
                                by_cases hk6 : 6 ≤ k
                                · rw [show k = 6 by omega] at hcp; exact hcp
                                · exact absurd hq1 (by omega)
                            refine r_aload_n hc dX12_layOrders_111 rfl ?_
                            refine r_dup hc dX12_layOrders_112 rfl ?_
                            refine gf_X12_125 (x := nI (sumL (okN v) pre)) hc (MS0 hM) h10 dX12_layOrders_113 ?_
                            refine r_iconst (v := nI 1) hc dX12_layOrders_116 rfl ?_
                            refine r_iadd (v := nI (sumL (okN v) pre + 1)) hc dX12_layOrders_117 (ad_NN _ _) ?_
                            refine pf_X12_125 hc (MS0 hM) dX12_layOrders_118 ?_
                            generalize hσ16 : s2 τ M 10 (nI (sumL (okN v) pre + 1)) = σ16
                            have hv : rowAt σ16 (M + 1) 170 v := by rw [← hσ16]; exact hv.keep (by omega) _ _
                            have h10 : σ16 M 10 = nI (sumL (okN v) pre + 1) := by rw [← hσ16]; exact s2_same _ _ _ _
                            have h11 : σ16 M 11 = nI (orL (lsN v) pre) := by rw [← hσ16]; exact s2_keep h11 (by omega)
                            have h12 : σ16 M 12 = zI (lkI v (pre ++ [L])) := by rw [← hσ16]; exact s2_keep h12 (by omega)
                            have ho : rowAt σ16 (M + 6) 6 (ordF L) := by rw [← hσ16]; exact ho.keep (by omega) _ _
                            refine r_aload_n hc dX12_layOrders_121 rfl ?_
                            refine r_dup hc dX12_layOrders_122 rfl ?_
                            refine gf_X12_128 (x := nI (orL (lsN v) pre)) hc (MS0 hM) h11 dX12_layOrders_123 ?_
                            refine r_aload_n hc dX12_layOrders_126 rfl ?_
                            refine gf_X12_7 (q := M + 1) hc (MS0 hM) (MSr hM 0 1 (by decide)) dX12_layOrders_127 ?_
                            refine r_bipush (v := nI 9) hc dX12_layOrders_130 rfl ?_
                            refine r_iald (x := nI (v 9)) (j := 9) hc (MSa hM 1 0 170 rfl) rfl (by omega) (by decide) (hv _ (by omega)) dX12_layOrders_132 ?_
                            refine r_if_le (tgt := 155) hc dX12_layOrders_133 (by decide) (le0_N (by omega)) (fun c_133 => ?_) (fun c_133 => ?_)
                            ·
                              refine r_iconst (v := nI 0) hc dX12_layOrders_155 rfl ?_
                              refine r_ior (v := nI ((orL (lsN v) pre) ||| 0)) hc dX12_layOrders_156 (or_NN _ _) ?_
                              refine pf_X12_128 hc (MS0 hM) dX12_layOrders_157 ?_
                              generalize hσ17 : s2 σ16 M 11 (nI ((orL (lsN v) pre) ||| 0)) = σ17
                              have hv : rowAt σ17 (M + 1) 170 v := by rw [← hσ17]; exact hv.keep (by omega) _ _
                              have h10 : σ17 M 10 = nI (sumL (okN v) pre + 1) := by rw [← hσ17]; exact s2_keep h10 (by omega)
                              have h11 : σ17 M 11 = nI ((orL (lsN v) pre) ||| 0) := by rw [← hσ17]; exact s2_same _ _ _ _
                              have h12 : σ17 M 12 = zI (lkI v (pre ++ [L])) := by rw [← hσ17]; exact s2_keep h12 (by omega)
                              have ho : rowAt σ17 (M + 6) 6 (ordF L) := by rw [← hσ17]; exact ho.keep (by omega) _ _
                              have hfr0 := hfr
                              have h11 : σ17 M 11 = nI (orL (lsN v) pre ||| lstB L) := by rw [h11, lstB_ord, if_pos (by omega)]
                              refine r_aload_n hc dX12_layOrders_160 rfl ?_
                              have hvn : rowAt σ17 (M + 1) 170 v := hv
                              have ho6 : ∀ j, j < 6 → ordF L j < 6 := fun j hj => by by_cases h7 : j < L.length; exact Nat.lt_of_lt_of_le (hL.2 _ (ord_mem h7)) h9; rw [ord_off (by omega)]; exact hj
                              refine cl_X12_138 (As := []) hc (c_X12_nextOrder hM hv hok hbx ho ho6) (MS0 hM) rfl ⟨by decide, by decide⟩ ⟨rfl, rfl⟩ ⟨by decide, by decide⟩ rfl (Nat.le_of_ble_eq_true rfl) dX12_layOrders_161 (fun r u hp => ?_)
                              have hfrp : (∀ q, q ≠ M → q ≠ M + 6 → q ≠ M + 7 → σ17 q = σ q) ∧ ∀ k, (k < 10 ∨ 12 < k) → σ17 M k = σ M k := ⟨fun q q1 q2 q3 => by rw [← hσ17, s2_ne q1, ← hσ16, s2_ne q1]; exact hfr0.1 q q1 q2 q3, fun k hk => by rw [← hσ17, s2_nk (by omega), ← hσ16, s2_nk (by omega)]; exact hfr0.2 k hk⟩
                              have hAc2 : LAc σ17 M v (pre ++ [L]) := ⟨by rw [sumL_app]; show _ = nI (sumL (okN v) pre + (okN v L + 0)); rw [show okN v L = 1 from if_pos c_75]; exact h10, by rw [orL_app]; show _ = nI (orL (lsN v) pre ||| (lsN v L ||| 0)); rw [show lsN v L = lstB L from if_pos c_75, Nat.or_zero]; exact h11, h12, fun F hF => (hf2 F hF).sig (by rw [← hσ17, s2_ne (by omega), ← hσ16, s2_ne (by omega)])⟩
                              obtain ⟨τ2, hu, hr, hrow2, hfr2⟩ := hp
                              subst hr
                              rw [hu]
                              have hAc3 : LAc τ2 M v (pre ++ [L]) := ⟨by rw [hfr2 M (by omega)]; exact hAc2.1, by rw [hfr2 M (by omega)]; exact hAc2.2.1, by rw [hfr2 M (by omega)]; exact hAc2.2.2.1, fun F hF => (hAc2.2.2.2 F hF).sig (hfr2 _ (by omega))⟩
                              have hfr3 : (∀ q, q ≠ M → q ≠ M + 6 → q ≠ M + 7 → τ2 q = σ q) ∧ ∀ k, (k < 10 ∨ 12 < k) → τ2 M k = σ M k := ⟨fun q q1 q2 q3 => by rw [hfr2 q q2]; exact hfrp.1 q q1 q2 q3, fun k hk => by rw [hfr2 M (by omega)]; exact hfrp.2 k hk⟩
                              have hcc := chn_cons hch
                              have hm2 : decide (¬ nxK (ordF L) (v 9 - 1) = 0) = true ↔ post ≠ [] := by
                                rw [decide_eq_true_eq]
                                rcases hcc with h7 | h7
                                · exact ⟨fun q => absurd h7.1 q, fun q => absurd h7.2 q⟩
                                · exact ⟨fun _ => h7.2.2.2, fun _ => h7.1⟩
                              have hch2 : post = [] ∨ (chnL (v 9) post = true ∧ rowAt τ2 (M + 6) 6 (ordF (post.headD []))) := by
                                rcases hcc with h7 | h7
                                · exact Or.inl h7.2
                                · right
                                  rw [if_neg h7.1] at hrow2
                                  exact ⟨h7.2.1, hrow2.cong h7.2.2.1⟩
                              have hsp2 : PLm (v 9) (v 9) 0 = (pre ++ [L]) ++ post := by rw [hsp]; simp
                              refine r_istore_n (ls' := [(1, .int (bI (decide (¬ nxK (ordF L) (v 9 - 1) = 0)))), (0, .ref M), (2, .int (nI (lkL v (bxA v 0) L))), (3, .int (nI k))]) hc dX12_layOrders_164 (by decide) rfl ?_
                              refine r_goto (tgt := 38) hc dX12_layOrders_165 (by decide) ?_
                              refine r_locp [1, 0] (ls' := [(0, .ref M), (1, .int (bI (decide (¬ nxK (ordF L) (v 9 - 1) = 0))))]) rfl ?_
                              exact ih38 τ2 (pre ++ [L]) post (decide (¬ nxK (ordF L) (v 9 - 1) = 0)) hsp2 hm2 hch2 hAc3 hfr3 (by omega)
                            ·
                              have hol := hL.2 _ (ord_mem (L := L) (k := v 9 - 1) (by omega))
                              refine r_iconst (v := nI 1) hc dX12_layOrders_136 rfl ?_
                              refine r_aload_n hc dX12_layOrders_137 rfl ?_
                              refine gf_X12_26 (q := M + 6) hc (MS0 hM) (MSr hM 8 6 (by decide)) dX12_layOrders_138 ?_
                              refine r_aload_n hc dX12_layOrders_141 rfl ?_
                              refine gf_X12_7 (q := M + 1) hc (MS0 hM) (MSr hM 0 1 (by decide)) dX12_layOrders_142 ?_
                              refine r_bipush (v := nI 9) hc dX12_layOrders_145 rfl ?_
                              refine r_iald (x := nI (v 9)) (j := 9) hc (MSa hM 1 0 170 rfl) rfl (by omega) (by decide) (hv _ (by omega)) dX12_layOrders_147 ?_
                              refine r_iconst (v := nI 1) hc dX12_layOrders_148 rfl ?_
                              refine r_isub (v := nI (v 9 - 1)) hc dX12_layOrders_149 (sb_N _ _ (by omega)) ?_
                              refine r_iald (x := nI ((ordF L) (v 9 - 1))) (j := v 9 - 1) hc (MSa hM 6 0 6 rfl) rfl (by omega) (by decide) (ho _ (by omega)) dX12_layOrders_150 ?_
                              refine r_ishl (v := nI (2 ^ ((ordF L) (v 9 - 1)))) hc dX12_layOrders_151 (sl_1 _ (by omega)) ?_
                              refine r_goto (tgt := 156) hc dX12_layOrders_152 (by decide) ?_
                              refine r_ior (v := nI ((orL (lsN v) pre) ||| (2 ^ ((ordF L) (v 9 - 1))))) hc dX12_layOrders_156 (or_NN _ _) ?_
                              refine pf_X12_128 hc (MS0 hM) dX12_layOrders_157 ?_
                              generalize hσ18 : s2 σ16 M 11 (nI ((orL (lsN v) pre) ||| (2 ^ ((ordF L) (v 9 - 1))))) = σ18
                              have hv : rowAt σ18 (M + 1) 170 v := by rw [← hσ18]; exact hv.keep (by omega) _ _
                              have h10 : σ18 M 10 = nI (sumL (okN v) pre + 1) := by rw [← hσ18]; exact s2_keep h10 (by omega)
                              have h11 : σ18 M 11 = nI ((orL (lsN v) pre) ||| (2 ^ ((ordF L) (v 9 - 1)))) := by rw [← hσ18]; exact s2_same _ _ _ _
                              have h12 : σ18 M 12 = zI (lkI v (pre ++ [L])) := by rw [← hσ18]; exact s2_keep h12 (by omega)
                              have ho : rowAt σ18 (M + 6) 6 (ordF L) := by rw [← hσ18]; exact ho.keep (by omega) _ _
                              have hfr0 := hfr
                              have h11 : σ18 M 11 = nI (orL (lsN v) pre ||| lstB L) := by rw [h11, lstB_ord, if_neg (by omega), hL.1]
                              refine r_aload_n hc dX12_layOrders_160 rfl ?_
                              have hvn : rowAt σ18 (M + 1) 170 v := hv
                              have ho6 : ∀ j, j < 6 → ordF L j < 6 := fun j hj => by by_cases h7 : j < L.length; exact Nat.lt_of_lt_of_le (hL.2 _ (ord_mem h7)) h9; rw [ord_off (by omega)]; exact hj
                              refine cl_X12_138 (As := []) hc (c_X12_nextOrder hM hv hok hbx ho ho6) (MS0 hM) rfl ⟨by decide, by decide⟩ ⟨rfl, rfl⟩ ⟨by decide, by decide⟩ rfl (Nat.le_of_ble_eq_true rfl) dX12_layOrders_161 (fun r u hp => ?_)
                              have hfrp : (∀ q, q ≠ M → q ≠ M + 6 → q ≠ M + 7 → σ18 q = σ q) ∧ ∀ k, (k < 10 ∨ 12 < k) → σ18 M k = σ M k := ⟨fun q q1 q2 q3 => by rw [← hσ18, s2_ne q1, ← hσ16, s2_ne q1]; exact hfr0.1 q q1 q2 q3, fun k hk => by rw [← hσ18, s2_nk (by omega), ← hσ16, s2_nk (by omega)]; exact hfr0.2 k hk⟩
                              have hAc2 : LAc σ18 M v (pre ++ [L]) := ⟨by rw [sumL_app]; show _ = nI (sumL (okN v) pre + (okN v L + 0)); rw [show okN v L = 1 from if_pos c_75]; exact h10, by rw [orL_app]; show _ = nI (orL (lsN v) pre ||| (lsN v L ||| 0)); rw [show lsN v L = lstB L from if_pos c_75, Nat.or_zero]; exact h11, h12, fun F hF => (hf2 F hF).sig (by rw [← hσ18, s2_ne (by omega), ← hσ16, s2_ne (by omega)])⟩
                              obtain ⟨τ2, hu, hr, hrow2, hfr2⟩ := hp
                              subst hr
                              rw [hu]
                              have hAc3 : LAc τ2 M v (pre ++ [L]) := ⟨by rw [hfr2 M (by omega)]; exact hAc2.1, by rw [hfr2 M (by omega)]; exact hAc2.2.1, by rw [hfr2 M (by omega)]; exact hAc2.2.2.1, fun F hF => (hAc2.2.2.2 F hF).sig (hfr2 _ (by omega))⟩
                              have hfr3 : (∀ q, q ≠ M → q ≠ M + 6 → q ≠ M + 7 → τ2 q = σ q) ∧ ∀ k, (k < 10 ∨ 12 < k) → τ2 M k = σ M k := ⟨fun q q1 q2 q3 => by rw [hfr2 q q2]; exact hfrp.1 q q1 q2 q3, fun k hk => by rw [hfr2 M (by omega)]; exact hfrp.2 k hk⟩
                              have hcc := chn_cons hch
                              have hm2 : decide (¬ nxK (ordF L) (v 9 - 1) = 0) = true ↔ post ≠ [] := by
                                rw [decide_eq_true_eq]
                                rcases hcc with h7 | h7
                                · exact ⟨fun q => absurd h7.1 q, fun q => absurd h7.2 q⟩
                                · exact ⟨fun _ => h7.2.2.2, fun _ => h7.1⟩
                              have hch2 : post = [] ∨ (chnL (v 9) post = true ∧ rowAt τ2 (M + 6) 6 (ordF (post.headD []))) := by
                                rcases hcc with h7 | h7
                                · exact Or.inl h7.2
                                · right
                                  rw [if_neg h7.1] at hrow2
                                  exact ⟨h7.2.1, hrow2.cong h7.2.2.1⟩
                              have hsp2 : PLm (v 9) (v 9) 0 = (pre ++ [L]) ++ post := by rw [hsp]; simp
                              refine r_istore_n (ls' := [(1, .int (bI (decide (¬ nxK (ordF L) (v 9 - 1) = 0)))), (0, .ref M), (2, .int (nI (lkL v (bxA v 0) L))), (3, .int (nI k))]) hc dX12_layOrders_164 (by decide) rfl ?_
                              refine r_goto (tgt := 38) hc dX12_layOrders_165 (by decide) ?_
                              refine r_locp [1, 0] (ls' := [(0, .ref M), (1, .int (bI (decide (¬ nxK (ordF L) (v 9 - 1) = 0))))]) rfl ?_
                              exact ih38 τ2 (pre ++ [L]) post (decide (¬ nxK (ordF L) (v 9 - 1) = 0)) hsp2 hm2 hch2 hAc3 hfr3 (by omega)
                          ·
                            refine r_aload_n hc dX12_layOrders_93 rfl ?_
                            refine gf_X12_29 (q := M + 7) hc (MS0 hM) (MSr hM 9 7 (by decide)) dX12_layOrders_94 ?_
                            refine r_iload_n hc dX12_layOrders_97 rfl ?_
                            refine r_aload_n hc dX12_layOrders_98 rfl ?_
                            refine gf_X12_26 (q := M + 6) hc (MS0 hM) (MSr hM 8 6 (by decide)) dX12_layOrders_99 ?_
                            refine r_iload_n hc dX12_layOrders_102 rfl ?_
                            refine r_iald (x := nI ((ordF L) k)) (j := k) hc (MSa hM 6 0 6 rfl) rfl (by omega) (by decide) (ho _ (by omega)) dX12_layOrders_103 ?_
                            refine r_iast (j := k) hc (MSa hM 7 0 6 rfl) rfl (by omega) (by decide) dX12_layOrders_104 ?_
                            generalize hσ19 : s2 τ (M + 7) k (nI ((ordF L) k)) = σ19
                            have hv : rowAt σ19 (M + 1) 170 v := by rw [← hσ19]; exact hv.keep (by omega) _ _
                            have h10 : σ19 M 10 = nI (sumL (okN v) pre) := by rw [← hσ19]; exact s2_keep h10 (by omega)
                            have h11 : σ19 M 11 = nI (orL (lsN v) pre) := by rw [← hσ19]; exact s2_keep h11 (by omega)
                            have h12 : σ19 M 12 = zI (lkI v (pre ++ [L])) := by rw [← hσ19]; exact s2_keep h12 (by omega)
                            have ho : rowAt σ19 (M + 6) 6 (ordF L) := by rw [← hσ19]; exact ho.keep (by omega) _ _
                            refine r_iinc (v := nI (k + 1)) (ls' := [(3, .int (nI (k + 1))), (0, .ref M), (2, .int (nI (lkL v (bxA v 0) L)))]) hc dX12_layOrders_105 rfl (ad_NN _ 1) (by decide) rfl ?_
                            refine r_goto (tgt := 80) hc dX12_layOrders_108 (by decide) ?_
                            refine r_locp [1, 2, 0] (ls' := [(0, .ref M), (2, .int (nI (lkL v (bxA v 0) L))), (3, .int (nI (k + 1)))]) rfl ?_
                            exact ih80 σ19 (k + 1) (by omega) (by rw [← hσ19]; exact hcp.ext1 _ rfl) h10 h11 h12 ho hv (fun q => absurd c_90 q) (fun q => absurd c_90 q) ⟨fun q q1 q2 q3 => by rw [← hσ19, s2_ne q3]; exact hfr.1 q q1 q2 q3, fun k hk => by rw [← hσ19, s2_na (by omega)]; exact hfr.2 k hk⟩ (by omega)
                    refine r_locp [2, 1, 0] (ls' := [(0, .ref M), (2, .int (nI (lkL v (bxA v 0) L))), (3, .int (nI 0))]) rfl ?_
                    exact loop80 _ σ12 0 (by omega) rowAt.zero h10 h11 h12 ho hv (fun _ => rfl) (fun _ F hF => (hfi F hF).sig (by rw [← hσ12, s2_ne (by omega)])) ⟨fun q q1 q2 q3 => by rw [← hσ12, s2_ne q1]; exact hfr.1 q q1 q2 q3, fun k hk => by rw [← hσ12, s2_nk (by omega)]; exact hfr.2 k hk⟩ (Nat.lt_succ_self _)
                ·
                  refine r_iload_n hc dX12_layOrders_63 rfl ?_
                  refine r_goto (tgt := 71) hc dX12_layOrders_64 (by decide) ?_
                  refine pf_X12_131 hc (MS0 hM) dX12_layOrders_71 ?_
                  generalize hσ20 : s2 τ M 12 (nI (lkL v (bxA v 0) L)) = σ20
                  have hv : rowAt σ20 (M + 1) 170 v := by rw [← hσ20]; exact hv.keep (by omega) _ _
                  have h10 : σ20 M 10 = nI (sumL (okN v) pre) := by rw [← hσ20]; exact s2_keep h10 (by omega)
                  have h11 : σ20 M 11 = nI (orL (lsN v) pre) := by rw [← hσ20]; exact s2_keep h11 (by omega)
                  have h12 : σ20 M 12 = nI (lkL v (bxA v 0) L) := by rw [← hσ20]; exact s2_same _ _ _ _
                  have ho : rowAt σ20 (M + 6) 6 (ordF L) := by rw [← hσ20]; exact ho.keep (by omega) _ _
                  have h12 : σ20 M 12 = zI (lkI v (pre ++ [L])) := by rw [h12, nz, hsn, if_pos (Or.inr (by omega))]
                  refine r_iload_n hc dX12_layOrders_74 rfl ?_
                  refine r_if_ne (tgt := 160) hc dX12_layOrders_75 (by decide) (e0_N (by omega)) (fun c_75 => ?_) (fun c_75 => ?_)
                  ·
                    have hfr0 := hfr
                    refine r_aload_n hc dX12_layOrders_160 rfl ?_
                    have hvn : rowAt σ20 (M + 1) 170 v := hv
                    have ho6 : ∀ j, j < 6 → ordF L j < 6 := fun j hj => by by_cases h7 : j < L.length; exact Nat.lt_of_lt_of_le (hL.2 _ (ord_mem h7)) h9; rw [ord_off (by omega)]; exact hj
                    refine cl_X12_138 (As := []) hc (c_X12_nextOrder hM hv hok hbx ho ho6) (MS0 hM) rfl ⟨by decide, by decide⟩ ⟨rfl, rfl⟩ ⟨by decide, by decide⟩ rfl (Nat.le_of_ble_eq_true rfl) dX12_layOrders_161 (fun r u hp => ?_)
                    have hfrp : (∀ q, q ≠ M → q ≠ M + 6 → q ≠ M + 7 → σ20 q = σ q) ∧ ∀ k, (k < 10 ∨ 12 < k) → σ20 M k = σ M k := ⟨fun q q1 q2 q3 => by rw [← hσ20, s2_ne q1]; exact hfr0.1 q q1 q2 q3, fun k hk => by rw [← hσ20, s2_nk (by omega)]; exact hfr0.2 k hk⟩
                    have hAc2 : LAc σ20 M v (pre ++ [L]) := ⟨by rw [sumL_app]; show _ = nI (sumL (okN v) pre + (okN v L + 0)); rw [show okN v L = 0 from if_neg c_75]; exact h10, by rw [orL_app]; show _ = nI (orL (lsN v) pre ||| (lsN v L ||| 0)); rw [show lsN v L = 0 from if_neg c_75, show (0 ||| 0 : Nat) = 0 from rfl, Nat.or_zero]; exact h11, h12, fun F hF => by
                        rcases (fs_snoc v pre L F).mp hF with hq | hq
                        · exact (hfi F hq).sig (by rw [← hσ20, s2_ne (by omega)])
                        · exact absurd hq.2.1 c_75⟩
                    obtain ⟨τ2, hu, hr, hrow2, hfr2⟩ := hp
                    subst hr
                    rw [hu]
                    have hAc3 : LAc τ2 M v (pre ++ [L]) := ⟨by rw [hfr2 M (by omega)]; exact hAc2.1, by rw [hfr2 M (by omega)]; exact hAc2.2.1, by rw [hfr2 M (by omega)]; exact hAc2.2.2.1, fun F hF => (hAc2.2.2.2 F hF).sig (hfr2 _ (by omega))⟩
                    have hfr3 : (∀ q, q ≠ M → q ≠ M + 6 → q ≠ M + 7 → τ2 q = σ q) ∧ ∀ k, (k < 10 ∨ 12 < k) → τ2 M k = σ M k := ⟨fun q q1 q2 q3 => by rw [hfr2 q q2]; exact hfrp.1 q q1 q2 q3, fun k hk => by rw [hfr2 M (by omega)]; exact hfrp.2 k hk⟩
                    have hcc := chn_cons hch
                    have hm2 : decide (¬ nxK (ordF L) (v 9 - 1) = 0) = true ↔ post ≠ [] := by
                      rw [decide_eq_true_eq]
                      rcases hcc with h7 | h7
                      · exact ⟨fun q => absurd h7.1 q, fun q => absurd h7.2 q⟩
                      · exact ⟨fun _ => h7.2.2.2, fun _ => h7.1⟩
                    have hch2 : post = [] ∨ (chnL (v 9) post = true ∧ rowAt τ2 (M + 6) 6 (ordF (post.headD []))) := by
                      rcases hcc with h7 | h7
                      · exact Or.inl h7.2
                      · right
                        rw [if_neg h7.1] at hrow2
                        exact ⟨h7.2.1, hrow2.cong h7.2.2.1⟩
                    have hsp2 : PLm (v 9) (v 9) 0 = (pre ++ [L]) ++ post := by rw [hsp]; simp
                    refine r_istore_n (ls' := [(1, .int (bI (decide (¬ nxK (ordF L) (v 9 - 1) = 0)))), (2, .int (nI (lkL v (bxA v 0) L))), (0, .ref M)]) hc dX12_layOrders_164 (by decide) rfl ?_
                    refine r_goto (tgt := 38) hc dX12_layOrders_165 (by decide) ?_
                    refine r_locp [2, 0] (ls' := [(0, .ref M), (1, .int (bI (decide (¬ nxK (ordF L) (v 9 - 1) = 0))))]) rfl ?_
                    exact ih38 τ2 (pre ++ [L]) post (decide (¬ nxK (ordF L) (v 9 - 1) = 0)) hsp2 hm2 hch2 hAc3 hfr3 (by omega)
                  ·
                    refine r_iconst (v := nI 0) hc dX12_layOrders_78 rfl ?_
                    refine r_istore_n (ls' := [(3, .int (nI 0)), (2, .int (nI (lkL v (bxA v 0) L))), (0, .ref M), (1, .int (bI m))]) hc dX12_layOrders_79 (by decide) rfl ?_
                    have loop80 : ∀ (n80 : Nat) (τ : Nat → Nat → Int32) (k : Nat), (k ≤ 6) → (rowAt τ (M + 7) k (ordF L)) → (τ M 10 = nI (sumL (okN v) pre)) → (τ M 11 = nI (orL (lsN v) pre)) → (τ M 12 = zI (lkI v (pre ++ [L]))) → (rowAt τ (M + 6) 6 (ordF L)) → (rowAt τ (M + 1) 170 v) → (sumL (okN v) pre ≠ 0 → k = 0) → (sumL (okN v) pre ≠ 0 → ∀ F, fsL (okL v 0) pre = some F → rowAt τ (M + 7) 6 (ordF F)) → ((∀ q, q ≠ M → q ≠ M + 6 → q ≠ M + 7 → τ q = σ q) ∧ ∀ k, (k < 10 ∨ 12 < k) → τ M k = σ M k) → (6 - k) < n80 → Vw Ω Φ (z, sh, τ, ρ) (0, 0) 80 [(0, .ref M), (2, .int (nI (lkL v (bxA v 0) L))), (3, .int (nI k))] [] := by
                      intro n80
                      induction n80 with
                      | zero => intro τ k hk hcp h10 h11 h12 ho hv hkS hfi2 hfr hm; exact absurd hm (Nat.not_lt_zero _)
                      | succ n80 ih80 =>
                        intro τ k hk hcp h10 h11 h12 ho hv hkS hfi2 hfr hm80
                        refine r_iload_n hc dX12_layOrders_80 rfl ?_
                        refine r_bipush (v := nI 6) hc dX12_layOrders_81 rfl ?_
                        refine r_icmp_ge (tgt := 111) hc dX12_layOrders_83 (by decide) (le_NN (by omega) (by omega)) (fun c_83 => ?_) (fun c_83 => ?_)
                        ·
                          have hf2 : ∀ F, fsL (okL v 0) (pre ++ [L]) = some F → rowAt τ (M + 7) 6 (ordF F) := by
                            intro F hF
                            rcases (fs_snoc v pre L F).mp hF with hq | ⟨hq1, hq2, hq3⟩
                            · by_cases hS : sumL (okN v) pre = 0
                              · have h8 := (fsL_none (okL v 0) pre).mpr (by rw [sumL_cong _ (fun L => show (if okL v 0 L = true then 1 else 0) = okN v L by simp [okL, okN])]; exact hS)
                                rw [h8] at hq; cases hq
                              · exact hfi2 hS F hq
                            · subst hq3
                              by_cases hk6 : 6 ≤ k
                              · rw [show k = 6 by omega] at hcp; exact hcp
                              · exact absurd hq1 (by omega)
                          refine r_aload_n hc dX12_layOrders_111 rfl ?_
                          refine r_dup hc dX12_layOrders_112 rfl ?_
                          refine gf_X12_125 (x := nI (sumL (okN v) pre)) hc (MS0 hM) h10 dX12_layOrders_113 ?_
                          refine r_iconst (v := nI 1) hc dX12_layOrders_116 rfl ?_
                          refine r_iadd (v := nI (sumL (okN v) pre + 1)) hc dX12_layOrders_117 (ad_NN _ _) ?_
                          refine pf_X12_125 hc (MS0 hM) dX12_layOrders_118 ?_
                          generalize hσ21 : s2 τ M 10 (nI (sumL (okN v) pre + 1)) = σ21
                          have hv : rowAt σ21 (M + 1) 170 v := by rw [← hσ21]; exact hv.keep (by omega) _ _
                          have h10 : σ21 M 10 = nI (sumL (okN v) pre + 1) := by rw [← hσ21]; exact s2_same _ _ _ _
                          have h11 : σ21 M 11 = nI (orL (lsN v) pre) := by rw [← hσ21]; exact s2_keep h11 (by omega)
                          have h12 : σ21 M 12 = zI (lkI v (pre ++ [L])) := by rw [← hσ21]; exact s2_keep h12 (by omega)
                          have ho : rowAt σ21 (M + 6) 6 (ordF L) := by rw [← hσ21]; exact ho.keep (by omega) _ _
                          refine r_aload_n hc dX12_layOrders_121 rfl ?_
                          refine r_dup hc dX12_layOrders_122 rfl ?_
                          refine gf_X12_128 (x := nI (orL (lsN v) pre)) hc (MS0 hM) h11 dX12_layOrders_123 ?_
                          refine r_aload_n hc dX12_layOrders_126 rfl ?_
                          refine gf_X12_7 (q := M + 1) hc (MS0 hM) (MSr hM 0 1 (by decide)) dX12_layOrders_127 ?_
                          refine r_bipush (v := nI 9) hc dX12_layOrders_130 rfl ?_
                          refine r_iald (x := nI (v 9)) (j := 9) hc (MSa hM 1 0 170 rfl) rfl (by omega) (by decide) (hv _ (by omega)) dX12_layOrders_132 ?_
                          refine r_if_le (tgt := 155) hc dX12_layOrders_133 (by decide) (le0_N (by omega)) (fun c_133 => ?_) (fun c_133 => ?_)
                          ·
                            refine r_iconst (v := nI 0) hc dX12_layOrders_155 rfl ?_
                            refine r_ior (v := nI ((orL (lsN v) pre) ||| 0)) hc dX12_layOrders_156 (or_NN _ _) ?_
                            refine pf_X12_128 hc (MS0 hM) dX12_layOrders_157 ?_
                            generalize hσ22 : s2 σ21 M 11 (nI ((orL (lsN v) pre) ||| 0)) = σ22
                            have hv : rowAt σ22 (M + 1) 170 v := by rw [← hσ22]; exact hv.keep (by omega) _ _
                            have h10 : σ22 M 10 = nI (sumL (okN v) pre + 1) := by rw [← hσ22]; exact s2_keep h10 (by omega)
                            have h11 : σ22 M 11 = nI ((orL (lsN v) pre) ||| 0) := by rw [← hσ22]; exact s2_same _ _ _ _
                            have h12 : σ22 M 12 = zI (lkI v (pre ++ [L])) := by rw [← hσ22]; exact s2_keep h12 (by omega)
                            have ho : rowAt σ22 (M + 6) 6 (ordF L) := by rw [← hσ22]; exact ho.keep (by omega) _ _
                            have hfr0 := hfr
                            have h11 : σ22 M 11 = nI (orL (lsN v) pre ||| lstB L) := by rw [h11, lstB_ord, if_pos (by omega)]
                            refine r_aload_n hc dX12_layOrders_160 rfl ?_
                            have hvn : rowAt σ22 (M + 1) 170 v := hv
                            have ho6 : ∀ j, j < 6 → ordF L j < 6 := fun j hj => by by_cases h7 : j < L.length; exact Nat.lt_of_lt_of_le (hL.2 _ (ord_mem h7)) h9; rw [ord_off (by omega)]; exact hj
                            refine cl_X12_138 (As := []) hc (c_X12_nextOrder hM hv hok hbx ho ho6) (MS0 hM) rfl ⟨by decide, by decide⟩ ⟨rfl, rfl⟩ ⟨by decide, by decide⟩ rfl (Nat.le_of_ble_eq_true rfl) dX12_layOrders_161 (fun r u hp => ?_)
                            have hfrp : (∀ q, q ≠ M → q ≠ M + 6 → q ≠ M + 7 → σ22 q = σ q) ∧ ∀ k, (k < 10 ∨ 12 < k) → σ22 M k = σ M k := ⟨fun q q1 q2 q3 => by rw [← hσ22, s2_ne q1, ← hσ21, s2_ne q1]; exact hfr0.1 q q1 q2 q3, fun k hk => by rw [← hσ22, s2_nk (by omega), ← hσ21, s2_nk (by omega)]; exact hfr0.2 k hk⟩
                            have hAc2 : LAc σ22 M v (pre ++ [L]) := ⟨by rw [sumL_app]; show _ = nI (sumL (okN v) pre + (okN v L + 0)); rw [show okN v L = 1 from if_pos c_75]; exact h10, by rw [orL_app]; show _ = nI (orL (lsN v) pre ||| (lsN v L ||| 0)); rw [show lsN v L = lstB L from if_pos c_75, Nat.or_zero]; exact h11, h12, fun F hF => (hf2 F hF).sig (by rw [← hσ22, s2_ne (by omega), ← hσ21, s2_ne (by omega)])⟩
                            obtain ⟨τ2, hu, hr, hrow2, hfr2⟩ := hp
                            subst hr
                            rw [hu]
                            have hAc3 : LAc τ2 M v (pre ++ [L]) := ⟨by rw [hfr2 M (by omega)]; exact hAc2.1, by rw [hfr2 M (by omega)]; exact hAc2.2.1, by rw [hfr2 M (by omega)]; exact hAc2.2.2.1, fun F hF => (hAc2.2.2.2 F hF).sig (hfr2 _ (by omega))⟩
                            have hfr3 : (∀ q, q ≠ M → q ≠ M + 6 → q ≠ M + 7 → τ2 q = σ q) ∧ ∀ k, (k < 10 ∨ 12 < k) → τ2 M k = σ M k := ⟨fun q q1 q2 q3 => by rw [hfr2 q q2]; exact hfrp.1 q q1 q2 q3, fun k hk => by rw [hfr2 M (by omega)]; exact hfrp.2 k hk⟩
                            have hcc := chn_cons hch
                            have hm2 : decide (¬ nxK (ordF L) (v 9 - 1) = 0) = true ↔ post ≠ [] := by
                              rw [decide_eq_true_eq]
                              rcases hcc with h7 | h7
                              · exact ⟨fun q => absurd h7.1 q, fun q => absurd h7.2 q⟩
                              · exact ⟨fun _ => h7.2.2.2, fun _ => h7.1⟩
                            have hch2 : post = [] ∨ (chnL (v 9) post = true ∧ rowAt τ2 (M + 6) 6 (ordF (post.headD []))) := by
                              rcases hcc with h7 | h7
                              · exact Or.inl h7.2
                              · right
                                rw [if_neg h7.1] at hrow2
                                exact ⟨h7.2.1, hrow2.cong h7.2.2.1⟩
                            have hsp2 : PLm (v 9) (v 9) 0 = (pre ++ [L]) ++ post := by rw [hsp]; simp
                            refine r_istore_n (ls' := [(1, .int (bI (decide (¬ nxK (ordF L) (v 9 - 1) = 0)))), (0, .ref M), (2, .int (nI (lkL v (bxA v 0) L))), (3, .int (nI k))]) hc dX12_layOrders_164 (by decide) rfl ?_
                            refine r_goto (tgt := 38) hc dX12_layOrders_165 (by decide) ?_
                            refine r_locp [1, 0] (ls' := [(0, .ref M), (1, .int (bI (decide (¬ nxK (ordF L) (v 9 - 1) = 0))))]) rfl ?_
                            exact ih38 τ2 (pre ++ [L]) post (decide (¬ nxK (ordF L) (v 9 - 1) = 0)) hsp2 hm2 hch2 hAc3 hfr3 (by omega)
                          ·
                            have hol := hL.2 _ (ord_mem (L := L) (k := v 9 - 1) (by omega))
                            refine r_iconst (v := nI 1) hc dX12_layOrders_136 rfl ?_
                            refine r_aload_n hc dX12_layOrders_137 rfl ?_
                            refine gf_X12_26 (q := M + 6) hc (MS0 hM) (MSr hM 8 6 (by decide)) dX12_layOrders_138 ?_
                            refine r_aload_n hc dX12_layOrders_141 rfl ?_
                            refine gf_X12_7 (q := M + 1) hc (MS0 hM) (MSr hM 0 1 (by decide)) dX12_layOrders_142 ?_
                            refine r_bipush (v := nI 9) hc dX12_layOrders_145 rfl ?_
                            refine r_iald (x := nI (v 9)) (j := 9) hc (MSa hM 1 0 170 rfl) rfl (by omega) (by decide) (hv _ (by omega)) dX12_layOrders_147 ?_
                            refine r_iconst (v := nI 1) hc dX12_layOrders_148 rfl ?_
                            refine r_isub (v := nI (v 9 - 1)) hc dX12_layOrders_149 (sb_N _ _ (by omega)) ?_
                            refine r_iald (x := nI ((ordF L) (v 9 - 1))) (j := v 9 - 1) hc (MSa hM 6 0 6 rfl) rfl (by omega) (by decide) (ho _ (by omega)) dX12_layOrders_150 ?_
                            refine r_ishl (v := nI (2 ^ ((ordF L) (v 9 - 1)))) hc dX12_layOrders_151 (sl_1 _ (by omega)) ?_
                            refine r_goto (tgt := 156) hc dX12_layOrders_152 (by decide) ?_
                            refine r_ior (v := nI ((orL (lsN v) pre) ||| (2 ^ ((ordF L) (v 9 - 1))))) hc dX12_layOrders_156 (or_NN _ _) ?_
                            refine pf_X12_128 hc (MS0 hM) dX12_layOrders_157 ?_
                            generalize hσ23 : s2 σ21 M 11 (nI ((orL (lsN v) pre) ||| (2 ^ ((ordF L) (v 9 - 1))))) = σ23
                            have hv : rowAt σ23 (M + 1) 170 v := by rw [← hσ23]; exact hv.keep (by omega) _ _
                            have h10 : σ23 M 10 = nI (sumL (okN v) pre + 1) := by rw [← hσ23]; exact s2_keep h10 (by omega)
                            have h11 : σ23 M 11 = nI ((orL (lsN v) pre) ||| (2 ^ ((ordF L) (v 9 - 1)))) := by rw [← hσ23]; exact s2_same _ _ _ _
                            have h12 : σ23 M 12 = zI (lkI v (pre ++ [L])) := by rw [← hσ23]; exact s2_keep h12 (by omega)
                            have ho : rowAt σ23 (M + 6) 6 (ordF L) := by rw [← hσ23]; exact ho.keep (by omega) _ _
                            have hfr0 := hfr
                            have h11 : σ23 M 11 = nI (orL (lsN v) pre ||| lstB L) := by rw [h11, lstB_ord, if_neg (by omega), hL.1]
                            refine r_aload_n hc dX12_layOrders_160 rfl ?_
                            have hvn : rowAt σ23 (M + 1) 170 v := hv
                            have ho6 : ∀ j, j < 6 → ordF L j < 6 := fun j hj => by by_cases h7 : j < L.length; exact Nat.lt_of_lt_of_le (hL.2 _ (ord_mem h7)) h9; rw [ord_off (by omega)]; exact hj
                            refine cl_X12_138 (As := []) hc (c_X12_nextOrder hM hv hok hbx ho ho6) (MS0 hM) rfl ⟨by decide, by decide⟩ ⟨rfl, rfl⟩ ⟨by decide, by decide⟩ rfl (Nat.le_of_ble_eq_true rfl) dX12_layOrders_161 (fun r u hp => ?_)
                            have hfrp : (∀ q, q ≠ M → q ≠ M + 6 → q ≠ M + 7 → σ23 q = σ q) ∧ ∀ k, (k < 10 ∨ 12 < k) → σ23 M k = σ M k := ⟨fun q q1 q2 q3 => by rw [← hσ23, s2_ne q1, ← hσ21, s2_ne q1]; exact hfr0.1 q q1 q2 q3, fun k hk => by rw [← hσ23, s2_nk (by omega), ← hσ21, s2_nk (by omega)]; exact hfr0.2 k hk⟩
                            have hAc2 : LAc σ23 M v (pre ++ [L]) := ⟨by rw [sumL_app]; show _ = nI (sumL (okN v) pre + (okN v L + 0)); rw [show okN v L = 1 from if_pos c_75]; exact h10, by rw [orL_app]; show _ = nI (orL (lsN v) pre ||| (lsN v L ||| 0)); rw [show lsN v L = lstB L from if_pos c_75, Nat.or_zero]; exact h11, h12, fun F hF => (hf2 F hF).sig (by rw [← hσ23, s2_ne (by omega), ← hσ21, s2_ne (by omega)])⟩
                            obtain ⟨τ2, hu, hr, hrow2, hfr2⟩ := hp
                            subst hr
                            rw [hu]
                            have hAc3 : LAc τ2 M v (pre ++ [L]) := ⟨by rw [hfr2 M (by omega)]; exact hAc2.1, by rw [hfr2 M (by omega)]; exact hAc2.2.1, by rw [hfr2 M (by omega)]; exact hAc2.2.2.1, fun F hF => (hAc2.2.2.2 F hF).sig (hfr2 _ (by omega))⟩
                            have hfr3 : (∀ q, q ≠ M → q ≠ M + 6 → q ≠ M + 7 → τ2 q = σ q) ∧ ∀ k, (k < 10 ∨ 12 < k) → τ2 M k = σ M k := ⟨fun q q1 q2 q3 => by rw [hfr2 q q2]; exact hfrp.1 q q1 q2 q3, fun k hk => by rw [hfr2 M (by omega)]; exact hfrp.2 k hk⟩
                            have hcc := chn_cons hch
                            have hm2 : decide (¬ nxK (ordF L) (v 9 - 1) = 0) = true ↔ post ≠ [] := by
                              rw [decide_eq_true_eq]
                              rcases hcc with h7 | h7
                              · exact ⟨fun q => absurd h7.1 q, fun q => absurd h7.2 q⟩
                              · exact ⟨fun _ => h7.2.2.2, fun _ => h7.1⟩
                            have hch2 : post = [] ∨ (chnL (v 9) post = true ∧ rowAt τ2 (M + 6) 6 (ordF (post.headD []))) := by
                              rcases hcc with h7 | h7
                              · exact Or.inl h7.2
                              · right
                                rw [if_neg h7.1] at hrow2
                                exact ⟨h7.2.1, hrow2.cong h7.2.2.1⟩
                            have hsp2 : PLm (v 9) (v 9) 0 = (pre ++ [L]) ++ post := by rw [hsp]; simp
                            refine r_istore_n (ls' := [(1, .int (bI (decide (¬ nxK (ordF L) (v 9 - 1) = 0)))), (0, .ref M), (2, .int (nI (lkL v (bxA v 0) L))), (3, .int (nI k))]) hc dX12_layOrders_164 (by decide) rfl ?_
                            refine r_goto (tgt := 38) hc dX12_layOrders_165 (by decide) ?_
                            refine r_locp [1, 0] (ls' := [(0, .ref M), (1, .int (bI (decide (¬ nxK (ordF L) (v 9 - 1) = 0))))]) rfl ?_
                            exact ih38 τ2 (pre ++ [L]) post (decide (¬ nxK (ordF L) (v 9 - 1) = 0)) hsp2 hm2 hch2 hAc3 hfr3 (by omega)
                        ·
                          refine r_aload_n hc dX12_layOrders_86 rfl ?_
                          refine gf_X12_125 (x := nI (sumL (okN v) pre)) hc (MS0 hM) h10 dX12_layOrders_87 ?_
                          refine r_if_ne (tgt := 111) hc dX12_layOrders_90 (by decide) (e0_N (by omega)) (fun c_90 => ?_) (fun c_90 => ?_)
                          ·
                            have hf2 : ∀ F, fsL (okL v 0) (pre ++ [L]) = some F → rowAt τ (M + 7) 6 (ordF F) := by
                              intro F hF
                              rcases (fs_snoc v pre L F).mp hF with hq | ⟨hq1, hq2, hq3⟩
                              · by_cases hS : sumL (okN v) pre = 0
                                · have h8 := (fsL_none (okL v 0) pre).mpr (by rw [sumL_cong _ (fun L => show (if okL v 0 L = true then 1 else 0) = okN v L by simp [okL, okN])]; exact hS)
                                  rw [h8] at hq; cases hq
                                · exact hfi2 hS F hq
                              · subst hq3
                                by_cases hk6 : 6 ≤ k
                                · rw [show k = 6 by omega] at hcp; exact hcp
                                · exact absurd hq1 (by omega)
                            refine r_aload_n hc dX12_layOrders_111 rfl ?_
                            refine r_dup hc dX12_layOrders_112 rfl ?_
                            refine gf_X12_125 (x := nI (sumL (okN v) pre)) hc (MS0 hM) h10 dX12_layOrders_113 ?_
                            refine r_iconst (v := nI 1) hc dX12_layOrders_116 rfl ?_
                            refine r_iadd (v := nI (sumL (okN v) pre + 1)) hc dX12_layOrders_117 (ad_NN _ _) ?_
                            refine pf_X12_125 hc (MS0 hM) dX12_layOrders_118 ?_
                            generalize hσ24 : s2 τ M 10 (nI (sumL (okN v) pre + 1)) = σ24
                            have hv : rowAt σ24 (M + 1) 170 v := by rw [← hσ24]; exact hv.keep (by omega) _ _
                            have h10 : σ24 M 10 = nI (sumL (okN v) pre + 1) := by rw [← hσ24]; exact s2_same _ _ _ _
                            have h11 : σ24 M 11 = nI (orL (lsN v) pre) := by rw [← hσ24]; exact s2_keep h11 (by omega)
                            have h12 : σ24 M 12 = zI (lkI v (pre ++ [L])) := by rw [← hσ24]; exact s2_keep h12 (by omega)
                            have ho : rowAt σ24 (M + 6) 6 (ordF L) := by rw [← hσ24]; exact ho.keep (by omega) _ _
                            refine r_aload_n hc dX12_layOrders_121 rfl ?_
                            refine r_dup hc dX12_layOrders_122 rfl ?_
                            refine gf_X12_128 (x := nI (orL (lsN v) pre)) hc (MS0 hM) h11 dX12_layOrders_123 ?_
                            refine r_aload_n hc dX12_layOrders_126 rfl ?_
                            refine gf_X12_7 (q := M + 1) hc (MS0 hM) (MSr hM 0 1 (by decide)) dX12_layOrders_127 ?_
                            refine r_bipush (v := nI 9) hc dX12_layOrders_130 rfl ?_
                            refine r_iald (x := nI (v 9)) (j := 9) hc (MSa hM 1 0 170 rfl) rfl (by omega) (by decide) (hv _ (by omega)) dX12_layOrders_132 ?_
                            refine r_if_le (tgt := 155) hc dX12_layOrders_133 (by decide) (le0_N (by omega)) (fun c_133 => ?_) (fun c_133 => ?_)
                            ·
                              refine r_iconst (v := nI 0) hc dX12_layOrders_155 rfl ?_
                              refine r_ior (v := nI ((orL (lsN v) pre) ||| 0)) hc dX12_layOrders_156 (or_NN _ _) ?_
                              refine pf_X12_128 hc (MS0 hM) dX12_layOrders_157 ?_
                              generalize hσ25 : s2 σ24 M 11 (nI ((orL (lsN v) pre) ||| 0)) = σ25
                              have hv : rowAt σ25 (M + 1) 170 v := by rw [← hσ25]; exact hv.keep (by omega) _ _
                              have h10 : σ25 M 10 = nI (sumL (okN v) pre + 1) := by rw [← hσ25]; exact s2_keep h10 (by omega)
                              have h11 : σ25 M 11 = nI ((orL (lsN v) pre) ||| 0) := by rw [← hσ25]; exact s2_same _ _ _ _
                              have h12 : σ25 M 12 = zI (lkI v (pre ++ [L])) := by rw [← hσ25]; exact s2_keep h12 (by omega)
                              have ho : rowAt σ25 (M + 6) 6 (ordF L) := by rw [← hσ25]; exact ho.keep (by omega) _ _
                              have hfr0 := hfr
                              have h11 : σ25 M 11 = nI (orL (lsN v) pre ||| lstB L) := by rw [h11, lstB_ord, if_pos (by omega)]
                              refine r_aload_n hc dX12_layOrders_160 rfl ?_
                              have hvn : rowAt σ25 (M + 1) 170 v := hv
                              have ho6 : ∀ j, j < 6 → ordF L j < 6 := fun j hj => by by_cases h7 : j < L.length; exact Nat.lt_of_lt_of_le (hL.2 _ (ord_mem h7)) h9; rw [ord_off (by omega)]; exact hj
                              refine cl_X12_138 (As := []) hc (c_X12_nextOrder hM hv hok hbx ho ho6) (MS0 hM) rfl ⟨by decide, by decide⟩ ⟨rfl, rfl⟩ ⟨by decide, by decide⟩ rfl (Nat.le_of_ble_eq_true rfl) dX12_layOrders_161 (fun r u hp => ?_)
                              have hfrp : (∀ q, q ≠ M → q ≠ M + 6 → q ≠ M + 7 → σ25 q = σ q) ∧ ∀ k, (k < 10 ∨ 12 < k) → σ25 M k = σ M k := ⟨fun q q1 q2 q3 => by rw [← hσ25, s2_ne q1, ← hσ24, s2_ne q1]; exact hfr0.1 q q1 q2 q3, fun k hk => by rw [← hσ25, s2_nk (by omega), ← hσ24, s2_nk (by omega)]; exact hfr0.2 k hk⟩
                              have hAc2 : LAc σ25 M v (pre ++ [L]) := ⟨by rw [sumL_app]; show _ = nI (sumL (okN v) pre + (okN v L + 0)); rw [show okN v L = 1 from if_pos c_75]; exact h10, by rw [orL_app]; show _ = nI (orL (lsN v) pre ||| (lsN v L ||| 0)); rw [show lsN v L = lstB L from if_pos c_75, Nat.or_zero]; exact h11, h12, fun F hF => (hf2 F hF).sig (by rw [← hσ25, s2_ne (by omega), ← hσ24, s2_ne (by omega)])⟩
                              obtain ⟨τ2, hu, hr, hrow2, hfr2⟩ := hp
                              subst hr
                              rw [hu]
                              have hAc3 : LAc τ2 M v (pre ++ [L]) := ⟨by rw [hfr2 M (by omega)]; exact hAc2.1, by rw [hfr2 M (by omega)]; exact hAc2.2.1, by rw [hfr2 M (by omega)]; exact hAc2.2.2.1, fun F hF => (hAc2.2.2.2 F hF).sig (hfr2 _ (by omega))⟩
                              have hfr3 : (∀ q, q ≠ M → q ≠ M + 6 → q ≠ M + 7 → τ2 q = σ q) ∧ ∀ k, (k < 10 ∨ 12 < k) → τ2 M k = σ M k := ⟨fun q q1 q2 q3 => by rw [hfr2 q q2]; exact hfrp.1 q q1 q2 q3, fun k hk => by rw [hfr2 M (by omega)]; exact hfrp.2 k hk⟩
                              have hcc := chn_cons hch
                              have hm2 : decide (¬ nxK (ordF L) (v 9 - 1) = 0) = true ↔ post ≠ [] := by
                                rw [decide_eq_true_eq]
                                rcases hcc with h7 | h7
                                · exact ⟨fun q => absurd h7.1 q, fun q => absurd h7.2 q⟩
                                · exact ⟨fun _ => h7.2.2.2, fun _ => h7.1⟩
                              have hch2 : post = [] ∨ (chnL (v 9) post = true ∧ rowAt τ2 (M + 6) 6 (ordF (post.headD []))) := by
                                rcases hcc with h7 | h7
                                · exact Or.inl h7.2
                                · right
                                  rw [if_neg h7.1] at hrow2
                                  exact ⟨h7.2.1, hrow2.cong h7.2.2.1⟩
                              have hsp2 : PLm (v 9) (v 9) 0 = (pre ++ [L]) ++ post := by rw [hsp]; simp
                              refine r_istore_n (ls' := [(1, .int (bI (decide (¬ nxK (ordF L) (v 9 - 1) = 0)))), (0, .ref M), (2, .int (nI (lkL v (bxA v 0) L))), (3, .int (nI k))]) hc dX12_layOrders_164 (by decide) rfl ?_
                              refine r_goto (tgt := 38) hc dX12_layOrders_165 (by decide) ?_
                              refine r_locp [1, 0] (ls' := [(0, .ref M), (1, .int (bI (decide (¬ nxK (ordF L) (v 9 - 1) = 0))))]) rfl ?_
                              exact ih38 τ2 (pre ++ [L]) post (decide (¬ nxK (ordF L) (v 9 - 1) = 0)) hsp2 hm2 hch2 hAc3 hfr3 (by omega)
                            ·
                              have hol := hL.2 _ (ord_mem (L := L) (k := v 9 - 1) (by omega))
                              refine r_iconst (v := nI 1) hc dX12_layOrders_136 rfl ?_
                              refine r_aload_n hc dX12_layOrders_137 rfl ?_
                              refine gf_X12_26 (q := M + 6) hc (MS0 hM) (MSr hM 8 6 (by decide)) dX12_layOrders_138 ?_
                              refine r_aload_n hc dX12_layOrders_141 rfl ?_
                              refine gf_X12_7 (q := M + 1) hc (MS0 hM) (MSr hM 0 1 (by decide)) dX12_layOrders_142 ?_
                              refine r_bipush (v := nI 9) hc dX12_layOrders_145 rfl ?_
                              refine r_iald (x := nI (v 9)) (j := 9) hc (MSa hM 1 0 170 rfl) rfl (by omega) (by decide) (hv _ (by omega)) dX12_layOrders_147 ?_
                              refine r_iconst (v := nI 1) hc dX12_layOrders_148 rfl ?_
                              refine r_isub (v := nI (v 9 - 1)) hc dX12_layOrders_149 (sb_N _ _ (by omega)) ?_
                              refine r_iald (x := nI ((ordF L) (v 9 - 1))) (j := v 9 - 1) hc (MSa hM 6 0 6 rfl) rfl (by omega) (by decide) (ho _ (by omega)) dX12_layOrders_150 ?_
                              refine r_ishl (v := nI (2 ^ ((ordF L) (v 9 - 1)))) hc dX12_layOrders_151 (sl_1 _ (by omega)) ?_
                              refine r_goto (tgt := 156) hc dX12_layOrders_152 (by decide) ?_
                              refine r_ior (v := nI ((orL (lsN v) pre) ||| (2 ^ ((ordF L) (v 9 - 1))))) hc dX12_layOrders_156 (or_NN _ _) ?_
                              refine pf_X12_128 hc (MS0 hM) dX12_layOrders_157 ?_
                              generalize hσ26 : s2 σ24 M 11 (nI ((orL (lsN v) pre) ||| (2 ^ ((ordF L) (v 9 - 1))))) = σ26
                              have hv : rowAt σ26 (M + 1) 170 v := by rw [← hσ26]; exact hv.keep (by omega) _ _
                              have h10 : σ26 M 10 = nI (sumL (okN v) pre + 1) := by rw [← hσ26]; exact s2_keep h10 (by omega)
                              have h11 : σ26 M 11 = nI ((orL (lsN v) pre) ||| (2 ^ ((ordF L) (v 9 - 1)))) := by rw [← hσ26]; exact s2_same _ _ _ _
                              have h12 : σ26 M 12 = zI (lkI v (pre ++ [L])) := by rw [← hσ26]; exact s2_keep h12 (by omega)
                              have ho : rowAt σ26 (M + 6) 6 (ordF L) := by rw [← hσ26]; exact ho.keep (by omega) _ _
                              have hfr0 := hfr
                              have h11 : σ26 M 11 = nI (orL (lsN v) pre ||| lstB L) := by rw [h11, lstB_ord, if_neg (by omega), hL.1]
                              refine r_aload_n hc dX12_layOrders_160 rfl ?_
                              have hvn : rowAt σ26 (M + 1) 170 v := hv
                              have ho6 : ∀ j, j < 6 → ordF L j < 6 := fun j hj => by by_cases h7 : j < L.length; exact Nat.lt_of_lt_of_le (hL.2 _ (ord_mem h7)) h9; rw [ord_off (by omega)]; exact hj
                              refine cl_X12_138 (As := []) hc (c_X12_nextOrder hM hv hok hbx ho ho6) (MS0 hM) rfl ⟨by decide, by decide⟩ ⟨rfl, rfl⟩ ⟨by decide, by decide⟩ rfl (Nat.le_of_ble_eq_true rfl) dX12_layOrders_161 (fun r u hp => ?_)
                              have hfrp : (∀ q, q ≠ M → q ≠ M + 6 → q ≠ M + 7 → σ26 q = σ q) ∧ ∀ k, (k < 10 ∨ 12 < k) → σ26 M k = σ M k := ⟨fun q q1 q2 q3 => by rw [← hσ26, s2_ne q1, ← hσ24, s2_ne q1]; exact hfr0.1 q q1 q2 q3, fun k hk => by rw [← hσ26, s2_nk (by omega), ← hσ24, s2_nk (by omega)]; exact hfr0.2 k hk⟩
                              have hAc2 : LAc σ26 M v (pre ++ [L]) := ⟨by rw [sumL_app]; show _ = nI (sumL (okN v) pre + (okN v L + 0)); rw [show okN v L = 1 from if_pos c_75]; exact h10, by rw [orL_app]; show _ = nI (orL (lsN v) pre ||| (lsN v L ||| 0)); rw [show lsN v L = lstB L from if_pos c_75, Nat.or_zero]; exact h11, h12, fun F hF => (hf2 F hF).sig (by rw [← hσ26, s2_ne (by omega), ← hσ24, s2_ne (by omega)])⟩
                              obtain ⟨τ2, hu, hr, hrow2, hfr2⟩ := hp
                              subst hr
                              rw [hu]
                              have hAc3 : LAc τ2 M v (pre ++ [L]) := ⟨by rw [hfr2 M (by omega)]; exact hAc2.1, by rw [hfr2 M (by omega)]; exact hAc2.2.1, by rw [hfr2 M (by omega)]; exact hAc2.2.2.1, fun F hF => (hAc2.2.2.2 F hF).sig (hfr2 _ (by omega))⟩
                              have hfr3 : (∀ q, q ≠ M → q ≠ M + 6 → q ≠ M + 7 → τ2 q = σ q) ∧ ∀ k, (k < 10 ∨ 12 < k) → τ2 M k = σ M k := ⟨fun q q1 q2 q3 => by rw [hfr2 q q2]; exact hfrp.1 q q1 q2 q3, fun k hk => by rw [hfr2 M (by omega)]; exact hfrp.2 k hk⟩
                              have hcc := chn_cons hch
                              have hm2 : decide (¬ nxK (ordF L) (v 9 - 1) = 0) = true ↔ post ≠ [] := by
                                rw [decide_eq_true_eq]
                                rcases hcc with h7 | h7
                                · exact ⟨fun q => absurd h7.1 q, fun q => absurd h7.2 q⟩
                                · exact ⟨fun _ => h7.2.2.2, fun _ => h7.1⟩
                              have hch2 : post = [] ∨ (chnL (v 9) post = true ∧ rowAt τ2 (M + 6) 6 (ordF (post.headD []))) := by
                                rcases hcc with h7 | h7
                                · exact Or.inl h7.2
                                · right
                                  rw [if_neg h7.1] at hrow2
                                  exact ⟨h7.2.1, hrow2.cong h7.2.2.1⟩
                              have hsp2 : PLm (v 9) (v 9) 0 = (pre ++ [L]) ++ post := by rw [hsp]; simp
                              refine r_istore_n (ls' := [(1, .int (bI (decide (¬ nxK (ordF L) (v 9 - 1) = 0)))), (0, .ref M), (2, .int (nI (lkL v (bxA v 0) L))), (3, .int (nI k))]) hc dX12_layOrders_164 (by decide) rfl ?_
                              refine r_goto (tgt := 38) hc dX12_layOrders_165 (by decide) ?_
                              refine r_locp [1, 0] (ls' := [(0, .ref M), (1, .int (bI (decide (¬ nxK (ordF L) (v 9 - 1) = 0))))]) rfl ?_
                              exact ih38 τ2 (pre ++ [L]) post (decide (¬ nxK (ordF L) (v 9 - 1) = 0)) hsp2 hm2 hch2 hAc3 hfr3 (by omega)
                          ·
                            refine r_aload_n hc dX12_layOrders_93 rfl ?_
                            refine gf_X12_29 (q := M + 7) hc (MS0 hM) (MSr hM 9 7 (by decide)) dX12_layOrders_94 ?_
                            refine r_iload_n hc dX12_layOrders_97 rfl ?_
                            refine r_aload_n hc dX12_layOrders_98 rfl ?_
                            refine gf_X12_26 (q := M + 6) hc (MS0 hM) (MSr hM 8 6 (by decide)) dX12_layOrders_99 ?_
                            refine r_iload_n hc dX12_layOrders_102 rfl ?_
                            refine r_iald (x := nI ((ordF L) k)) (j := k) hc (MSa hM 6 0 6 rfl) rfl (by omega) (by decide) (ho _ (by omega)) dX12_layOrders_103 ?_
                            refine r_iast (j := k) hc (MSa hM 7 0 6 rfl) rfl (by omega) (by decide) dX12_layOrders_104 ?_
                            generalize hσ27 : s2 τ (M + 7) k (nI ((ordF L) k)) = σ27
                            have hv : rowAt σ27 (M + 1) 170 v := by rw [← hσ27]; exact hv.keep (by omega) _ _
                            have h10 : σ27 M 10 = nI (sumL (okN v) pre) := by rw [← hσ27]; exact s2_keep h10 (by omega)
                            have h11 : σ27 M 11 = nI (orL (lsN v) pre) := by rw [← hσ27]; exact s2_keep h11 (by omega)
                            have h12 : σ27 M 12 = zI (lkI v (pre ++ [L])) := by rw [← hσ27]; exact s2_keep h12 (by omega)
                            have ho : rowAt σ27 (M + 6) 6 (ordF L) := by rw [← hσ27]; exact ho.keep (by omega) _ _
                            refine r_iinc (v := nI (k + 1)) (ls' := [(3, .int (nI (k + 1))), (0, .ref M), (2, .int (nI (lkL v (bxA v 0) L)))]) hc dX12_layOrders_105 rfl (ad_NN _ 1) (by decide) rfl ?_
                            refine r_goto (tgt := 80) hc dX12_layOrders_108 (by decide) ?_
                            refine r_locp [1, 2, 0] (ls' := [(0, .ref M), (2, .int (nI (lkL v (bxA v 0) L))), (3, .int (nI (k + 1)))]) rfl ?_
                            exact ih80 σ27 (k + 1) (by omega) (by rw [← hσ27]; exact hcp.ext1 _ rfl) h10 h11 h12 ho hv (fun q => absurd c_90 q) (fun q => absurd c_90 q) ⟨fun q q1 q2 q3 => by rw [← hσ27, s2_ne q3]; exact hfr.1 q q1 q2 q3, fun k hk => by rw [← hσ27, s2_na (by omega)]; exact hfr.2 k hk⟩ (by omega)
                    refine r_locp [2, 1, 0] (ls' := [(0, .ref M), (2, .int (nI (lkL v (bxA v 0) L))), (3, .int (nI 0))]) rfl ?_
                    exact loop80 _ σ20 0 (by omega) rowAt.zero h10 h11 h12 ho hv (fun _ => rfl) (fun _ F hF => (hfi F hF).sig (by rw [← hσ20, s2_ne (by omega)])) ⟨fun q q1 q2 q3 => by rw [← hσ20, s2_ne q1]; exact hfr.1 q q1 q2 q3, fun k hk => by rw [← hσ20, s2_nk (by omega)]; exact hfr.2 k hk⟩ (Nat.lt_succ_self _)
        refine r_locp [1, 0] (ls' := [(0, .ref M), (1, .int (bI true))]) rfl ?_
        exact loop38 _ σ3 ([]) (PLm (v 9) (v 9) 0) true rfl (iff_of_true rfl hne) (Or.inr ⟨hck.1, by have h7 : rowAt σ3 (M + 6) 6 (fun j => j) := (ho.sub (by omega)).sig (by rw [← hσ3, s2_ne (by omega), ← hσ2, s2_ne (by omega), ← hσ1, s2_ne (by omega)]); exact h7.cong (fun j hj => (hhd j hj).symm)⟩) ⟨by rw [← hσ3, s2_nk (by decide), ← hσ2, s2_nk (by decide), ← hσ1]; exact s2_same _ _ _ _, by rw [← hσ3, s2_nk (by decide), ← hσ2]; exact s2_same _ _ _ _, by rw [← hσ3]; exact s2_same _ _ _ _, fun F hF => by cases hF⟩ ⟨fun q q1 q2 q3 => by rw [← hσ3, s2_ne q1, ← hσ2, s2_ne q1, ← hσ1, s2_ne q1]; exact hfr q q2, fun k hk => by rw [← hσ3, s2_nk (by omega), ← hσ2, s2_nk (by omega), ← hσ1, s2_nk (by omega)]; exact congrFun (hfr M (by omega)) k⟩ (Nat.lt_succ_self _)
      ·
        refine r_aload_n hc dX12_layOrders_8 rfl ?_
        refine gf_X12_26 (q := M + 6) hc (MS0 hM) (MSr hM 8 6 (by decide)) dX12_layOrders_9 ?_
        refine r_iload_n hc dX12_layOrders_12 rfl ?_
        refine r_iload_n hc dX12_layOrders_13 rfl ?_
        refine r_iast (j := k) hc (MSa hM 6 0 6 rfl) rfl (by omega) (by decide) dX12_layOrders_14 ?_
        generalize hσ28 : s2 τ (M + 6) k (nI k) = σ28
        refine r_iinc (v := nI (k + 1)) (ls' := [(1, .int (nI (k + 1))), (0, .ref M)]) hc dX12_layOrders_15 rfl (ad_NN _ 1) (by decide) rfl ?_
        refine r_goto (tgt := 2) hc dX12_layOrders_18 (by decide) ?_
        refine r_locp [1, 0] (ls' := [(0, .ref M), (1, .int (nI (k + 1)))]) rfl ?_
        exact ih2 σ28 (k + 1) (by omega) (by rw [← hσ28]; exact ho.ext1 _ rfl) (fun q hq => by rw [← hσ28, s2_ne hq]; exact hfr q hq) (by omega)
  refine r_locp [1, 0] (ls' := [(0, .ref M), (1, .int (nI 0))]) rfl ?_
  exact loop2 _ σ 0 (by omega) rowAt.zero (fun _ _ => rfl) (Nat.lt_succ_self _)
set_option maxRecDepth 100000 in
set_option maxHeartbeats 4000000 in
theorem c_X12_planOrders {Ω : OmT} {z : Nat} {sh : Nat → Option Kd} {σ : Nat → Nat → Int32} {ρ : Nat → Nat → Option Nat} {M : Nat} {v : Nat → Nat} (hM : MSh sh ρ M) (hv : rowAt σ (M + 1) 170 v) (hok : okR v) (hbx : v 7 ≤ 1000000000)  : CtI Ω yX12_planOrders cX12_planOrders 1 .int rm_X12_planOrders [.ref M] (z, sh, σ, ρ) (fun r u => ∃ τ : Nat → Nat → Int32, u = (z, sh, τ, ρ) ∧ r = nI (oC v (v 9) 0) ∧ (∀ q, q ≠ M → q ≠ M + 6 → q ≠ M + 7 → τ q = σ q) ∧ ∀ k, (k < 10 ∨ 12 < k) → τ M k = σ M k) := by
  have hok1 := hok
  obtain ⟨⟨h01, h02⟩, hl1, ⟨h21, h22⟩, h3, h4, h5, h9, hdo, hke, hpn, hpd, htc⟩ := hok1
  have hdr : ∀ d, d < v 4 → v (20 + 6 * d + 2) < 10000 ∧ v (20 + 6 * d + 3) < 10000 := fun d hd => ⟨(hdo d hd).2.2.1, (hdo d hd).2.2.2⟩
  have hcu : ∀ k, k < v 5 → v (80 + 4 * k) < 10000 := fun k hk => (hke k hk).1
  have hwh : ∀ k, k < v 5 → v (80 + 4 * k + 2) ≤ 9 := fun k hk => (hke k hk).2.2
  have hky : ∀ k, k < v 5 → v (80 + 4 * k) < 10000 ∧ v (80 + 4 * k + 2) ≤ 9 ∧ 40 ≤ v (80 + 4 * k + 1) ∧ v (80 + 4 * k + 1) ≤ 90 := fun k hk => ⟨(hke k hk).1, (hke k hk).2.2, (hke k hk).2.1⟩
  have hpl : ∀ p, p < v 9 → v (150 + 3 * p) < 10 := fun p hp => by have := (hpn p hp).1; omega
  refine CtI.enter (by decide) (Nat.le_of_ble_eq_true rfl) (fun Φ hc hR => ?_)
  show Vw Ω Φ (z, sh, σ, ρ) (0, 0) 0 [(0, .ref M)] []
  refine r_aload_n hc dX12_planOrders_0 rfl ?_
  refine cl_X12_142 (As := []) hc (c_X12_layOrders hM hv hok hbx) (MS0 hM) rfl ⟨by decide, by decide⟩ ⟨rfl, rfl⟩ ⟨by decide, by decide⟩ rfl (Nat.le_of_ble_eq_true rfl) dX12_planOrders_1 (fun u hp => ?_)
  obtain ⟨τ, hu, ⟨h10, h11, h12, hfo⟩, hfr⟩ := hp
  rw [hu]
  have hv : rowAt τ (M + 1) 170 v := hv.sig (hfr.1 _ (by omega) (by omega) (by omega))
  refine r_aload_n hc dX12_planOrders_4 rfl ?_
  refine gf_X12_125 (x := nI (oC v (v 9) 0)) hc (MS0 hM) h10 dX12_planOrders_5 ?_
  exact hR _ _ ⟨τ, rfl, rfl, hfr⟩ rfl _ _ dX12_planOrders_8
set_option maxRecDepth 100000 in
set_option maxHeartbeats 4000000 in
theorem c_X12_brassForPlan {Ω : OmT} {z : Nat} {sh : Nat → Option Kd} {σ : Nat → Nat → Int32} {ρ : Nat → Nat → Option Nat} {M : Nat} {v : Nat → Nat} (hM : MSh sh ρ M) (hv : rowAt σ (M + 1) 170 v) (hok : okR v) (hbx : v 7 ≤ 1000000000)  : CtI Ω yX12_brassForPlan cX12_brassForPlan 1 .int rm_X12_brassForPlan [.ref M] (z, sh, σ, ρ) (fun r u => ∃ τ : Nat → Nat → Int32, u = (z, sh, τ, ρ) ∧ r = nI (mC v (v 9) 0) ∧ (∀ q, q ≠ M → q ≠ M + 6 → q ≠ M + 7 → τ q = σ q) ∧ ∀ k, (k < 10 ∨ 12 < k) → τ M k = σ M k) := by
  have hok1 := hok
  obtain ⟨⟨h01, h02⟩, hl1, ⟨h21, h22⟩, h3, h4, h5, h9, hdo, hke, hpn, hpd, htc⟩ := hok1
  have hdr : ∀ d, d < v 4 → v (20 + 6 * d + 2) < 10000 ∧ v (20 + 6 * d + 3) < 10000 := fun d hd => ⟨(hdo d hd).2.2.1, (hdo d hd).2.2.2⟩
  have hcu : ∀ k, k < v 5 → v (80 + 4 * k) < 10000 := fun k hk => (hke k hk).1
  have hwh : ∀ k, k < v 5 → v (80 + 4 * k + 2) ≤ 9 := fun k hk => (hke k hk).2.2
  have hky : ∀ k, k < v 5 → v (80 + 4 * k) < 10000 ∧ v (80 + 4 * k + 2) ≤ 9 ∧ 40 ≤ v (80 + 4 * k + 1) ∧ v (80 + 4 * k + 1) ≤ 90 := fun k hk => ⟨(hke k hk).1, (hke k hk).2.2, (hke k hk).2.1⟩
  have hpl : ∀ p, p < v 9 → v (150 + 3 * p) < 10 := fun p hp => by have := (hpn p hp).1; omega
  refine CtI.enter (by decide) (Nat.le_of_ble_eq_true rfl) (fun Φ hc hR => ?_)
  show Vw Ω Φ (z, sh, σ, ρ) (0, 0) 0 [(0, .ref M)] []
  refine r_aload_n hc dX12_brassForPlan_0 rfl ?_
  refine cl_X12_142 (As := []) hc (c_X12_layOrders hM hv hok hbx) (MS0 hM) rfl ⟨by decide, by decide⟩ ⟨rfl, rfl⟩ ⟨by decide, by decide⟩ rfl (Nat.le_of_ble_eq_true rfl) dX12_brassForPlan_1 (fun u hp => ?_)
  obtain ⟨τ, hu, ⟨h10, h11, h12, hfo⟩, hfr⟩ := hp
  rw [hu]
  have hv : rowAt τ (M + 1) 170 v := hv.sig (hfr.1 _ (by omega) (by omega) (by omega))
  refine r_aload_n hc dX12_brassForPlan_4 rfl ?_
  refine gf_X12_131 (x := nI (mC v (v 9) 0)) hc (MS0 hM) h12 dX12_brassForPlan_5 ?_
  exact hR _ _ ⟨τ, rfl, rfl, hfr⟩ rfl _ _ dX12_brassForPlan_8
set_option maxRecDepth 100000 in
set_option maxHeartbeats 4000000 in
theorem c_X12_mustBeLast {Ω : OmT} {z : Nat} {sh : Nat → Option Kd} {σ : Nat → Nat → Int32} {ρ : Nat → Nat → Option Nat} {M : Nat} {v : Nat → Nat} (hM : MSh sh ρ M) (hv : rowAt σ (M + 1) 170 v) (hok : okR v) (hbx : v 7 ≤ 1000000000)  : CtI Ω yX12_mustBeLast cX12_mustBeLast 3 .int rm_X12_mustBeLast [.ref M] (z, sh, σ, ρ) (fun r u => ∃ τ : Nat → Nat → Int32, u = (z, sh, τ, ρ) ∧ r = zI (sLast v) ∧ (∀ q, q ≠ M → q ≠ M + 6 → q ≠ M + 7 → τ q = σ q) ∧ ∀ k, (k < 10 ∨ 12 < k) → τ M k = σ M k) := by
  have hok1 := hok
  obtain ⟨⟨h01, h02⟩, hl1, ⟨h21, h22⟩, h3, h4, h5, h9, hdo, hke, hpn, hpd, htc⟩ := hok1
  have hdr : ∀ d, d < v 4 → v (20 + 6 * d + 2) < 10000 ∧ v (20 + 6 * d + 3) < 10000 := fun d hd => ⟨(hdo d hd).2.2.1, (hdo d hd).2.2.2⟩
  have hcu : ∀ k, k < v 5 → v (80 + 4 * k) < 10000 := fun k hk => (hke k hk).1
  have hwh : ∀ k, k < v 5 → v (80 + 4 * k + 2) ≤ 9 := fun k hk => (hke k hk).2.2
  have hky : ∀ k, k < v 5 → v (80 + 4 * k) < 10000 ∧ v (80 + 4 * k + 2) ≤ 9 ∧ 40 ≤ v (80 + 4 * k + 1) ∧ v (80 + 4 * k + 1) ≤ 90 := fun k hk => ⟨(hke k hk).1, (hke k hk).2.2, (hke k hk).2.1⟩
  have hpl : ∀ p, p < v 9 → v (150 + 3 * p) < 10 := fun p hp => by have := (hpn p hp).1; omega
  have hll := lC_lt v (v 9) 0
  have h64 : 2 ^ v 9 ≤ 64 := (Nat.pow_le_pow_right (by decide) h9 : 2 ^ v 9 ≤ 2 ^ 6)
  refine CtI.enter (by decide) (Nat.le_of_ble_eq_true rfl) (fun Φ hc hR => ?_)
  show Vw Ω Φ (z, sh, σ, ρ) (0, 0) 0 [(0, .ref M)] []
  refine r_aload_n hc dX12_mustBeLast_0 rfl ?_
  refine cl_X12_142 (As := []) hc (c_X12_layOrders hM hv hok hbx) (MS0 hM) rfl ⟨by decide, by decide⟩ ⟨rfl, rfl⟩ ⟨by decide, by decide⟩ rfl (Nat.le_of_ble_eq_true rfl) dX12_mustBeLast_1 (fun u hp => ?_)
  obtain ⟨τ, hu, ⟨h10, h11, h12, hfo⟩, hfr⟩ := hp
  rw [hu]
  have hv : rowAt τ (M + 1) 170 v := hv.sig (hfr.1 _ (by omega) (by omega) (by omega))
  refine r_bipush (v := zI (-6)) hc dX12_mustBeLast_4 rfl ?_
  refine r_istore_n (ls' := [(1, .int (zI (-6))), (0, .ref M)]) hc dX12_mustBeLast_6 (by decide) rfl ?_
  refine r_iconst (v := nI 0) hc dX12_mustBeLast_7 rfl ?_
  refine r_istore_n (ls' := [(2, .int (nI 0)), (1, .int (zI (-6))), (0, .ref M)]) hc dX12_mustBeLast_8 (by decide) rfl ?_
  have loop9 : ∀ (n9 : Nat) (x : Int) (k : Nat), (k ≤ 6) → (x = lfL (lC v (v 9) 0) k) → (6 - k) < n9 → Vw Ω Φ (z, sh, τ, ρ) (0, 0) 9 [(0, .ref M), (1, .int (zI x)), (2, .int (nI k))] [] := by
    intro n9
    induction n9 with
    | zero => intro x k hk hf hm; exact absurd hm (Nat.not_lt_zero _)
    | succ n9 ih9 =>
      intro x k hk hf hm9
      refine r_iload_n hc dX12_mustBeLast_9 rfl ?_
      refine r_bipush (v := nI 6) hc dX12_mustBeLast_10 rfl ?_
      refine r_icmp_ge (tgt := 37) hc dX12_mustBeLast_12 (by decide) (le_NN (by omega) (by omega)) (fun c_12 => ?_) (fun c_12 => ?_)
      ·
        refine r_iload_n hc dX12_mustBeLast_37 rfl ?_
        exact hR _ _ ⟨τ, rfl, (by rw [hf, show k = 6 by omega, lfL_eq v h9]), hfr⟩ rfl _ _ dX12_mustBeLast_38
      ·
        have hpk : 2 ^ k < 2 ^ 6 := Nat.pow_lt_pow_right (by decide) (by omega)
        refine r_aload_n hc dX12_mustBeLast_15 rfl ?_
        refine gf_X12_128 (x := nI (lC v (v 9) 0)) hc (MS0 hM) h11 dX12_mustBeLast_16 ?_
        refine r_iconst (v := nI 1) hc dX12_mustBeLast_19 rfl ?_
        refine r_iload_n hc dX12_mustBeLast_20 rfl ?_
        refine r_ishl (v := nI (2 ^ k)) hc dX12_mustBeLast_21 (sl_1 _ (by omega)) ?_
        refine r_icmp_ne (tgt := 29) hc dX12_mustBeLast_22 (by decide) (eq_NN (by omega) (by omega)) (fun c_22 => ?_) (fun c_22 => ?_)
        ·
          refine r_iload_n hc dX12_mustBeLast_29 rfl ?_
          refine r_istore_n (ls' := [(1, .int (zI x)), (0, .ref M), (2, .int (nI k))]) hc dX12_mustBeLast_30 (by decide) rfl ?_
          refine r_iinc (v := nI (k + 1)) (ls' := [(2, .int (nI (k + 1))), (1, .int (zI x)), (0, .ref M)]) hc dX12_mustBeLast_31 rfl (ad_NN _ 1) (by decide) rfl ?_
          refine r_goto (tgt := 9) hc dX12_mustBeLast_34 (by decide) ?_
          refine r_locp [2, 1, 0] (ls' := [(0, .ref M), (1, .int (zI x)), (2, .int (nI (k + 1)))]) rfl ?_
          exact ih9 x (k + 1) (by omega) (by rw [lfL, if_neg c_22]; exact hf) (by omega)
        ·
          refine r_iload_n hc dX12_mustBeLast_25 rfl ?_
          refine r_goto (tgt := 30) hc dX12_mustBeLast_26 (by decide) ?_
          refine r_istore_n (ls' := [(1, .int (nI k)), (0, .ref M), (2, .int (nI k))]) hc dX12_mustBeLast_30 (by decide) rfl ?_
          refine r_iinc (v := nI (k + 1)) (ls' := [(2, .int (nI (k + 1))), (1, .int (nI k)), (0, .ref M)]) hc dX12_mustBeLast_31 rfl (ad_NN _ 1) (by decide) rfl ?_
          refine r_goto (tgt := 9) hc dX12_mustBeLast_34 (by decide) ?_
          rw [nz k]
          refine r_locp [2, 1, 0] (ls' := [(0, .ref M), (1, .int (zI (((k : Nat) : Int)))), (2, .int (nI (k + 1)))]) rfl ?_
          exact ih9 (((k : Nat) : Int)) (k + 1) (by omega) (by rw [lfL, if_pos c_22]) (by omega)
  refine r_locp [2, 1, 0] (ls' := [(0, .ref M), (1, .int (zI (-6))), (2, .int (nI 0))]) rfl ?_
  exact loop9 _ (-6) 0 (by omega) rfl (Nat.lt_succ_self _)
set_option maxRecDepth 100000 in
set_option maxHeartbeats 4000000 in
theorem c_X12_planOrder {Ω : OmT} {z : Nat} {sh : Nat → Option Kd} {σ : Nat → Nat → Int32} {ρ : Nat → Nat → Option Nat} {M : Nat} {v : Nat → Nat} (hM : MSh sh ρ M) (hv : rowAt σ (M + 1) 170 v) (hok : okR v) (hbx : v 7 ≤ 1000000000) {t : Int} (hx : -2147483648 ≤ t ∧ t < 2147483648) : CtI Ω yX12_planOrder cX12_planOrder 2 .int rm_X12_planOrder [.ref M, .int (zI t)] (z, sh, σ, ρ) (fun r u => ∃ τ : Nat → Nat → Int32, u = (z, sh, τ, ρ) ∧ r = zI (sPlanOrder v t) ∧ (∀ q, q ≠ M → q ≠ M + 6 → q ≠ M + 7 → τ q = σ q) ∧ ∀ k, (k < 10 ∨ 12 < k) → τ M k = σ M k) := by
  have hok1 := hok
  obtain ⟨⟨h01, h02⟩, hl1, ⟨h21, h22⟩, h3, h4, h5, h9, hdo, hke, hpn, hpd, htc⟩ := hok1
  have hdr : ∀ d, d < v 4 → v (20 + 6 * d + 2) < 10000 ∧ v (20 + 6 * d + 3) < 10000 := fun d hd => ⟨(hdo d hd).2.2.1, (hdo d hd).2.2.2⟩
  have hcu : ∀ k, k < v 5 → v (80 + 4 * k) < 10000 := fun k hk => (hke k hk).1
  have hwh : ∀ k, k < v 5 → v (80 + 4 * k + 2) ≤ 9 := fun k hk => (hke k hk).2.2
  have hky : ∀ k, k < v 5 → v (80 + 4 * k) < 10000 ∧ v (80 + 4 * k + 2) ≤ 9 ∧ 40 ≤ v (80 + 4 * k + 1) ∧ v (80 + 4 * k + 1) ≤ 90 := fun k hk => ⟨(hke k hk).1, (hke k hk).2.2, (hke k hk).2.1⟩
  have hpl : ∀ p, p < v 9 → v (150 + 3 * p) < 10 := fun p hp => by have := (hpn p hp).1; omega
  have hob : oC v (v 9) 0 ≤ 6 ^ v 9 := oC_le v h9 _ _
  have hoc : oC v (v 9) 0 ≤ 6 ^ 6 := Nat.le_trans hob (Nat.pow_le_pow_right (by decide) h9)
  refine CtI.enter (by decide) (Nat.le_of_ble_eq_true rfl) (fun Φ hc hR => ?_)
  show Vw Ω Φ (z, sh, σ, ρ) (0, 0) 0 [(0, .ref M), (1, .int (zI t))] []
  refine r_iload_n hc dX12_planOrder_0 rfl ?_
  refine r_iconst (v := nI 0) hc dX12_planOrder_1 rfl ?_
  refine r_iconst (v := nI 5) hc dX12_planOrder_2 rfl ?_
  refine cl_X12_41 (As := [.int (zI t), .int (nI 0), .int (nI 5)]) hc (by simp only [nz]; exact c_X12_in (by omega) (by omega) (by omega)) rfl ⟨by decide, by decide⟩ ⟨rfl, rfl⟩ ⟨by decide, by decide⟩ rfl (Nat.le_of_ble_eq_true rfl) dX12_planOrder_3 (fun r u hp => ?_)
  obtain ⟨rfl, hu⟩ := hp
  rw [hu]
  refine r_if_ne (tgt := 12) hc dX12_planOrder_6 (by decide) (bI_0 _) (fun c_6 => ?_) (fun c_6 => ?_)
  ·
    have c_6 := bnf c_6
    have c_6 := of_decide_eq_true c_6
    obtain ⟨X, rfl⟩ := Int.eq_ofNat_of_zero_le (show 0 ≤ t by omega)
    rw [← nz X]
    refine r_aload_n hc dX12_planOrder_12 rfl ?_
    refine cl_X12_142 (As := []) hc (c_X12_layOrders hM hv hok hbx) (MS0 hM) rfl ⟨by decide, by decide⟩ ⟨rfl, rfl⟩ ⟨by decide, by decide⟩ rfl (Nat.le_of_ble_eq_true rfl) dX12_planOrder_13 (fun u hp => ?_)
    obtain ⟨τ, hu, ⟨h10, h11, h12, hfo⟩, hfr⟩ := hp
    rw [hu]
    have hv : rowAt τ (M + 1) 170 v := hv.sig (hfr.1 _ (by omega) (by omega) (by omega))
    refine r_aload_n hc dX12_planOrder_16 rfl ?_
    refine gf_X12_125 (x := nI (oC v (v 9) 0)) hc (MS0 hM) h10 dX12_planOrder_17 ?_
    refine r_if_le (tgt := 43) hc dX12_planOrder_20 (by decide) (le0_N (by omega)) (fun c_20 => ?_) (fun c_20 => ?_)
    ·
      refine r_bipush (v := zI (-6)) hc dX12_planOrder_43 rfl ?_
      exact hR _ _ ⟨_, rfl, (by refine congrArg zI ?_; unfold sPlanOrder; rw [if_pos (by omega), if_neg (by omega)]), hfr⟩ rfl _ _ dX12_planOrder_45
    ·
      refine r_iload_n hc dX12_planOrder_23 rfl ?_
      refine r_aload_n hc dX12_planOrder_24 rfl ?_
      refine gf_X12_7 (q := M + 1) hc (MS0 hM) (MSr hM 0 1 (by decide)) dX12_planOrder_25 ?_
      refine r_bipush (v := nI 9) hc dX12_planOrder_28 rfl ?_
      refine r_iald (x := nI (v 9)) (j := 9) hc (MSa hM 1 0 170 rfl) rfl (by omega) (by decide) (hv _ (by omega)) dX12_planOrder_30 ?_
      refine r_icmp_ge (tgt := 43) hc dX12_planOrder_31 (by decide) (le_NN (by omega) (by omega)) (fun c_31 => ?_) (fun c_31 => ?_)
      ·
        refine r_bipush (v := zI (-6)) hc dX12_planOrder_43 rfl ?_
        exact hR _ _ ⟨_, rfl, (by refine congrArg zI ?_; unfold sPlanOrder; rw [if_pos (by omega), if_neg (by omega)]), hfr⟩ rfl _ _ dX12_planOrder_45
      ·
        have hfX := hfo (by omega) X (by omega)
        refine r_aload_n hc dX12_planOrder_34 rfl ?_
        refine gf_X12_29 (q := M + 7) hc (MS0 hM) (MSr hM 9 7 (by decide)) dX12_planOrder_35 ?_
        refine r_iload_n hc dX12_planOrder_38 rfl ?_
        refine r_iald (x := zI (lnF v (dnF v X))) (j := X) hc (MSa hM 7 0 6 rfl) rfl (by omega) (by decide) hfX dX12_planOrder_39 ?_
        refine r_goto (tgt := 45) hc dX12_planOrder_40 (by decide) ?_
        exact hR _ _ ⟨_, rfl, (by refine congrArg zI ?_; unfold sPlanOrder; rw [if_pos (by omega), Int.toNat_natCast, if_pos ⟨by omega, by omega⟩]), hfr⟩ rfl _ _ dX12_planOrder_45
  ·
    have c_6 := of_decide_eq_false c_6
    refine r_bipush (v := zI (-2)) hc dX12_planOrder_9 rfl ?_
    exact hR _ _ ⟨_, rfl, (by refine congrArg zI ?_; unfold sPlanOrder; rw [if_neg (by omega)]), ⟨fun _ _ _ _ => rfl, fun _ _ => rfl⟩⟩ rfl _ _ dX12_planOrder_11
