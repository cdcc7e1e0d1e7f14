/-! ===== the start; the script; both sides ===== -/
theorem pr_int {s : State} {args : Array Value} {ty : FieldType} (hno : ∀ C, ty ≠ .object C) (h : (Cond.arrayClass ty).before args s = true) : ∃ c : ClassId, ArrOfT s c ty ∧ va_RA s c ty := by
  obtain ⟨c, k, comp, h1, h2, h3⟩ := Cond.arrayClass_spec h
  refine ⟨c, fun n z => ⟨fun k h => (by cases h), k, h2, comp, h3⟩, ?_⟩
  cases ty with
  | object C => exact absurd rfl (hno C)
  | _ => exact h1
theorem pr_obj {s : State} {args : Array Value} {C : String} (h : (Cond.arrayOver (.object C)).before args s = true) : ∃ c : ClassId, ArrOfT s c (.object C) ∧ va_RA s c (.object C) := by
  obtain ⟨comp, c, k, h1, h2, h3, h4, h5⟩ := Cond.arrayOver_spec h
  exact ⟨c, fun n z => ⟨fun k h => (by cases h), k, h3, comp, h4⟩, k, comp, h3, h4, h1, h5⟩
set_option maxRecDepth 100000 in
set_option maxHeartbeats 4000000 in
theorem ks_start {s : State} {args : Array Value} (l : Launch) (hts : ∀ w ∈ lw_tbl, w.before args s = true) (hgv : (Jvm.Cond.and given_1 narrow_1).before args s = true) : ∃ Ω : OmT, Ω.1 = l ∧ Ω.2.2.2 = s.heap.size ∧ KS Ω s s.heap := by
  have htg : ∀ w ∈ lw_gd, w.before args s = true := fun w hw => hts w (List.mem_filter.mp hw).1
  have hs := flat_of_before _ hgv
  obtain ⟨c0, iS0, hKn0⟩ := u_known (C := RX0) (T := TX0) (N := 5) (n := 5) htg inGX0 (hts (.instantiable RX0 5) (List.mem_of_getElem? (i := 124) (by decide +kernel)))
  obtain ⟨c1, iS1, hKn1⟩ := u_known (C := RX1) (T := TX1) (N := 2) (n := 2) htg inGX1 (hts (.instantiable RX1 2) (List.mem_of_getElem? (i := 221) (by decide +kernel)))
  obtain ⟨c2, iS2, hKn2⟩ := u_known (C := RX2) (T := TX2) (N := 11) (n := 11) htg inGX2 (hts (.instantiable RX2 11) (List.mem_of_getElem? (i := 86) (by decide +kernel)))
  obtain ⟨c3, iS3, hKn3⟩ := u_known (C := RX3) (T := TX3) (N := 3) (n := 3) htg inGX3 (hts (.instantiable RX3 3) (List.mem_of_getElem? (i := 154) (by decide +kernel)))
  obtain ⟨c4, iS4, hKn4⟩ := u_known (C := RX4) (T := TX4) (N := 4) (n := 4) htg inGX4 (hts (.instantiable RX4 4) (List.mem_of_getElem? (i := 289) (by decide +kernel)))
  obtain ⟨c5, iS5, hKn5⟩ := u_known (C := RX5) (T := TX5) (N := 4) (n := 4) htg inGX5 (hts (.instantiable RX5 4) (List.mem_of_getElem? (i := 245) (by decide +kernel)))
  obtain ⟨c6, iS6, hKn6⟩ := u_known (C := RX6) (T := TX6) (N := 5) (n := 5) htg inGX6 (hts (.instantiable RX6 5) (List.mem_of_getElem? (i := 238) (by decide +kernel)))
  obtain ⟨c7, iS7, hKn7⟩ := u_known (C := RX7) (T := TX7) (N := 4) (n := 4) htg inGX7 (hts (.instantiable RX7 4) (List.mem_of_getElem? (i := 96) (by decide +kernel)))
  obtain ⟨c8, iS8, hKn8⟩ := u_known (C := RX8) (T := TX8) (N := 7) (n := 7) htg inGX8 (hts (.instantiable RX8 7) (List.mem_of_getElem? (i := 333) (by decide +kernel)))
  obtain ⟨c9, iS9, hKn9⟩ := u_known (C := RX10) (T := TX10) (N := 6) (n := 6) htg inGX10 (hts (.instantiable RX10 6) (List.mem_of_getElem? (i := 308) (by decide +kernel)))
  obtain ⟨c10, iS10, hKn10⟩ := u_known (C := RX11) (T := TX11) (N := 9) (n := 9) htg inGX11 (hts (.instantiable RX11 9) (List.mem_of_getElem? (i := 78) (by decide +kernel)))
  obtain ⟨c11, iS11, hKn11⟩ := u_known (C := RX12) (T := TX12) (N := 19) (n := 19) htg inGX12 (hts (.instantiable RX12 19) (List.mem_of_getElem? (i := 860) (by decide +kernel)))
  obtain ⟨dC, dI, hKc⟩ : ∃ (dC : Nat → ClassId) (dI : Nat → Nat → Nat), ∀ (k : Nat) (q : vw_C), vwCl[k]? = some q → u_Kn s q.1 q.2.1 q.2.2 (dC k) (dI k) := by
    refine ⟨fun k => if k = 0 then c0 else if k = 1 then c1 else if k = 2 then c2 else if k = 3 then c3 else if k = 4 then c4 else if k = 5 then c5 else if k = 6 then c6 else if k = 7 then c7 else if k = 8 then c8 else if k = 9 then c9 else if k = 10 then c10 else c11, fun k => if k = 0 then iS0 else if k = 1 then iS1 else if k = 2 then iS2 else if k = 3 then iS3 else if k = 4 then iS4 else if k = 5 then iS5 else if k = 6 then iS6 else if k = 7 then iS7 else if k = 8 then iS8 else if k = 9 then iS9 else if k = 10 then iS10 else iS11, ?_⟩
    intro k q hq
    match k, hq with
    | 0, hq => cases hq; exact hKn0
    | 1, hq => cases hq; exact hKn1
    | 2, hq => cases hq; exact hKn2
    | 3, hq => cases hq; exact hKn3
    | 4, hq => cases hq; exact hKn4
    | 5, hq => cases hq; exact hKn5
    | 6, hq => cases hq; exact hKn6
    | 7, hq => cases hq; exact hKn7
    | 8, hq => cases hq; exact hKn8
    | 9, hq => cases hq; exact hKn9
    | 10, hq => cases hq; exact hKn10
    | 11, hq => cases hq; exact hKn11
    | k + 12, hq => simp [vwCl] at hq
  obtain ⟨a0, hA0, hB0⟩ := pr_int (ty := .int) (fun C h => by cases h) (hts (.arrayClass .int) (List.mem_of_getElem? (i := 123) (by decide +kernel)))
  obtain ⟨a1, hA1, hB1⟩ := pr_int (ty := .boolean) (fun C h => by cases h) (hts (.arrayClass .boolean) (List.mem_of_getElem? (i := 267) (by decide +kernel)))
  obtain ⟨a2, hA2, hB2⟩ := pr_int (ty := .char) (fun C h => by cases h) (hts (.arrayClass .char) (List.mem_of_getElem? (i := 268) (by decide +kernel)))
  have hO3 : (Cond.arrayOver (.object RX0)).before args s = true := hts _ (List.mem_of_getElem? (i := 92) (by decide +kernel))
  obtain ⟨a3, hA3, hB3⟩ := pr_obj hO3
  have hO4 : (Cond.arrayOver (.object RX2)).before args s = true := hts _ (List.mem_of_getElem? (i := 227) (by decide +kernel))
  obtain ⟨a4, hA4, hB4⟩ := pr_obj hO4
  have hO5 : (Cond.arrayOver (.object RX3)).before args s = true := hts _ (List.mem_of_getElem? (i := 94) (by decide +kernel))
  obtain ⟨a5, hA5, hB5⟩ := pr_obj hO5
  have hO6 : (Cond.arrayOver (.object RX5)).before args s = true := hts _ (List.mem_of_getElem? (i := 244) (by decide +kernel))
  obtain ⟨a6, hA6, hB6⟩ := pr_obj hO6
  have hAb : ∀ a : Nat, a < s.heap.size → ¬ (fun q : Nat => s.heap.size ≤ q) a := fun a h => Nat.not_le.mpr h
  obtain ⟨t0, e0, hT0⟩ := va_Tof (args := args) (s := s) (tm := (Term.static "PinHouse$House" "LEAST" "[I")) (ty := .int) (N := 3) (f := lstA) (A := fun q : Nat => s.heap.size ≤ q) (by decide) (hs (Cond.arrayOf (Term.static "PinHouse$House" "LEAST" "[I") .int) (by decide +kernel)) (va_eqt (hs (Cond.eq (Term.length (Term.static "PinHouse$House" "LEAST" "[I")) (.int 3)) (by decide +kernel))) (fun j hj => by
    rcases (show j = 0 ∨ j = 1 ∨ j = 2 by omega) with rfl | rfl | rfl
    · exact va_eqt (hs (Cond.eq (Term.elem (Term.static "PinHouse$House" "LEAST" "[I") (.int 0)) (.int 1)) (by decide +kernel))
    · exact va_eqt (hs (Cond.eq (Term.elem (Term.static "PinHouse$House" "LEAST" "[I") (.int 1)) (.int 0)) (by decide +kernel))
    · exact va_eqt (hs (Cond.eq (Term.elem (Term.static "PinHouse$House" "LEAST" "[I") (.int 2)) (.int 40)) (by decide +kernel))) hAb
  obtain ⟨t1, e1, hT1⟩ := va_Tof (args := args) (s := s) (tm := (Term.static "PinHouse$House" "MOST" "[I")) (ty := .int) (N := 3) (f := mstA) (A := fun q : Nat => s.heap.size ≤ q) (by decide) (hs (Cond.arrayOf (Term.static "PinHouse$House" "MOST" "[I") .int) (by decide +kernel)) (va_eqt (hs (Cond.eq (Term.length (Term.static "PinHouse$House" "MOST" "[I")) (.int 3)) (by decide +kernel))) (fun j hj => by
    rcases (show j = 0 ∨ j = 1 ∨ j = 2 by omega) with rfl | rfl | rfl
    · exact va_eqt (hs (Cond.eq (Term.elem (Term.static "PinHouse$House" "MOST" "[I") (.int 0)) (.int 9)) (by decide +kernel))
    · exact va_eqt (hs (Cond.eq (Term.elem (Term.static "PinHouse$House" "MOST" "[I") (.int 1)) (.int 50)) (by decide +kernel))
    · exact va_eqt (hs (Cond.eq (Term.elem (Term.static "PinHouse$House" "MOST" "[I") (.int 2)) (.int 90)) (by decide +kernel))) hAb
  refine ⟨(l, (dC, dI), fun t => if t = 0 then a0 else if t = 1 then a1 else if t = 2 then a2 else if t = 3 then a3 else if t = 4 then a4 else if t = 5 then a5 else a6, s.heap.size), rfl, rfl, ⟨⟨hKc, fun k q hk => ?_⟩, va_AO.of hO3, va_AO.of hO4, va_AO.of hO5, va_AO.of hO6⟩, t0, t1, va_Zref (hts _ (List.mem_of_getElem? (i := 413) (by decide +kernel))) (hts _ (List.mem_of_getElem? (i := 64) (by decide +kernel))) e0 hAb, hT0, va_Zref (hts _ (List.mem_of_getElem? (i := 415) (by decide +kernel))) (hts _ (List.mem_of_getElem? (i := 64) (by decide +kernel))) e1 hAb, hT1⟩
  match k, hk with
  | 0, hk => cases hk; exact ⟨hA0, hB0⟩
  | 1, hk => cases hk; exact ⟨hA1, hB1⟩
  | 2, hk => cases hk; exact ⟨hA2, hB2⟩
  | 3, hk => cases hk; exact ⟨hA3, hB3⟩
  | 4, hk => cases hk; exact ⟨hA4, hB4⟩
  | 5, hk => cases hk; exact ⟨hA5, hB5⟩
  | 6, hk => cases hk; exact ⟨hA6, hB6⟩
  | k + 7, hk => simp [tysL] at hk
section LAWROWS
variable {Ω : OmT} {Φ : PhT} {cc : ByteArray} {own : String} {rm : Room} {N : Nat} {n : Nat × Nat} {pc : Nat} {ls : List (Nat × Value)} {st : List Value} {S : StT} {b L : Nat} {xs : Nat → Int32}
theorem r_slen (hc : CXp Ω Φ cc own rm N) (hX : va_X b L xs Φ.2.2.2.1 Φ.2.2.2.1.heap) (hb : b < Ω.2.2.2) (hdg : decode cc pc = .ok (.arraylength, 1)) (kk : Vw Ω Φ S n (pc + 1) ls (.int (nI L) :: st)) : Vw Ω Φ S n pc ls (.ref b :: st) := by
  obtain ⟨p, e, R, s, m, args, below, meth, c, Q, nL⟩ := Φ
  intro H locs la hw hS hh
  obtain ⟨g1, g2, g3, g4, g5, g6, g7, g8, g9⟩ := hc
  exact va_slen g1 g2 hX (Nat.lt_of_lt_of_le hb g9) (Nat.not_le.mpr hb) hS hdg (kk H locs la hw hS hh)
theorem r_sld (hc : CXp Ω Φ cc own rm N) (hX : va_X b L xs Φ.2.2.2.1 Φ.2.2.2.1.heap) (hb : b < Ω.2.2.2) (hL : L ≤ 2560) {i x : Int32} {j : Nat} (hi : i = nI j) (hj : j < L) (hx : xs j = x) (hdg : decode cc pc = .ok (.iaload, 1)) (kk : Vw Ω Φ S n (pc + 1) ls (.int x :: st)) : Vw Ω Φ S n pc ls (.int i :: .ref b :: st) := by
  obtain ⟨p, e, R, s, m, args, below, meth, c, Q, nL⟩ := Φ
  intro H locs la hw hS hh
  obtain ⟨g1, g2, g3, g4, g5, g6, g7, g8, g9⟩ := hc
  subst hi; subst hx
  refine va_sld g1 g2 hX (Nat.lt_of_lt_of_le hb g9) (Nat.not_le.mpr hb) hS (vp_in_nI hj (by omega)) hdg ?_
  rw [nI_clamp (by omega)]
  exact kk H locs la hw hS hh
end LAWROWS
theorem nIx_of (x : Int32) : x = nI x.toUInt32.toNat := by
  apply Int32.toBitVec_inj.1
  show x.toBitVec = BitVec.ofNat 32 x.toBitVec.toNat
  simp
theorem and31 (x : Int32) : ∃ c : Nat, c < 32 ∧ x &&& nI 31 = nI c := by
  refine ⟨x.toUInt32.toNat &&& 31, Nat.lt_of_le_of_lt Nat.and_le_right (by decide), ?_⟩
  have h := an_NN x.toUInt32.toNat 31
  rw [← nIx_of x] at h
  exact h
theorem zI_ex (x : Int32) : ∃ z : Int, x = zI z ∧ (-2147483648 ≤ z ∧ z < 2147483648) := ⟨x.toInt, zI_of x, nu_rng x⟩
theorem lI_ex (y : Int64) : ∃ n : Nat, y = lI n ∧ n < 2 ^ 64 := ⟨y.toUInt64.toNat, lI_of y, y.toUInt64.toNat_lt⟩
/-- the model's object holds the same -/
def MSt (sh : Nat → Option Kd) (σ : Nat → Nat → Int32) (ρ : Nat → Nat → Option Nat) (M : Nat) (v : Nat → Nat) (nu : Nat) (hf : Nat → Nat) (fl : Nat → Bool) (sv p : Nat → Nat) (ln : Nat) : Prop :=
  MSh sh ρ M ∧ rowAt σ (M + 1) 170 v ∧ HstP σ M (nu, hf) ∧ σ M 7 = bI false ∧ rowAt σ (M + 3) 340 sv ∧ (∀ i, i < 2 → σ (M + 4) i = bI (fl i)) ∧ σ M 6 = nI ln ∧ rowAt σ (M + 5) ln p
theorem MSt.sg {sh : Nat → Option Kd} {σ τ : Nat → Nat → Int32} {ρ ρ2 : Nat → Nat → Option Nat} {M : Nat} {v : Nat → Nat} {nu : Nat} {hf : Nat → Nat} {fl : Nat → Bool} {sv p : Nat → Nat} {ln : Nat} (H : MSt sh σ ρ M v nu hf fl sv p ln) (h : ∀ q, M + 1 ≤ q → q ≤ M + 5 → τ q = σ q) (hk : ∀ k, k < 8 → τ M k = σ M k) (hr : ρ2 M = ρ M) : MSt sh τ ρ2 M v nu hf fl sv p ln := by
  obtain ⟨⟨a1, a2⟩, a3, ⟨a4, a5⟩, a6, a7, a8, a9, a10⟩ := H
  exact ⟨⟨a1, fun q hq => by rw [hr]; exact a2 q hq⟩, a3.sig (h _ (by omega) (by omega)), ⟨by rw [hk 2 (by omega)]; exact a4, a5.sig (h _ (by omega) (by omega))⟩, by rw [hk 7 (by omega)]; exact a6, a7.sig (h _ (by omega) (by omega)), fun i hi => by rw [h _ (by omega) (by omega)]; exact a8 i hi, by rw [hk 6 (by omega)]; exact a9, a10.sig (h _ (by omega) (by omega))⟩
/-- the brass in every state that can come back is small -/
def Bnd (B : Nat) (v : Nat → Nat) (nu : Nat) (hf : Nat → Nat) (fl : Nat → Bool) (sv : Nat → Nat) : Prop := v 7 ≤ B ∧ (∀ i, i < nu → rwF i hf 7 ≤ B) ∧ ∀ d, d < 2 → fl d = true → rwF d sv 7 ≤ B
theorem Bnd.mono {B C : Nat} {v : Nat → Nat} {nu : Nat} {hf : Nat → Nat} {fl : Nat → Bool} {sv : Nat → Nat} (H : Bnd B v nu hf fl sv) (h : B ≤ C) : Bnd C v nu hf fl sv := ⟨Nat.le_trans H.1 h, fun i hi => Nat.le_trans (H.2.1 i hi) h, fun d hd hx => Nat.le_trans (H.2.2 d hd hx) h⟩
theorem Bnd.chg {B : Nat} {v w : Nat → Nat} {nu : Nat} {hf : Nat → Nat} {fl : Nat → Bool} {sv : Nat → Nat} (H : Bnd B v nu hf fl sv) (x : Int) (hw : w 7 ≤ B + 27000) (hnu : nu ≤ 6) : Bnd (B + 27000) w (mH false x nu hf v).1 (mH false x nu hf v).2 fl sv := by
  obtain ⟨h1, h2, h3⟩ := H
  refine ⟨hw, fun i hi => ?_, fun d hd hx => Nat.le_trans (h3 d hd hx) (by omega)⟩
  refine Nat.le_trans ?_ (Nat.le_add_right B 27000)
  unfold mH at hi ⊢
  by_cases e : false = false ∧ 0 ≤ x
  · rw [if_pos e] at hi ⊢
    have hi : i < recC nu + 1 := hi
    show rwF i (recH nu hf v) 7 ≤ B
    unfold rwF recH
    by_cases e1 : i * 170 + 7 < recC nu * 170
    · rw [if_pos e1]
      unfold recB
      by_cases en : nu = 6
      · rw [if_pos en]
        have h5 : recC nu = 5 := if_pos en
        have := h2 (i + 1) (by omega)
        unfold rwF at this
        show hf (i * 170 + 7 + 170) ≤ B
        rw [show i * 170 + 7 + 170 = (i + 1) * 170 + 7 by omega]; exact this
      · rw [if_neg en]
        have h5 : recC nu = nu := if_neg en
        exact h2 i (by omega)
    · rw [if_neg e1]
      have : i = recC nu := by omega
      rw [this, Nat.add_sub_cancel_left]; exact h1
  · rw [if_neg e] at hi ⊢
    exact h2 i hi
def Rel (B : Nat) (sh : Nat → Option Kd) (σ : Nat → Nat → Int32) (ρ : Nat → Nat → Option Nat) (P M : Nat) (v : Nat → Nat) (nu : Nat) (hf : Nat → Nat) (fl : Nat → Bool) (sv p : Nat → Nat) (ln : Nat) : Prop :=
  (∃ (b : Nat) (s : Nat → Nat), CSt sh σ ρ P b s v nu hf fl sv p ln) ∧ MSt sh σ ρ M v nu hf fl sv p ln ∧ Bnd B v nu hf fl sv
theorem CSt.nu {sh : Nat → Option Kd} {σ : Nat → Nat → Int32} {ρ : Nat → Nat → Option Nat} {P b : Nat} {s : Nat → Nat} {v : Nat → Nat} {nu : Nat} {hf : Nat → Nat} {fl : Nat → Bool} {sv p : Nat → Nat} {ln : Nat} (H : CSt sh σ ρ P b s v nu hf fl sv p ln) : nu ≤ 6 := H.2.2.2.1.1
theorem CSt.ok {sh : Nat → Option Kd} {σ : Nat → Nat → Int32} {ρ : Nat → Nat → Option Nat} {P b : Nat} {s : Nat → Nat} {v : Nat → Nat} {nu : Nat} {hf : Nat → Nat} {fl : Nat → Bool} {sv p : Nat → Nat} {ln : Nat} (H : CSt sh σ ρ P b s v nu hf fl sv p ln) : okR v := H.2.2.1.2
theorem CSt.ln {sh : Nat → Option Kd} {σ : Nat → Nat → Int32} {ρ : Nat → Nat → Option Nat} {P b : Nat} {s : Nat → Nat} {v : Nat → Nat} {nu : Nat} {hf : Nat → Nat} {fl : Nat → Bool} {sv p : Nat → Nat} {ln : Nat} (H : CSt sh σ ρ P b s v nu hf fl sv p ln) : ln ≤ 80 ∧ ∀ j, j < ln → p j < 256 := H.2.2.2.2.2.2.2
/-- a change on both sides -/
theorem Rel.chg {B : Nat} {sh : Nat → Option Kd} {σ2 τ : Nat → Nat → Int32} {ρ2 : Nat → Nat → Option Nat} {P M b2 : Nat} {s2 : Nat → Nat} {v : Nat → Nat} {nu : Nat} {hf : Nat → Nat} {fl : Nat → Bool} {sv p : Nat → Nat} {ln : Nat} {X : Int × (Nat → Nat)} (hPM : P + 391 ≤ M) (hnu : nu ≤ 6) (hC : CSt sh σ2 ρ2 P b2 s2 X.2 (mH false X.1 nu hf v).1 (mH false X.1 nu hf v).2 fl sv p ln) (hM : MSt sh σ2 ρ2 M v nu hf fl sv p ln) (hB : Bnd B v nu hf fl sv) (hX : X.2 7 ≤ v 7 + 27000)
    (m1 : rowAt τ (M + 1) 170 X.2) (m2 : HstP τ M (mH false X.1 nu hf v)) (m3 : ∀ q, (q < M ∨ (M + 3 ≤ q ∧ q ≤ M + 5)) → τ q = σ2 q) (m4 : ∀ k, k < 8 → k ≠ 2 → τ M k = σ2 M k) : Rel (B + 27000) sh τ ρ2 P M X.2 (mH false X.1 nu hf v).1 (mH false X.1 nu hf v).2 fl sv p ln := by
  obtain ⟨a1, a3, a4, a6, a7, a8, a9, a10⟩ := hM
  exact ⟨⟨b2, s2, hC.sig (fun q q1 q2 q3 => m3 q (by omega))⟩, ⟨a1, m1, m2, by rw [m4 7 (by omega) (by omega)]; exact a6, a7.sig (m3 _ (by omega)), fun i hi => by rw [m3 _ (by omega)]; exact a8 i hi, by rw [m4 6 (by omega) (by omega)]; exact a9, a10.sig (m3 _ (by omega))⟩, hB.chg X.1 (Nat.le_trans hX (by have := hB.1; omega)) hnu⟩
/-- nothing that either side keeps has changed -/
theorem Rel.same {B : Nat} {sh : Nat → Option Kd} {σ τ τ2 : Nat → Nat → Int32} {ρ : Nat → Nat → Option Nat} {P M : Nat} {v : Nat → Nat} {nu : Nat} {hf : Nat → Nat} {fl : Nat → Bool} {sv p : Nat → Nat} {ln : Nat} (hPM : P + 391 ≤ M) (H : Rel B sh σ ρ P M v nu hf fl sv p ln) (h1 : ∀ q, (q < P + 307 ∨ P + 323 ≤ q) → τ q = σ q) (h2 : ∀ q, (q < M ∨ (M + 1 ≤ q ∧ q ≤ M + 5)) → τ2 q = τ q) (h3 : ∀ k, k < 8 → τ2 M k = τ M k) : Rel (B + 27000) sh τ2 ρ P M v nu hf fl sv p ln := by
  obtain ⟨⟨b, s, hC⟩, hM, hB⟩ := H
  exact ⟨⟨b, s, hC.sig (fun q q1 q2 q3 => (h2 q (by omega)).trans (h1 q (by omega)))⟩, hM.sg (fun q q1 q2 => (h2 q (by omega)).trans (h1 q (by omega))) (fun k hk => (h3 k hk).trans (congrFun (h1 M (by omega)) k)) rfl, hB.mono (by omega)⟩
