/-! ===== as in whole: law1 ===== -/
theorem pr_int {s : State} {args : Array Value} {ty : FieldType} (hno : ∀ C, ty ≠ .object C) (h : (Cond.arrayClass ty).before args s = true) : ∃ c : ClassId, ArrOfT s c ty ∧ va_RA s c ty := by
  obtain ⟨c, k, comp, h1, h2, h3⟩ := Cond.arrayClass_spec h
  refine ⟨c, fun n z => ⟨fun k h => (by cases h), k, h2, comp, h3⟩, ?_⟩
  cases ty with
  | object C => exact absurd rfl (hno C)
  | _ => exact h1
theorem pr_obj {s : State} {args : Array Value} {C : String} (h : (Cond.arrayOver (.object C)).before args s = true) : ∃ c : ClassId, ArrOfT s c (.object C) ∧ va_RA s c (.object C) := by
  obtain ⟨comp, c, k, h1, h2, h3, h4, h5⟩ := Cond.arrayOver_spec h
  exact ⟨c, fun n z => ⟨fun k h => (by cases h), k, h3, comp, h4⟩, k, comp, h3, h4, h1, h5⟩
set_option maxRecDepth 100000 in
set_option maxHeartbeats 4000000 in
theorem ks_start {s : State} {args : Array Value} (l : Launch) (hts : ∀ w ∈ lw_tbl, w.before args s = true) (hgv : (Jvm.Cond.and given_1 narrow_1).before args s = true) {b L : Nat} {xs : Nat → Int32} (hX : va_X b L xs s s.heap) (hb : b < s.heap.size) (hL : L ≤ 260) : ∃ Ω : OmT, Ω.1 = l ∧ Ω.2.2.2 = s.heap.size ∧ scB Ω = b ∧ KS Ω s s.heap := by
  have htg : ∀ w ∈ lw_gd, w.before args s = true := fun w hw => hts w (List.mem_filter.mp hw).1
  have hs := flat_of_before _ hgv
  obtain ⟨c0, iS0, hKn0⟩ := u_known (C := RX0) (T := TX0) (N := 5) (n := 5) htg inGX0 (hts (.instantiable RX0 5) (List.mem_of_getElem? (i := 75) (by decide +kernel)))
  obtain ⟨c1, iS1, hKn1⟩ := u_known (C := RX1) (T := TX1) (N := 2) (n := 2) htg inGX1 (hts (.instantiable RX1 2) (List.mem_of_getElem? (i := 166) (by decide +kernel)))
  obtain ⟨c2, iS2, hKn2⟩ := u_known (C := RX2) (T := TX2) (N := 11) (n := 11) htg inGX2 (hts (.instantiable RX2 11) (List.mem_of_getElem? (i := 37) (by decide +kernel)))
  obtain ⟨c3, iS3, hKn3⟩ := u_known (C := RX3) (T := TX3) (N := 3) (n := 3) htg inGX3 (hts (.instantiable RX3 3) (List.mem_of_getElem? (i := 103) (by decide +kernel)))
  obtain ⟨c4, iS4, hKn4⟩ := u_known (C := RX4) (T := TX4) (N := 4) (n := 4) htg inGX4 (hts (.instantiable RX4 4) (List.mem_of_getElem? (i := 221) (by decide +kernel)))
  obtain ⟨c5, iS5, hKn5⟩ := u_known (C := RX5) (T := TX5) (N := 4) (n := 4) htg inGX5 (hts (.instantiable RX5 4) (List.mem_of_getElem? (i := 190) (by decide +kernel)))
  obtain ⟨c6, iS6, hKn6⟩ := u_known (C := RX6) (T := TX6) (N := 5) (n := 5) htg inGX6 (hts (.instantiable RX6 5) (List.mem_of_getElem? (i := 183) (by decide +kernel)))
  obtain ⟨c7, iS7, hKn7⟩ := u_known (C := RX7) (T := TX7) (N := 4) (n := 4) htg inGX7 (hts (.instantiable RX7 4) (List.mem_of_getElem? (i := 47) (by decide +kernel)))
  obtain ⟨c8, iS8, hKn8⟩ := u_known (C := RX8) (T := TX8) (N := 7) (n := 7) htg inGX8 (hts (.instantiable RX8 7) (List.mem_of_getElem? (i := 264) (by decide +kernel)))
  obtain ⟨c9, iS9, hKn9⟩ := u_known (C := RX10) (T := TX10) (N := 6) (n := 6) htg inGX10 (hts (.instantiable RX10 6) (List.mem_of_getElem? (i := 239) (by decide +kernel)))
  obtain ⟨c10, iS10, hKn10⟩ := u_known (C := RX11) (T := TX11) (N := 9) (n := 9) htg inGX11 (hts (.instantiable RX11 9) (List.mem_of_getElem? (i := 29) (by decide +kernel)))
  obtain ⟨dC, dI, ⟨hd0, hd1⟩, hKc⟩ : ∃ (dC : Nat → ClassId) (dI : Nat → Nat → Nat), (dI 100 0 = b ∧ dI 100 1 = L) ∧ ∀ (k : Nat) (q : vw_C), vwCl[k]? = some q → u_Kn s q.1 q.2.1 q.2.2 (dC k) (dI k) := by
    refine ⟨fun k => if k = 0 then c0 else if k = 1 then c1 else if k = 2 then c2 else if k = 3 then c3 else if k = 4 then c4 else if k = 5 then c5 else if k = 6 then c6 else if k = 7 then c7 else if k = 8 then c8 else if k = 9 then c9 else c10, fun k => if k = 100 then (fun j => if j = 0 then b else L) else if k = 0 then iS0 else if k = 1 then iS1 else if k = 2 then iS2 else if k = 3 then iS3 else if k = 4 then iS4 else if k = 5 then iS5 else if k = 6 then iS6 else if k = 7 then iS7 else if k = 8 then iS8 else if k = 9 then iS9 else iS10, ⟨rfl, rfl⟩, ?_⟩
    intro k q hq
    match k, hq with
    | 0, hq => cases hq; exact hKn0
    | 1, hq => cases hq; exact hKn1
    | 2, hq => cases hq; exact hKn2
    | 3, hq => cases hq; exact hKn3
    | 4, hq => cases hq; exact hKn4
    | 5, hq => cases hq; exact hKn5
    | 6, hq => cases hq; exact hKn6
    | 7, hq => cases hq; exact hKn7
    | 8, hq => cases hq; exact hKn8
    | 9, hq => cases hq; exact hKn9
    | 10, hq => cases hq; exact hKn10
    | k + 11, hq => simp [vwCl] at hq
  obtain ⟨a0, hA0, hB0⟩ := pr_int (ty := .int) (fun C h => by cases h) (hts (.arrayClass .int) (List.mem_of_getElem? (i := 74) (by decide +kernel)))
  obtain ⟨a1, hA1, hB1⟩ := pr_int (ty := .boolean) (fun C h => by cases h) (hts (.arrayClass .boolean) (List.mem_of_getElem? (i := 204) (by decide +kernel)))
  obtain ⟨a2, hA2, hB2⟩ := pr_int (ty := .char) (fun C h => by cases h) (hts (.arrayClass .char) (List.mem_of_getElem? (i := 205) (by decide +kernel)))
  have hO3 : (Cond.arrayOver (.object RX0)).before args s = true := hts _ (List.mem_of_getElem? (i := 43) (by decide +kernel))
  obtain ⟨a3, hA3, hB3⟩ := pr_obj hO3
  have hO4 : (Cond.arrayOver (.object RX2)).before args s = true := hts _ (List.mem_of_getElem? (i := 172) (by decide +kernel))
  obtain ⟨a4, hA4, hB4⟩ := pr_obj hO4
  have hO5 : (Cond.arrayOver (.object RX3)).before args s = true := hts _ (List.mem_of_getElem? (i := 45) (by decide +kernel))
  obtain ⟨a5, hA5, hB5⟩ := pr_obj hO5
  have hO6 : (Cond.arrayOver (.object RX5)).before args s = true := hts _ (List.mem_of_getElem? (i := 189) (by decide +kernel))
  obtain ⟨a6, hA6, hB6⟩ := pr_obj hO6
  have hAb : ∀ a : Nat, a < s.heap.size → ¬ (fun q : Nat => s.heap.size ≤ q) a := fun a h => Nat.not_le.mpr h
  obtain ⟨t0, e0, hT0⟩ := va_Tof (args := args) (s := s) (tm := (Term.static "PinHouse$House" "LEAST" "[I")) (ty := .int) (N := 3) (f := lstA) (A := fun q : Nat => s.heap.size ≤ q) (by decide) (hs (Cond.arrayOf (Term.static "PinHouse$House" "LEAST" "[I") .int) (by decide +kernel)) (va_eqt (hs (Cond.eq (Term.length (Term.static "PinHouse$House" "LEAST" "[I")) (.int 3)) (by decide +kernel))) (fun j hj => by
    rcases (show j = 0 ∨ j = 1 ∨ j = 2 by omega) with rfl | rfl | rfl
    · exact va_eqt (hs (Cond.eq (Term.elem (Term.static "PinHouse$House" "LEAST" "[I") (.int 0)) (.int 1)) (by decide +kernel))
    · exact va_eqt (hs (Cond.eq (Term.elem (Term.static "PinHouse$House" "LEAST" "[I") (.int 1)) (.int 0)) (by decide +kernel))
    · exact va_eqt (hs (Cond.eq (Term.elem (Term.static "PinHouse$House" "LEAST" "[I") (.int 2)) (.int 40)) (by decide +kernel))) hAb
  obtain ⟨t1, e1, hT1⟩ := va_Tof (args := args) (s := s) (tm := (Term.static "PinHouse$House" "MOST" "[I")) (ty := .int) (N := 3) (f := mstA) (A := fun q : Nat => s.heap.size ≤ q) (by decide) (hs (Cond.arrayOf (Term.static "PinHouse$House" "MOST" "[I") .int) (by decide +kernel)) (va_eqt (hs (Cond.eq (Term.length (Term.static "PinHouse$House" "MOST" "[I")) (.int 3)) (by decide +kernel))) (fun j hj => by
    rcases (show j = 0 ∨ j = 1 ∨ j = 2 by omega) with rfl | rfl | rfl
    · exact va_eqt (hs (Cond.eq (Term.elem (Term.static "PinHouse$House" "MOST" "[I") (.int 0)) (.int 9)) (by decide +kernel))
    · exact va_eqt (hs (Cond.eq (Term.elem (Term.static "PinHouse$House" "MOST" "[I") (.int 1)) (.int 50)) (by decide +kernel))
    · exact va_eqt (hs (Cond.eq (Term.elem (Term.static "PinHouse$House" "MOST" "[I") (.int 2)) (.int 90)) (by decide +kernel))) hAb
  refine ⟨(l, (dC, dI), fun t => if t = 0 then a0 else if t = 1 then a1 else if t = 2 then a2 else if t = 3 then a3 else if t = 4 then a4 else if t = 5 then a5 else a6, s.heap.size), rfl, rfl, hd0, ⟨⟨hKc, fun k q hk => ?_⟩, va_AO.of hO3, va_AO.of hO4, va_AO.of hO5, va_AO.of hO6⟩, t0, t1, va_Zref (hts _ (List.mem_of_getElem? (i := 344) (by decide +kernel))) (hts _ (List.mem_of_getElem? (i := 16) (by decide +kernel))) e0 hAb, hT0, va_Zref (hts _ (List.mem_of_getElem? (i := 346) (by decide +kernel))) (hts _ (List.mem_of_getElem? (i := 16) (by decide +kernel))) e1 hAb, hT1, ⟨xs, by show va_X (dI 100 0) (dI 100 1) xs s s.heap; rw [hd0, hd1]; exact hX⟩, by show dI 100 0 < s.heap.size; rw [hd0]; exact hb, by show dI 100 1 ≤ 260; rw [hd1]; exact hL⟩
  match k, hk with
  | 0, hk => cases hk; exact ⟨hA0, hB0⟩
  | 1, hk => cases hk; exact ⟨hA1, hB1⟩
  | 2, hk => cases hk; exact ⟨hA2, hB2⟩
  | 3, hk => cases hk; exact ⟨hA3, hB3⟩
  | 4, hk => cases hk; exact ⟨hA4, hB4⟩
  | 5, hk => cases hk; exact ⟨hA5, hB5⟩
  | 6, hk => cases hk; exact ⟨hA6, hB6⟩
  | k + 7, hk => simp [tysL] at hk
section LAWROWS
variable {Ω : OmT} {Φ : PhT} {cc : ByteArray} {own : String} {rm : Room} {N : Nat} {n : Nat × Nat} {pc : Nat} {ls : List (Nat × Value)} {st : List Value} {S : StT}
theorem r_slen (hc : CXp Ω Φ cc own rm N) (hdg : decode cc pc = .ok (.arraylength, 1)) (kk : Vw Ω Φ S n (pc + 1) ls (.int (nI (scL Ω)) :: st)) : Vw Ω Φ S n pc ls (.ref (scB Ω) :: st) := by
  obtain ⟨p, e, R, s, m, args, below, meth, c, Q, nL⟩ := Φ
  intro H locs la hw hS hh
  obtain ⟨g1, g2, g3, g4, g5, g6, g7, ⟨-, t1, t2, -, -, -, -, ⟨xs, hX⟩, hb, hL⟩, g9⟩ := hc
  exact va_slen g1 g2 hX (Nat.lt_of_lt_of_le hb g9) (Nat.not_le.mpr hb) hS hdg (kk H locs la hw hS hh)
theorem r_sld (hc : CXp Ω Φ cc own rm N) {i : Int32} {j : Nat} (hi : i = nI j) (hj : j < scL Ω) (hdg : decode cc pc = .ok (.iaload, 1)) (kk : ∀ x : Int32, Vw Ω Φ S n (pc + 1) ls (.int x :: st)) : Vw Ω Φ S n pc ls (.int i :: .ref (scB Ω) :: st) := by
  obtain ⟨p, e, R, s, m, args, below, meth, c, Q, nL⟩ := Φ
  intro H locs la hw hS hh
  obtain ⟨g1, g2, g3, g4, g5, g6, g7, ⟨-, t1, t2, -, -, -, -, ⟨xs, hX⟩, hb, hL⟩, g9⟩ := hc
  subst hi
  exact va_sld g1 g2 hX (Nat.lt_of_lt_of_le hb g9) (Nat.not_le.mpr hb) hS (vp_in_nI hj (by omega)) hdg (kk _ H locs la hw hS hh)
theorem scl (hc : CXp Ω Φ cc own rm N) : scL Ω ≤ 260 := by
  obtain ⟨p, e, R, s, m, args, below, meth, c, Q, nL⟩ := Φ
  obtain ⟨g1, g2, g3, g4, g5, g6, g7, ⟨-, t1, t2, -, -, -, -, -, hb, hL⟩, g9⟩ := hc
  exact hL
end LAWROWS
theorem nIx_of (x : Int32) : x = nI x.toUInt32.toNat := by
  apply Int32.toBitVec_inj.1
  show x.toBitVec = BitVec.ofNat 32 x.toBitVec.toNat
  simp
theorem and31 (x : Int32) : ∃ c : Nat, c < 32 ∧ x &&& nI 31 = nI c := by
  refine ⟨x.toUInt32.toNat &&& 31, Nat.lt_of_le_of_lt Nat.and_le_right (by decide), ?_⟩
  have h := an_NN x.toUInt32.toNat 31
  rw [← nIx_of x] at h
  exact h
theorem zI_ex (x : Int32) : ∃ z : Int, x = zI z ∧ (-2147483648 ≤ z ∧ z < 2147483648) := ⟨x.toInt, zI_of x, nu_rng x⟩
theorem CSt.nu {sh : Nat → Option Kd} {σ : Nat → Nat → Int32} {ρ : Nat → Nat → Option Nat} {P b : Nat} {s : Nat → Nat} {v : Nat → Nat} {nu : Nat} {hf : Nat → Nat} {fl : Nat → Bool} {sv p : Nat → Nat} {ln : Nat} (H : CSt sh σ ρ P b s v nu hf fl sv p ln) : nu ≤ 6 := H.2.2.2.1.1
theorem CSt.ok {sh : Nat → Option Kd} {σ : Nat → Nat → Int32} {ρ : Nat → Nat → Option Nat} {P b : Nat} {s : Nat → Nat} {v : Nat → Nat} {nu : Nat} {hf : Nat → Nat} {fl : Nat → Bool} {sv p : Nat → Nat} {ln : Nat} (H : CSt sh σ ρ P b s v nu hf fl sv p ln) : okR v := H.2.2.1.2
theorem CSt.ln {sh : Nat → Option Kd} {σ : Nat → Nat → Int32} {ρ : Nat → Nat → Option Nat} {P b : Nat} {s : Nat → Nat} {v : Nat → Nat} {nu : Nat} {hf : Nat → Nat} {fl : Nat → Bool} {sv p : Nat → Nat} {ln : Nat} (H : CSt sh σ ρ P b s v nu hf fl sv p ln) : ln ≤ 80 ∧ ∀ j, j < ln → p j < 256 := H.2.2.2.2.2.2.2
