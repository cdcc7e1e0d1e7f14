/-! ===== the rest of the model ===== -/
theorem mH_t (x : Int) (nu : Nat) (hf v : Nat → Nat) : mH true x nu hf v = (nu, hf) := if_neg (fun q => Bool.noConfusion q.1)
def rwF (i : Nat) (hf : Nat → Nat) : Nat → Nat := fun k => hf (i * 170 + k)
def svF (s : Nat) (sv v : Nat → Nat) : Nat → Nat := fun j => if s * 170 ≤ j ∧ j < s * 170 + 170 then v (j - s * 170) else sv j
/-- what one order that was read does -/
def sOb (v : Nat → Nat) (kd : Nat) (R : Nat × Nat × Nat) : Int × (Nat → Nat) :=
  if kd = 107 then sKey v R.1 (v 3) else if kd = 99 then sCut v R.1 R.2.1 R.2.2 else if kd = 116 then sMove v R.1 (v 3) 8 else if kd = 112 then sMove v R.1 8 (v 3) else if kd = 103 then sGo v R.1 else sBrass v R.1
abbrev kdS (kd : Nat) : Prop := kd = 107 ∨ kd = 99 ∨ kd = 116 ∨ kd = 112 ∨ kd = 103 ∨ kd = 98
theorem ok_ob {v : Nat → Nat} (h : okR v) (kd : Nat) (R : Nat × Nat × Nat) : okX v (sOb v kd R) := by
  have h3 := h.2.2.2.1
  unfold sOb
  split
  · exact ok_key h _ _
  · split
    · exact ok_cut h _ _ _
    · split
      · exact ok_move h _ (by omega)
      · split
        · exact ok_move h _ (by omega)
        · split
          · exact ok_go h _
          · exact ok_brass h _
def exR (L : Nat → (Nat → Nat) → Int × (Nat → Nat)) : Nat → Nat → (Nat → Nat) → Nat × (Nat → Nat)
  | 0, i, w => (i, w)
  | f + 1, i, w => if 0 ≤ (L i w).1 then exR L f (i + 1) (L i w).2 else (i, (L i w).2)
abbrev obL (p : Nat → Nat) (ln : Nat) (i : Nat) (w : Nat → Nat) : Int × (Nat → Nat) := sOb w (p (psF p ln i)) (pO p ln (psF p ln i)).2.2
def sCarryO (v p : Nat → Nat) (ln : Nat) : Int × (Nat → Nat) := if (RD p ln).1 = -6 then (((exR (obL p ln) (RD p ln).2 0 v).1 : Nat), (exR (obL p ln) (RD p ln).2 0 v).2) else (-3, v)
theorem key_rng {v : Nat → Nat} (h : okR v) (c r : Int) : -5 ≤ (sKey v c r).1 ∧ (sKey v c r).1 ≤ ((v 7 : Nat) : Int) + 70000 := by
  have h5 := h.2.2.2.2.2.1
  unfold sKey
  (repeat' split) <;> dsimp only <;> omega
theorem cut_rng {v : Nat → Nat} (d f s : Int) : -5 ≤ (sCut v d f s).1 ∧ (sCut v d f s).1 ≤ ((v 7 : Nat) : Int) + 70000 := by
  have hg := givW_le2 v d.toNat
  unfold sCut
  (repeat' split) <;> dsimp only <;> omega
theorem move_rng {v : Nat → Nat} (h : okR v) (k : Int) (a b : Nat) : -5 ≤ (sMove v k a b).1 ∧ (sMove v k a b).1 ≤ ((v 7 : Nat) : Int) + 70000 := by
  have h5 := h.2.2.2.2.2.1
  have hk := keysAt_lt (va_up v (80 + 4 * k.toNat + 2) b) 8 (by rw [va_up_off (by omega)]; exact h5)
  unfold sMove
  (repeat' split) <;> dsimp only <;> omega
theorem go_rng {v : Nat → Nat} (h : okR v) (d : Int) : -5 ≤ (sGo v d).1 ∧ (sGo v d).1 ≤ ((v 7 : Nat) : Int) + 70000 := by
  unfold sGo
  split
  · have hd := h.2.2.2.2.2.2.2.1 d.toNat (by omega)
    have hb := behR_rng (v := v) (d := d.toNat) (r := v 3) hd.1 hd.2.1
    split <;> dsimp only <;> omega
  · dsimp only; omega
theorem brass_rng {v : Nat → Nat} (g : Int) : -5 ≤ (sBrass v g).1 ∧ (sBrass v g).1 ≤ ((v 7 : Nat) : Int) + 70000 := by
  unfold sBrass
  split <;> dsimp only <;> omega
theorem ob_rng {v : Nat → Nat} (h : okR v) (kd : Nat) (R : Nat × Nat × Nat) : -5 ≤ (sOb v kd R).1 ∧ (sOb v kd R).1 ≤ ((v 7 : Nat) : Int) + 70000 := by
  unfold sOb
  split
  · exact key_rng h _ _
  · split
    · exact cut_rng _ _ _
    · split
      · exact move_rng h _ _ _
      · split
        · exact move_rng h _ _ _
        · split
          · exact go_rng h _
          · exact brass_rng _
theorem ex_ok (p : Nat → Nat) (ln : Nat) (f : Nat) : ∀ (i : Nat) (w : Nat → Nat), okR w → okR (exR (obL p ln) f i w).2 ∧ (exR (obL p ln) f i w).2 7 ≤ w 7 + 1000 * f := by
  induction f with
  | zero => intro i w h; exact ⟨h, Nat.le_refl _⟩
  | succ f ih =>
    intro i w h
    have h1 : okX w (obL p ln i w) := ok_ob h _ _
    rw [exR]
    split
    · have h2 := ih (i + 1) _ h1.1
      have h3 := h1.2
      exact ⟨h2.1, by omega⟩
    · have h3 := h1.2
      exact ⟨h1.1, Nat.le_trans h3 (by omega)⟩
set_option maxRecDepth 100000 in
set_option maxHeartbeats 4000000 in
theorem c_X12_set {Ω : OmT} {z : Nat} {sh : Nat → Option Kd} {σ : Nat → Nat → Int32} {ρ : Nat → Nat → Option Nat} {M : Nat} {v : Nat → Nat} (hM : MSh sh ρ M) (hv : rowAt σ (M + 1) 170 v) (hok : okR v) (hbx : v 7 ≤ 1000000000) {W : Bool} (hW : σ M 7 = bI W) {nu : Nat} {hf : Nat → Nat} (hH : HstP σ M (nu, hf)) (hnu : nu ≤ 6) {s x : Int} (hs0 : -2147483648 ≤ s ∧ s < 2147483648) (hx0 : -2147483648 ≤ x ∧ x < 2147483648) : CtI Ω yX12_set cX12_set 6 .int rm_X12_set [.ref M, .int (zI s), .int (zI x)] (z, sh, σ, ρ) (MPost z sh σ ρ M nu hf v W (sSet v s x)) := by
  have hok1 := hok
  obtain ⟨⟨h01, h02⟩, hl1, ⟨h21, h22⟩, h3, h4, h5, h9, hdo, hke, hpn, hpd, htc⟩ := hok1
  have hdr : ∀ d, d < v 4 → v (20 + 6 * d + 2) < 10000 ∧ v (20 + 6 * d + 3) < 10000 := fun d hd => ⟨(hdo d hd).2.2.1, (hdo d hd).2.2.2⟩
  have hcu : ∀ k, k < v 5 → v (80 + 4 * k) < 10000 := fun k hk => (hke k hk).1
  have hwh : ∀ k, k < v 5 → v (80 + 4 * k + 2) ≤ 9 := fun k hk => (hke k hk).2.2
  have hky : ∀ k, k < v 5 → v (80 + 4 * k) < 10000 ∧ v (80 + 4 * k + 2) ≤ 9 ∧ 40 ≤ v (80 + 4 * k + 1) ∧ v (80 + 4 * k + 1) ≤ 90 := fun k hk => ⟨(hke k hk).1, (hke k hk).2.2, (hke k hk).2.1⟩
  have hpl : ∀ p, p < v 9 → v (150 + 3 * p) < 10 := fun p hp => by have := (hpn p hp).1; omega
  refine CtI.enter (by decide) (Nat.le_of_ble_eq_true rfl) (fun Φ hc hR => ?_)
  show Vw Ω Φ (z, sh, σ, ρ) (0, 0) 0 [(0, .ref M), (1, .int (zI s)), (2, .int (zI x))] []
  refine r_iload_n hc dX12_set_0 rfl ?_
  refine r_if_ne (tgt := 8) hc dX12_set_1 (by decide) (e0_Z (by omega)) (fun c_1 => ?_) (fun c_1 => ?_)
  ·
    refine r_iload_n hc dX12_set_8 rfl ?_
    refine r_iconst (v := nI 1) hc dX12_set_9 rfl ?_
    refine r_icmp_ne (tgt := 17) hc dX12_set_10 (by decide) (eq_ZN (by omega) (by omega)) (fun c_10 => ?_) (fun c_10 => ?_)
    ·
      refine r_bipush (v := nI 40) hc dX12_set_17 rfl ?_
      refine r_istore_n (ls' := [(3, .int (nI 40)), (0, .ref M), (1, .int (zI s)), (2, .int (zI x))]) hc dX12_set_19 (by decide) rfl ?_
      refine r_iload_n hc dX12_set_20 rfl ?_
      refine r_if_ne (tgt := 29) hc dX12_set_21 (by decide) (e0_Z (by omega)) (fun c_21 => ?_) (fun c_21 => ?_)
      ·
        refine r_iload_n hc dX12_set_29 rfl ?_
        refine r_iconst (v := nI 1) hc dX12_set_30 rfl ?_
        refine r_icmp_ne (tgt := 39) hc dX12_set_31 (by decide) (eq_ZN (by omega) (by omega)) (fun c_31 => ?_) (fun c_31 => ?_)
        ·
          refine r_bipush (v := nI 90) hc dX12_set_39 rfl ?_
          refine r_istore (ls' := [(4, .int (nI 90)), (3, .int (nI 40)), (0, .ref M), (1, .int (zI s)), (2, .int (zI x))]) hc dX12_set_41 (by decide) rfl ?_
          refine r_iload_n hc dX12_set_43 rfl ?_
          refine r_iconst (v := nI 0) hc dX12_set_44 rfl ?_
          refine r_iconst (v := nI 2) hc dX12_set_45 rfl ?_
          refine cl_X12_41 (As := [.int (zI s), .int (nI 0), .int (nI 2)]) hc (by simp only [nz]; exact c_X12_in (by omega) (by omega) (by omega)) rfl ⟨by decide, by decide⟩ ⟨rfl, rfl⟩ ⟨by decide, by decide⟩ rfl (Nat.le_of_ble_eq_true rfl) dX12_set_46 (fun r u hp => ?_)
          obtain ⟨rfl, hu⟩ := hp
          rw [hu]
          refine r_if_eq (tgt := 62) hc dX12_set_49 (by decide) (bI_0 _) (fun c_49 => ?_) (fun c_49 => ?_)
          ·
            have c_49 := of_decide_eq_false c_49
            refine r_bipush (v := zI (-2)) hc dX12_set_62 rfl ?_
            have hE : sSet v s x = (-2, v) := by unfold sSet; rw [if_neg (by omega)]
            rw [hE] at hR
            exact hR _ _ ⟨_, rfl, rfl, hv, (by rw [mH_neg (show (-2, v).1 < (0 : Int) by show -2 < (0 : Int); omega)]; exact hH), fun _ _ _ _ => rfl, fun _ _ => rfl⟩ rfl _ _ dX12_set_64
          ·
            have c_49 := bnf c_49
            have c_49 := of_decide_eq_true c_49
            refine r_iload_n hc dX12_set_52 rfl ?_
            refine r_iload_n hc dX12_set_53 rfl ?_
            refine r_iload hc dX12_set_54 rfl ?_
            refine cl_X12_41 (As := [.int (zI x), .int (nI 40), .int (nI 90)]) hc (by simp only [nz]; exact c_X12_in (by omega) (by omega) (by omega)) rfl ⟨by decide, by decide⟩ ⟨rfl, rfl⟩ ⟨by decide, by decide⟩ rfl (Nat.le_of_ble_eq_true rfl) dX12_set_56 (fun r u hp => ?_)
            obtain ⟨rfl, hu⟩ := hp
            rw [hu]
            refine r_if_ne (tgt := 65) hc dX12_set_59 (by decide) (bI_0 _) (fun c_59 => ?_) (fun c_59 => ?_)
            ·
              have c_59 := bnf c_59
              have c_59 := of_decide_eq_true c_59
              obtain ⟨S, rfl⟩ := Int.eq_ofNat_of_zero_le (show 0 ≤ s by omega)
              rw [← nz S]
              obtain ⟨X, rfl⟩ := Int.eq_ofNat_of_zero_le (show 0 ≤ x by omega)
              rw [← nz X]
              refine r_aload_n hc dX12_set_65 rfl ?_
              refine cl_X12_53 (As := []) hc (c_X12_record hM hv hW hH hnu) (MS0 hM) rfl ⟨by decide, by decide⟩ ⟨rfl, rfl⟩ ⟨by decide, by decide⟩ rfl (Nat.le_of_ble_eq_true rfl) dX12_set_66 (fun u hp => ?_)
              obtain ⟨τ0, hu, hH0, hfr0⟩ := hp
              rw [hu]
              have hv : rowAt τ0 (M + 1) 170 v := hv.sig (hfr0.1 _ (by omega) (by omega))
              refine r_aload_n hc dX12_set_69 rfl ?_
              refine gf_X12_7 (q := M + 1) hc (MS0 hM) (MSr hM 0 1 (by decide)) dX12_set_70 ?_
              refine r_iload_n hc dX12_set_73 rfl ?_
              refine r_iald (x := nI (v S)) (j := S) hc (MSa hM 1 0 170 rfl) rfl (by omega) (by decide) (hv _ (by omega)) dX12_set_74 ?_
              refine r_istore (ls' := [(5, .int (nI (v S))), (4, .int (nI 90)), (3, .int (nI 40)), (0, .ref M), (1, .int (nI S)), (2, .int (nI X))]) hc dX12_set_75 (by decide) rfl ?_
              refine r_aload_n hc dX12_set_77 rfl ?_
              refine gf_X12_7 (q := M + 1) hc (MS0 hM) (MSr hM 0 1 (by decide)) dX12_set_78 ?_
              refine r_iload_n hc dX12_set_81 rfl ?_
              refine r_iload_n hc dX12_set_82 rfl ?_
              refine r_iast (j := S) hc (MSa hM 1 0 170 rfl) rfl (by omega) (by decide) dX12_set_83 ?_
              generalize hσ1 : s2 τ0 (M + 1) S (nI X) = σ1
              have hv : rowAt σ1 (M + 1) 170 (va_up v S X) := by rw [← hσ1]; exact hv.upd _ _
              refine r_iload hc dX12_set_84 rfl ?_
              have hsl : (if ((S : Nat) : Int) = 0 then (1 : Int) else if ((S : Nat) : Int) = 1 then 0 else 40) = 40 := by (repeat' split) <;> omega
              have hsh2 : (if ((S : Nat) : Int) = 0 then (9 : Int) else if ((S : Nat) : Int) = 1 then 50 else 90) = 90 := by (repeat' split) <;> omega
              have hE : sSet v (S : Int) (X : Int) = (((v S : Nat) : Int), va_up v S X) := by unfold sSet; rw [hsl, hsh2]; (try simp only [Int.toNat_natCast]); rw [if_pos (by omega), if_pos (by omega)]
              rw [hE] at hR
              exact hR _ _ ⟨_, rfl, nz _, hv, (by rw [mH_pos (show (0 : Int) ≤ (((v S : Nat) : Int), va_up v S X).1 by show (0 : Int) ≤ ((v S : Nat) : Int); omega)]; exact ⟨by rw [← hσ1, s2_na (by omega)]; exact hH0.1, hH0.2.sig (by rw [← hσ1, s2_ne (by omega)])⟩), (fun q q1 q2 q3 => by rw [← hσ1, s2_ne q2]; exact hfr0.1 q q1 q3), fun k hk => by rw [← hσ1, s2_na (by omega)]; exact hfr0.2 k hk⟩ rfl _ _ dX12_set_86
            ·
              have c_59 := of_decide_eq_false c_59
              refine r_bipush (v := zI (-2)) hc dX12_set_62 rfl ?_
              have hsl : (if s = 0 then (1 : Int) else if s = 1 then 0 else 40) = 40 := by (repeat' split) <;> omega
              have hsh2 : (if s = 0 then (9 : Int) else if s = 1 then 50 else 90) = 90 := by (repeat' split) <;> omega
              have hE : sSet v s x = (-2, v) := by unfold sSet; rw [hsl, hsh2, if_pos (by omega), if_neg (by omega)]
              rw [hE] at hR
              exact hR _ _ ⟨_, rfl, rfl, hv, (by rw [mH_neg (show (-2, v).1 < (0 : Int) by show -2 < (0 : Int); omega)]; exact hH), fun _ _ _ _ => rfl, fun _ _ => rfl⟩ rfl _ _ dX12_set_64
        ·
          exact False.elim (by omega)
      ·
        exact False.elim (by omega)
    ·
      refine r_iconst (v := nI 0) hc dX12_set_13 rfl ?_
      refine r_goto (tgt := 19) hc dX12_set_14 (by decide) ?_
      refine r_istore_n (ls' := [(3, .int (nI 0)), (0, .ref M), (1, .int (zI s)), (2, .int (zI x))]) hc dX12_set_19 (by decide) rfl ?_
      refine r_iload_n hc dX12_set_20 rfl ?_
      refine r_if_ne (tgt := 29) hc dX12_set_21 (by decide) (e0_Z (by omega)) (fun c_21 => ?_) (fun c_21 => ?_)
      ·
        refine r_iload_n hc dX12_set_29 rfl ?_
        refine r_iconst (v := nI 1) hc dX12_set_30 rfl ?_
        refine r_icmp_ne (tgt := 39) hc dX12_set_31 (by decide) (eq_ZN (by omega) (by omega)) (fun c_31 => ?_) (fun c_31 => ?_)
        ·
          exact False.elim (by omega)
        ·
          refine r_bipush (v := nI 50) hc dX12_set_34 rfl ?_
          refine r_goto (tgt := 41) hc dX12_set_36 (by decide) ?_
          refine r_istore (ls' := [(4, .int (nI 50)), (3, .int (nI 0)), (0, .ref M), (1, .int (zI s)), (2, .int (zI x))]) hc dX12_set_41 (by decide) rfl ?_
          refine r_iload_n hc dX12_set_43 rfl ?_
          refine r_iconst (v := nI 0) hc dX12_set_44 rfl ?_
          refine r_iconst (v := nI 2) hc dX12_set_45 rfl ?_
          refine cl_X12_41 (As := [.int (zI s), .int (nI 0), .int (nI 2)]) hc (by simp only [nz]; exact c_X12_in (by omega) (by omega) (by omega)) rfl ⟨by decide, by decide⟩ ⟨rfl, rfl⟩ ⟨by decide, by decide⟩ rfl (Nat.le_of_ble_eq_true rfl) dX12_set_46 (fun r u hp => ?_)
          obtain ⟨rfl, hu⟩ := hp
          rw [hu]
          refine r_if_eq (tgt := 62) hc dX12_set_49 (by decide) (bI_0 _) (fun c_49 => ?_) (fun c_49 => ?_)
          ·
            have c_49 := of_decide_eq_false c_49
            refine r_bipush (v := zI (-2)) hc dX12_set_62 rfl ?_
            have hE : sSet v s x = (-2, v) := by unfold sSet; rw [if_neg (by omega)]
            rw [hE] at hR
            exact hR _ _ ⟨_, rfl, rfl, hv, (by rw [mH_neg (show (-2, v).1 < (0 : Int) by show -2 < (0 : Int); omega)]; exact hH), fun _ _ _ _ => rfl, fun _ _ => rfl⟩ rfl _ _ dX12_set_64
          ·
            have c_49 := bnf c_49
            have c_49 := of_decide_eq_true c_49
            refine r_iload_n hc dX12_set_52 rfl ?_
            refine r_iload_n hc dX12_set_53 rfl ?_
            refine r_iload hc dX12_set_54 rfl ?_
            refine cl_X12_41 (As := [.int (zI x), .int (nI 0), .int (nI 50)]) hc (by simp only [nz]; exact c_X12_in (by omega) (by omega) (by omega)) rfl ⟨by decide, by decide⟩ ⟨rfl, rfl⟩ ⟨by decide, by decide⟩ rfl (Nat.le_of_ble_eq_true rfl) dX12_set_56 (fun r u hp => ?_)
            obtain ⟨rfl, hu⟩ := hp
            rw [hu]
            refine r_if_ne (tgt := 65) hc dX12_set_59 (by decide) (bI_0 _) (fun c_59 => ?_) (fun c_59 => ?_)
            ·
              have c_59 := bnf c_59
              have c_59 := of_decide_eq_true c_59
              obtain ⟨S, rfl⟩ := Int.eq_ofNat_of_zero_le (show 0 ≤ s by omega)
              rw [← nz S]
              obtain ⟨X, rfl⟩ := Int.eq_ofNat_of_zero_le (show 0 ≤ x by omega)
              rw [← nz X]
              refine r_aload_n hc dX12_set_65 rfl ?_
              refine cl_X12_53 (As := []) hc (c_X12_record hM hv hW hH hnu) (MS0 hM) rfl ⟨by decide, by decide⟩ ⟨rfl, rfl⟩ ⟨by decide, by decide⟩ rfl (Nat.le_of_ble_eq_true rfl) dX12_set_66 (fun u hp => ?_)
              obtain ⟨τ0, hu, hH0, hfr0⟩ := hp
              rw [hu]
              have hv : rowAt τ0 (M + 1) 170 v := hv.sig (hfr0.1 _ (by omega) (by omega))
              refine r_aload_n hc dX12_set_69 rfl ?_
              refine gf_X12_7 (q := M + 1) hc (MS0 hM) (MSr hM 0 1 (by decide)) dX12_set_70 ?_
              refine r_iload_n hc dX12_set_73 rfl ?_
              refine r_iald (x := nI (v S)) (j := S) hc (MSa hM 1 0 170 rfl) rfl (by omega) (by decide) (hv _ (by omega)) dX12_set_74 ?_
              refine r_istore (ls' := [(5, .int (nI (v S))), (4, .int (nI 50)), (3, .int (nI 0)), (0, .ref M), (1, .int (nI S)), (2, .int (nI X))]) hc dX12_set_75 (by decide) rfl ?_
              refine r_aload_n hc dX12_set_77 rfl ?_
              refine gf_X12_7 (q := M + 1) hc (MS0 hM) (MSr hM 0 1 (by decide)) dX12_set_78 ?_
              refine r_iload_n hc dX12_set_81 rfl ?_
              refine r_iload_n hc dX12_set_82 rfl ?_
              refine r_iast (j := S) hc (MSa hM 1 0 170 rfl) rfl (by omega) (by decide) dX12_set_83 ?_
              generalize hσ2 : s2 τ0 (M + 1) S (nI X) = σ2
              have hv : rowAt σ2 (M + 1) 170 (va_up v S X) := by rw [← hσ2]; exact hv.upd _ _
              refine r_iload hc dX12_set_84 rfl ?_
              have hsl : (if ((S : Nat) : Int) = 0 then (1 : Int) else if ((S : Nat) : Int) = 1 then 0 else 40) = 0 := by (repeat' split) <;> omega
              have hsh2 : (if ((S : Nat) : Int) = 0 then (9 : Int) else if ((S : Nat) : Int) = 1 then 50 else 90) = 50 := by (repeat' split) <;> omega
              have hE : sSet v (S : Int) (X : Int) = (((v S : Nat) : Int), va_up v S X) := by unfold sSet; rw [hsl, hsh2]; (try simp only [Int.toNat_natCast]); rw [if_pos (by omega), if_pos (by omega)]
              rw [hE] at hR
              exact hR _ _ ⟨_, rfl, nz _, hv, (by rw [mH_pos (show (0 : Int) ≤ (((v S : Nat) : Int), va_up v S X).1 by show (0 : Int) ≤ ((v S : Nat) : Int); omega)]; exact ⟨by rw [← hσ2, s2_na (by omega)]; exact hH0.1, hH0.2.sig (by rw [← hσ2, s2_ne (by omega)])⟩), (fun q q1 q2 q3 => by rw [← hσ2, s2_ne q2]; exact hfr0.1 q q1 q3), fun k hk => by rw [← hσ2, s2_na (by omega)]; exact hfr0.2 k hk⟩ rfl _ _ dX12_set_86
            ·
              have c_59 := of_decide_eq_false c_59
              refine r_bipush (v := zI (-2)) hc dX12_set_62 rfl ?_
              have hsl : (if s = 0 then (1 : Int) else if s = 1 then 0 else 40) = 0 := by (repeat' split) <;> omega
              have hsh2 : (if s = 0 then (9 : Int) else if s = 1 then 50 else 90) = 50 := by (repeat' split) <;> omega
              have hE : sSet v s x = (-2, v) := by unfold sSet; rw [hsl, hsh2, if_pos (by omega), if_neg (by omega)]
              rw [hE] at hR
              exact hR _ _ ⟨_, rfl, rfl, hv, (by rw [mH_neg (show (-2, v).1 < (0 : Int) by show -2 < (0 : Int); omega)]; exact hH), fun _ _ _ _ => rfl, fun _ _ => rfl⟩ rfl _ _ dX12_set_64
      ·
        exact False.elim (by omega)
  ·
    refine r_iconst (v := nI 1) hc dX12_set_4 rfl ?_
    refine r_goto (tgt := 19) hc dX12_set_5 (by decide) ?_
    refine r_istore_n (ls' := [(3, .int (nI 1)), (0, .ref M), (1, .int (zI s)), (2, .int (zI x))]) hc dX12_set_19 (by decide) rfl ?_
    refine r_iload_n hc dX12_set_20 rfl ?_
    refine r_if_ne (tgt := 29) hc dX12_set_21 (by decide) (e0_Z (by omega)) (fun c_21 => ?_) (fun c_21 => ?_)
    ·
      exact False.elim (by omega)
    ·
      refine r_bipush (v := nI 9) hc dX12_set_24 rfl ?_
      refine r_goto (tgt := 41) hc dX12_set_26 (by decide) ?_
      refine r_istore (ls' := [(4, .int (nI 9)), (3, .int (nI 1)), (0, .ref M), (1, .int (zI s)), (2, .int (zI x))]) hc dX12_set_41 (by decide) rfl ?_
      refine r_iload_n hc dX12_set_43 rfl ?_
      refine r_iconst (v := nI 0) hc dX12_set_44 rfl ?_
      refine r_iconst (v := nI 2) hc dX12_set_45 rfl ?_
      refine cl_X12_41 (As := [.int (zI s), .int (nI 0), .int (nI 2)]) hc (by simp only [nz]; exact c_X12_in (by omega) (by omega) (by omega)) rfl ⟨by decide, by decide⟩ ⟨rfl, rfl⟩ ⟨by decide, by decide⟩ rfl (Nat.le_of_ble_eq_true rfl) dX12_set_46 (fun r u hp => ?_)
      obtain ⟨rfl, hu⟩ := hp
      rw [hu]
      refine r_if_eq (tgt := 62) hc dX12_set_49 (by decide) (bI_0 _) (fun c_49 => ?_) (fun c_49 => ?_)
      ·
        have c_49 := of_decide_eq_false c_49
        refine r_bipush (v := zI (-2)) hc dX12_set_62 rfl ?_
        have hE : sSet v s x = (-2, v) := by unfold sSet; rw [if_neg (by omega)]
        rw [hE] at hR
        exact hR _ _ ⟨_, rfl, rfl, hv, (by rw [mH_neg (show (-2, v).1 < (0 : Int) by show -2 < (0 : Int); omega)]; exact hH), fun _ _ _ _ => rfl, fun _ _ => rfl⟩ rfl _ _ dX12_set_64
      ·
        have c_49 := bnf c_49
        have c_49 := of_decide_eq_true c_49
        refine r_iload_n hc dX12_set_52 rfl ?_
        refine r_iload_n hc dX12_set_53 rfl ?_
        refine r_iload hc dX12_set_54 rfl ?_
        refine cl_X12_41 (As := [.int (zI x), .int (nI 1), .int (nI 9)]) hc (by simp only [nz]; exact c_X12_in (by omega) (by omega) (by omega)) rfl ⟨by decide, by decide⟩ ⟨rfl, rfl⟩ ⟨by decide, by decide⟩ rfl (Nat.le_of_ble_eq_true rfl) dX12_set_56 (fun r u hp => ?_)
        obtain ⟨rfl, hu⟩ := hp
        rw [hu]
        refine r_if_ne (tgt := 65) hc dX12_set_59 (by decide) (bI_0 _) (fun c_59 => ?_) (fun c_59 => ?_)
        ·
          have c_59 := bnf c_59
          have c_59 := of_decide_eq_true c_59
          obtain ⟨S, rfl⟩ := Int.eq_ofNat_of_zero_le (show 0 ≤ s by omega)
          rw [← nz S]
          obtain ⟨X, rfl⟩ := Int.eq_ofNat_of_zero_le (show 0 ≤ x by omega)
          rw [← nz X]
          refine r_aload_n hc dX12_set_65 rfl ?_
          refine cl_X12_53 (As := []) hc (c_X12_record hM hv hW hH hnu) (MS0 hM) rfl ⟨by decide, by decide⟩ ⟨rfl, rfl⟩ ⟨by decide, by decide⟩ rfl (Nat.le_of_ble_eq_true rfl) dX12_set_66 (fun u hp => ?_)
          obtain ⟨τ0, hu, hH0, hfr0⟩ := hp
          rw [hu]
          have hv : rowAt τ0 (M + 1) 170 v := hv.sig (hfr0.1 _ (by omega) (by omega))
          refine r_aload_n hc dX12_set_69 rfl ?_
          refine gf_X12_7 (q := M + 1) hc (MS0 hM) (MSr hM 0 1 (by decide)) dX12_set_70 ?_
          refine r_iload_n hc dX12_set_73 rfl ?_
          refine r_iald (x := nI (v S)) (j := S) hc (MSa hM 1 0 170 rfl) rfl (by omega) (by decide) (hv _ (by omega)) dX12_set_74 ?_
          refine r_istore (ls' := [(5, .int (nI (v S))), (4, .int (nI 9)), (3, .int (nI 1)), (0, .ref M), (1, .int (nI S)), (2, .int (nI X))]) hc dX12_set_75 (by decide) rfl ?_
          refine r_aload_n hc dX12_set_77 rfl ?_
          refine gf_X12_7 (q := M + 1) hc (MS0 hM) (MSr hM 0 1 (by decide)) dX12_set_78 ?_
          refine r_iload_n hc dX12_set_81 rfl ?_
          refine r_iload_n hc dX12_set_82 rfl ?_
          refine r_iast (j := S) hc (MSa hM 1 0 170 rfl) rfl (by omega) (by decide) dX12_set_83 ?_
          generalize hσ3 : s2 τ0 (M + 1) S (nI X) = σ3
          have hv : rowAt σ3 (M + 1) 170 (va_up v S X) := by rw [← hσ3]; exact hv.upd _ _
          refine r_iload hc dX12_set_84 rfl ?_
          have hsl : (if ((S : Nat) : Int) = 0 then (1 : Int) else if ((S : Nat) : Int) = 1 then 0 else 40) = 1 := by (repeat' split) <;> omega
          have hsh2 : (if ((S : Nat) : Int) = 0 then (9 : Int) else if ((S : Nat) : Int) = 1 then 50 else 90) = 9 := by (repeat' split) <;> omega
          have hE : sSet v (S : Int) (X : Int) = (((v S : Nat) : Int), va_up v S X) := by unfold sSet; rw [hsl, hsh2]; (try simp only [Int.toNat_natCast]); rw [if_pos (by omega), if_pos (by omega)]
          rw [hE] at hR
          exact hR _ _ ⟨_, rfl, nz _, hv, (by rw [mH_pos (show (0 : Int) ≤ (((v S : Nat) : Int), va_up v S X).1 by show (0 : Int) ≤ ((v S : Nat) : Int); omega)]; exact ⟨by rw [← hσ3, s2_na (by omega)]; exact hH0.1, hH0.2.sig (by rw [← hσ3, s2_ne (by omega)])⟩), (fun q q1 q2 q3 => by rw [← hσ3, s2_ne q2]; exact hfr0.1 q q1 q3), fun k hk => by rw [← hσ3, s2_na (by omega)]; exact hfr0.2 k hk⟩ rfl _ _ dX12_set_86
        ·
          have c_59 := of_decide_eq_false c_59
          refine r_bipush (v := zI (-2)) hc dX12_set_62 rfl ?_
          have hsl : (if s = 0 then (1 : Int) else if s = 1 then 0 else 40) = 1 := by (repeat' split) <;> omega
          have hsh2 : (if s = 0 then (9 : Int) else if s = 1 then 50 else 90) = 9 := by (repeat' split) <;> omega
          have hE : sSet v s x = (-2, v) := by unfold sSet; rw [hsl, hsh2, if_pos (by omega), if_neg (by omega)]
          rw [hE] at hR
          exact hR _ _ ⟨_, rfl, rfl, hv, (by rw [mH_neg (show (-2, v).1 < (0 : Int) by show -2 < (0 : Int); omega)]; exact hH), fun _ _ _ _ => rfl, fun _ _ => rfl⟩ rfl _ _ dX12_set_64
set_option maxRecDepth 100000 in
set_option maxHeartbeats 4000000 in
theorem c_X12_ofDoor {Ω : OmT} {z : Nat} {sh : Nat → Option Kd} {σ : Nat → Nat → Int32} {ρ : Nat → Nat → Option Nat} {M : Nat} {v : Nat → Nat} (hM : MSh sh ρ M) (hv : rowAt σ (M + 1) 170 v) (hok : okR v) (hbx : v 7 ≤ 1000000000) {d w : Int} (hd0 : -2147483648 ≤ d ∧ d < 2147483648) (hw0 : -2147483648 ≤ w ∧ w < 2147483648) : CtI Ω yX12_ofDoor cX12_ofDoor 3 .int rm_X12_ofDoor [.ref M, .int (zI d), .int (zI w)] (z, sh, σ, ρ) (fun r u => r = zI (sOfDoor v d w) ∧ u = (z, sh, σ, ρ)) := by
  have hok1 := hok
  obtain ⟨⟨h01, h02⟩, hl1, ⟨h21, h22⟩, h3, h4, h5, h9, hdo, hke, hpn, hpd, htc⟩ := hok1
  have hdr : ∀ d, d < v 4 → v (20 + 6 * d + 2) < 10000 ∧ v (20 + 6 * d + 3) < 10000 := fun d hd => ⟨(hdo d hd).2.2.1, (hdo d hd).2.2.2⟩
  have hcu : ∀ k, k < v 5 → v (80 + 4 * k) < 10000 := fun k hk => (hke k hk).1
  have hwh : ∀ k, k < v 5 → v (80 + 4 * k + 2) ≤ 9 := fun k hk => (hke k hk).2.2
  have hky : ∀ k, k < v 5 → v (80 + 4 * k) < 10000 ∧ v (80 + 4 * k + 2) ≤ 9 ∧ 40 ≤ v (80 + 4 * k + 1) ∧ v (80 + 4 * k + 1) ≤ 90 := fun k hk => ⟨(hke k hk).1, (hke k hk).2.2, (hke k hk).2.1⟩
  have hpl : ∀ p, p < v 9 → v (150 + 3 * p) < 10 := fun p hp => by have := (hpn p hp).1; omega
  refine CtI.enter (by decide) (Nat.le_of_ble_eq_true rfl) (fun Φ hc hR => ?_)
  show Vw Ω Φ (z, sh, σ, ρ) (0, 0) 0 [(0, .ref M), (1, .int (zI d)), (2, .int (zI w))] []
  refine r_aload_n hc dX12_ofDoor_0 rfl ?_
  refine r_iload_n hc dX12_ofDoor_1 rfl ?_
  refine cl_X12_80 (As := [.int (zI d)]) hc (c_X12_isDoor hM hv (x := d) (by omega) (by omega)) (MS0 hM) rfl ⟨by decide, by decide⟩ ⟨rfl, rfl⟩ ⟨by decide, by decide⟩ rfl (Nat.le_of_ble_eq_true rfl) dX12_ofDoor_2 (fun r u hp => ?_)
  obtain ⟨rfl, hu⟩ := hp
  rw [hu]
  refine r_if_ne (tgt := 10) hc dX12_ofDoor_5 (by decide) (bI_0 _) (fun c_5 => ?_) (fun c_5 => ?_)
  ·
    have c_5 := bnf c_5
    have c_5 := of_decide_eq_true c_5
    obtain ⟨D, rfl⟩ := Int.eq_ofNat_of_zero_le (show 0 ≤ d by omega)
    rw [← nz D]
    have hdd := hdr D (by omega)
    refine r_iload_n hc dX12_ofDoor_10 rfl ?_
    rcases (show w < 4 ∨ 7 < w ∨ w = 4 ∨ w = 5 ∨ w = 6 ∨ w = 7 by omega) with c_11 | c_11 | c_11 | c_11 | c_11 | c_11
    ·
      refine r_tableOut (tgt := 65) hc dX12_ofDoor_11 (by rw [zI_toInt (by omega) (by omega)]; omega) (by decide) ?_
      refine r_iload_n hc dX12_ofDoor_65 rfl ?_
      refine r_iconst (v := nI 0) hc dX12_ofDoor_66 rfl ?_
      refine r_iconst (v := nI 3) hc dX12_ofDoor_67 rfl ?_
      refine cl_X12_41 (As := [.int (zI w), .int (nI 0), .int (nI 3)]) hc (by simp only [nz]; exact c_X12_in (by omega) (by omega) (by omega)) rfl ⟨by decide, by decide⟩ ⟨rfl, rfl⟩ ⟨by decide, by decide⟩ rfl (Nat.le_of_ble_eq_true rfl) dX12_ofDoor_68 (fun r u hp => ?_)
      obtain ⟨rfl, hu⟩ := hp
      rw [hu]
      refine r_if_eq (tgt := 83) hc dX12_ofDoor_71 (by decide) (bI_0 _) (fun c_71 => ?_) (fun c_71 => ?_)
      ·
        have c_71 := of_decide_eq_false c_71
        refine r_bipush (v := zI (-2)) hc dX12_ofDoor_83 rfl ?_
        exact hR _ _ ⟨(by refine congrArg zI ?_; unfold sOfDoor; rw [if_pos (by omega), if_neg (by omega), if_neg (by omega), if_neg (by omega), if_neg (by omega), if_neg (by omega)]), rfl⟩ rfl _ _ dX12_ofDoor_85
      ·
        have c_71 := bnf c_71
        have c_71 := of_decide_eq_true c_71
        obtain ⟨W, rfl⟩ := Int.eq_ofNat_of_zero_le (show 0 ≤ w by omega)
        rw [← nz W]
        refine r_aload_n hc dX12_ofDoor_74 rfl ?_
        refine r_iload_n hc dX12_ofDoor_75 rfl ?_
        refine r_iload_n hc dX12_ofDoor_76 rfl ?_
        refine cl_X12_67 (As := [.int (nI D), .int (nI W)]) hc (c_X12_ofLock hM hv (d := D) (w := W) (by omega) (by omega)) (MS0 hM) rfl ⟨by decide, by decide⟩ ⟨rfl, rfl⟩ ⟨by decide, by decide⟩ rfl (Nat.le_of_ble_eq_true rfl) dX12_ofDoor_77 (fun r u hp => ?_)
        obtain ⟨rfl, hu⟩ := hp
        rw [hu]
        refine r_goto (tgt := 85) hc dX12_ofDoor_80 (by decide) ?_
        exact hR _ _ ⟨(by rw [nz]; refine congrArg zI ?_; unfold sOfDoor; simp only [Int.toNat_natCast]; rw [if_pos (by omega), if_neg (by omega), if_neg (by omega), if_neg (by omega), if_neg (by omega), if_pos (by omega)]), rfl⟩ rfl _ _ dX12_ofDoor_85
    ·
      refine r_tableOut (tgt := 65) hc dX12_ofDoor_11 (by rw [zI_toInt (by omega) (by omega)]; omega) (by decide) ?_
      refine r_iload_n hc dX12_ofDoor_65 rfl ?_
      refine r_iconst (v := nI 0) hc dX12_ofDoor_66 rfl ?_
      refine r_iconst (v := nI 3) hc dX12_ofDoor_67 rfl ?_
      refine cl_X12_41 (As := [.int (zI w), .int (nI 0), .int (nI 3)]) hc (by simp only [nz]; exact c_X12_in (by omega) (by omega) (by omega)) rfl ⟨by decide, by decide⟩ ⟨rfl, rfl⟩ ⟨by decide, by decide⟩ rfl (Nat.le_of_ble_eq_true rfl) dX12_ofDoor_68 (fun r u hp => ?_)
      obtain ⟨rfl, hu⟩ := hp
      rw [hu]
      refine r_if_eq (tgt := 83) hc dX12_ofDoor_71 (by decide) (bI_0 _) (fun c_71 => ?_) (fun c_71 => ?_)
      ·
        have c_71 := of_decide_eq_false c_71
        refine r_bipush (v := zI (-2)) hc dX12_ofDoor_83 rfl ?_
        exact hR _ _ ⟨(by refine congrArg zI ?_; unfold sOfDoor; rw [if_pos (by omega), if_neg (by omega), if_neg (by omega), if_neg (by omega), if_neg (by omega), if_neg (by omega)]), rfl⟩ rfl _ _ dX12_ofDoor_85
      ·
        have c_71 := bnf c_71
        have c_71 := of_decide_eq_true c_71
        obtain ⟨W, rfl⟩ := Int.eq_ofNat_of_zero_le (show 0 ≤ w by omega)
        rw [← nz W]
        refine r_aload_n hc dX12_ofDoor_74 rfl ?_
        refine r_iload_n hc dX12_ofDoor_75 rfl ?_
        refine r_iload_n hc dX12_ofDoor_76 rfl ?_
        refine cl_X12_67 (As := [.int (nI D), .int (nI W)]) hc (c_X12_ofLock hM hv (d := D) (w := W) (by omega) (by omega)) (MS0 hM) rfl ⟨by decide, by decide⟩ ⟨rfl, rfl⟩ ⟨by decide, by decide⟩ rfl (Nat.le_of_ble_eq_true rfl) dX12_ofDoor_77 (fun r u hp => ?_)
        obtain ⟨rfl, hu⟩ := hp
        rw [hu]
        refine r_goto (tgt := 85) hc dX12_ofDoor_80 (by decide) ?_
        exact hR _ _ ⟨(by rw [nz]; refine congrArg zI ?_; unfold sOfDoor; simp only [Int.toNat_natCast]; rw [if_pos (by omega), if_neg (by omega), if_neg (by omega), if_neg (by omega), if_neg (by omega), if_pos (by omega)]), rfl⟩ rfl _ _ dX12_ofDoor_85
    ·
      refine r_tableIn (off := 29) (tgt := 40) hc dX12_ofDoor_11 (by rw [zI_toInt (by omega) (by omega)]; omega) (by rw [zI_toInt (by omega) (by omega)]; omega) (by rw [zI_toInt (by omega) (by omega), c_11]; rfl) (by decide) ?_
      refine r_aload_n hc dX12_ofDoor_40 rfl ?_
      refine r_iload_n hc dX12_ofDoor_41 rfl ?_
      refine cl_X12_70 (As := [.int (nI D)]) hc (c_X12_lockWeight hM hv (d := D) (by omega) (by omega) (by omega)) (MS0 hM) rfl ⟨by decide, by decide⟩ ⟨rfl, rfl⟩ ⟨by decide, by decide⟩ rfl (Nat.le_of_ble_eq_true rfl) dX12_ofDoor_42 (fun r u hp => ?_)
      obtain ⟨rfl, hu⟩ := hp
      rw [hu]
      exact hR _ _ ⟨(by rw [nz]; refine congrArg zI ?_; unfold sOfDoor; rw [if_pos (by omega), c_11]; rfl), rfl⟩ rfl _ _ dX12_ofDoor_45
    ·
      refine r_tableIn (off := 35) (tgt := 46) hc dX12_ofDoor_11 (by rw [zI_toInt (by omega) (by omega)]; omega) (by rw [zI_toInt (by omega) (by omega)]; omega) (by rw [zI_toInt (by omega) (by omega), c_11]; rfl) (by decide) ?_
      refine r_aload_n hc dX12_ofDoor_46 rfl ?_
      refine r_iload_n hc dX12_ofDoor_47 rfl ?_
      refine r_iconst (v := nI 4) hc dX12_ofDoor_48 rfl ?_
      refine cl_X12_67 (As := [.int (nI D), .int (nI 4)]) hc (c_X12_ofLock hM hv (d := D) (w := 4) (by omega) (by omega)) (MS0 hM) rfl ⟨by decide, by decide⟩ ⟨rfl, rfl⟩ ⟨by decide, by decide⟩ rfl (Nat.le_of_ble_eq_true rfl) dX12_ofDoor_49 (fun r u hp => ?_)
      obtain ⟨rfl, hu⟩ := hp
      rw [hu]
      exact hR _ _ ⟨(by rw [nz]; refine congrArg zI ?_; unfold sOfDoor; rw [if_pos (by omega), c_11]; rfl), rfl⟩ rfl _ _ dX12_ofDoor_52
    ·
      refine r_tableIn (off := 42) (tgt := 53) hc dX12_ofDoor_11 (by rw [zI_toInt (by omega) (by omega)]; omega) (by rw [zI_toInt (by omega) (by omega)]; omega) (by rw [zI_toInt (by omega) (by omega), c_11]; rfl) (by decide) ?_
      refine r_aload_n hc dX12_ofDoor_53 rfl ?_
      refine r_iload_n hc dX12_ofDoor_54 rfl ?_
      refine cl_X12_145 (As := [.int (nI D)]) hc (c_X12_keysFor hM hv (d := D) (by omega) (by omega) (by omega) (by omega) hcu hwh) (MS0 hM) rfl ⟨by decide, by decide⟩ ⟨rfl, rfl⟩ ⟨by decide, by decide⟩ rfl (Nat.le_of_ble_eq_true rfl) dX12_ofDoor_55 (fun r u hp => ?_)
      obtain ⟨rfl, hu⟩ := hp
      rw [hu]
      exact hR _ _ ⟨(by rw [nz]; refine congrArg zI ?_; unfold sOfDoor; rw [if_pos (by omega), c_11]; rfl), rfl⟩ rfl _ _ dX12_ofDoor_58
    ·
      refine r_tableIn (off := 48) (tgt := 59) hc dX12_ofDoor_11 (by rw [zI_toInt (by omega) (by omega)]; omega) (by rw [zI_toInt (by omega) (by omega)]; omega) (by rw [zI_toInt (by omega) (by omega), c_11]; rfl) (by decide) ?_
      refine r_aload_n hc dX12_ofDoor_59 rfl ?_
      refine r_iload_n hc dX12_ofDoor_60 rfl ?_
      refine cl_X12_122 (As := [.int (nI D)]) hc (c_X12_placeOf hM hv (d := D) (by omega) (by omega) hpl) (MS0 hM) rfl ⟨by decide, by decide⟩ ⟨rfl, rfl⟩ ⟨by decide, by decide⟩ rfl (Nat.le_of_ble_eq_true rfl) dX12_ofDoor_61 (fun r u hp => ?_)
      obtain ⟨rfl, hu⟩ := hp
      rw [hu]
      exact hR _ _ ⟨(by refine congrArg zI ?_; unfold sOfDoor; rw [if_pos (by omega), c_11]; rfl), rfl⟩ rfl _ _ dX12_ofDoor_64
  ·
    have c_5 := of_decide_eq_false c_5
    refine r_iconst (v := zI (-1)) hc dX12_ofDoor_8 rfl ?_
    exact hR _ _ ⟨(by refine congrArg zI ?_; unfold sOfDoor; rw [if_neg (by omega)]), rfl⟩ rfl _ _ dX12_ofDoor_9
set_option maxRecDepth 100000 in
set_option maxHeartbeats 4000000 in
theorem c_X12_ofKey {Ω : OmT} {z : Nat} {sh : Nat → Option Kd} {σ : Nat → Nat → Int32} {ρ : Nat → Nat → Option Nat} {M : Nat} {v : Nat → Nat} (hM : MSh sh ρ M) (hv : rowAt σ (M + 1) 170 v) (hok : okR v) (hbx : v 7 ≤ 1000000000) {k w : Int} (hk0 : -2147483648 ≤ k ∧ k < 2147483648) (hw0 : -2147483648 ≤ w ∧ w < 2147483648) : CtI Ω yX12_ofKey cX12_ofKey 3 .int rm_X12_ofKey [.ref M, .int (zI k), .int (zI w)] (z, sh, σ, ρ) (fun r u => r = zI (sOfKey v k w) ∧ u = (z, sh, σ, ρ)) := by
  have hok1 := hok
  obtain ⟨⟨h01, h02⟩, hl1, ⟨h21, h22⟩, h3, h4, h5, h9, hdo, hke, hpn, hpd, htc⟩ := hok1
  have hdr : ∀ d, d < v 4 → v (20 + 6 * d + 2) < 10000 ∧ v (20 + 6 * d + 3) < 10000 := fun d hd => ⟨(hdo d hd).2.2.1, (hdo d hd).2.2.2⟩
  have hcu : ∀ k, k < v 5 → v (80 + 4 * k) < 10000 := fun k hk => (hke k hk).1
  have hwh : ∀ k, k < v 5 → v (80 + 4 * k + 2) ≤ 9 := fun k hk => (hke k hk).2.2
  have hky : ∀ k, k < v 5 → v (80 + 4 * k) < 10000 ∧ v (80 + 4 * k + 2) ≤ 9 ∧ 40 ≤ v (80 + 4 * k + 1) ∧ v (80 + 4 * k + 1) ≤ 90 := fun k hk => ⟨(hke k hk).1, (hke k hk).2.2, (hke k hk).2.1⟩
  have hpl : ∀ p, p < v 9 → v (150 + 3 * p) < 10 := fun p hp => by have := (hpn p hp).1; omega
  refine CtI.enter (by decide) (Nat.le_of_ble_eq_true rfl) (fun Φ hc hR => ?_)
  show Vw Ω Φ (z, sh, σ, ρ) (0, 0) 0 [(0, .ref M), (1, .int (zI k)), (2, .int (zI w))] []
  refine r_aload_n hc dX12_ofKey_0 rfl ?_
  refine r_iload_n hc dX12_ofKey_1 rfl ?_
  refine cl_X12_99 (As := [.int (zI k)]) hc (c_X12_isKey hM hv (x := k) (by omega) (by omega)) (MS0 hM) rfl ⟨by decide, by decide⟩ ⟨rfl, rfl⟩ ⟨by decide, by decide⟩ rfl (Nat.le_of_ble_eq_true rfl) dX12_ofKey_2 (fun r u hp => ?_)
  obtain ⟨rfl, hu⟩ := hp
  rw [hu]
  refine r_if_ne (tgt := 10) hc dX12_ofKey_5 (by decide) (bI_0 _) (fun c_5 => ?_) (fun c_5 => ?_)
  ·
    have c_5 := bnf c_5
    have c_5 := of_decide_eq_true c_5
    obtain ⟨K, rfl⟩ := Int.eq_ofNat_of_zero_le (show 0 ≤ k by omega)
    rw [← nz K]
    have hkk := hky K (by omega)
    refine r_iload_n hc dX12_ofKey_10 rfl ?_
    refine r_if_ne (tgt := 22) hc dX12_ofKey_11 (by decide) (e0_Z (by omega)) (fun c_11 => ?_) (fun c_11 => ?_)
    ·
      refine r_iload_n hc dX12_ofKey_22 rfl ?_
      refine r_iconst (v := nI 1) hc dX12_ofKey_23 rfl ?_
      refine r_icmp_ne (tgt := 35) hc dX12_ofKey_24 (by decide) (eq_ZN (by omega) (by omega)) (fun c_24 => ?_) (fun c_24 => ?_)
      ·
        refine r_iload_n hc dX12_ofKey_35 rfl ?_
        refine r_iconst (v := nI 2) hc dX12_ofKey_36 rfl ?_
        refine r_icmp_ne (tgt := 48) hc dX12_ofKey_37 (by decide) (eq_ZN (by omega) (by omega)) (fun c_37 => ?_) (fun c_37 => ?_)
        ·
          refine r_iload_n hc dX12_ofKey_48 rfl ?_
          refine r_iconst (v := nI 3) hc dX12_ofKey_49 rfl ?_
          refine r_icmp_ne (tgt := 61) hc dX12_ofKey_50 (by decide) (eq_ZN (by omega) (by omega)) (fun c_50 => ?_) (fun c_50 => ?_)
          ·
            refine r_bipush (v := zI (-2)) hc dX12_ofKey_61 rfl ?_
            exact hR _ _ ⟨(by refine congrArg zI ?_; unfold sOfKey; simp only [Int.toNat_natCast]; rw [if_pos (by omega), if_neg (by omega), if_neg (by omega), if_neg (by omega), if_neg (by omega)]), rfl⟩ rfl _ _ dX12_ofKey_63
          ·
            refine r_aload_n hc dX12_ofKey_53 rfl ?_
            refine r_iload_n hc dX12_ofKey_54 rfl ?_
            refine cl_X12_148 (As := [.int (nI K)]) hc (c_X12_doorsOf hM hv (k1 := K) (by omega) (by omega) (by omega) (by omega) hdr) (MS0 hM) rfl ⟨by decide, by decide⟩ ⟨rfl, rfl⟩ ⟨by decide, by decide⟩ rfl (Nat.le_of_ble_eq_true rfl) dX12_ofKey_55 (fun r u hp => ?_)
            obtain ⟨rfl, hu⟩ := hp
            rw [hu]
            refine r_goto (tgt := 63) hc dX12_ofKey_58 (by decide) ?_
            exact hR _ _ ⟨(by rw [nz]; refine congrArg zI ?_; unfold sOfKey; simp only [Int.toNat_natCast]; rw [if_pos (by omega), if_neg (by omega), if_neg (by omega), if_neg (by omega), if_pos (by omega)]), rfl⟩ rfl _ _ dX12_ofKey_63
        ·
          refine r_aload_n hc dX12_ofKey_40 rfl ?_
          refine r_iload_n hc dX12_ofKey_41 rfl ?_
          refine cl_X12_87 (As := [.int (nI K)]) hc (c_X12_whereIs hM hv (k := K) (by omega)) (MS0 hM) rfl ⟨by decide, by decide⟩ ⟨rfl, rfl⟩ ⟨by decide, by decide⟩ rfl (Nat.le_of_ble_eq_true rfl) dX12_ofKey_42 (fun r u hp => ?_)
          obtain ⟨rfl, hu⟩ := hp
          rw [hu]
          refine r_goto (tgt := 63) hc dX12_ofKey_45 (by decide) ?_
          exact hR _ _ ⟨(by rw [nz]; refine congrArg zI ?_; unfold sOfKey; simp only [Int.toNat_natCast]; rw [if_pos (by omega), if_neg (by omega), if_neg (by omega), if_pos (by omega)]), rfl⟩ rfl _ _ dX12_ofKey_63
      ·
        refine r_aload_n hc dX12_ofKey_27 rfl ?_
        refine r_iload_n hc dX12_ofKey_28 rfl ?_
        refine cl_X12_102 (As := [.int (nI K)]) hc (c_X12_keyWeight hM hv (k := K) (by omega) (by omega) (by omega) (by omega)) (MS0 hM) rfl ⟨by decide, by decide⟩ ⟨rfl, rfl⟩ ⟨by decide, by decide⟩ rfl (Nat.le_of_ble_eq_true rfl) dX12_ofKey_29 (fun r u hp => ?_)
        obtain ⟨rfl, hu⟩ := hp
        rw [hu]
        refine r_goto (tgt := 63) hc dX12_ofKey_32 (by decide) ?_
        exact hR _ _ ⟨(by rw [nz]; refine congrArg zI ?_; unfold sOfKey; simp only [Int.toNat_natCast]; rw [if_pos (by omega), if_neg (by omega), if_pos (by omega)]), rfl⟩ rfl _ _ dX12_ofKey_63
    ·
      refine r_aload_n hc dX12_ofKey_14 rfl ?_
      refine r_iload_n hc dX12_ofKey_15 rfl ?_
      refine cl_X12_90 (As := [.int (nI K)]) hc (c_X12_cutsOf hM hv (k := K) (by omega)) (MS0 hM) rfl ⟨by decide, by decide⟩ ⟨rfl, rfl⟩ ⟨by decide, by decide⟩ rfl (Nat.le_of_ble_eq_true rfl) dX12_ofKey_16 (fun r u hp => ?_)
      obtain ⟨rfl, hu⟩ := hp
      rw [hu]
      refine r_goto (tgt := 63) hc dX12_ofKey_19 (by decide) ?_
      exact hR _ _ ⟨(by rw [nz]; refine congrArg zI ?_; unfold sOfKey; simp only [Int.toNat_natCast]; rw [if_pos (by omega), if_pos (by omega)]), rfl⟩ rfl _ _ dX12_ofKey_63
  ·
    have c_5 := of_decide_eq_false c_5
    refine r_iconst (v := zI (-1)) hc dX12_ofKey_8 rfl ?_
    exact hR _ _ ⟨(by refine congrArg zI ?_; unfold sOfKey; rw [if_neg (by omega)]), rfl⟩ rfl _ _ dX12_ofKey_9
def sCount (v : Nat → Nat) (ln nu : Nat) (w : Int) : Int := if w = 11 then ((ln : Nat) : Int) else if w = 12 then ((nu : Nat) : Int) else sOfAll v w
set_option maxRecDepth 100000 in
set_option maxHeartbeats 4000000 in
theorem c_X12_count {Ω : OmT} {z : Nat} {sh : Nat → Option Kd} {σ : Nat → Nat → Int32} {ρ : Nat → Nat → Option Nat} {M : Nat} {v : Nat → Nat} (hM : MSh sh ρ M) (hv : rowAt σ (M + 1) 170 v) (hok : okR v) (hbx : v 7 ≤ 1000000000) {ln nu : Nat} (hln : σ M 6 = nI ln) (hnu : σ M 2 = nI nu) {w : Int} (hw0 : -2147483648 ≤ w ∧ w < 2147483648) : CtI Ω yX12_count cX12_count 2 .int rm_X12_count [.ref M, .int (zI w)] (z, sh, σ, ρ) (fun r u => r = zI (sCount v ln nu w) ∧ u = (z, sh, σ, ρ)) := by
  have hok1 := hok
  obtain ⟨⟨h01, h02⟩, hl1, ⟨h21, h22⟩, h3, h4, h5, h9, hdo, hke, hpn, hpd, htc⟩ := hok1
  have hdr : ∀ d, d < v 4 → v (20 + 6 * d + 2) < 10000 ∧ v (20 + 6 * d + 3) < 10000 := fun d hd => ⟨(hdo d hd).2.2.1, (hdo d hd).2.2.2⟩
  have hcu : ∀ k, k < v 5 → v (80 + 4 * k) < 10000 := fun k hk => (hke k hk).1
  have hwh : ∀ k, k < v 5 → v (80 + 4 * k + 2) ≤ 9 := fun k hk => (hke k hk).2.2
  have hky : ∀ k, k < v 5 → v (80 + 4 * k) < 10000 ∧ v (80 + 4 * k + 2) ≤ 9 ∧ 40 ≤ v (80 + 4 * k + 1) ∧ v (80 + 4 * k + 1) ≤ 90 := fun k hk => ⟨(hke k hk).1, (hke k hk).2.2, (hke k hk).2.1⟩
  have hpl : ∀ p, p < v 9 → v (150 + 3 * p) < 10 := fun p hp => by have := (hpn p hp).1; omega
  refine CtI.enter (by decide) (Nat.le_of_ble_eq_true rfl) (fun Φ hc hR => ?_)
  show Vw Ω Φ (z, sh, σ, ρ) (0, 0) 0 [(0, .ref M), (1, .int (zI w))] []
  refine r_iload_n hc dX12_count_0 rfl ?_
  refine r_bipush (v := nI 13) hc dX12_count_1 rfl ?_
  refine r_bipush (v := nI 15) hc dX12_count_3 rfl ?_
  refine cl_X12_41 (As := [.int (zI w), .int (nI 13), .int (nI 15)]) hc (by simp only [nz]; exact c_X12_in (by omega) (by omega) (by omega)) rfl ⟨by decide, by decide⟩ ⟨rfl, rfl⟩ ⟨by decide, by decide⟩ rfl (Nat.le_of_ble_eq_true rfl) dX12_count_5 (fun r u hp => ?_)
  obtain ⟨rfl, hu⟩ := hp
  rw [hu]
  refine r_if_eq (tgt := 21) hc dX12_count_8 (by decide) (bI_0 _) (fun c_8 => ?_) (fun c_8 => ?_)
  ·
    have c_8 := of_decide_eq_false c_8
    refine r_iload_n hc dX12_count_21 rfl ?_
    rcases (show w < 0 ∨ 11 < w ∨ w = 0 ∨ w = 1 ∨ w = 2 ∨ w = 3 ∨ w = 4 ∨ w = 5 ∨ w = 6 ∨ w = 7 ∨ w = 8 ∨ w = 9 ∨ w = 10 ∨ w = 11 by omega) with c_22 | c_22 | c_22 | c_22 | c_22 | c_22 | c_22 | c_22 | c_22 | c_22 | c_22 | c_22 | c_22 | c_22
    ·
      refine r_tableOut (tgt := 148) hc dX12_count_22 (by rw [zI_toInt (by omega) (by omega)]; omega) (by decide) ?_
      refine r_iload_n hc dX12_count_148 rfl ?_
      refine r_bipush (v := nI 12) hc dX12_count_149 rfl ?_
      refine r_icmp_ne (tgt := 161) hc dX12_count_151 (by decide) (eq_ZN (by omega) (by omega)) (fun c_151 => ?_) (fun c_151 => ?_)
      ·
        refine r_bipush (v := zI (-2)) hc dX12_count_161 rfl ?_
        exact hR _ _ ⟨(by refine congrArg zI ?_; unfold sCount sOfAll; rw [if_neg (by omega), if_neg (by omega), if_neg (by omega), if_neg (by omega), if_neg (by omega), if_neg (by omega), if_neg (by omega), if_neg (by omega), if_neg (by omega), if_neg (by omega), if_neg (by omega), if_neg (by omega), if_neg (by omega), if_neg (by omega), if_neg (by omega), if_neg (by omega)]), rfl⟩ rfl _ _ dX12_count_163
      ·
        refine r_aload_n hc dX12_count_154 rfl ?_
        refine gf_X12_49 (x := nI nu) hc (MS0 hM) hnu dX12_count_155 ?_
        refine r_goto (tgt := 163) hc dX12_count_158 (by decide) ?_
        exact hR _ _ ⟨(by rw [nz]; refine congrArg zI ?_; unfold sCount; rw [if_neg (by omega), if_pos (by omega)]), rfl⟩ rfl _ _ dX12_count_163
    ·
      refine r_tableOut (tgt := 148) hc dX12_count_22 (by rw [zI_toInt (by omega) (by omega)]; omega) (by decide) ?_
      refine r_iload_n hc dX12_count_148 rfl ?_
      refine r_bipush (v := nI 12) hc dX12_count_149 rfl ?_
      refine r_icmp_ne (tgt := 161) hc dX12_count_151 (by decide) (eq_ZN (by omega) (by omega)) (fun c_151 => ?_) (fun c_151 => ?_)
      ·
        refine r_bipush (v := zI (-2)) hc dX12_count_161 rfl ?_
        exact hR _ _ ⟨(by refine congrArg zI ?_; unfold sCount sOfAll; rw [if_neg (by omega), if_neg (by omega), if_neg (by omega), if_neg (by omega), if_neg (by omega), if_neg (by omega), if_neg (by omega), if_neg (by omega), if_neg (by omega), if_neg (by omega), if_neg (by omega), if_neg (by omega), if_neg (by omega), if_neg (by omega), if_neg (by omega), if_neg (by omega)]), rfl⟩ rfl _ _ dX12_count_163
      ·
        refine r_aload_n hc dX12_count_154 rfl ?_
        refine gf_X12_49 (x := nI nu) hc (MS0 hM) hnu dX12_count_155 ?_
        refine r_goto (tgt := 163) hc dX12_count_158 (by decide) ?_
        exact hR _ _ ⟨(by rw [nz]; refine congrArg zI ?_; unfold sCount; rw [if_neg (by omega), if_pos (by omega)]), rfl⟩ rfl _ _ dX12_count_163
    ·
      refine r_tableIn (off := 62) (tgt := 84) hc dX12_count_22 (by rw [zI_toInt (by omega) (by omega)]; omega) (by rw [zI_toInt (by omega) (by omega)]; omega) (by rw [zI_toInt (by omega) (by omega), c_22]; rfl) (by decide) ?_
      refine r_aload_n hc dX12_count_84 rfl ?_
      refine gf_X12_7 (q := M + 1) hc (MS0 hM) (MSr hM 0 1 (by decide)) dX12_count_85 ?_
      refine r_iconst (v := nI 3) hc dX12_count_88 rfl ?_
      refine r_iald (x := nI (v 3)) (j := 3) hc (MSa hM 1 0 170 rfl) rfl (by omega) (by decide) (hv _ (by omega)) dX12_count_89 ?_
      exact hR _ _ ⟨(by rw [nz]; refine congrArg zI ?_; rw [c_22]; rfl), rfl⟩ rfl _ _ dX12_count_90
    ·
      refine r_tableIn (off := 69) (tgt := 91) hc dX12_count_22 (by rw [zI_toInt (by omega) (by omega)]; omega) (by rw [zI_toInt (by omega) (by omega)]; omega) (by rw [zI_toInt (by omega) (by omega), c_22]; rfl) (by decide) ?_
      refine r_aload_n hc dX12_count_91 rfl ?_
      refine r_bipush (v := nI 8) hc dX12_count_92 rfl ?_
      refine cl_X12_105 (As := [.int (nI 8)]) hc (c_X12_keysIn hM hv (r := 8) (by omega) (by omega) hwh) (MS0 hM) rfl ⟨by decide, by decide⟩ ⟨rfl, rfl⟩ ⟨by decide, by decide⟩ rfl (Nat.le_of_ble_eq_true rfl) dX12_count_94 (fun r u hp => ?_)
      obtain ⟨rfl, hu⟩ := hp
      rw [hu]
      exact hR _ _ ⟨(by rw [nz]; refine congrArg zI ?_; rw [c_22]; rfl), rfl⟩ rfl _ _ dX12_count_97
    ·
      refine r_tableIn (off := 76) (tgt := 98) hc dX12_count_22 (by rw [zI_toInt (by omega) (by omega)]; omega) (by rw [zI_toInt (by omega) (by omega)]; omega) (by rw [zI_toInt (by omega) (by omega), c_22]; rfl) (by decide) ?_
      refine r_aload_n hc dX12_count_98 rfl ?_
      refine gf_X12_7 (q := M + 1) hc (MS0 hM) (MSr hM 0 1 (by decide)) dX12_count_99 ?_
      refine r_iconst (v := nI 4) hc dX12_count_102 rfl ?_
      refine r_iald (x := nI (v 4)) (j := 4) hc (MSa hM 1 0 170 rfl) rfl (by omega) (by decide) (hv _ (by omega)) dX12_count_103 ?_
      exact hR _ _ ⟨(by rw [nz]; refine congrArg zI ?_; rw [c_22]; rfl), rfl⟩ rfl _ _ dX12_count_104
    ·
      refine r_tableIn (off := 83) (tgt := 105) hc dX12_count_22 (by rw [zI_toInt (by omega) (by omega)]; omega) (by rw [zI_toInt (by omega) (by omega)]; omega) (by rw [zI_toInt (by omega) (by omega), c_22]; rfl) (by decide) ?_
      refine r_aload_n hc dX12_count_105 rfl ?_
      refine gf_X12_7 (q := M + 1) hc (MS0 hM) (MSr hM 0 1 (by decide)) dX12_count_106 ?_
      refine r_iconst (v := nI 5) hc dX12_count_109 rfl ?_
      refine r_iald (x := nI (v 5)) (j := 5) hc (MSa hM 1 0 170 rfl) rfl (by omega) (by decide) (hv _ (by omega)) dX12_count_110 ?_
      exact hR _ _ ⟨(by rw [nz]; refine congrArg zI ?_; rw [c_22]; rfl), rfl⟩ rfl _ _ dX12_count_111
    ·
      refine r_tableIn (off := 90) (tgt := 112) hc dX12_count_22 (by rw [zI_toInt (by omega) (by omega)]; omega) (by rw [zI_toInt (by omega) (by omega)]; omega) (by rw [zI_toInt (by omega) (by omega), c_22]; rfl) (by decide) ?_
      refine r_aload_n hc dX12_count_112 rfl ?_
      refine gf_X12_7 (q := M + 1) hc (MS0 hM) (MSr hM 0 1 (by decide)) dX12_count_113 ?_
      refine r_bipush (v := nI 6) hc dX12_count_116 rfl ?_
      refine r_iald (x := nI (v 6)) (j := 6) hc (MSa hM 1 0 170 rfl) rfl (by omega) (by decide) (hv _ (by omega)) dX12_count_118 ?_
      exact hR _ _ ⟨(by rw [nz]; refine congrArg zI ?_; rw [c_22]; rfl), rfl⟩ rfl _ _ dX12_count_119
    ·
      refine r_tableIn (off := 98) (tgt := 120) hc dX12_count_22 (by rw [zI_toInt (by omega) (by omega)]; omega) (by rw [zI_toInt (by omega) (by omega)]; omega) (by rw [zI_toInt (by omega) (by omega), c_22]; rfl) (by decide) ?_
      refine r_aload_n hc dX12_count_120 rfl ?_
      refine cl_X12_151 (As := []) hc (c_X12_inLocks hM hv (by omega) hdr) (MS0 hM) rfl ⟨by decide, by decide⟩ ⟨rfl, rfl⟩ ⟨by decide, by decide⟩ rfl (Nat.le_of_ble_eq_true rfl) dX12_count_121 (fun r u hp => ?_)
      obtain ⟨rfl, hu⟩ := hp
      rw [hu]
      exact hR _ _ ⟨(by rw [nz]; refine congrArg zI ?_; rw [c_22]; rfl), rfl⟩ rfl _ _ dX12_count_124
    ·
      refine r_tableIn (off := 103) (tgt := 125) hc dX12_count_22 (by rw [zI_toInt (by omega) (by omega)]; omega) (by rw [zI_toInt (by omega) (by omega)]; omega) (by rw [zI_toInt (by omega) (by omega), c_22]; rfl) (by decide) ?_
      refine r_aload_n hc dX12_count_125 rfl ?_
      refine cl_X12_154 (As := []) hc (c_X12_inKeys hM hv (by omega) hky) (MS0 hM) rfl ⟨by decide, by decide⟩ ⟨rfl, rfl⟩ ⟨by decide, by decide⟩ rfl (Nat.le_of_ble_eq_true rfl) dX12_count_126 (fun r u hp => ?_)
      obtain ⟨rfl, hu⟩ := hp
      rw [hu]
      exact hR _ _ ⟨(by rw [nz]; refine congrArg zI ?_; rw [c_22]; rfl), rfl⟩ rfl _ _ dX12_count_129
    ·
      refine r_tableIn (off := 108) (tgt := 130) hc dX12_count_22 (by rw [zI_toInt (by omega) (by omega)]; omega) (by rw [zI_toInt (by omega) (by omega)]; omega) (by rw [zI_toInt (by omega) (by omega), c_22]; rfl) (by decide) ?_
      refine r_aload_n hc dX12_count_130 rfl ?_
      refine gf_X12_7 (q := M + 1) hc (MS0 hM) (MSr hM 0 1 (by decide)) dX12_count_131 ?_
      refine r_bipush (v := nI 7) hc dX12_count_134 rfl ?_
      refine r_iload_n hc dX12_count_136 rfl ?_
      refine r_iadd (v := nI (7 + 7)) hc dX12_count_137 (by rw [c_22]; rfl) ?_
      refine r_bipush (v := nI 7) hc dX12_count_138 rfl ?_
      refine r_isub (v := nI 7) hc dX12_count_140 (by decide) ?_
      refine r_iald (x := nI (v 7)) (j := 7) hc (MSa hM 1 0 170 rfl) rfl (by omega) (by decide) (hv _ (by omega)) dX12_count_141 ?_
      exact hR _ _ ⟨(by rw [nz]; refine congrArg zI ?_; rw [c_22]; rfl), rfl⟩ rfl _ _ dX12_count_142
    ·
      refine r_tableIn (off := 108) (tgt := 130) hc dX12_count_22 (by rw [zI_toInt (by omega) (by omega)]; omega) (by rw [zI_toInt (by omega) (by omega)]; omega) (by rw [zI_toInt (by omega) (by omega), c_22]; rfl) (by decide) ?_
      refine r_aload_n hc dX12_count_130 rfl ?_
      refine gf_X12_7 (q := M + 1) hc (MS0 hM) (MSr hM 0 1 (by decide)) dX12_count_131 ?_
      refine r_bipush (v := nI 7) hc dX12_count_134 rfl ?_
      refine r_iload_n hc dX12_count_136 rfl ?_
      refine r_iadd (v := nI (7 + 8)) hc dX12_count_137 (by rw [c_22]; rfl) ?_
      refine r_bipush (v := nI 7) hc dX12_count_138 rfl ?_
      refine r_isub (v := nI 8) hc dX12_count_140 (by decide) ?_
      refine r_iald (x := nI (v 8)) (j := 8) hc (MSa hM 1 0 170 rfl) rfl (by omega) (by decide) (hv _ (by omega)) dX12_count_141 ?_
      exact hR _ _ ⟨(by rw [nz]; refine congrArg zI ?_; rw [c_22]; rfl), rfl⟩ rfl _ _ dX12_count_142
    ·
      refine r_tableIn (off := 108) (tgt := 130) hc dX12_count_22 (by rw [zI_toInt (by omega) (by omega)]; omega) (by rw [zI_toInt (by omega) (by omega)]; omega) (by rw [zI_toInt (by omega) (by omega), c_22]; rfl) (by decide) ?_
      refine r_aload_n hc dX12_count_130 rfl ?_
      refine gf_X12_7 (q := M + 1) hc (MS0 hM) (MSr hM 0 1 (by decide)) dX12_count_131 ?_
      refine r_bipush (v := nI 7) hc dX12_count_134 rfl ?_
      refine r_iload_n hc dX12_count_136 rfl ?_
      refine r_iadd (v := nI (7 + 9)) hc dX12_count_137 (by rw [c_22]; rfl) ?_
      refine r_bipush (v := nI 7) hc dX12_count_138 rfl ?_
      refine r_isub (v := nI 9) hc dX12_count_140 (by decide) ?_
      refine r_iald (x := nI (v 9)) (j := 9) hc (MSa hM 1 0 170 rfl) rfl (by omega) (by decide) (hv _ (by omega)) dX12_count_141 ?_
      exact hR _ _ ⟨(by rw [nz]; refine congrArg zI ?_; rw [c_22]; rfl), rfl⟩ rfl _ _ dX12_count_142
    ·
      refine r_tableIn (off := 108) (tgt := 130) hc dX12_count_22 (by rw [zI_toInt (by omega) (by omega)]; omega) (by rw [zI_toInt (by omega) (by omega)]; omega) (by rw [zI_toInt (by omega) (by omega), c_22]; rfl) (by decide) ?_
      refine r_aload_n hc dX12_count_130 rfl ?_
      refine gf_X12_7 (q := M + 1) hc (MS0 hM) (MSr hM 0 1 (by decide)) dX12_count_131 ?_
      refine r_bipush (v := nI 7) hc dX12_count_134 rfl ?_
      refine r_iload_n hc dX12_count_136 rfl ?_
      refine r_iadd (v := nI (7 + 10)) hc dX12_count_137 (by rw [c_22]; rfl) ?_
      refine r_bipush (v := nI 7) hc dX12_count_138 rfl ?_
      refine r_isub (v := nI 10) hc dX12_count_140 (by decide) ?_
      refine r_iald (x := nI (v 10)) (j := 10) hc (MSa hM 1 0 170 rfl) rfl (by omega) (by decide) (hv _ (by omega)) dX12_count_141 ?_
      exact hR _ _ ⟨(by rw [nz]; refine congrArg zI ?_; rw [c_22]; rfl), rfl⟩ rfl _ _ dX12_count_142
    ·
      refine r_tableIn (off := 121) (tgt := 143) hc dX12_count_22 (by rw [zI_toInt (by omega) (by omega)]; omega) (by rw [zI_toInt (by omega) (by omega)]; omega) (by rw [zI_toInt (by omega) (by omega), c_22]; rfl) (by decide) ?_
      refine r_aload_n hc dX12_count_143 rfl ?_
      refine gf_X12_157 (x := nI ln) hc (MS0 hM) hln dX12_count_144 ?_
      exact hR _ _ ⟨(by rw [nz]; refine congrArg zI ?_; rw [c_22]; rfl), rfl⟩ rfl _ _ dX12_count_147
  ·
    have c_8 := bnf c_8
    have c_8 := of_decide_eq_true c_8
    obtain ⟨W, rfl⟩ := Int.eq_ofNat_of_zero_le (show 0 ≤ w by omega)
    rw [← nz W]
    refine r_aload_n hc dX12_count_11 rfl ?_
    refine gf_X12_7 (q := M + 1) hc (MS0 hM) (MSr hM 0 1 (by decide)) dX12_count_12 ?_
    refine r_iload_n hc dX12_count_15 rfl ?_
    refine r_bipush (v := nI 13) hc dX12_count_16 rfl ?_
    refine r_isub (v := nI (W - 13)) hc dX12_count_18 (sb_N _ _ (by omega)) ?_
    refine r_iald (x := nI (v (W - 13))) (j := W - 13) hc (MSa hM 1 0 170 rfl) rfl (by omega) (by decide) (hv _ (by omega)) dX12_count_19 ?_
    rcases (show W = 13 ∨ W = 14 ∨ W = 15 by omega) with rfl | rfl | rfl <;> exact hR _ _ ⟨by rw [nz]; rfl, rfl⟩ rfl _ _ dX12_count_20
set_option maxRecDepth 100000 in
set_option maxHeartbeats 4000000 in
theorem c_X12_undo {Ω : OmT} {z : Nat} {sh : Nat → Option Kd} {σ : Nat → Nat → Int32} {ρ : Nat → Nat → Option Nat} {M : Nat} (hM : MSh sh ρ M)  {nu : Nat} {hf : Nat → Nat} (hH : HstP σ M (nu, hf)) (hnu : nu ≤ 6)  : CtI Ω yX12_undo cX12_undo 2 .int rm_X12_undo [.ref M] (z, sh, σ, ρ) (fun r u => ∃ τ : Nat → Nat → Int32, u = (z, sh, τ, ρ) ∧ ((nu = 0 ∧ r = zI (-5) ∧ τ = σ) ∨ (0 < nu ∧ r = nI (nu - 1) ∧ τ M 2 = nI (nu - 1) ∧ rowAt τ (M + 1) 170 (rwF (nu - 1) hf) ∧ (∀ q, q ≠ M → q ≠ M + 1 → τ q = σ q) ∧ ∀ k, k ≠ 2 → τ M k = σ M k))) := by
  obtain ⟨h2, hh0⟩ := hH
  have h2 : σ M 2 = nI nu := h2
  have hh0 : ∀ j, j < nu * 170 → σ (M + 2) j = nI (hf j) := hh0
  refine CtI.enter (by decide) (Nat.le_of_ble_eq_true rfl) (fun Φ hc hR => ?_)
  show Vw Ω Φ (z, sh, σ, ρ) (0, 0) 0 [(0, .ref M)] []
  refine r_aload_n hc dX12_undo_0 rfl ?_
  refine gf_X12_49 (x := nI nu) hc (MS0 hM) h2 dX12_undo_1 ?_
  refine r_if_ne (tgt := 10) hc dX12_undo_4 (by decide) (e0_N (by omega)) (fun c_4 => ?_) (fun c_4 => ?_)
  ·
    refine r_aload_n hc dX12_undo_10 rfl ?_
    refine r_dup hc dX12_undo_11 rfl ?_
    refine gf_X12_49 (x := nI nu) hc (MS0 hM) h2 dX12_undo_12 ?_
    refine r_iconst (v := nI 1) hc dX12_undo_15 rfl ?_
    refine r_isub (v := nI (nu - 1)) hc dX12_undo_16 (sb_N _ _ (by omega)) ?_
    refine pf_X12_49 hc (MS0 hM) dX12_undo_17 ?_
    generalize hσ1 : s2 σ M 2 (nI (nu - 1)) = σ1
    have h2 : σ1 M 2 = nI (nu - 1) := by rw [← hσ1]; exact s2_same _ _ _ _
    refine r_iconst (v := nI 0) hc dX12_undo_20 rfl ?_
    refine r_istore_n (ls' := [(1, .int (nI 0)), (0, .ref M)]) hc dX12_undo_21 (by decide) rfl ?_
    have loop22 : ∀ (n22 : Nat) (τ : Nat → Nat → Int32) (k : Nat), (k ≤ 170) → (rowAt τ (M + 1) k (rwF (nu - 1) hf)) → (τ M 2 = nI (nu - 1)) → (∀ j, j < nu * 170 → τ (M + 2) j = nI (hf j)) → ((∀ q, q ≠ M → q ≠ M + 1 → τ q = σ q) ∧ ∀ k, k ≠ 2 → τ M k = σ M k) → (170 - k) < n22 → Vw Ω Φ (z, sh, τ, ρ) (0, 0) 22 [(0, .ref M), (1, .int (nI k))] [] := by
      intro n22
      induction n22 with
      | zero => intro τ k hk hg h2 hh0 hfr hm; exact absurd hm (Nat.not_lt_zero _)
      | succ n22 ih22 =>
        intro τ k hk hg h2 hh0 hfr hm22
        refine r_iload_n hc dX12_undo_22 rfl ?_
        refine r_sipush (v := nI 170) hc dX12_undo_23 rfl ?_
        refine r_icmp_ge (tgt := 56) hc dX12_undo_26 (by decide) (le_NN (by omega) (by omega)) (fun c_26 => ?_) (fun c_26 => ?_)
        ·
          refine r_aload_n hc dX12_undo_56 rfl ?_
          refine gf_X12_49 (x := nI (nu - 1)) hc (MS0 hM) h2 dX12_undo_57 ?_
          exact hR _ _ ⟨_, rfl, Or.inr ⟨by omega, rfl, h2, (show rowAt τ (M + 1) 170 _ by rw [show 170 = k by omega]; exact hg), hfr⟩⟩ rfl _ _ dX12_undo_60
        ·
          have hrd : τ (M + 2) ((nu - 1) * 170 + k) = nI (rwF (nu - 1) hf k) := hh0 _ (by omega)
          refine r_aload_n hc dX12_undo_29 rfl ?_
          refine gf_X12_7 (q := M + 1) hc (MS0 hM) (MSr hM 0 1 (by decide)) dX12_undo_30 ?_
          refine r_iload_n hc dX12_undo_33 rfl ?_
          refine r_aload_n hc dX12_undo_34 rfl ?_
          refine gf_X12_13 (q := M + 2) hc (MS0 hM) (MSr hM 1 2 (by decide)) dX12_undo_35 ?_
          refine r_aload_n hc dX12_undo_38 rfl ?_
          refine gf_X12_49 (x := nI (nu - 1)) hc (MS0 hM) h2 dX12_undo_39 ?_
          refine r_sipush (v := nI 170) hc dX12_undo_42 rfl ?_
          refine r_imul (v := nI ((nu - 1) * 170)) hc dX12_undo_45 (ml_NN _ _) ?_
          refine r_iload_n hc dX12_undo_46 rfl ?_
          refine r_iadd (v := nI ((nu - 1) * 170 + k)) hc dX12_undo_47 (ad_NN _ _) ?_
          refine r_iald (x := nI (rwF (nu - 1) hf k)) (j := (nu - 1) * 170 + k) hc (MSa hM 2 0 1020 rfl) rfl (by omega) (by decide) hrd dX12_undo_48 ?_
          refine r_iast (j := k) hc (MSa hM 1 0 170 rfl) rfl (by omega) (by decide) dX12_undo_49 ?_
          generalize hσ2 : s2 τ (M + 1) k (nI (rwF (nu - 1) hf k)) = σ2
          have h2 : σ2 M 2 = nI (nu - 1) := by rw [← hσ2]; exact s2_keep h2 (by omega)
          have hrd : σ2 (M + 2) ((nu - 1) * 170 + k) = nI (rwF (nu - 1) hf k) := by rw [← hσ2]; exact s2_keep hrd (by omega)
          refine r_iinc (v := nI (k + 1)) (ls' := [(1, .int (nI (k + 1))), (0, .ref M)]) hc dX12_undo_50 rfl (ad_NN _ 1) (by decide) rfl ?_
          refine r_goto (tgt := 22) hc dX12_undo_53 (by decide) ?_
          refine r_locp [1, 0] (ls' := [(0, .ref M), (1, .int (nI (k + 1)))]) rfl ?_
          exact ih22 σ2 (k + 1) (by omega) (by rw [← hσ2]; exact hg.ext1 _ rfl) h2 (fun j hj => by rw [← hσ2, s2_na (by omega)]; exact hh0 j hj) ⟨fun q q1 q2 => by rw [← hσ2, s2_ne q2]; exact hfr.1 q q1 q2, fun k hk => by rw [← hσ2, s2_na (by omega)]; exact hfr.2 k hk⟩ (by omega)
    refine r_locp [1, 0] (ls' := [(0, .ref M), (1, .int (nI 0))]) rfl ?_
    exact loop22 _ σ1 0 (by omega) rowAt.zero h2 (fun j hj => by rw [← hσ1, s2_na (by omega)]; exact hh0 j hj) ⟨fun q q1 q2 => by rw [← hσ1, s2_ne q1], fun k hk => by rw [← hσ1, s2_nk hk]⟩ (Nat.lt_succ_self _)
  ·
    refine r_bipush (v := zI (-5)) hc dX12_undo_7 rfl ?_
    exact hR _ _ ⟨_, rfl, Or.inl ⟨by omega, rfl, rfl⟩⟩ rfl _ _ dX12_undo_9
set_option maxRecDepth 100000 in
set_option maxHeartbeats 4000000 in
theorem c_X12_save {Ω : OmT} {z : Nat} {sh : Nat → Option Kd} {σ : Nat → Nat → Int32} {ρ : Nat → Nat → Option Nat} {M : Nat} {v : Nat → Nat} (hM : MSh sh ρ M) (hv : rowAt σ (M + 1) 170 v) {sv : Nat → Nat} (hsv : rowAt σ (M + 3) 340 sv) {s : Int} (hs0 : -2147483648 ≤ s ∧ s < 2147483648) : CtI Ω yX12_save cX12_save 3 .int rm_X12_save [.ref M, .int (zI s)] (z, sh, σ, ρ) (fun r u => ∃ τ : Nat → Nat → Int32, u = (z, sh, τ, ρ) ∧ ((¬ (0 ≤ s ∧ s ≤ 1) ∧ r = zI (-2) ∧ τ = σ) ∨ (∃ S : Nat, S ≤ 1 ∧ s = ((S : Nat) : Int) ∧ r = nI (v 3) ∧ rowAt τ (M + 3) 340 (svF S sv v) ∧ τ (M + 4) S = bI true ∧ (∀ i, i ≠ S → τ (M + 4) i = σ (M + 4) i) ∧ ∀ q, q ≠ M + 3 → q ≠ M + 4 → τ q = σ q))) := by
  refine CtI.enter (by decide) (Nat.le_of_ble_eq_true rfl) (fun Φ hc hR => ?_)
  show Vw Ω Φ (z, sh, σ, ρ) (0, 0) 0 [(0, .ref M), (1, .int (zI s))] []
  refine r_iload_n hc dX12_save_0 rfl ?_
  refine r_iconst (v := nI 0) hc dX12_save_1 rfl ?_
  refine r_iconst (v := nI 1) hc dX12_save_2 rfl ?_
  refine cl_X12_41 (As := [.int (zI s), .int (nI 0), .int (nI 1)]) hc (by simp only [nz]; exact c_X12_in (by omega) (by omega) (by omega)) rfl ⟨by decide, by decide⟩ ⟨rfl, rfl⟩ ⟨by decide, by decide⟩ rfl (Nat.le_of_ble_eq_true rfl) dX12_save_3 (fun r u hp => ?_)
  obtain ⟨rfl, hu⟩ := hp
  rw [hu]
  refine r_if_ne (tgt := 12) hc dX12_save_6 (by decide) (bI_0 _) (fun c_6 => ?_) (fun c_6 => ?_)
  ·
    have c_6 := bnf c_6
    have c_6 := of_decide_eq_true c_6
    obtain ⟨S, rfl⟩ := Int.eq_ofNat_of_zero_le (show 0 ≤ s by omega)
    rw [← nz S]
    refine r_iconst (v := nI 0) hc dX12_save_12 rfl ?_
    refine r_istore_n (ls' := [(2, .int (nI 0)), (0, .ref M), (1, .int (nI S))]) hc dX12_save_13 (by decide) rfl ?_
    have loop14 : ∀ (n14 : Nat) (τ : Nat → Nat → Int32) (k : Nat), (k ≤ 170) → (rowAt τ (M + 3) 340 (fun j => if S * 170 ≤ j ∧ j < S * 170 + k then v (j - S * 170) else sv j)) → (rowAt τ (M + 1) 170 v) → (∀ q, q ≠ M + 3 → τ q = σ q) → (170 - k) < n14 → Vw Ω Φ (z, sh, τ, ρ) (0, 0) 14 [(0, .ref M), (1, .int (nI S)), (2, .int (nI k))] [] := by
      intro n14
      induction n14 with
      | zero => intro τ k hk hsv hv hfr hm; exact absurd hm (Nat.not_lt_zero _)
      | succ n14 ih14 =>
        intro τ k hk hsv hv hfr hm14
        have hsv0 := hsv
        generalize hs1 : (fun j => if S * 170 ≤ j ∧ j < S * 170 + k then v (j - S * 170) else sv j) = sv1 at hsv
        refine r_iload_n hc dX12_save_14 rfl ?_
        refine r_sipush (v := nI 170) hc dX12_save_15 rfl ?_
        refine r_icmp_ge (tgt := 45) hc dX12_save_18 (by decide) (le_NN (by omega) (by omega)) (fun c_18 => ?_) (fun c_18 => ?_)
        ·
          have hk1 : k = 170 := by omega
          refine r_aload_n hc dX12_save_45 rfl ?_
          refine gf_X12_19 (q := M + 4) hc (MS0 hM) (MSr hM 4 4 (by decide)) dX12_save_46 ?_
          refine r_iload_n hc dX12_save_49 rfl ?_
          refine r_iconst (v := nI 1) hc dX12_save_50 rfl ?_
          refine r_zast (j := S) hc (MSa hM 4 1 2 rfl) rfl (by omega) (by decide) (by rfl) dX12_save_51 ?_
          generalize hσ1 : s2 τ (M + 4) S (nI 1) = σ1
          have hv : rowAt σ1 (M + 1) 170 v := by rw [← hσ1]; exact hv.keep (by omega) _ _
          have hsv : rowAt σ1 (M + 3) 340 sv1 := by rw [← hσ1]; exact hsv.keep (by omega) _ _
          refine r_aload_n hc dX12_save_52 rfl ?_
          refine gf_X12_7 (q := M + 1) hc (MS0 hM) (MSr hM 0 1 (by decide)) dX12_save_53 ?_
          refine r_iconst (v := nI 3) hc dX12_save_56 rfl ?_
          refine r_iald (x := nI (v 3)) (j := 3) hc (MSa hM 1 0 170 rfl) rfl (by omega) (by decide) (hv _ (by omega)) dX12_save_57 ?_
          exact hR _ _ ⟨_, rfl, Or.inr ⟨S, by omega, rfl, rfl, (show rowAt _ (M + 3) 340 _ from fun j hj => (hsv j hj).trans (congrArg nI (by rw [← hs1, hk1]; rfl))), (by rw [← hσ1]; exact s2_same _ _ _ _), (fun i hi => by rw [← hσ1, s2_nk hi]; exact congrFun (hfr (M + 4) (by omega)) i), fun q q1 q2 => by rw [← hσ1, s2_ne q2]; exact hfr q q1⟩⟩ rfl _ _ dX12_save_58
        ·
          refine r_aload_n hc dX12_save_21 rfl ?_
          refine gf_X12_16 (q := M + 3) hc (MS0 hM) (MSr hM 3 3 (by decide)) dX12_save_22 ?_
          refine r_iload_n hc dX12_save_25 rfl ?_
          refine r_sipush (v := nI 170) hc dX12_save_26 rfl ?_
          refine r_imul (v := nI (S * 170)) hc dX12_save_29 (ml_NN _ _) ?_
          refine r_iload_n hc dX12_save_30 rfl ?_
          refine r_iadd (v := nI (S * 170 + k)) hc dX12_save_31 (ad_NN _ _) ?_
          refine r_aload_n hc dX12_save_32 rfl ?_
          refine gf_X12_7 (q := M + 1) hc (MS0 hM) (MSr hM 0 1 (by decide)) dX12_save_33 ?_
          refine r_iload_n hc dX12_save_36 rfl ?_
          refine r_iald (x := nI (v k)) (j := k) hc (MSa hM 1 0 170 rfl) rfl (by omega) (by decide) (hv _ (by omega)) dX12_save_37 ?_
          refine r_iast (j := S * 170 + k) hc (MSa hM 3 0 340 rfl) rfl (by omega) (by decide) dX12_save_38 ?_
          generalize hσ2 : s2 τ (M + 3) (S * 170 + k) (nI (v k)) = σ2
          have hv : rowAt σ2 (M + 1) 170 v := by rw [← hσ2]; exact hv.keep (by omega) _ _
          have hsv : rowAt σ2 (M + 3) 340 (va_up sv1 (S * 170 + k) (v k)) := by rw [← hσ2]; exact hsv.upd _ _
          refine r_iinc (v := nI (k + 1)) (ls' := [(2, .int (nI (k + 1))), (0, .ref M), (1, .int (nI S))]) hc dX12_save_39 rfl (ad_NN _ 1) (by decide) rfl ?_
          refine r_goto (tgt := 14) hc dX12_save_42 (by decide) ?_
          refine r_locp [1, 2, 0] (ls' := [(0, .ref M), (1, .int (nI S)), (2, .int (nI (k + 1)))]) rfl ?_
          exact ih14 σ2 (k + 1) (by omega) (hsv.cong (fun j hj => by rw [← hs1]; unfold va_up; dsimp only; by_cases e : j = S * 170 + k; · { rw [if_pos e, if_pos (by omega), e, Nat.add_sub_cancel_left] }; · { rw [if_neg e]; by_cases e2 : S * 170 ≤ j ∧ j < S * 170 + k; · { rw [if_pos e2, if_pos (by omega)] }; · { rw [if_neg e2, if_neg (by omega)] } })) hv (fun q hq => by rw [← hσ2, s2_ne hq]; exact hfr q hq) (by omega)
    refine r_locp [1, 2, 0] (ls' := [(0, .ref M), (1, .int (nI S)), (2, .int (nI 0))]) rfl ?_
    exact loop14 _ σ 0 (by omega) (hsv.cong (fun j hj => by rw [if_neg (by omega)])) hv (fun _ _ => rfl) (Nat.lt_succ_self _)
  ·
    have c_6 := of_decide_eq_false c_6
    refine r_bipush (v := zI (-2)) hc dX12_save_9 rfl ?_
    exact hR _ _ ⟨_, rfl, Or.inl ⟨by omega, rfl, rfl⟩⟩ rfl _ _ dX12_save_11
set_option maxRecDepth 100000 in
set_option maxHeartbeats 4000000 in
theorem c_X12_restore {Ω : OmT} {z : Nat} {sh : Nat → Option Kd} {σ : Nat → Nat → Int32} {ρ : Nat → Nat → Option Nat} {M : Nat} {v : Nat → Nat} (hM : MSh sh ρ M) (hv : rowAt σ (M + 1) 170 v) {W : Bool} (hW : σ M 7 = bI W) {nu : Nat} {hf : Nat → Nat} (hH : HstP σ M (nu, hf)) (hnu : nu ≤ 6) {sv : Nat → Nat} (hsv : rowAt σ (M + 3) 340 sv) {fl : Nat → Bool} (hfl : ∀ i, i < 2 → σ (M + 4) i = bI (fl i)) {s : Int} (hs0 : -2147483648 ≤ s ∧ s < 2147483648) : CtI Ω yX12_restore cX12_restore 3 .int rm_X12_restore [.ref M, .int (zI s)] (z, sh, σ, ρ) (fun r u => ∃ τ : Nat → Nat → Int32, u = (z, sh, τ, ρ) ∧ ((¬ (0 ≤ s ∧ s ≤ 1) ∧ r = zI (-2) ∧ τ = σ) ∨ (∃ S : Nat, S ≤ 1 ∧ s = ((S : Nat) : Int) ∧ ((fl S = false ∧ r = zI (-5) ∧ τ = σ) ∨ (fl S = true ∧ r = nI (sv (S * 170 + 3)) ∧ rowAt τ (M + 1) 170 (rwF S sv) ∧ HstP τ M (mH W 0 nu hf v) ∧ (∀ q, q ≠ M → q ≠ M + 1 → q ≠ M + 2 → τ q = σ q) ∧ ∀ k, k ≠ 2 → τ M k = σ M k))))) := by
  refine CtI.enter (by decide) (Nat.le_of_ble_eq_true rfl) (fun Φ hc hR => ?_)
  show Vw Ω Φ (z, sh, σ, ρ) (0, 0) 0 [(0, .ref M), (1, .int (zI s))] []
  refine r_iload_n hc dX12_restore_0 rfl ?_
  refine r_iconst (v := nI 0) hc dX12_restore_1 rfl ?_
  refine r_iconst (v := nI 1) hc dX12_restore_2 rfl ?_
  refine cl_X12_41 (As := [.int (zI s), .int (nI 0), .int (nI 1)]) hc (by simp only [nz]; exact c_X12_in (by omega) (by omega) (by omega)) rfl ⟨by decide, by decide⟩ ⟨rfl, rfl⟩ ⟨by decide, by decide⟩ rfl (Nat.le_of_ble_eq_true rfl) dX12_restore_3 (fun r u hp => ?_)
  obtain ⟨rfl, hu⟩ := hp
  rw [hu]
  refine r_if_ne (tgt := 12) hc dX12_restore_6 (by decide) (bI_0 _) (fun c_6 => ?_) (fun c_6 => ?_)
  ·
    have c_6 := bnf c_6
    have c_6 := of_decide_eq_true c_6
    obtain ⟨S, rfl⟩ := Int.eq_ofNat_of_zero_le (show 0 ≤ s by omega)
    rw [← nz S]
    have hfS : σ (M + 4) S = bI (fl S) := hfl S (by omega)
    refine r_aload_n hc dX12_restore_12 rfl ?_
    refine gf_X12_19 (q := M + 4) hc (MS0 hM) (MSr hM 4 4 (by decide)) dX12_restore_13 ?_
    refine r_iload_n hc dX12_restore_16 rfl ?_
    refine r_zald (x := bI (fl S)) (j := S) hc (MSa hM 4 1 2 rfl) rfl (by omega) (by decide) hfS dX12_restore_17 ?_
    refine r_if_ne (tgt := 24) hc dX12_restore_18 (by decide) (bI_0 _) (fun c_18 => ?_) (fun c_18 => ?_)
    ·
      have c_18 := bnf c_18
      refine r_aload_n hc dX12_restore_24 rfl ?_
      refine cl_X12_53 (As := []) hc (c_X12_record hM hv hW hH hnu) (MS0 hM) rfl ⟨by decide, by decide⟩ ⟨rfl, rfl⟩ ⟨by decide, by decide⟩ rfl (Nat.le_of_ble_eq_true rfl) dX12_restore_25 (fun u hp => ?_)
      obtain ⟨τ0, hu, hH0, hfr0⟩ := hp
      rw [hu]
      have hv : rowAt τ0 (M + 1) 170 v := hv.sig (hfr0.1 _ (by omega) (by omega))
      refine r_iconst (v := nI 0) hc dX12_restore_28 rfl ?_
      refine r_istore_n (ls' := [(2, .int (nI 0)), (0, .ref M), (1, .int (nI S))]) hc dX12_restore_29 (by decide) rfl ?_
      have loop30 : ∀ (n30 : Nat) (τ : Nat → Nat → Int32) (k : Nat), (k ≤ 170) → (rowAt τ (M + 1) k (rwF S sv)) → (rowAt τ (M + 3) 340 sv) → (HstP τ M (mH W 0 nu hf v)) → ((∀ q, q ≠ M → q ≠ M + 1 → q ≠ M + 2 → τ q = σ q) ∧ ∀ k, k ≠ 2 → τ M k = σ M k) → (170 - k) < n30 → Vw Ω Φ (z, sh, τ, ρ) (0, 0) 30 [(0, .ref M), (1, .int (nI S)), (2, .int (nI k))] [] := by
        intro n30
        induction n30 with
        | zero => intro τ k hk hg hsv hH0 hfr0 hm; exact absurd hm (Nat.not_lt_zero _)
        | succ n30 ih30 =>
          intro τ k hk hg hsv hH0 hfr0 hm30
          have hr3 : k = 170 → τ (M + 1) 3 = nI (rwF S sv 3) := fun e => hg 3 (by omega)
          refine r_iload_n hc dX12_restore_30 rfl ?_
          refine r_sipush (v := nI 170) hc dX12_restore_31 rfl ?_
          refine r_icmp_ge (tgt := 61) hc dX12_restore_34 (by decide) (le_NN (by omega) (by omega)) (fun c_34 => ?_) (fun c_34 => ?_)
          ·
            have hr3 := hr3 (by omega)
            refine r_aload_n hc dX12_restore_61 rfl ?_
            refine gf_X12_7 (q := M + 1) hc (MS0 hM) (MSr hM 0 1 (by decide)) dX12_restore_62 ?_
            refine r_iconst (v := nI 3) hc dX12_restore_65 rfl ?_
            refine r_iald (x := nI (rwF S sv 3)) (j := 3) hc (MSa hM 1 0 170 rfl) rfl (by omega) (by decide) hr3 dX12_restore_66 ?_
            exact hR _ _ ⟨_, rfl, Or.inr ⟨S, by omega, rfl, Or.inr ⟨c_18, rfl, (show rowAt τ (M + 1) 170 _ by rw [show 170 = k by omega]; exact hg), hH0, hfr0⟩⟩⟩ rfl _ _ dX12_restore_67
          ·
            refine r_aload_n hc dX12_restore_37 rfl ?_
            refine gf_X12_7 (q := M + 1) hc (MS0 hM) (MSr hM 0 1 (by decide)) dX12_restore_38 ?_
            refine r_iload_n hc dX12_restore_41 rfl ?_
            refine r_aload_n hc dX12_restore_42 rfl ?_
            refine gf_X12_16 (q := M + 3) hc (MS0 hM) (MSr hM 3 3 (by decide)) dX12_restore_43 ?_
            refine r_iload_n hc dX12_restore_46 rfl ?_
            refine r_sipush (v := nI 170) hc dX12_restore_47 rfl ?_
            refine r_imul (v := nI (S * 170)) hc dX12_restore_50 (ml_NN _ _) ?_
            refine r_iload_n hc dX12_restore_51 rfl ?_
            refine r_iadd (v := nI (S * 170 + k)) hc dX12_restore_52 (ad_NN _ _) ?_
            refine r_iald (x := nI (sv (S * 170 + k))) (j := S * 170 + k) hc (MSa hM 3 0 340 rfl) rfl (by omega) (by decide) (hsv _ (by omega)) dX12_restore_53 ?_
            refine r_iast (j := k) hc (MSa hM 1 0 170 rfl) rfl (by omega) (by decide) dX12_restore_54 ?_
            generalize hσ1 : s2 τ (M + 1) k (nI (sv (S * 170 + k))) = σ1
            have hsv : rowAt σ1 (M + 3) 340 sv := by rw [← hσ1]; exact hsv.keep (by omega) _ _
            refine r_iinc (v := nI (k + 1)) (ls' := [(2, .int (nI (k + 1))), (0, .ref M), (1, .int (nI S))]) hc dX12_restore_55 rfl (ad_NN _ 1) (by decide) rfl ?_
            refine r_goto (tgt := 30) hc dX12_restore_58 (by decide) ?_
            refine r_locp [1, 2, 0] (ls' := [(0, .ref M), (1, .int (nI S)), (2, .int (nI (k + 1)))]) rfl ?_
            exact ih30 σ1 (k + 1) (by omega) (by rw [← hσ1]; exact hg.ext1 _ rfl) hsv ⟨by rw [← hσ1, s2_na (by omega)]; exact hH0.1, hH0.2.sig (by rw [← hσ1, s2_ne (by omega)])⟩ ⟨fun q q1 q2 q3 => by rw [← hσ1, s2_ne q2]; exact hfr0.1 q q1 q2 q3, fun k hk => by rw [← hσ1, s2_na (by omega)]; exact hfr0.2 k hk⟩ (by omega)
      refine r_locp [1, 2, 0] (ls' := [(0, .ref M), (1, .int (nI S)), (2, .int (nI 0))]) rfl ?_
      exact loop30 _ τ0 0 (by omega) rowAt.zero (hsv.sig (hfr0.1 _ (by omega) (by omega))) hH0 ⟨fun q q1 _ q3 => hfr0.1 q q1 q3, hfr0.2⟩ (Nat.lt_succ_self _)
    ·
      refine r_bipush (v := zI (-5)) hc dX12_restore_21 rfl ?_
      exact hR _ _ ⟨_, rfl, Or.inr ⟨S, by omega, rfl, Or.inl ⟨c_18, rfl, rfl⟩⟩⟩ rfl _ _ dX12_restore_23
  ·
    have c_6 := of_decide_eq_false c_6
    refine r_bipush (v := zI (-2)) hc dX12_restore_9 rfl ?_
    exact hR _ _ ⟨_, rfl, Or.inl ⟨by omega, rfl, rfl⟩⟩ rfl _ _ dX12_restore_11
set_option maxRecDepth 100000 in
set_option maxHeartbeats 4000000 in
theorem c_X12_carry {Ω : OmT} {z : Nat} {sh : Nat → Option Kd} {σ : Nat → Nat → Int32} {ρ : Nat → Nat → Option Nat} {M : Nat} {v : Nat → Nat} (hM : MSh sh ρ M) (hv : rowAt σ (M + 1) 170 v) (hok : okR v) (hbx : v 7 ≤ 1000000000) {W : Bool} (hW : σ M 7 = bI W) {nu : Nat} {hf : Nat → Nat} (hH : HstP σ M (nu, hf)) (hnu : nu ≤ 6) {i kd : Nat} {R : Nat × Nat × Nat} (hi27 : i ≤ 27) (ho : OrdM σ M i kd R) (hkd : kdS kd) (hRb : R.1 < 10000 ∧ R.2.1 < 10000 ∧ R.2.2 < 10000) : CtI Ω yX12_carry cX12_carry 3 .int rm_X12_carry [.ref M, .int (nI (4 * i))] (z, sh, σ, ρ) (MPost z sh σ ρ M nu hf v W (sOb v kd R)) := by
  have hok1 := hok
  obtain ⟨⟨h01, h02⟩, hl1, ⟨h21, h22⟩, h3, h4, h5, h9, hdo, hke, hpn, hpd, htc⟩ := hok1
  have hdr : ∀ d, d < v 4 → v (20 + 6 * d + 2) < 10000 ∧ v (20 + 6 * d + 3) < 10000 := fun d hd => ⟨(hdo d hd).2.2.1, (hdo d hd).2.2.2⟩
  have hcu : ∀ k, k < v 5 → v (80 + 4 * k) < 10000 := fun k hk => (hke k hk).1
  have hwh : ∀ k, k < v 5 → v (80 + 4 * k + 2) ≤ 9 := fun k hk => (hke k hk).2.2
  have hky : ∀ k, k < v 5 → v (80 + 4 * k) < 10000 ∧ v (80 + 4 * k + 2) ≤ 9 ∧ 40 ≤ v (80 + 4 * k + 1) ∧ v (80 + 4 * k + 1) ≤ 90 := fun k hk => ⟨(hke k hk).1, (hke k hk).2.2, (hke k hk).2.1⟩
  have hpl : ∀ p, p < v 9 → v (150 + 3 * p) < 10 := fun p hp => by have := (hpn p hp).1; omega
  obtain ⟨ho0, ho1, ho2⟩ := ho
  obtain ⟨hR1, hR2, hR3⟩ := hRb
  refine CtI.enter (by decide) (Nat.le_of_ble_eq_true rfl) (fun Φ hc hR => ?_)
  show Vw Ω Φ (z, sh, σ, ρ) (0, 0) 0 [(0, .ref M), (1, .int (nI (4 * i)))] []
  refine r_aload_n hc dX12_carry_0 rfl ?_
  refine gf_X12_38 (q := M + 10) hc (MS0 hM) (MSr hM 15 10 (by decide)) dX12_carry_1 ?_
  refine r_iload_n hc dX12_carry_4 rfl ?_
  refine r_iconst (v := nI 1) hc dX12_carry_5 rfl ?_
  refine r_iadd (v := nI (4 * i + 1)) hc dX12_carry_6 (ad_NN _ _) ?_
  refine r_iald (x := nI R.1) (j := 4 * i + 1) hc (MSa hM 10 0 320 rfl) rfl (by omega) (by decide) ho1 dX12_carry_7 ?_
  refine r_istore_n (ls' := [(2, .int (nI R.1)), (0, .ref M), (1, .int (nI (4 * i)))]) hc dX12_carry_8 (by decide) rfl ?_
  refine r_aload_n hc dX12_carry_9 rfl ?_
  refine gf_X12_38 (q := M + 10) hc (MS0 hM) (MSr hM 15 10 (by decide)) dX12_carry_10 ?_
  refine r_iload_n hc dX12_carry_13 rfl ?_
  refine r_iald (x := nI kd) (j := 4 * i) hc (MSa hM 10 0 320 rfl) rfl (by omega) (by decide) ho0 dX12_carry_14 ?_
  rcases hkd with hkd | hkd | hkd | hkd | hkd | hkd
  ·
    subst hkd
    refine r_lookup (off := 49) (tgt := 64) hc dX12_carry_15 (by decide) (by decide) (by decide) ?_
    refine r_aload_n hc dX12_carry_64 rfl ?_
    refine r_iload_n hc dX12_carry_65 rfl ?_
    refine r_aload_n hc dX12_carry_66 rfl ?_
    refine gf_X12_7 (q := M + 1) hc (MS0 hM) (MSr hM 0 1 (by decide)) dX12_carry_67 ?_
    refine r_iconst (v := nI 3) hc dX12_carry_70 rfl ?_
    refine r_iald (x := nI (v 3)) (j := 3) hc (MSa hM 1 0 170 rfl) rfl (by omega) (by decide) (hv _ (by omega)) dX12_carry_71 ?_
    have hX : sOb v 107 R = sKey v R.1 (v 3) := rfl
    rw [hX] at hR
    refine cl_X12_202 (As := [.int (nI R.1), .int (nI (v 3))]) hc (by have q := c_X12_key (Ω := Ω) (z := z) (ρ := ρ) hM hv hok hbx hW hH hnu (c := ((R.1 : Nat) : Int)) (r := ((v 3 : Nat) : Int)) (by omega) (by omega); simp only [← nz] at q; exact q) (MS0 hM) rfl ⟨by decide, by decide⟩ ⟨rfl, rfl⟩ ⟨by decide, by decide⟩ rfl (Nat.le_of_ble_eq_true rfl) dX12_carry_72 (fun r u hp => ?_)
    obtain ⟨τ1, hu, hr, hrest⟩ := hp
    subst hr
    rw [hu]
    exact hR _ _ ⟨_, rfl, rfl, hrest⟩ rfl _ _ dX12_carry_75
  ·
    subst hkd
    refine r_lookup (off := 61) (tgt := 76) hc dX12_carry_15 (by decide) (by decide) (by decide) ?_
    obtain ⟨ho2, ho3⟩ := ho2 rfl
    refine r_aload_n hc dX12_carry_76 rfl ?_
    refine r_iload_n hc dX12_carry_77 rfl ?_
    refine r_aload_n hc dX12_carry_78 rfl ?_
    refine gf_X12_38 (q := M + 10) hc (MS0 hM) (MSr hM 15 10 (by decide)) dX12_carry_79 ?_
    refine r_iload_n hc dX12_carry_82 rfl ?_
    refine r_iconst (v := nI 2) hc dX12_carry_83 rfl ?_
    refine r_iadd (v := nI (4 * i + 2)) hc dX12_carry_84 (ad_NN _ _) ?_
    refine r_iald (x := nI R.2.1) (j := 4 * i + 2) hc (MSa hM 10 0 320 rfl) rfl (by omega) (by decide) ho2 dX12_carry_85 ?_
    refine r_aload_n hc dX12_carry_86 rfl ?_
    refine gf_X12_38 (q := M + 10) hc (MS0 hM) (MSr hM 15 10 (by decide)) dX12_carry_87 ?_
    refine r_iload_n hc dX12_carry_90 rfl ?_
    refine r_iconst (v := nI 3) hc dX12_carry_91 rfl ?_
    refine r_iadd (v := nI (4 * i + 3)) hc dX12_carry_92 (ad_NN _ _) ?_
    refine r_iald (x := nI R.2.2) (j := 4 * i + 3) hc (MSa hM 10 0 320 rfl) rfl (by omega) (by decide) ho3 dX12_carry_93 ?_
    have hX : sOb v 99 R = sCut v R.1 R.2.1 R.2.2 := rfl
    rw [hX] at hR
    refine cl_X12_205 (As := [.int (nI R.1), .int (nI R.2.1), .int (nI R.2.2)]) hc (by have q := c_X12_cut (Ω := Ω) (z := z) (ρ := ρ) hM hv hok hbx hW hH hnu (d := ((R.1 : Nat) : Int)) (f := ((R.2.1 : Nat) : Int)) (s := ((R.2.2 : Nat) : Int)) (by omega) (by omega) (by omega); simp only [← nz] at q; exact q) (MS0 hM) rfl ⟨by decide, by decide⟩ ⟨rfl, rfl⟩ ⟨by decide, by decide⟩ rfl (Nat.le_of_ble_eq_true rfl) dX12_carry_94 (fun r u hp => ?_)
    obtain ⟨τ1, hu, hr, hrest⟩ := hp
    subst hr
    rw [hu]
    exact hR _ _ ⟨_, rfl, rfl, hrest⟩ rfl _ _ dX12_carry_97
  ·
    subst hkd
    refine r_lookup (off := 83) (tgt := 98) hc dX12_carry_15 (by decide) (by decide) (by decide) ?_
    refine r_aload_n hc dX12_carry_98 rfl ?_
    refine r_iload_n hc dX12_carry_99 rfl ?_
    have hX : sOb v 116 R = sMove v R.1 (v 3) 8 := rfl
    rw [hX] at hR
    refine cl_X12_208 (As := [.int (nI R.1)]) hc (by have q := c_X12_take (Ω := Ω) (z := z) (ρ := ρ) hM hv hok hbx hW hH hnu (k := ((R.1 : Nat) : Int)) (by omega); simp only [← nz] at q; exact q) (MS0 hM) rfl ⟨by decide, by decide⟩ ⟨rfl, rfl⟩ ⟨by decide, by decide⟩ rfl (Nat.le_of_ble_eq_true rfl) dX12_carry_100 (fun r u hp => ?_)
    obtain ⟨τ1, hu, hr, hrest⟩ := hp
    subst hr
    rw [hu]
    exact hR _ _ ⟨_, rfl, rfl, hrest⟩ rfl _ _ dX12_carry_103
  ·
    subst hkd
    refine r_lookup (off := 89) (tgt := 104) hc dX12_carry_15 (by decide) (by decide) (by decide) ?_
    refine r_aload_n hc dX12_carry_104 rfl ?_
    refine r_iload_n hc dX12_carry_105 rfl ?_
    have hX : sOb v 112 R = sMove v R.1 8 (v 3) := rfl
    rw [hX] at hR
    refine cl_X12_211 (As := [.int (nI R.1)]) hc (by have q := c_X12_putDown (Ω := Ω) (z := z) (ρ := ρ) hM hv hok hbx hW hH hnu (k := ((R.1 : Nat) : Int)) (by omega); simp only [← nz] at q; exact q) (MS0 hM) rfl ⟨by decide, by decide⟩ ⟨rfl, rfl⟩ ⟨by decide, by decide⟩ rfl (Nat.le_of_ble_eq_true rfl) dX12_carry_106 (fun r u hp => ?_)
    obtain ⟨τ1, hu, hr, hrest⟩ := hp
    subst hr
    rw [hu]
    exact hR _ _ ⟨_, rfl, rfl, hrest⟩ rfl _ _ dX12_carry_109
  ·
    subst hkd
    refine r_lookup (off := 95) (tgt := 110) hc dX12_carry_15 (by decide) (by decide) (by decide) ?_
    refine r_aload_n hc dX12_carry_110 rfl ?_
    refine r_iload_n hc dX12_carry_111 rfl ?_
    have hX : sOb v 103 R = sGo v R.1 := rfl
    rw [hX] at hR
    refine cl_X12_214 (As := [.int (nI R.1)]) hc (by have q := c_X12_go (Ω := Ω) (z := z) (ρ := ρ) hM hv hok hbx hW hH hnu (d := ((R.1 : Nat) : Int)) (by omega); simp only [← nz] at q; exact q) (MS0 hM) rfl ⟨by decide, by decide⟩ ⟨rfl, rfl⟩ ⟨by decide, by decide⟩ rfl (Nat.le_of_ble_eq_true rfl) dX12_carry_112 (fun r u hp => ?_)
    obtain ⟨τ1, hu, hr, hrest⟩ := hp
    subst hr
    rw [hu]
    exact hR _ _ ⟨_, rfl, rfl, hrest⟩ rfl _ _ dX12_carry_115
  ·
    subst hkd
    refine r_lookup (off := 101) (tgt := 116) hc dX12_carry_15 (by decide) (by decide) (by decide) ?_
    refine r_aload_n hc dX12_carry_116 rfl ?_
    refine r_iload_n hc dX12_carry_117 rfl ?_
    have hX : sOb v 98 R = sBrass v R.1 := rfl
    rw [hX] at hR
    refine cl_X12_217 (As := [.int (nI R.1)]) hc (by have q := c_X12_brass (Ω := Ω) (z := z) (ρ := ρ) hM hv hok hbx hW hH hnu (g := ((R.1 : Nat) : Int)) (by omega); simp only [← nz] at q; exact q) (MS0 hM) rfl ⟨by decide, by decide⟩ ⟨rfl, rfl⟩ ⟨by decide, by decide⟩ rfl (Nat.le_of_ble_eq_true rfl) dX12_carry_118 (fun r u hp => ?_)
    obtain ⟨τ1, hu, hr, hrest⟩ := hp
    subst hr
    rw [hu]
    exact hR _ _ ⟨_, rfl, rfl, hrest⟩ rfl _ _ dX12_carry_121
set_option maxRecDepth 100000 in
set_option maxHeartbeats 4000000 in
theorem c_X12_fault {Ω : OmT} {z : Nat} {sh : Nat → Option Kd} {σ : Nat → Nat → Int32} {ρ : Nat → Nat → Option Nat} {M : Nat} (hM : MSh sh ρ M) {p : Nat → Nat} {ln : Nat} (hln : σ M 6 = nI ln) (hpr : rowAt σ (M + 5) ln p) (hl80 : ln ≤ 80) (hpp : ∀ j, j < ln → p j < 256) : CtI Ω yX12_fault cX12_fault 1 .int rm_X12_fault [.ref M] (z, sh, σ, ρ) (fun r u => ∃ τ : Nat → Nat → Int32, u = (z, sh, τ, ρ) ∧ r = zI (RD p ln).1 ∧ (∀ q, q ≠ M → q ≠ M + 10 → τ q = σ q) ∧ ∀ k, k < 16 ∨ 18 < k → τ M k = σ M k) := by
  refine CtI.enter (by decide) (Nat.le_of_ble_eq_true rfl) (fun Φ hc hR => ?_)
  show Vw Ω Φ (z, sh, σ, ρ) (0, 0) 0 [(0, .ref M)] []
  refine r_aload_n hc dX12_fault_0 rfl ?_
  refine cl_X12_199 (As := []) hc (c_X12_faultOf hM hln hpr hl80 hpp rfl rfl rfl) (MS0 hM) rfl ⟨by decide, by decide⟩ ⟨rfl, rfl⟩ ⟨by decide, by decide⟩ rfl (Nat.le_of_ble_eq_true rfl) dX12_fault_1 (fun r u hp => ?_)
  obtain ⟨τ, hu, hr, hrd, hfr⟩ := hp
  subst hr
  rw [hu]
  exact hR _ _ ⟨_, rfl, rfl, hfr⟩ rfl _ _ dX12_fault_4
theorem rdF_rng {p : Nat → Nat} {ln : Nat} (f : Nat) : ∀ i t, -6 ≤ (rdF p ln f i t).1 ∧ (t ≤ ln → (rdF p ln f i t).1 ≤ ln) := by
  induction f with
  | zero => intro i t; rw [rdF]; exact ⟨by show (-6 : Int) ≤ _; omega, fun h => by show _ ≤ _; omega⟩
  | succ f ih =>
    intro i t
    rw [rd_af]
    split
    · unfold afF
      split
      · exact ⟨Int.le_refl _, fun _ => by show (-6 : Int) ≤ _; omega⟩
      · split
        · exact ⟨(ih _ _).1, fun _ => (ih _ _).2 (by omega)⟩
        · exact ⟨by show (-6 : Int) ≤ ((_ : Nat) : Int); omega, fun _ => by show ((_ : Nat) : Int) ≤ _; omega⟩
    · exact ⟨by show (-6 : Int) ≤ ((_ : Nat) : Int); omega, fun h => by have := pO_le (p := p) h; show ((_ : Nat) : Int) ≤ _; omega⟩
theorem rd_rng {p : Nat → Nat} {ln : Nat} (hl : ln ≤ 80) : -6 ≤ (RD p ln).1 ∧ (RD p ln).1 ≤ 80 := ⟨(rdF_rng 28 0 0).1, Int.le_trans ((rdF_rng 28 0 0).2 (Nat.zero_le _)) (by omega)⟩
theorem mh_le {W : Bool} {x : Int} {nu : Nat} {hf v : Nat → Nat} {P : Nat × (Nat → Nat)} (h : nu ≤ 6) (e : P = mH W x nu hf v) : P.1 ≤ 6 := by
  subst e
  unfold mH
  split
  · show recC nu + 1 ≤ 6
    unfold recC
    split <;> omega
  · exact h
set_option maxRecDepth 100000 in
set_option maxHeartbeats 4000000 in
theorem c_X12_carryOut {Ω : OmT} {z : Nat} {sh : Nat → Option Kd} {σ : Nat → Nat → Int32} {ρ : Nat → Nat → Option Nat} {M : Nat} {v : Nat → Nat} (hM : MSh sh ρ M) (hv : rowAt σ (M + 1) 170 v) (hok : okR v) (hbx : v 7 ≤ 900000000) {nu : Nat} {hf : Nat → Nat} (hH : HstP σ M (nu, hf)) (hnu : nu ≤ 6) {p : Nat → Nat} {ln : Nat} (hln : σ M 6 = nI ln) (hpr : rowAt σ (M + 5) ln p) (hl80 : ln ≤ 80) (hpp : ∀ j, j < ln → p j < 256) (hW : σ M 7 = bI false) : CtI Ω yX12_carryOut cX12_carryOut 2 .int rm_X12_carryOut [.ref M] (z, sh, σ, ρ) (fun r u => ∃ τ : Nat → Nat → Int32, u = (z, sh, τ, ρ) ∧ r = zI (sCarryO v p ln).1 ∧ rowAt τ (M + 1) 170 (sCarryO v p ln).2 ∧ HstP τ M (mH false (sCarryO v p ln).1 nu hf v) ∧ τ M 6 = nI (if 0 ≤ (sCarryO v p ln).1 then 0 else ln) ∧ τ M 7 = bI false ∧ (∀ q, q ≠ M → q ≠ M + 1 → q ≠ M + 2 → q ≠ M + 10 → τ q = σ q) ∧ ∀ k, k ≠ 2 → k ≠ 6 → k ≠ 7 → (k < 16 ∨ 18 < k) → τ M k = σ M k) := by
  have hok1 := hok
  obtain ⟨⟨h01, h02⟩, hl1, ⟨h21, h22⟩, h3, h4, h5, h9, hdo, hke, hpn, hpd, htc⟩ := hok1
  have hdr : ∀ d, d < v 4 → v (20 + 6 * d + 2) < 10000 ∧ v (20 + 6 * d + 3) < 10000 := fun d hd => ⟨(hdo d hd).2.2.1, (hdo d hd).2.2.2⟩
  have hcu : ∀ k, k < v 5 → v (80 + 4 * k) < 10000 := fun k hk => (hke k hk).1
  have hwh : ∀ k, k < v 5 → v (80 + 4 * k + 2) ≤ 9 := fun k hk => (hke k hk).2.2
  have hky : ∀ k, k < v 5 → v (80 + 4 * k) < 10000 ∧ v (80 + 4 * k + 2) ≤ 9 ∧ 40 ≤ v (80 + 4 * k + 1) ∧ v (80 + 4 * k + 1) ≤ 90 := fun k hk => ⟨(hke k hk).1, (hke k hk).2.2, (hke k hk).2.1⟩
  have hpl : ∀ p, p < v 9 → v (150 + 3 * p) < 10 := fun p hp => by have := (hpn p hp).1; omega
  refine CtI.enter (by decide) (Nat.le_of_ble_eq_true rfl) (fun Φ hc hR => ?_)
  show Vw Ω Φ (z, sh, σ, ρ) (0, 0) 0 [(0, .ref M)] []
  refine r_aload_n hc dX12_carryOut_0 rfl ?_
  refine cl_X12_199 (As := []) hc (c_X12_faultOf hM hln hpr hl80 hpp rfl rfl rfl) (MS0 hM) rfl ⟨by decide, by decide⟩ ⟨rfl, rfl⟩ ⟨by decide, by decide⟩ rfl (Nat.le_of_ble_eq_true rfl) dX12_carryOut_1 (fun r u hp => ?_)
  obtain ⟨τ, hu, hr, hrd, hfr⟩ := hp
  subst hr
  rw [hu]
  refine r_bipush (v := zI (-6)) hc dX12_carryOut_4 rfl ?_
  refine r_icmp_eq (tgt := 12) hc dX12_carryOut_6 (by decide) (eq_ZZ (by have := rd_rng (p := p) hl80; omega) (by omega)) (fun c_6 => ?_) (fun c_6 => ?_)
  ·
    refine r_aload_n hc dX12_carryOut_12 rfl ?_
    have hv : rowAt τ (M + 1) 170 v := hv.sig (hfr.1 _ (by omega) (by omega))
    have hH : HstP τ M (nu, hf) := ⟨by rw [hfr.2 2 (by omega)]; exact hH.1, hH.2.sig (hfr.1 _ (by omega) (by omega))⟩
    have hW0 : τ M 7 = bI false := by rw [hfr.2 7 (by omega)]; exact hW
    refine cl_X12_53 (As := []) hc (c_X12_record hM hv hW0 hH hnu) (MS0 hM) rfl ⟨by decide, by decide⟩ ⟨rfl, rfl⟩ ⟨by decide, by decide⟩ rfl (Nat.le_of_ble_eq_true rfl) dX12_carryOut_13 (fun u hp => ?_)
    obtain ⟨τ0, hu, hH0, hfr0⟩ := hp
    rw [hu]
    obtain ⟨hmn, hmn27, hord⟩ := hrd (by omega)
    have hmn0 : τ0 M 16 = nI (RD p ln).2 := by rw [hfr0.2 16 (by omega)]; exact hmn
    have hv0 : rowAt τ0 (M + 1) 170 v := hv.sig (hfr0.1 _ (by omega) (by omega))
    have hfrA : (∀ q, q ≠ M → q ≠ M + 1 → q ≠ M + 2 → q ≠ M + 10 → τ0 q = σ q) ∧ ∀ k, k ≠ 2 → k ≠ 6 → k ≠ 7 → (k < 16 ∨ 18 < k) → τ0 M k = σ M k := ⟨fun q q1 q2 q3 q4 => (hfr0.1 q q1 q3).trans (hfr.1 q q1 q4), fun k k1 k2 k3 k4 => (hfr0.2 k k1).trans (hfr.2 k k4)⟩
    obtain ⟨⟨nu2, hf2⟩, hE2⟩ : ∃ P : Nat × (Nat → Nat), P = mH false 0 nu hf v := ⟨_, rfl⟩
    rw [← hE2] at hH0
    have hnu2 : nu2 ≤ 6 := mh_le hnu hE2
    refine r_aload_n hc dX12_carryOut_16 rfl ?_
    refine r_iconst (v := nI 1) hc dX12_carryOut_17 rfl ?_
    refine pf_X12_45 hc (MS0 hM) (by rfl) (by rfl) dX12_carryOut_18 ?_
    generalize hσ1 : s2 τ0 M 7 (nI 1) = σ1
    have hmn0 : σ1 M 16 = nI ((RD p ln).2) := by rw [← hσ1]; exact s2_keep hmn0 (by omega)
    refine r_iconst (v := nI 0) hc dX12_carryOut_21 rfl ?_
    refine r_istore_n (ls' := [(1, .int (nI 0)), (0, .ref M)]) hc dX12_carryOut_22 (by decide) rfl ?_
    have loop23 : ∀ (n23 : Nat) (τ1 : Nat → Nat → Int32) (w : Nat → Nat) (i : Nat), (i ≤ (RD p ln).2) → (rowAt τ1 (M + 1) 170 w) → (okR w) → (w 7 ≤ v 7 + 1000 * i) → (exR (obL p ln) ((RD p ln).2 - i) i w = exR (obL p ln) (RD p ln).2 0 v) → (τ1 M 7 = bI true) → (HstP τ1 M (nu2, hf2)) → (τ1 M 16 = nI (RD p ln).2) → (τ1 (M + 10) = τ (M + 10)) → ((∀ q, q ≠ M → q ≠ M + 1 → q ≠ M + 2 → q ≠ M + 10 → τ1 q = σ q) ∧ ∀ k, k ≠ 2 → k ≠ 6 → k ≠ 7 → (k < 16 ∨ 18 < k) → τ1 M k = σ M k) → ((RD p ln).2 - i) < n23 → Vw Ω Φ (z, sh, τ1, ρ) (0, 0) 23 [(0, .ref M), (1, .int (nI i))] [] := by
      intro n23
      induction n23 with
      | zero => intro τ1 w i hi hv1 hokw hbw hex hW1 hH1 hmn1 ho1 hfr1 hm; exact absurd hm (Nat.not_lt_zero _)
      | succ n23 ih23 =>
        intro τ1 w i hi hv1 hokw hbw hex hW1 hH1 hmn1 ho1 hfr1 hm23
        refine r_iload_n hc dX12_carryOut_23 rfl ?_
        refine r_aload_n hc dX12_carryOut_24 rfl ?_
        refine gf_X12_181 (x := nI ((RD p ln).2)) hc (MS0 hM) hmn1 dX12_carryOut_25 ?_
        refine r_icmp_ge (tgt := 47) hc dX12_carryOut_28 (by decide) (le_NN (by omega) (by omega)) (fun c_28 => ?_) (fun c_28 => ?_)
        ·
          refine r_aload_n hc dX12_carryOut_47 rfl ?_
          refine r_iconst (v := nI 0) hc dX12_carryOut_48 rfl ?_
          refine pf_X12_45 hc (MS0 hM) (by rfl) (by rfl) dX12_carryOut_49 ?_
          generalize hσ2 : s2 τ1 M 7 (nI 0) = σ2
          have hmn1 : σ2 M 16 = nI ((RD p ln).2) := by rw [← hσ2]; exact s2_keep hmn1 (by omega)
          have hW1 : σ2 M 7 = nI 0 := by rw [← hσ2]; exact s2_same _ _ _ _
          refine r_aload_n hc dX12_carryOut_52 rfl ?_
          refine r_iconst (v := nI 0) hc dX12_carryOut_53 rfl ?_
          refine pf_X12_157 hc (MS0 hM) dX12_carryOut_54 ?_
          generalize hσ3 : s2 σ2 M 6 (nI 0) = σ3
          have hmn1 : σ3 M 16 = nI ((RD p ln).2) := by rw [← hσ3]; exact s2_keep hmn1 (by omega)
          have hW1 : σ3 M 7 = nI 0 := by rw [← hσ3]; exact s2_keep hW1 (by omega)
          refine r_iload_n hc dX12_carryOut_57 rfl ?_
          have hfin : exR (obL p ln) (RD p ln).2 0 v = (i, w) := by rw [← hex, show (RD p ln).2 - i = 0 by omega, exR]
          have hE : sCarryO v p ln = (((i : Nat) : Int), w) := by unfold sCarryO; rw [if_pos (by omega), hfin]
          rw [hE] at hR
          exact hR _ _ ⟨_, rfl, nz _, hv1.sig (by rw [← hσ3, s2_ne (by omega), ← hσ2, s2_ne (by omega)]), (by rw [mH_pos (show (0 : Int) ≤ (((i : Nat) : Int), w).1 from Int.natCast_nonneg _), ← hE2]; exact ⟨by rw [← hσ3, s2_nk (by omega), ← hσ2, s2_nk (by omega)]; exact hH1.1, hH1.2.sig (by rw [← hσ3, s2_ne (by omega), ← hσ2, s2_ne (by omega)])⟩), (by rw [if_pos (show (0 : Int) ≤ ((i : Nat) : Int) from Int.natCast_nonneg _), ← hσ3]; exact s2_same _ _ _ _), (by rw [← hσ3, s2_nk (by omega), ← hσ2]; exact s2_same _ _ _ _), fun q q1 q2 q3 q4 => by rw [← hσ3, s2_ne q1, ← hσ2, s2_ne q1]; exact hfr1.1 q q1 q2 q3 q4, fun k k1 k2 k3 k4 => by rw [← hσ3, s2_nk k2, ← hσ2, s2_nk k3]; exact hfr1.2 k k1 k2 k3 k4⟩ rfl _ _ dX12_carryOut_58
        ·
          refine r_aload_n hc dX12_carryOut_31 rfl ?_
          refine r_iconst (v := nI 4) hc dX12_carryOut_32 rfl ?_
          refine r_iload_n hc dX12_carryOut_33 rfl ?_
          refine r_imul (v := nI (4 * i)) hc dX12_carryOut_34 (ml_NN _ _) ?_
          obtain ⟨g1, g2, g3⟩ := hord i (by omega)
          have g4 := pO_ok (p := p) (ln := ln) (t := psF p ln i) (by omega) g1
          rw [sgn_in g2] at g4
          have hkd : kdS (p (psF p ln i)) := g4.2.2.2.2.2
          have g3 : OrdM τ1 M i (p (psF p ln i)) (pO p ln (psF p ln i)).2.2 := OrdM.keep g3 (by rw [ho1]) (by rw [ho1]) (by rw [ho1]) (by rw [ho1])
          have hx : okX w (obL p ln i w) := ok_ob hokw _ _
          refine cl_X12_220 (As := [.int (nI (4 * i))]) hc (c_X12_carry hM hv1 hokw (by omega) hW1 hH1 hnu2 (i := i) (by omega) g3 hkd ⟨g4.2.2.1, g4.2.2.2.1, g4.2.2.2.2.1⟩) (MS0 hM) rfl ⟨by decide, by decide⟩ ⟨rfl, rfl⟩ ⟨by decide, by decide⟩ rfl (Nat.le_of_ble_eq_true rfl) dX12_carryOut_35 (fun r u hp => ?_)
          obtain ⟨τ2, hu, hr, hv2, hH2, hfr2⟩ := hp
          subst hr
          rw [hu]
          rw [mH_t] at hH2
          have hrg : -5 ≤ (obL p ln i w).1 ∧ (obL p ln i w).1 ≤ ((w 7 : Nat) : Int) + 70000 := ob_rng hokw _ _
          show Vw Ω Φ (z, sh, τ2, ρ) (0, 0) 38 [(0, .ref M), (1, .int (nI i))] [.int (zI (obL p ln i w).1)]
          refine r_if_lt (tgt := 47) hc dX12_carryOut_38 (by decide) (l0_Z (by omega)) (fun c_38 => ?_) (fun c_38 => ?_)
          ·
            refine r_aload_n hc dX12_carryOut_47 rfl ?_
            refine r_iconst (v := nI 0) hc dX12_carryOut_48 rfl ?_
            refine pf_X12_45 hc (MS0 hM) (by rfl) (by rfl) dX12_carryOut_49 ?_
            generalize hσ4 : s2 τ2 M 7 (nI 0) = σ4
            refine r_aload_n hc dX12_carryOut_52 rfl ?_
            refine r_iconst (v := nI 0) hc dX12_carryOut_53 rfl ?_
            refine pf_X12_157 hc (MS0 hM) dX12_carryOut_54 ?_
            generalize hσ5 : s2 σ4 M 6 (nI 0) = σ5
            refine r_iload_n hc dX12_carryOut_57 rfl ?_
            have hfin : exR (obL p ln) (RD p ln).2 0 v = (i, (obL p ln i w).2) := by rw [← hex, show (RD p ln).2 - i = ((RD p ln).2 - (i + 1)) + 1 by omega, exR, if_neg (by omega)]
            have hE : sCarryO v p ln = (((i : Nat) : Int), (obL p ln i w).2) := by unfold sCarryO; rw [if_pos (by omega), hfin]
            rw [hE] at hR
            exact hR _ _ ⟨_, rfl, nz _, hv2.sig (by rw [← hσ5, s2_ne (by omega), ← hσ4, s2_ne (by omega)]), (by rw [mH_pos (show (0 : Int) ≤ (((i : Nat) : Int), (obL p ln i w).2).1 from Int.natCast_nonneg _), ← hE2]; exact ⟨by rw [← hσ5, s2_nk (by omega), ← hσ4, s2_nk (by omega)]; exact hH2.1, hH2.2.sig (by rw [← hσ5, s2_ne (by omega), ← hσ4, s2_ne (by omega)])⟩), (by rw [if_pos (show (0 : Int) ≤ ((i : Nat) : Int) from Int.natCast_nonneg _), ← hσ5]; exact s2_same _ _ _ _), (by rw [← hσ5, s2_nk (by omega), ← hσ4]; exact s2_same _ _ _ _), fun q q1 q2 q3 q4 => by rw [← hσ5, s2_ne q1, ← hσ4, s2_ne q1]; exact (hfr2.1 q q1 q2 q3).trans (hfr1.1 q q1 q2 q3 q4), fun k k1 k2 k3 k4 => by rw [← hσ5, s2_nk k2, ← hσ4, s2_nk k3]; exact (hfr2.2 k k1).trans (hfr1.2 k k1 k2 k3 k4)⟩ rfl _ _ dX12_carryOut_58
          ·
            refine r_iinc (v := nI (i + 1)) (ls' := [(1, .int (nI (i + 1))), (0, .ref M)]) hc dX12_carryOut_41 rfl (ad_NN _ 1) (by decide) rfl ?_
            refine r_goto (tgt := 23) hc dX12_carryOut_44 (by decide) ?_
            refine r_locp [1, 0] (ls' := [(0, .ref M), (1, .int (nI (i + 1)))]) rfl ?_
            exact ih23 τ2 ((obL p ln i w).2) (i + 1) (by omega) hv2 hx.1 (by have := hx.2; omega) (by rw [← hex, show (RD p ln).2 - i = ((RD p ln).2 - (i + 1)) + 1 by omega, exR, if_pos (by omega)]) ((hfr2.2 7 (by omega)).trans hW1) hH2 ((hfr2.2 16 (by omega)).trans hmn1) ((hfr2.1 (M + 10) (by omega) (by omega) (by omega)).trans ho1) ⟨fun q q1 q2 q3 q4 => (hfr2.1 q q1 q2 q3).trans (hfr1.1 q q1 q2 q3 q4), fun k k1 k2 k3 k4 => (hfr2.2 k k1).trans (hfr1.2 k k1 k2 k3 k4)⟩ (by omega)
    refine r_locp [1, 0] (ls' := [(0, .ref M), (1, .int (nI 0))]) rfl ?_
    exact loop23 _ σ1 v 0 (by omega) (hv0.sig (by rw [← hσ1, s2_ne (by omega)])) hok (by omega) rfl (by rw [← hσ1]; exact s2_same _ _ _ _) ⟨by rw [← hσ1, s2_nk (by omega)]; exact hH0.1, hH0.2.sig (by rw [← hσ1, s2_ne (by omega)])⟩ hmn0 (by rw [← hσ1, s2_ne (by omega)]; exact hfr0.1 _ (by omega) (by omega)) ⟨fun q q1 q2 q3 q4 => by rw [← hσ1, s2_ne q1]; exact hfrA.1 q q1 q2 q3 q4, fun k k1 k2 k3 k4 => by rw [← hσ1, s2_nk k3]; exact hfrA.2 k k1 k2 k3 k4⟩ (Nat.lt_succ_self _)
  ·
    refine r_bipush (v := zI (-3)) hc dX12_carryOut_9 rfl ?_
    have hE : sCarryO v p ln = (-3, v) := by unfold sCarryO; rw [if_neg (by omega)]
    rw [hE] at hR
    exact hR _ _ ⟨_, rfl, rfl, hv.sig (hfr.1 _ (by omega) (by omega)), (by rw [mH_neg (show (-3, v).1 < (0 : Int) by show -3 < (0 : Int); omega)]; exact ⟨by rw [hfr.2 2 (by omega)]; exact hH.1, hH.2.sig (hfr.1 _ (by omega) (by omega))⟩), (by rw [hfr.2 6 (by omega), if_neg (by show ¬ (0 : Int) ≤ -3; omega)]; exact hln), (by rw [hfr.2 7 (by omega)]; exact hW), (fun q q1 q2 q3 q4 => hfr.1 q q1 q4), fun k k1 k2 k3 k4 => hfr.2 k k4⟩ rfl _ _ dX12_carryOut_11
set_option maxRecDepth 100000 in
set_option maxHeartbeats 4000000 in
theorem c_X12_carryPlan {Ω : OmT} {z : Nat} {sh : Nat → Option Kd} {σ : Nat → Nat → Int32} {ρ : Nat → Nat → Option Nat} {M : Nat} {v : Nat → Nat} (hM : MSh sh ρ M) (hv : rowAt σ (M + 1) 170 v) (hok : okR v) (hbx : v 7 ≤ 900000000) {W : Bool} (hW : σ M 7 = bI W) {nu : Nat} {hf : Nat → Nat} (hH : HstP σ M (nu, hf)) (hnu : nu ≤ 6)  : CtI Ω yX12_carryPlan cX12_carryPlan 3 .int rm_X12_carryPlan [.ref M] (z, sh, σ, ρ) (fun r u => ∃ τ : Nat → Nat → Int32, u = (z, sh, τ, ρ) ∧ r = zI (sCarryP v).1 ∧ rowAt τ (M + 1) 170 (sCarryP v).2 ∧ HstP τ M (mH W (sCarryP v).1 nu hf v) ∧ (∀ q, q ≠ M → q ≠ M + 1 → q ≠ M + 2 → q ≠ M + 6 → q ≠ M + 7 → τ q = σ q) ∧ ∀ k, k ≠ 2 → (k < 10 ∨ 12 < k) → τ M k = σ M k) := by
  have hbx : v 7 ≤ 1000000000 := by omega
  have hok1 := hok
  obtain ⟨⟨h01, h02⟩, hl1, ⟨h21, h22⟩, h3, h4, h5, h9, hdo, hke, hpn, hpd, htc⟩ := hok1
  have hdr : ∀ d, d < v 4 → v (20 + 6 * d + 2) < 10000 ∧ v (20 + 6 * d + 3) < 10000 := fun d hd => ⟨(hdo d hd).2.2.1, (hdo d hd).2.2.2⟩
  have hcu : ∀ k, k < v 5 → v (80 + 4 * k) < 10000 := fun k hk => (hke k hk).1
  have hwh : ∀ k, k < v 5 → v (80 + 4 * k + 2) ≤ 9 := fun k hk => (hke k hk).2.2
  have hky : ∀ k, k < v 5 → v (80 + 4 * k) < 10000 ∧ v (80 + 4 * k + 2) ≤ 9 ∧ 40 ≤ v (80 + 4 * k + 1) ∧ v (80 + 4 * k + 1) ≤ 90 := fun k hk => ⟨(hke k hk).1, (hke k hk).2.2, (hke k hk).2.1⟩
  have hpl : ∀ p, p < v 9 → v (150 + 3 * p) < 10 := fun p hp => by have := (hpn p hp).1; omega
  refine CtI.enter (by decide) (Nat.le_of_ble_eq_true rfl) (fun Φ hc hR => ?_)
  show Vw Ω Φ (z, sh, σ, ρ) (0, 0) 0 [(0, .ref M)] []
  refine r_aload_n hc dX12_carryPlan_0 rfl ?_
  refine cl_X12_142 (As := []) hc (c_X12_layOrders hM hv hok hbx) (MS0 hM) rfl ⟨by decide, by decide⟩ ⟨rfl, rfl⟩ ⟨by decide, by decide⟩ rfl (Nat.le_of_ble_eq_true rfl) dX12_carryPlan_1 (fun u hp => ?_)
  obtain ⟨τ, hu, hL, hfrL⟩ := hp
  rw [hu]
  obtain ⟨hL1, hL2, hL3, hfo⟩ := hL
  have hv : rowAt τ (M + 1) 170 v := hv.sig (hfrL.1 _ (by omega) (by omega) (by omega))
  have hH : HstP τ M (nu, hf) := ⟨by rw [hfrL.2 2 (by omega)]; exact hH.1, hH.2.sig (hfrL.1 _ (by omega) (by omega) (by omega))⟩
  have hW : τ M 7 = bI W := by rw [hfrL.2 7 (by omega)]; exact hW
  have hob : oC v (v 9) 0 ≤ 6 ^ v 9 := oC_le v h9 _ _
  have hoc : oC v (v 9) 0 ≤ 6 ^ 6 := Nat.le_trans hob (Nat.pow_le_pow_right (by decide) h9)
  refine r_aload_n hc dX12_carryPlan_4 rfl ?_
  refine gf_X12_7 (q := M + 1) hc (MS0 hM) (MSr hM 0 1 (by decide)) dX12_carryPlan_5 ?_
  refine r_bipush (v := nI 9) hc dX12_carryPlan_8 rfl ?_
  refine r_iald (x := nI (v 9)) (j := 9) hc (MSa hM 1 0 170 rfl) rfl (by omega) (by decide) (hv _ (by omega)) dX12_carryPlan_10 ?_
  refine r_if_eq (tgt := 21) hc dX12_carryPlan_11 (by decide) (e0_N (by omega)) (fun c_11 => ?_) (fun c_11 => ?_)
  ·
    refine r_bipush (v := zI (-5)) hc dX12_carryPlan_21 rfl ?_
    have hE : sCarryP v = (-5, v) := by unfold sCarryP; rw [if_pos (by omega)]
    rw [hE] at hR
    exact hR _ _ ⟨_, rfl, rfl, hv, (by rw [mH_neg (show (-5, v).1 < (0 : Int) by show -5 < (0 : Int); omega)]; exact hH), (fun q q1 q2 q3 q4 q5 => hfrL.1 q q1 q4 q5), fun k k1 k2 => hfrL.2 k k2⟩ rfl _ _ dX12_carryPlan_23
  ·
    refine r_aload_n hc dX12_carryPlan_14 rfl ?_
    refine gf_X12_125 (x := nI (oC v (v 9) 0)) hc (MS0 hM) hL1 dX12_carryPlan_15 ?_
    refine r_if_ne (tgt := 24) hc dX12_carryPlan_18 (by decide) (e0_N (by omega)) (fun c_18 => ?_) (fun c_18 => ?_)
    ·
      refine r_aload_n hc dX12_carryPlan_24 rfl ?_
      refine cl_X12_53 (As := []) hc (c_X12_record hM hv hW hH hnu) (MS0 hM) rfl ⟨by decide, by decide⟩ ⟨rfl, rfl⟩ ⟨by decide, by decide⟩ rfl (Nat.le_of_ble_eq_true rfl) dX12_carryPlan_25 (fun u hp => ?_)
      obtain ⟨τ0, hu, hH0, hfr0⟩ := hp
      rw [hu]
      have hv0 : rowAt τ0 (M + 1) 170 v := hv.sig (hfr0.1 _ (by omega) (by omega))
      have ho : 0 < oC v (v 9) 0 := by omega
      have hfo0 : ∀ k, k < v 9 → τ0 (M + 7) k = zI (lnF v (dnF v k)) := fun k hk => by rw [hfr0.1 _ (by omega) (by omega)]; exact hfo ho k hk
      have hfrA : (∀ q, q ≠ M → q ≠ M + 1 → q ≠ M + 2 → q ≠ M + 6 → q ≠ M + 7 → τ0 q = σ q) ∧ ∀ k, k ≠ 2 → (k < 10 ∨ 12 < k) → τ0 M k = σ M k := ⟨fun q q1 q2 q3 q4 q5 => (hfr0.1 q q1 q3).trans (hfrL.1 q q1 q4 q5), fun k k1 k2 => (hfr0.2 k k1).trans (hfrL.2 k k2)⟩
      refine r_iconst (v := nI 0) hc dX12_carryPlan_28 rfl ?_
      refine r_istore_n (ls' := [(1, .int (nI 0)), (0, .ref M)]) hc dX12_carryPlan_29 (by decide) rfl ?_
      have loop30 : ∀ (n30 : Nat) (τ1 : Nat → Nat → Int32) (k : Nat), (k ≤ v 9) → (rowAt τ1 (M + 1) 170 (cpR v k)) → (∀ q, q ≠ M + 1 → τ1 q = τ0 q) → (∀ k, k < v 9 → τ1 (M + 7) k = zI (lnF v (dnF v k))) → (v 9 - k) < n30 → Vw Ω Φ (z, sh, τ1, ρ) (0, 0) 30 [(0, .ref M), (1, .int (nI k))] [] := by
        intro n30
        induction n30 with
        | zero => intro τ1 k hk hv1 hfr1 hfo1 hm; exact absurd hm (Nat.not_lt_zero _)
        | succ n30 ih30 =>
          intro τ1 k hk hv1 hfr1 hfo1 hm30
          obtain ⟨i1, i2, i3, i4, i5⟩ := cp_inv v hok ho k hk
          have e9 := i3 9 (by omega)
          have hv9 : τ1 (M + 1) 9 = nI (v 9) := by rw [hv1 9 (by omega), e9]
          refine r_iload_n hc dX12_carryPlan_30 rfl ?_
          refine r_aload_n hc dX12_carryPlan_31 rfl ?_
          refine gf_X12_7 (q := M + 1) hc (MS0 hM) (MSr hM 0 1 (by decide)) dX12_carryPlan_32 ?_
          refine r_bipush (v := nI 9) hc dX12_carryPlan_35 rfl ?_
          refine r_iald (x := nI (v 9)) (j := 9) hc (MSa hM 1 0 170 rfl) rfl (by omega) (by decide) hv9 dX12_carryPlan_37 ?_
          refine r_icmp_ge (tgt := 86) hc dX12_carryPlan_38 (by decide) (le_NN (by omega) (by omega)) (fun c_38 => ?_) (fun c_38 => ?_)
          ·
            refine r_aload_n hc dX12_carryPlan_86 rfl ?_
            refine gf_X12_7 (q := M + 1) hc (MS0 hM) (MSr hM 0 1 (by decide)) dX12_carryPlan_87 ?_
            refine r_bipush (v := nI 9) hc dX12_carryPlan_90 rfl ?_
            refine r_iconst (v := nI 0) hc dX12_carryPlan_92 rfl ?_
            refine r_iast (j := 9) hc (MSa hM 1 0 170 rfl) rfl (by omega) (by decide) dX12_carryPlan_93 ?_
            generalize hσ1 : s2 τ1 (M + 1) 9 (nI 0) = σ1
            have hv1 : rowAt σ1 (M + 1) 170 (va_up (cpR v k) 9 0) := by rw [← hσ1]; exact hv1.upd _ _
            refine r_aload_n hc dX12_carryPlan_94 rfl ?_
            refine gf_X12_7 (q := M + 1) hc (MS0 hM) (MSr hM 0 1 (by decide)) dX12_carryPlan_95 ?_
            refine r_bipush (v := nI 7) hc dX12_carryPlan_98 rfl ?_
            refine r_iald (x := nI ((cpR v k) 7)) (j := 7) hc (MSa hM 1 0 170 rfl) rfl (by omega) (by decide) ((hv1 _ (by omega)).trans (congrArg nI (by rw [va_up_off (by omega)]))) dX12_carryPlan_100 ?_
            have hE : sCarryP v = (((cpR v (v 9) 7 : Nat) : Int), va_up (cpR v (v 9)) 9 0) := by unfold sCarryP; rw [if_neg (by omega)]
            rw [hE] at hR
            have ek : k = v 9 := by omega
            exact hR _ _ ⟨_, rfl, (by rw [← nz, ek]), (by rw [ek] at hv1; exact hv1), (by rw [mH_pos (Int.natCast_nonneg _)]; exact ⟨by rw [← hσ1, s2_na (by omega), hfr1 M (by omega)]; exact hH0.1, hH0.2.sig (by rw [← hσ1, s2_ne (by omega)]; exact hfr1 _ (by omega))⟩), (fun q q1 q2 q3 q4 q5 => by rw [← hσ1, s2_ne q2, hfr1 q q2]; exact hfrA.1 q q1 q2 q3 q4 q5), fun k k1 k2 => by rw [← hσ1, s2_na (by omega), hfr1 M (by omega)]; exact hfrA.2 k k1 k2⟩ rfl _ _ dX12_carryPlan_101
          ·
            obtain ⟨p, hp1, hp2, hp3, hp4, hp5⟩ := ln_ok v ho k (by omega)
            have hfk : τ1 (M + 7) k = nI p := by rw [hfo1 k (by omega), hp1, ← nz]
            obtain ⟨g1, g2, g3, g4, g5, g6⟩ := cp_cut v hok ho (k := k) (by omega) hp1
            refine r_sipush (v := nI 150) hc dX12_carryPlan_41 rfl ?_
            refine r_iconst (v := nI 3) hc dX12_carryPlan_44 rfl ?_
            refine r_aload_n hc dX12_carryPlan_45 rfl ?_
            refine gf_X12_29 (q := M + 7) hc (MS0 hM) (MSr hM 9 7 (by decide)) dX12_carryPlan_46 ?_
            refine r_iload_n hc dX12_carryPlan_49 rfl ?_
            refine r_iald (x := nI p) (j := k) hc (MSa hM 7 0 6 rfl) rfl (by omega) (by decide) hfk dX12_carryPlan_50 ?_
            refine r_imul (v := nI (3 * p)) hc dX12_carryPlan_51 (ml_NN _ _) ?_
            refine r_iadd (v := nI (150 + (3 * p))) hc dX12_carryPlan_52 (ad_NN _ _) ?_
            refine r_istore_n (ls' := [(2, .int (nI (150 + (3 * p)))), (0, .ref M), (1, .int (nI k))]) hc dX12_carryPlan_53 (by decide) rfl ?_
            refine r_aload_n hc dX12_carryPlan_54 rfl ?_
            refine r_aload_n hc dX12_carryPlan_55 rfl ?_
            refine gf_X12_7 (q := M + 1) hc (MS0 hM) (MSr hM 0 1 (by decide)) dX12_carryPlan_56 ?_
            refine r_iload_n hc dX12_carryPlan_59 rfl ?_
            refine r_iald (x := nI ((cpR v k) (150 + (3 * p)))) (j := 150 + (3 * p)) hc (MSa hM 1 0 170 rfl) rfl (by omega) (by decide) (hv1 _ (by omega)) dX12_carryPlan_60 ?_
            refine r_aload_n hc dX12_carryPlan_61 rfl ?_
            refine gf_X12_7 (q := M + 1) hc (MS0 hM) (MSr hM 0 1 (by decide)) dX12_carryPlan_62 ?_
            refine r_iload_n hc dX12_carryPlan_65 rfl ?_
            refine r_iconst (v := nI 1) hc dX12_carryPlan_66 rfl ?_
            refine r_iadd (v := nI (150 + (3 * p) + 1)) hc dX12_carryPlan_67 (ad_NN _ _) ?_
            refine r_iald (x := nI ((cpR v k) (150 + (3 * p) + 1))) (j := 150 + (3 * p) + 1) hc (MSa hM 1 0 170 rfl) rfl (by omega) (by decide) (hv1 _ (by omega)) dX12_carryPlan_68 ?_
            refine r_aload_n hc dX12_carryPlan_69 rfl ?_
            refine gf_X12_7 (q := M + 1) hc (MS0 hM) (MSr hM 0 1 (by decide)) dX12_carryPlan_70 ?_
            refine r_iload_n hc dX12_carryPlan_73 rfl ?_
            refine r_iconst (v := nI 2) hc dX12_carryPlan_74 rfl ?_
            refine r_iadd (v := nI (150 + (3 * p) + 2)) hc dX12_carryPlan_75 (ad_NN _ _) ?_
            refine r_iald (x := nI ((cpR v k) (150 + (3 * p) + 2))) (j := 150 + (3 * p) + 2) hc (MSa hM 1 0 170 rfl) rfl (by omega) (by decide) (hv1 _ (by omega)) dX12_carryPlan_76 ?_
            refine cl_X12_83 (As := [.int (nI ((cpR v k) (150 + (3 * p)))), .int (nI ((cpR v k) (150 + (3 * p) + 1))), .int (nI ((cpR v k) (150 + (3 * p) + 2)))]) hc (c_X12_recut hM hv1 i1 (by omega) (d := (cpR v k) (150 + (3 * p))) (f := (cpR v k) (150 + (3 * p) + 1)) (s := (cpR v k) (150 + (3 * p) + 2)) g2 g3 g4 g5) (MS0 hM) rfl ⟨by decide, by decide⟩ ⟨rfl, rfl⟩ ⟨by decide, by decide⟩ rfl (Nat.le_of_ble_eq_true rfl) dX12_carryPlan_77 (fun u hp => ?_)
            obtain ⟨τ2, hu, hv2, hfr2⟩ := hp
            rw [hu]
            refine r_iinc (v := nI (k + 1)) (ls' := [(1, .int (nI (k + 1))), (2, .int (nI (150 + (3 * p)))), (0, .ref M)]) hc dX12_carryPlan_80 rfl (ad_NN _ 1) (by decide) rfl ?_
            refine r_goto (tgt := 30) hc dX12_carryPlan_83 (by decide) ?_
            refine r_locp [2, 0] (ls' := [(0, .ref M), (1, .int (nI (k + 1)))]) rfl ?_
            exact ih30 τ2 (k + 1) (by omega) (by rw [cp_succ hp1]; exact hv2) (fun q hq => (hfr2 q hq).trans (hfr1 q hq)) (fun j hj => by rw [hfr2 _ (by omega)]; exact hfo1 j hj) (by omega)
      refine r_locp [1, 0] (ls' := [(0, .ref M), (1, .int (nI 0))]) rfl ?_
      exact loop30 _ τ0 0 (by omega) hv0 (fun _ _ => rfl) hfo0 (Nat.lt_succ_self _)
    ·
      refine r_bipush (v := zI (-5)) hc dX12_carryPlan_21 rfl ?_
      have hE : sCarryP v = (-5, v) := by unfold sCarryP; rw [if_pos (by omega)]
      rw [hE] at hR
      exact hR _ _ ⟨_, rfl, rfl, hv, (by rw [mH_neg (show (-5, v).1 < (0 : Int) by show -5 < (0 : Int); omega)]; exact hH), (fun q q1 q2 q3 q4 q5 => hfrL.1 q q1 q4 q5), fun k k1 k2 => hfrL.2 k k2⟩ rfl _ _ dX12_carryPlan_23
