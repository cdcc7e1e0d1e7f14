/-! ===== the object's calls, as the law makes them ===== -/
theorem CtI.imp {Ω : OmT} {y : MethodName} {cc : ByteArray} {N : Nat} {t : FieldType} {rm : Room} {av : List Value} {S : StT} {post post2 : Int32 → StT → Prop} (h : CtI Ω y cc N t rm av S post) (hp : ∀ r u, post r u → post2 r u) : CtI Ω y cc N t rm av S post2 := by
  intro p e ha hc hk s m args below hf happ hP hK
  obtain ⟨n, o, h1, h2, h3, ⟨⟨v, u, e1, ⟨r, e2, q⟩, w⟩, f⟩, hL⟩ := h p e ha hc hk s m args below hf happ hP hK
  exact ⟨n, o, h1, h2, h3, ⟨⟨v, u, e1, ⟨r, e2, hp r u q⟩, w⟩, f⟩, hL⟩
/-- the store S holds an object at P whose house is v -/
def GS (z : Nat) (sh : Nat → Option Kd) (P : Nat) (v : Nat → Nat) (S : StT) : Prop := ∃ (σ : Nat → Nat → Int32) (ρ : Nat → Nat → Option Nat) (b : Nat) (s : Nat → Nat) (nu : Nat) (hf : Nat → Nat) (fl : Nat → Bool) (sv p : Nat → Nat) (ln : Nat), S = (z, sh, σ, ρ) ∧ CSt sh σ ρ P b s v nu hf fl sv p ln
theorem GS.sh {z : Nat} {sh : Nat → Option Kd} {P : Nat} {v : Nat → Nat} {S : StT} (hG : GS z sh P v S) : S.2.1 P = some (.inl 10) := by
  obtain ⟨σ, ρ, b, s, nu, hf, fl, sv, p, ln, rfl, hC⟩ := hG
  exact hC.1.1.1.1
theorem GS.ok {z : Nat} {sh : Nat → Option Kd} {P : Nat} {v : Nat → Nat} {S : StT} (hG : GS z sh P v S) : okR v := by
  obtain ⟨σ, ρ, b, s, nu, hf, fl, sv, p, ln, rfl, hC⟩ := hG
  exact hC.ok
theorem keysAt_le {v : Nat → Nat} (h : okR v) (p : Nat) : keysAt v p < 65536 := keysAt_lt v p h.2.2.2.2.2.1
/-- the numbers of a house are small -/
theorem GS.nums {z : Nat} {sh : Nat → Option Kd} {P : Nat} {v : Nat → Nat} {S : StT} (hG : GS z sh P v S) : (1 ≤ v 0 ∧ v 0 ≤ 9) ∧ v 1 ≤ 50 ∧ (40 ≤ v 2 ∧ v 2 ≤ 90) ∧ v 3 < 8 ∧ v 4 ≤ 10 ∧ v 5 ≤ 16 ∧ v 9 ≤ 6 ∧ keysAt v 8 < 65536 :=
  have h := hG.ok
  ⟨h.1, h.2.1, h.2.2.1, h.2.2.2.1, h.2.2.2.2.1, h.2.2.2.2.2.1, h.2.2.2.2.2.2.1, keysAt_le h 8⟩
theorem GS.door {z : Nat} {sh : Nat → Option Kd} {P : Nat} {v : Nat → Nat} {S : StT} (hG : GS z sh P v S) {d : Nat} (hd : d < v 4) : v (20 + 6 * d) < 8 ∧ v (20 + 6 * d + 1) < 8 ∧ v (20 + 6 * d + 2) < 10000 ∧ v (20 + 6 * d + 3) < 10000 ∧ lockWt v d ≤ 44 ∧ keysFor v d < 65536 :=
  have h := hG.ok.2.2.2.2.2.2.2.1 d hd
  ⟨h.1, h.2.1, h.2.2.1, h.2.2.2, lockW_le _ _, Nat.lt_of_lt_of_le (bitsF_lt _ _) (Nat.pow_le_pow_right (by decide) hG.ok.2.2.2.2.2.1 : 2 ^ v 5 ≤ 2 ^ 16)⟩
theorem GS.key {z : Nat} {sh : Nat → Option Kd} {P : Nat} {v : Nat → Nat} {S : StT} (hG : GS z sh P v S) {k : Nat} (hk : k < v 5) : v (80 + 4 * k) < 10000 ∧ v (80 + 4 * k + 2) ≤ 9 ∧ keyWt v k ≤ 90 ∧ doorsOf v k < 1024 :=
  have h := hG.ok.2.2.2.2.2.2.2.2.1 k hk
  ⟨h.1, h.2.2, keyWt_le hG.ok hk, Nat.lt_of_lt_of_le (bitsF_lt _ _) (Nat.pow_le_pow_right (by decide) hG.ok.2.2.2.2.1 : 2 ^ v 4 ≤ 2 ^ 10)⟩
theorem q_count {Ω : OmT} {z : Nat} {sh : Nat → Option Kd} {P : Nat} {v : Nat → Nat} {S : StT} (hG : GS z sh P v S) (hb : v 7 ≤ 900000000) {x1 : Int} (hx1 : -2147483648 ≤ x1 ∧ x1 < 2147483648) (h11 : ¬ x1 = 11) (h12 : ¬ x1 = 12) : CtI Ω yX11_count cX11_count 2 .int rm_X11_count [.ref P, .int (zI x1)] S (fun r u => r = zI (sOfAll v x1) ∧ GS z sh P v u) := by
  obtain ⟨σ, ρ, b, s, nu, hf, fl, sv, p, ln, rfl, hC⟩ := hG
  exact CtI.imp (c_X11_count (Ω := Ω) hC hb hx1) (fun r u hp => ⟨(by rw [hp.1]; unfold sCount; rw [if_neg h11, if_neg h12]), σ, ρ, b, s, nu, hf, fl, sv, p, ln, hp.2, hC⟩)
theorem q_ofDoor {Ω : OmT} {z : Nat} {sh : Nat → Option Kd} {P : Nat} {v : Nat → Nat} {S : StT} (hG : GS z sh P v S) (hb : v 7 ≤ 900000000) {x1 : Int} (hx1 : -2147483648 ≤ x1 ∧ x1 < 2147483648) {x2 : Int} (hx2 : -2147483648 ≤ x2 ∧ x2 < 2147483648) : CtI Ω yX11_ofDoor cX11_ofDoor 3 .int rm_X11_ofDoor [.ref P, .int (zI x1), .int (zI x2)] S (fun r u => r = zI (sOfDoor v x1 x2) ∧ GS z sh P v u) := by
  obtain ⟨σ, ρ, b, s, nu, hf, fl, sv, p, ln, rfl, hC⟩ := hG
  exact CtI.imp (c_X11_ofDoor (Ω := Ω) hC hb hx1 hx2) (fun r u hp => ⟨hp.1, σ, ρ, b, s, nu, hf, fl, sv, p, ln, hp.2, hC⟩)
theorem q_ofKey {Ω : OmT} {z : Nat} {sh : Nat → Option Kd} {P : Nat} {v : Nat → Nat} {S : StT} (hG : GS z sh P v S) (hb : v 7 ≤ 900000000) {x1 : Int} (hx1 : -2147483648 ≤ x1 ∧ x1 < 2147483648) {x2 : Int} (hx2 : -2147483648 ≤ x2 ∧ x2 < 2147483648) : CtI Ω yX11_ofKey cX11_ofKey 3 .int rm_X11_ofKey [.ref P, .int (zI x1), .int (zI x2)] S (fun r u => r = zI (sOfKey v x1 x2) ∧ GS z sh P v u) := by
  obtain ⟨σ, ρ, b, s, nu, hf, fl, sv, p, ln, rfl, hC⟩ := hG
  exact CtI.imp (c_X11_ofKey (Ω := Ω) hC hb hx1 hx2) (fun r u hp => ⟨hp.1, σ, ρ, b, s, nu, hf, fl, sv, p, ln, hp.2, hC⟩)
theorem q_opens {Ω : OmT} {z : Nat} {sh : Nat → Option Kd} {P : Nat} {v : Nat → Nat} {S : StT} (hG : GS z sh P v S) (hb : v 7 ≤ 900000000) {x1 : Int} (hx1 : -2147483648 ≤ x1 ∧ x1 < 2147483648) {x2 : Int} (hx2 : -2147483648 ≤ x2 ∧ x2 < 2147483648) : CtI Ω yX11_opens cX11_opens 3 .int rm_X11_opens [.ref P, .int (zI x1), .int (zI x2)] S (fun r u => r = zI (sOpens v x1 x2) ∧ GS z sh P v u) := by
  obtain ⟨σ, ρ, b, s, nu, hf, fl, sv, p, ln, rfl, hC⟩ := hG
  exact CtI.imp (c_X11_opens (Ω := Ω) hC hb hx1 hx2) (fun r u hp => ⟨hp.1, σ, ρ, b, s, nu, hf, fl, sv, p, ln, hp.2, hC⟩)
theorem q_reach {Ω : OmT} {z : Nat} {sh : Nat → Option Kd} {P : Nat} {v : Nat → Nat} {S : StT} (hG : GS z sh P v S) (hb : v 7 ≤ 900000000) : CtI Ω yX11_reach cX11_reach 1 .int rm_X11_reach [.ref P] S (fun r u => r = zI (((sReach v : Nat) : Int)) ∧ GS z sh P v u) := by
  obtain ⟨σ, ρ, b, s, nu, hf, fl, sv, p, ln, rfl, hC⟩ := hG
  exact CtI.imp (c_X11_reach (Ω := Ω) hC hb) (fun r u hp => by
    obtain ⟨τ, hu, hr, hfr⟩ := hp
    exact ⟨hr, τ, ρ, b, s, nu, hf, fl, sv, p, ln, hu, hC.sig (fun q q1 q2 q3 => hfr q (by omega))⟩)
theorem q_doorsTo {Ω : OmT} {z : Nat} {sh : Nat → Option Kd} {P : Nat} {v : Nat → Nat} {S : StT} (hG : GS z sh P v S) (hb : v 7 ≤ 900000000) {x1 : Int} (hx1 : -2147483648 ≤ x1 ∧ x1 < 2147483648) : CtI Ω yX11_doorsTo cX11_doorsTo 2 .int rm_X11_doorsTo [.ref P, .int (zI x1)] S (fun r u => r = zI (sDoorsTo v x1) ∧ GS z sh P v u) := by
  obtain ⟨σ, ρ, b, s, nu, hf, fl, sv, p, ln, rfl, hC⟩ := hG
  exact CtI.imp (c_X11_doorsTo (Ω := Ω) hC hb hx1) (fun r u hp => by
    obtain ⟨τ, hu, hr, hfr⟩ := hp
    exact ⟨hr, τ, ρ, b, s, nu, hf, fl, sv, p, ln, hu, hC.sig (fun q q1 q2 q3 => hfr q (by omega))⟩)
theorem q_planOrder {Ω : OmT} {z : Nat} {sh : Nat → Option Kd} {P : Nat} {v : Nat → Nat} {S : StT} (hG : GS z sh P v S) (hb : v 7 ≤ 900000000) {x1 : Int} (hx1 : -2147483648 ≤ x1 ∧ x1 < 2147483648) : CtI Ω yX11_planOrder cX11_planOrder 2 .int rm_X11_planOrder [.ref P, .int (zI x1)] S (fun r u => r = zI (sPlanOrder v x1) ∧ GS z sh P v u) := by
  obtain ⟨σ, ρ, b, s, nu, hf, fl, sv, p, ln, rfl, hC⟩ := hG
  exact CtI.imp (c_X11_planOrder (Ω := Ω) hC hb hx1) (fun r u hp => by
    obtain ⟨τ, hu, hr, hfr⟩ := hp
    exact ⟨hr, τ, ρ, b, s, nu, hf, fl, sv, p, ln, hu, hC.sig (fun q q1 q2 q3 => hfr q (by omega))⟩)
theorem q_planOrders {Ω : OmT} {z : Nat} {sh : Nat → Option Kd} {P : Nat} {v : Nat → Nat} {S : StT} (hG : GS z sh P v S) (hb : v 7 ≤ 900000000) : CtI Ω yX11_planOrders cX11_planOrders 1 .int rm_X11_planOrders [.ref P] S (fun r u => r = zI (((oC v (v 9) 0 : Nat) : Int)) ∧ GS z sh P v u) := by
  obtain ⟨σ, ρ, b, s, nu, hf, fl, sv, p, ln, rfl, hC⟩ := hG
  exact CtI.imp (c_X11_planOrders (Ω := Ω) hC hb) (fun r u hp => by
    obtain ⟨τ, hu, hr, hfr⟩ := hp
    exact ⟨hr, τ, ρ, b, s, nu, hf, fl, sv, p, ln, hu, hC.sig (fun q q1 q2 q3 => hfr q (by omega))⟩)
theorem q_brassForPlan {Ω : OmT} {z : Nat} {sh : Nat → Option Kd} {P : Nat} {v : Nat → Nat} {S : StT} (hG : GS z sh P v S) (hb : v 7 ≤ 900000000) : CtI Ω yX11_brassForPlan cX11_brassForPlan 1 .int rm_X11_brassForPlan [.ref P] S (fun r u => r = zI (((mC v (v 9) 0 : Nat) : Int)) ∧ GS z sh P v u) := by
  obtain ⟨σ, ρ, b, s, nu, hf, fl, sv, p, ln, rfl, hC⟩ := hG
  exact CtI.imp (c_X11_brassForPlan (Ω := Ω) hC hb) (fun r u hp => by
    obtain ⟨τ, hu, hr, hfr⟩ := hp
    exact ⟨hr, τ, ρ, b, s, nu, hf, fl, sv, p, ln, hu, hC.sig (fun q q1 q2 q3 => hfr q (by omega))⟩)
theorem q_mustBeLast {Ω : OmT} {z : Nat} {sh : Nat → Option Kd} {P : Nat} {v : Nat → Nat} {S : StT} (hG : GS z sh P v S) (hb : v 7 ≤ 900000000) : CtI Ω yX11_mustBeLast cX11_mustBeLast 1 .int rm_X11_mustBeLast [.ref P] S (fun r u => r = zI (sLast v) ∧ GS z sh P v u) := by
  obtain ⟨σ, ρ, b, s, nu, hf, fl, sv, p, ln, rfl, hC⟩ := hG
  exact CtI.imp (c_X11_mustBeLast (Ω := Ω) hC hb) (fun r u hp => by
    obtain ⟨τ, hu, hr, hfr⟩ := hp
    exact ⟨hr, τ, ρ, b, s, nu, hf, fl, sv, p, ln, hu, hC.sig (fun q q1 q2 q3 => hfr q (by omega))⟩)
theorem qc_0 {Ω : OmT} {z : Nat} {sh : Nat → Option Kd} {P : Nat} {v : Nat → Nat} {S : StT} (hG : GS z sh P v S) (hb : v 7 ≤ 900000000) : CtI Ω yX11_count cX11_count 2 .int rm_X11_count [.ref P, .int (nI 0)] S (fun r u => r = nI (v 3) ∧ GS z sh P v u) := by
  have q := q_count (Ω := Ω) hG hb (x1 := ((0 : Nat) : Int)) (by omega) (by omega) (by omega)
  simp only [← nz] at q
  exact CtI.imp q (fun r u hp => ⟨by rw [hp.1]; rw [nz]; rfl, hp.2⟩)
theorem qc_1 {Ω : OmT} {z : Nat} {sh : Nat → Option Kd} {P : Nat} {v : Nat → Nat} {S : StT} (hG : GS z sh P v S) (hb : v 7 ≤ 900000000) : CtI Ω yX11_count cX11_count 2 .int rm_X11_count [.ref P, .int (nI 1)] S (fun r u => r = nI (keysAt v 8) ∧ GS z sh P v u) := by
  have q := q_count (Ω := Ω) hG hb (x1 := ((1 : Nat) : Int)) (by omega) (by omega) (by omega)
  simp only [← nz] at q
  exact CtI.imp q (fun r u hp => ⟨by rw [hp.1]; rw [nz]; rfl, hp.2⟩)
theorem qc_2 {Ω : OmT} {z : Nat} {sh : Nat → Option Kd} {P : Nat} {v : Nat → Nat} {S : StT} (hG : GS z sh P v S) (hb : v 7 ≤ 900000000) : CtI Ω yX11_count cX11_count 2 .int rm_X11_count [.ref P, .int (nI 2)] S (fun r u => r = nI (v 4) ∧ GS z sh P v u) := by
  have q := q_count (Ω := Ω) hG hb (x1 := ((2 : Nat) : Int)) (by omega) (by omega) (by omega)
  simp only [← nz] at q
  exact CtI.imp q (fun r u hp => ⟨by rw [hp.1]; rw [nz]; rfl, hp.2⟩)
theorem qc_3 {Ω : OmT} {z : Nat} {sh : Nat → Option Kd} {P : Nat} {v : Nat → Nat} {S : StT} (hG : GS z sh P v S) (hb : v 7 ≤ 900000000) : CtI Ω yX11_count cX11_count 2 .int rm_X11_count [.ref P, .int (nI 3)] S (fun r u => r = nI (v 5) ∧ GS z sh P v u) := by
  have q := q_count (Ω := Ω) hG hb (x1 := ((3 : Nat) : Int)) (by omega) (by omega) (by omega)
  simp only [← nz] at q
  exact CtI.imp q (fun r u hp => ⟨by rw [hp.1]; rw [nz]; rfl, hp.2⟩)
theorem qc_4 {Ω : OmT} {z : Nat} {sh : Nat → Option Kd} {P : Nat} {v : Nat → Nat} {S : StT} (hG : GS z sh P v S) (hb : v 7 ≤ 900000000) : CtI Ω yX11_count cX11_count 2 .int rm_X11_count [.ref P, .int (nI 4)] S (fun r u => r = nI (v 6) ∧ GS z sh P v u) := by
  have q := q_count (Ω := Ω) hG hb (x1 := ((4 : Nat) : Int)) (by omega) (by omega) (by omega)
  simp only [← nz] at q
  exact CtI.imp q (fun r u hp => ⟨by rw [hp.1]; rw [nz]; rfl, hp.2⟩)
theorem qc_5 {Ω : OmT} {z : Nat} {sh : Nat → Option Kd} {P : Nat} {v : Nat → Nat} {S : StT} (hG : GS z sh P v S) (hb : v 7 ≤ 900000000) : CtI Ω yX11_count cX11_count 2 .int rm_X11_count [.ref P, .int (nI 5)] S (fun r u => r = nI (inLk v) ∧ GS z sh P v u) := by
  have q := q_count (Ω := Ω) hG hb (x1 := ((5 : Nat) : Int)) (by omega) (by omega) (by omega)
  simp only [← nz] at q
  exact CtI.imp q (fun r u hp => ⟨by rw [hp.1]; rw [nz]; rfl, hp.2⟩)
theorem qc_6 {Ω : OmT} {z : Nat} {sh : Nat → Option Kd} {P : Nat} {v : Nat → Nat} {S : StT} (hG : GS z sh P v S) (hb : v 7 ≤ 900000000) : CtI Ω yX11_count cX11_count 2 .int rm_X11_count [.ref P, .int (nI 6)] S (fun r u => r = nI (inKy v) ∧ GS z sh P v u) := by
  have q := q_count (Ω := Ω) hG hb (x1 := ((6 : Nat) : Int)) (by omega) (by omega) (by omega)
  simp only [← nz] at q
  exact CtI.imp q (fun r u hp => ⟨by rw [hp.1]; rw [nz]; rfl, hp.2⟩)
theorem qc_7 {Ω : OmT} {z : Nat} {sh : Nat → Option Kd} {P : Nat} {v : Nat → Nat} {S : StT} (hG : GS z sh P v S) (hb : v 7 ≤ 900000000) : CtI Ω yX11_count cX11_count 2 .int rm_X11_count [.ref P, .int (nI 7)] S (fun r u => r = nI (v 7) ∧ GS z sh P v u) := by
  have q := q_count (Ω := Ω) hG hb (x1 := ((7 : Nat) : Int)) (by omega) (by omega) (by omega)
  simp only [← nz] at q
  exact CtI.imp q (fun r u hp => ⟨by rw [hp.1]; rw [nz]; rfl, hp.2⟩)
theorem qc_8 {Ω : OmT} {z : Nat} {sh : Nat → Option Kd} {P : Nat} {v : Nat → Nat} {S : StT} (hG : GS z sh P v S) (hb : v 7 ≤ 900000000) : CtI Ω yX11_count cX11_count 2 .int rm_X11_count [.ref P, .int (nI 8)] S (fun r u => r = nI (v 8) ∧ GS z sh P v u) := by
  have q := q_count (Ω := Ω) hG hb (x1 := ((8 : Nat) : Int)) (by omega) (by omega) (by omega)
  simp only [← nz] at q
  exact CtI.imp q (fun r u hp => ⟨by rw [hp.1]; rw [nz]; rfl, hp.2⟩)
theorem qc_9 {Ω : OmT} {z : Nat} {sh : Nat → Option Kd} {P : Nat} {v : Nat → Nat} {S : StT} (hG : GS z sh P v S) (hb : v 7 ≤ 900000000) : CtI Ω yX11_count cX11_count 2 .int rm_X11_count [.ref P, .int (nI 9)] S (fun r u => r = nI (v 9) ∧ GS z sh P v u) := by
  have q := q_count (Ω := Ω) hG hb (x1 := ((9 : Nat) : Int)) (by omega) (by omega) (by omega)
  simp only [← nz] at q
  exact CtI.imp q (fun r u hp => ⟨by rw [hp.1]; rw [nz]; rfl, hp.2⟩)
theorem qc_10 {Ω : OmT} {z : Nat} {sh : Nat → Option Kd} {P : Nat} {v : Nat → Nat} {S : StT} (hG : GS z sh P v S) (hb : v 7 ≤ 900000000) : CtI Ω yX11_count cX11_count 2 .int rm_X11_count [.ref P, .int (nI 10)] S (fun r u => r = nI (v 10) ∧ GS z sh P v u) := by
  have q := q_count (Ω := Ω) hG hb (x1 := ((10 : Nat) : Int)) (by omega) (by omega) (by omega)
  simp only [← nz] at q
  exact CtI.imp q (fun r u hp => ⟨by rw [hp.1]; rw [nz]; rfl, hp.2⟩)
theorem qc_13 {Ω : OmT} {z : Nat} {sh : Nat → Option Kd} {P : Nat} {v : Nat → Nat} {S : StT} (hG : GS z sh P v S) (hb : v 7 ≤ 900000000) : CtI Ω yX11_count cX11_count 2 .int rm_X11_count [.ref P, .int (nI 13)] S (fun r u => r = nI (v 0) ∧ GS z sh P v u) := by
  have q := q_count (Ω := Ω) hG hb (x1 := ((13 : Nat) : Int)) (by omega) (by omega) (by omega)
  simp only [← nz] at q
  exact CtI.imp q (fun r u hp => ⟨by rw [hp.1]; rw [nz]; rfl, hp.2⟩)
theorem qc_14 {Ω : OmT} {z : Nat} {sh : Nat → Option Kd} {P : Nat} {v : Nat → Nat} {S : StT} (hG : GS z sh P v S) (hb : v 7 ≤ 900000000) : CtI Ω yX11_count cX11_count 2 .int rm_X11_count [.ref P, .int (nI 14)] S (fun r u => r = nI (v 1) ∧ GS z sh P v u) := by
  have q := q_count (Ω := Ω) hG hb (x1 := ((14 : Nat) : Int)) (by omega) (by omega) (by omega)
  simp only [← nz] at q
  exact CtI.imp q (fun r u hp => ⟨by rw [hp.1]; rw [nz]; rfl, hp.2⟩)
theorem qc_15 {Ω : OmT} {z : Nat} {sh : Nat → Option Kd} {P : Nat} {v : Nat → Nat} {S : StT} (hG : GS z sh P v S) (hb : v 7 ≤ 900000000) : CtI Ω yX11_count cX11_count 2 .int rm_X11_count [.ref P, .int (nI 15)] S (fun r u => r = nI (v 2) ∧ GS z sh P v u) := by
  have q := q_count (Ω := Ω) hG hb (x1 := ((15 : Nat) : Int)) (by omega) (by omega) (by omega)
  simp only [← nz] at q
  exact CtI.imp q (fun r u hp => ⟨by rw [hp.1]; rw [nz]; rfl, hp.2⟩)
theorem qd_0 {Ω : OmT} {z : Nat} {sh : Nat → Option Kd} {P : Nat} {v : Nat → Nat} {S : StT} (hG : GS z sh P v S) (hb : v 7 ≤ 900000000) {d : Nat} (hd : d < v 4) : CtI Ω yX11_ofDoor cX11_ofDoor 3 .int rm_X11_ofDoor [.ref P, .int (nI d), .int (nI 0)] S (fun r u => r = nI (v (20 + 6 * d)) ∧ GS z sh P v u) := by
  have h4 := hG.nums
  have q := q_ofDoor (Ω := Ω) hG hb (x1 := ((d : Nat) : Int)) (by omega) (x2 := ((0 : Nat) : Int)) (by omega)
  simp only [← nz] at q
  exact CtI.imp q (fun r u hp => ⟨by rw [hp.1]; rw [nz]; refine congrArg zI ?_; unfold sOfDoor; rw [if_pos (by omega), Int.toNat_natCast]; rfl, hp.2⟩)
theorem qd_1 {Ω : OmT} {z : Nat} {sh : Nat → Option Kd} {P : Nat} {v : Nat → Nat} {S : StT} (hG : GS z sh P v S) (hb : v 7 ≤ 900000000) {d : Nat} (hd : d < v 4) : CtI Ω yX11_ofDoor cX11_ofDoor 3 .int rm_X11_ofDoor [.ref P, .int (nI d), .int (nI 1)] S (fun r u => r = nI (v (20 + 6 * d + 1)) ∧ GS z sh P v u) := by
  have h4 := hG.nums
  have q := q_ofDoor (Ω := Ω) hG hb (x1 := ((d : Nat) : Int)) (by omega) (x2 := ((1 : Nat) : Int)) (by omega)
  simp only [← nz] at q
  exact CtI.imp q (fun r u hp => ⟨by rw [hp.1]; rw [nz]; refine congrArg zI ?_; unfold sOfDoor; rw [if_pos (by omega), Int.toNat_natCast]; rfl, hp.2⟩)
theorem qd_2 {Ω : OmT} {z : Nat} {sh : Nat → Option Kd} {P : Nat} {v : Nat → Nat} {S : StT} (hG : GS z sh P v S) (hb : v 7 ≤ 900000000) {d : Nat} (hd : d < v 4) : CtI Ω yX11_ofDoor cX11_ofDoor 3 .int rm_X11_ofDoor [.ref P, .int (nI d), .int (nI 2)] S (fun r u => r = nI (v (20 + 6 * d + 2)) ∧ GS z sh P v u) := by
  have h4 := hG.nums
  have q := q_ofDoor (Ω := Ω) hG hb (x1 := ((d : Nat) : Int)) (by omega) (x2 := ((2 : Nat) : Int)) (by omega)
  simp only [← nz] at q
  exact CtI.imp q (fun r u hp => ⟨by rw [hp.1]; rw [nz]; refine congrArg zI ?_; unfold sOfDoor; rw [if_pos (by omega), Int.toNat_natCast]; rfl, hp.2⟩)
theorem qd_3 {Ω : OmT} {z : Nat} {sh : Nat → Option Kd} {P : Nat} {v : Nat → Nat} {S : StT} (hG : GS z sh P v S) (hb : v 7 ≤ 900000000) {d : Nat} (hd : d < v 4) : CtI Ω yX11_ofDoor cX11_ofDoor 3 .int rm_X11_ofDoor [.ref P, .int (nI d), .int (nI 3)] S (fun r u => r = nI (v (20 + 6 * d + 3)) ∧ GS z sh P v u) := by
  have h4 := hG.nums
  have q := q_ofDoor (Ω := Ω) hG hb (x1 := ((d : Nat) : Int)) (by omega) (x2 := ((3 : Nat) : Int)) (by omega)
  simp only [← nz] at q
  exact CtI.imp q (fun r u hp => ⟨by rw [hp.1]; rw [nz]; refine congrArg zI ?_; unfold sOfDoor; rw [if_pos (by omega), Int.toNat_natCast]; rfl, hp.2⟩)
theorem qd_4 {Ω : OmT} {z : Nat} {sh : Nat → Option Kd} {P : Nat} {v : Nat → Nat} {S : StT} (hG : GS z sh P v S) (hb : v 7 ≤ 900000000) {d : Nat} (hd : d < v 4) : CtI Ω yX11_ofDoor cX11_ofDoor 3 .int rm_X11_ofDoor [.ref P, .int (nI d), .int (nI 4)] S (fun r u => r = nI (lockWt v d) ∧ GS z sh P v u) := by
  have h4 := hG.nums
  have q := q_ofDoor (Ω := Ω) hG hb (x1 := ((d : Nat) : Int)) (by omega) (x2 := ((4 : Nat) : Int)) (by omega)
  simp only [← nz] at q
  exact CtI.imp q (fun r u hp => ⟨by rw [hp.1]; rw [nz]; refine congrArg zI ?_; unfold sOfDoor; rw [if_pos (by omega), Int.toNat_natCast]; rfl, hp.2⟩)
theorem qd_5 {Ω : OmT} {z : Nat} {sh : Nat → Option Kd} {P : Nat} {v : Nat → Nat} {S : StT} (hG : GS z sh P v S) (hb : v 7 ≤ 900000000) {d : Nat} (hd : d < v 4) : CtI Ω yX11_ofDoor cX11_ofDoor 3 .int rm_X11_ofDoor [.ref P, .int (nI d), .int (nI 5)] S (fun r u => r = nI (v (20 + 6 * d + 4)) ∧ GS z sh P v u) := by
  have h4 := hG.nums
  have q := q_ofDoor (Ω := Ω) hG hb (x1 := ((d : Nat) : Int)) (by omega) (x2 := ((5 : Nat) : Int)) (by omega)
  simp only [← nz] at q
  exact CtI.imp q (fun r u hp => ⟨by rw [hp.1]; rw [nz]; refine congrArg zI ?_; unfold sOfDoor; rw [if_pos (by omega), Int.toNat_natCast]; rfl, hp.2⟩)
theorem qd_6 {Ω : OmT} {z : Nat} {sh : Nat → Option Kd} {P : Nat} {v : Nat → Nat} {S : StT} (hG : GS z sh P v S) (hb : v 7 ≤ 900000000) {d : Nat} (hd : d < v 4) : CtI Ω yX11_ofDoor cX11_ofDoor 3 .int rm_X11_ofDoor [.ref P, .int (nI d), .int (nI 6)] S (fun r u => r = nI (keysFor v d) ∧ GS z sh P v u) := by
  have h4 := hG.nums
  have q := q_ofDoor (Ω := Ω) hG hb (x1 := ((d : Nat) : Int)) (by omega) (x2 := ((6 : Nat) : Int)) (by omega)
  simp only [← nz] at q
  exact CtI.imp q (fun r u hp => ⟨by rw [hp.1]; rw [nz]; refine congrArg zI ?_; unfold sOfDoor; rw [if_pos (by omega), Int.toNat_natCast]; rfl, hp.2⟩)
theorem qd_7 {Ω : OmT} {z : Nat} {sh : Nat → Option Kd} {P : Nat} {v : Nat → Nat} {S : StT} (hG : GS z sh P v S) (hb : v 7 ≤ 900000000) {d : Nat} (hd : d < v 4) : CtI Ω yX11_ofDoor cX11_ofDoor 3 .int rm_X11_ofDoor [.ref P, .int (nI d), .int (nI 7)] S (fun r u => r = zI (plcO v d) ∧ GS z sh P v u) := by
  have h4 := hG.nums
  have q := q_ofDoor (Ω := Ω) hG hb (x1 := ((d : Nat) : Int)) (by omega) (x2 := ((7 : Nat) : Int)) (by omega)
  simp only [← nz] at q
  exact CtI.imp q (fun r u hp => ⟨by rw [hp.1]; refine congrArg zI ?_; unfold sOfDoor; rw [if_pos (by omega), Int.toNat_natCast]; rfl, hp.2⟩)
theorem qk_0 {Ω : OmT} {z : Nat} {sh : Nat → Option Kd} {P : Nat} {v : Nat → Nat} {S : StT} (hG : GS z sh P v S) (hb : v 7 ≤ 900000000) {k : Nat} (hk : k < v 5) : CtI Ω yX11_ofKey cX11_ofKey 3 .int rm_X11_ofKey [.ref P, .int (nI k), .int (nI 0)] S (fun r u => r = nI (v (80 + 4 * k)) ∧ GS z sh P v u) := by
  have h4 := hG.nums
  have q := q_ofKey (Ω := Ω) hG hb (x1 := ((k : Nat) : Int)) (by omega) (x2 := ((0 : Nat) : Int)) (by omega)
  simp only [← nz] at q
  exact CtI.imp q (fun r u hp => ⟨by rw [hp.1]; rw [nz]; refine congrArg zI ?_; unfold sOfKey; rw [if_pos (by omega), Int.toNat_natCast]; rfl, hp.2⟩)
theorem qk_1 {Ω : OmT} {z : Nat} {sh : Nat → Option Kd} {P : Nat} {v : Nat → Nat} {S : StT} (hG : GS z sh P v S) (hb : v 7 ≤ 900000000) {k : Nat} (hk : k < v 5) : CtI Ω yX11_ofKey cX11_ofKey 3 .int rm_X11_ofKey [.ref P, .int (nI k), .int (nI 1)] S (fun r u => r = nI (keyWt v k) ∧ GS z sh P v u) := by
  have h4 := hG.nums
  have q := q_ofKey (Ω := Ω) hG hb (x1 := ((k : Nat) : Int)) (by omega) (x2 := ((1 : Nat) : Int)) (by omega)
  simp only [← nz] at q
  exact CtI.imp q (fun r u hp => ⟨by rw [hp.1]; rw [nz]; refine congrArg zI ?_; unfold sOfKey; rw [if_pos (by omega), Int.toNat_natCast]; rfl, hp.2⟩)
theorem qk_2 {Ω : OmT} {z : Nat} {sh : Nat → Option Kd} {P : Nat} {v : Nat → Nat} {S : StT} (hG : GS z sh P v S) (hb : v 7 ≤ 900000000) {k : Nat} (hk : k < v 5) : CtI Ω yX11_ofKey cX11_ofKey 3 .int rm_X11_ofKey [.ref P, .int (nI k), .int (nI 2)] S (fun r u => r = nI (v (80 + 4 * k + 2)) ∧ GS z sh P v u) := by
  have h4 := hG.nums
  have q := q_ofKey (Ω := Ω) hG hb (x1 := ((k : Nat) : Int)) (by omega) (x2 := ((2 : Nat) : Int)) (by omega)
  simp only [← nz] at q
  exact CtI.imp q (fun r u hp => ⟨by rw [hp.1]; rw [nz]; refine congrArg zI ?_; unfold sOfKey; rw [if_pos (by omega), Int.toNat_natCast]; rfl, hp.2⟩)
theorem qk_3 {Ω : OmT} {z : Nat} {sh : Nat → Option Kd} {P : Nat} {v : Nat → Nat} {S : StT} (hG : GS z sh P v S) (hb : v 7 ≤ 900000000) {k : Nat} (hk : k < v 5) : CtI Ω yX11_ofKey cX11_ofKey 3 .int rm_X11_ofKey [.ref P, .int (nI k), .int (nI 3)] S (fun r u => r = nI (doorsOf v k) ∧ GS z sh P v u) := by
  have h4 := hG.nums
  have q := q_ofKey (Ω := Ω) hG hb (x1 := ((k : Nat) : Int)) (by omega) (x2 := ((3 : Nat) : Int)) (by omega)
  simp only [← nz] at q
  exact CtI.imp q (fun r u hp => ⟨by rw [hp.1]; rw [nz]; refine congrArg zI ?_; unfold sOfKey; rw [if_pos (by omega), Int.toNat_natCast]; rfl, hp.2⟩)
theorem fitL_1 (f s : Nat) : fitL f f s = true := by
  simp [fitL, fitK]
theorem fitL_2 (f s : Nat) : fitL s f s = true := by
  simp [fitL, fitK]
theorem qo_1 {Ω : OmT} {z : Nat} {sh : Nat → Option Kd} {P : Nat} {v : Nat → Nat} {S : StT} (hG : GS z sh P v S) (hb : v 7 ≤ 900000000) {d : Nat} (hd : d < v 4) : CtI Ω yX11_opens cX11_opens 3 .int rm_X11_opens [.ref P, .int (nI (v (20 + 6 * d + 2))), .int (nI d)] S (fun r u => r = nI 1 ∧ GS z sh P v u) := by
  have h4 := hG.nums
  have h5 := hG.door hd
  have q := q_opens (Ω := Ω) hG hb (x1 := ((v (20 + 6 * d + 2) : Nat) : Int)) (by omega) (x2 := ((d : Nat) : Int)) (by omega)
  simp only [← nz] at q
  exact CtI.imp q (fun r u hp => ⟨by rw [hp.1]; unfold sOpens; rw [if_pos (by omega), if_pos (by omega), Int.toNat_natCast, Int.toNat_natCast, if_pos (show opnD v (v (20 + 6 * d + 2)) d = true from fitL_1 _ _)]; rfl, hp.2⟩)
theorem qo_2 {Ω : OmT} {z : Nat} {sh : Nat → Option Kd} {P : Nat} {v : Nat → Nat} {S : StT} (hG : GS z sh P v S) (hb : v 7 ≤ 900000000) {d : Nat} (hd : d < v 4) : CtI Ω yX11_opens cX11_opens 3 .int rm_X11_opens [.ref P, .int (nI (v (20 + 6 * d + 3))), .int (nI d)] S (fun r u => r = nI 1 ∧ GS z sh P v u) := by
  have h4 := hG.nums
  have h5 := hG.door hd
  have q := q_opens (Ω := Ω) hG hb (x1 := ((v (20 + 6 * d + 3) : Nat) : Int)) (by omega) (x2 := ((d : Nat) : Int)) (by omega)
  simp only [← nz] at q
  exact CtI.imp q (fun r u hp => ⟨by rw [hp.1]; unfold sOpens; rw [if_pos (by omega), if_pos (by omega), Int.toNat_natCast, Int.toNat_natCast, if_pos (show opnD v (v (20 + 6 * d + 3)) d = true from fitL_2 _ _)]; rfl, hp.2⟩)
theorem qr {Ω : OmT} {z : Nat} {sh : Nat → Option Kd} {P : Nat} {v : Nat → Nat} {S : StT} (hG : GS z sh P v S) (hb : v 7 ≤ 900000000) : CtI Ω yX11_reach cX11_reach 1 .int rm_X11_reach [.ref P] S (fun r u => r = nI (sReach v) ∧ GS z sh P v u) := by
  exact CtI.imp (q_reach hG hb) (fun r u hp => ⟨by rw [hp.1]; exact (nz _).symm, hp.2⟩)
theorem qpo {Ω : OmT} {z : Nat} {sh : Nat → Option Kd} {P : Nat} {v : Nat → Nat} {S : StT} (hG : GS z sh P v S) (hb : v 7 ≤ 900000000) : CtI Ω yX11_planOrders cX11_planOrders 1 .int rm_X11_planOrders [.ref P] S (fun r u => r = nI (oC v (v 9) 0) ∧ GS z sh P v u) := by
  exact CtI.imp (q_planOrders hG hb) (fun r u hp => ⟨by rw [hp.1]; exact (nz _).symm, hp.2⟩)
theorem qbp {Ω : OmT} {z : Nat} {sh : Nat → Option Kd} {P : Nat} {v : Nat → Nat} {S : StT} (hG : GS z sh P v S) (hb : v 7 ≤ 900000000) : CtI Ω yX11_brassForPlan cX11_brassForPlan 1 .int rm_X11_brassForPlan [.ref P] S (fun r u => r = nI (mC v (v 9) 0) ∧ GS z sh P v u) := by
  exact CtI.imp (q_brassForPlan hG hb) (fun r u hp => ⟨by rw [hp.1]; exact (nz _).symm, hp.2⟩)
theorem qdt {Ω : OmT} {z : Nat} {sh : Nat → Option Kd} {P : Nat} {v : Nat → Nat} {S : StT} (hG : GS z sh P v S) (hb : v 7 ≤ 900000000) {t : Nat} (ht : t < 1000) : CtI Ω yX11_doorsTo cX11_doorsTo 2 .int rm_X11_doorsTo [.ref P, .int (nI t)] S (fun r u => r = zI (sDoorsTo v ((t : Nat) : Int)) ∧ GS z sh P v u) := by
  have q := q_doorsTo (Ω := Ω) hG hb (x1 := ((t : Nat) : Int)) (by omega)
  simp only [← nz] at q
  exact q
theorem qp {Ω : OmT} {z : Nat} {sh : Nat → Option Kd} {P : Nat} {v : Nat → Nat} {S : StT} (hG : GS z sh P v S) (hb : v 7 ≤ 900000000) {t : Nat} (ht : t < 1000) : CtI Ω yX11_planOrder cX11_planOrder 2 .int rm_X11_planOrder [.ref P, .int (nI t)] S (fun r u => r = zI (sPlanOrder v ((t : Nat) : Int)) ∧ GS z sh P v u) := by
  have q := q_planOrder (Ω := Ω) hG hb (x1 := ((t : Nat) : Int)) (by omega)
  simp only [← nz] at q
  exact q
theorem m_set {Ω : OmT} {z : Nat} {sh : Nat → Option Kd} {P : Nat} {v : Nat → Nat} {S : StT} (hG : GS z sh P v S) (hb : v 7 ≤ 900000000) {x y : Nat} (hx : x < 100000) (hy : y < 100000) : CtI Ω yX11_set cX11_set 3 .int rm_X11_set [.ref P, .int (nI x), .int (nI y)] S (fun r u => ∃ X : Int × (Nat → Nat), r = zI X.1 ∧ GS z sh P X.2 u ∧ X = sSet v ((x : Nat) : Int) ((y : Nat) : Int)) := by
  have h0 := hG.nums
  obtain ⟨σ, ρ, b, s, nu, hf, fl, sv, p, ln, rfl, hC⟩ := hG
  have q := c_X11_set (Ω := Ω) (z := z) hC hb (x1 := ((x : Nat) : Int)) (by omega) (x2 := ((y : Nat) : Int)) (by omega)
  simp only [← nz] at q
  exact CtI.imp q (fun r u hp => by
    obtain ⟨σ2, ρ2, hu, hr, ⟨b2, s2, hC2⟩, _⟩ := hp
    exact ⟨_, hr, ⟨σ2, ρ2, b2, s2, _, _, fl, sv, p, ln, hu, hC2⟩, rfl⟩)
theorem m_brass {Ω : OmT} {z : Nat} {sh : Nat → Option Kd} {P : Nat} {v : Nat → Nat} {S : StT} (hG : GS z sh P v S) (hb : v 7 ≤ 900000000) {g : Nat} (hg : g < 100000) : CtI Ω yX11_brass cX11_brass 2 .int rm_X11_brass [.ref P, .int (nI g)] S (fun r u => ∃ X : Int × (Nat → Nat), r = zI X.1 ∧ GS z sh P X.2 u ∧ X = sBrass v ((g : Nat) : Int)) := by
  have h0 := hG.nums
  obtain ⟨σ, ρ, b, s, nu, hf, fl, sv, p, ln, rfl, hC⟩ := hG
  have q := c_X11_brass (Ω := Ω) (z := z) hC hb (x1 := ((g : Nat) : Int)) (by omega)
  simp only [← nz] at q
  exact CtI.imp q (fun r u hp => by
    obtain ⟨σ2, ρ2, hu, hr, ⟨b2, s2, hC2⟩, _⟩ := hp
    exact ⟨_, hr, ⟨σ2, ρ2, b2, s2, _, _, fl, sv, p, ln, hu, hC2⟩, rfl⟩)
theorem m_door {Ω : OmT} {z : Nat} {sh : Nat → Option Kd} {P : Nat} {v : Nat → Nat} {S : StT} (hG : GS z sh P v S) (hb : v 7 ≤ 900000000) {a1 a2 a3 a4 : Nat} (ha1 : a1 < 100000) (ha2 : a2 < 100000) (ha3 : a3 < 100000) (ha4 : a4 < 100000) : CtI Ω yX11_door cX11_door 5 .int rm_X11_door [.ref P, .int (nI a1), .int (nI a2), .int (nI a3), .int (nI a4)] S (fun r u => ∃ X : Int × (Nat → Nat), r = zI X.1 ∧ GS z sh P X.2 u ∧ X = sDoor v ((a1 : Nat) : Int) ((a2 : Nat) : Int) ((a3 : Nat) : Int) ((a4 : Nat) : Int)) := by
  have h0 := hG.nums
  obtain ⟨σ, ρ, b, s, nu, hf, fl, sv, p, ln, rfl, hC⟩ := hG
  have q := c_X11_door (Ω := Ω) (z := z) hC hb (x1 := ((a1 : Nat) : Int)) (by omega) (x2 := ((a2 : Nat) : Int)) (by omega) (x3 := ((a3 : Nat) : Int)) (by omega) (x4 := ((a4 : Nat) : Int)) (by omega)
  simp only [← nz] at q
  exact CtI.imp q (fun r u hp => by
    obtain ⟨σ2, ρ2, hu, hr, ⟨b2, s2, hC2⟩, _⟩ := hp
    exact ⟨_, hr, ⟨σ2, ρ2, b2, s2, _, _, fl, sv, p, ln, hu, hC2⟩, rfl⟩)
theorem m_cut {Ω : OmT} {z : Nat} {sh : Nat → Option Kd} {P : Nat} {v : Nat → Nat} {S : StT} (hG : GS z sh P v S) (hb : v 7 ≤ 900000000) {a1 a2 a3 : Nat} (ha1 : a1 < 100000) (ha2 : a2 < 100000) (ha3 : a3 < 100000) : CtI Ω yX11_cut cX11_cut 4 .int rm_X11_cut [.ref P, .int (nI a1), .int (nI a2), .int (nI a3)] S (fun r u => ∃ X : Int × (Nat → Nat), r = zI X.1 ∧ GS z sh P X.2 u ∧ X = sCut v ((a1 : Nat) : Int) ((a2 : Nat) : Int) ((a3 : Nat) : Int)) := by
  have h0 := hG.nums
  obtain ⟨σ, ρ, b, s, nu, hf, fl, sv, p, ln, rfl, hC⟩ := hG
  have q := c_X11_cut (Ω := Ω) (z := z) hC hb (x1 := ((a1 : Nat) : Int)) (by omega) (x2 := ((a2 : Nat) : Int)) (by omega) (x3 := ((a3 : Nat) : Int)) (by omega)
  simp only [← nz] at q
  exact CtI.imp q (fun r u hp => by
    obtain ⟨σ2, ρ2, hu, hr, ⟨b2, s2, hC2⟩, _⟩ := hp
    exact ⟨_, hr, ⟨σ2, ρ2, b2, s2, _, _, fl, sv, p, ln, hu, hC2⟩, rfl⟩)
theorem m_key {Ω : OmT} {z : Nat} {sh : Nat → Option Kd} {P : Nat} {v : Nat → Nat} {S : StT} (hG : GS z sh P v S) (hb : v 7 ≤ 900000000) {a1 a2 : Nat} (ha1 : a1 < 100000) (ha2 : a2 < 100000) : CtI Ω yX11_key cX11_key 3 .int rm_X11_key [.ref P, .int (nI a1), .int (nI a2)] S (fun r u => ∃ X : Int × (Nat → Nat), r = zI X.1 ∧ GS z sh P X.2 u ∧ X = sKey v ((a1 : Nat) : Int) ((a2 : Nat) : Int)) := by
  have h0 := hG.nums
  obtain ⟨σ, ρ, b, s, nu, hf, fl, sv, p, ln, rfl, hC⟩ := hG
  have q := c_X11_key (Ω := Ω) (z := z) hC hb (x1 := ((a1 : Nat) : Int)) (by omega) (x2 := ((a2 : Nat) : Int)) (by omega)
  simp only [← nz] at q
  exact CtI.imp q (fun r u hp => by
    obtain ⟨σ2, ρ2, hu, hr, ⟨b2, s2, hC2⟩, _⟩ := hp
    exact ⟨_, hr, ⟨σ2, ρ2, b2, s2, _, _, fl, sv, p, ln, hu, hC2⟩, rfl⟩)
theorem m_melt {Ω : OmT} {z : Nat} {sh : Nat → Option Kd} {P : Nat} {v : Nat → Nat} {S : StT} (hG : GS z sh P v S) (hb : v 7 ≤ 900000000) {a1 : Nat} (ha1 : a1 < 100000) : CtI Ω yX11_melt cX11_melt 2 .int rm_X11_melt [.ref P, .int (nI a1)] S (fun r u => ∃ X : Int × (Nat → Nat), r = zI X.1 ∧ GS z sh P X.2 u ∧ X = sMelt v ((a1 : Nat) : Int)) := by
  have h0 := hG.nums
  obtain ⟨σ, ρ, b, s, nu, hf, fl, sv, p, ln, rfl, hC⟩ := hG
  have q := c_X11_melt (Ω := Ω) (z := z) hC hb (x1 := ((a1 : Nat) : Int)) (by omega)
  simp only [← nz] at q
  exact CtI.imp q (fun r u hp => by
    obtain ⟨σ2, ρ2, hu, hr, ⟨b2, s2, hC2⟩, _⟩ := hp
    exact ⟨_, hr, ⟨σ2, ρ2, b2, s2, _, _, fl, sv, p, ln, hu, hC2⟩, rfl⟩)
theorem m_take {Ω : OmT} {z : Nat} {sh : Nat → Option Kd} {P : Nat} {v : Nat → Nat} {S : StT} (hG : GS z sh P v S) (hb : v 7 ≤ 900000000) {a1 : Nat} (ha1 : a1 < 100000) : CtI Ω yX11_take cX11_take 2 .int rm_X11_take [.ref P, .int (nI a1)] S (fun r u => ∃ X : Int × (Nat → Nat), r = zI X.1 ∧ GS z sh P X.2 u ∧ X = sMove v ((a1 : Nat) : Int) (v 3) 8) := by
  have h0 := hG.nums
  obtain ⟨σ, ρ, b, s, nu, hf, fl, sv, p, ln, rfl, hC⟩ := hG
  have q := c_X11_take (Ω := Ω) (z := z) hC hb (x1 := ((a1 : Nat) : Int)) (by omega)
  simp only [← nz] at q
  exact CtI.imp q (fun r u hp => by
    obtain ⟨σ2, ρ2, hu, hr, ⟨b2, s2, hC2⟩, _⟩ := hp
    exact ⟨_, hr, ⟨σ2, ρ2, b2, s2, _, _, fl, sv, p, ln, hu, hC2⟩, rfl⟩)
theorem m_putDown {Ω : OmT} {z : Nat} {sh : Nat → Option Kd} {P : Nat} {v : Nat → Nat} {S : StT} (hG : GS z sh P v S) (hb : v 7 ≤ 900000000) {a1 : Nat} (ha1 : a1 < 100000) : CtI Ω yX11_putDown cX11_putDown 2 .int rm_X11_putDown [.ref P, .int (nI a1)] S (fun r u => ∃ X : Int × (Nat → Nat), r = zI X.1 ∧ GS z sh P X.2 u ∧ X = sMove v ((a1 : Nat) : Int) 8 (v 3)) := by
  have h0 := hG.nums
  obtain ⟨σ, ρ, b, s, nu, hf, fl, sv, p, ln, rfl, hC⟩ := hG
  have q := c_X11_putDown (Ω := Ω) (z := z) hC hb (x1 := ((a1 : Nat) : Int)) (by omega)
  simp only [← nz] at q
  exact CtI.imp q (fun r u hp => by
    obtain ⟨σ2, ρ2, hu, hr, ⟨b2, s2, hC2⟩, _⟩ := hp
    exact ⟨_, hr, ⟨σ2, ρ2, b2, s2, _, _, fl, sv, p, ln, hu, hC2⟩, rfl⟩)
theorem m_go {Ω : OmT} {z : Nat} {sh : Nat → Option Kd} {P : Nat} {v : Nat → Nat} {S : StT} (hG : GS z sh P v S) (hb : v 7 ≤ 900000000) {a1 : Nat} (ha1 : a1 < 100000) : CtI Ω yX11_go cX11_go 2 .int rm_X11_go [.ref P, .int (nI a1)] S (fun r u => ∃ X : Int × (Nat → Nat), r = zI X.1 ∧ GS z sh P X.2 u ∧ X = sGo v ((a1 : Nat) : Int)) := by
  have h0 := hG.nums
  obtain ⟨σ, ρ, b, s, nu, hf, fl, sv, p, ln, rfl, hC⟩ := hG
  have q := c_X11_go (Ω := Ω) (z := z) hC hb (x1 := ((a1 : Nat) : Int)) (by omega)
  simp only [← nz] at q
  exact CtI.imp q (fun r u hp => by
    obtain ⟨σ2, ρ2, hu, hr, ⟨b2, s2, hC2⟩, _⟩ := hp
    exact ⟨_, hr, ⟨σ2, ρ2, b2, s2, _, _, fl, sv, p, ln, hu, hC2⟩, rfl⟩)
theorem m_plan {Ω : OmT} {z : Nat} {sh : Nat → Option Kd} {P : Nat} {v : Nat → Nat} {S : StT} (hG : GS z sh P v S) (hb : v 7 ≤ 900000000) {a1 a2 a3 : Nat} (ha1 : a1 < 100000) (ha2 : a2 < 100000) (ha3 : a3 < 100000) : CtI Ω yX11_plan cX11_plan 4 .int rm_X11_plan [.ref P, .int (nI a1), .int (nI a2), .int (nI a3)] S (fun r u => ∃ X : Int × (Nat → Nat), r = zI X.1 ∧ GS z sh P X.2 u ∧ X = sPlan v ((a1 : Nat) : Int) ((a2 : Nat) : Int) ((a3 : Nat) : Int)) := by
  have h0 := hG.nums
  obtain ⟨σ, ρ, b, s, nu, hf, fl, sv, p, ln, rfl, hC⟩ := hG
  have q := c_X11_plan (Ω := Ω) (z := z) hC hb (x1 := ((a1 : Nat) : Int)) (by omega) (x2 := ((a2 : Nat) : Int)) (by omega) (x3 := ((a3 : Nat) : Int)) (by omega)
  simp only [← nz] at q
  exact CtI.imp q (fun r u hp => by
    obtain ⟨σ2, ρ2, hu, hr, ⟨b2, s2, hC2⟩, _⟩ := hp
    exact ⟨_, hr, ⟨σ2, ρ2, b2, s2, _, _, fl, sv, p, ln, hu, hC2⟩, rfl⟩)
theorem m_dropPlan {Ω : OmT} {z : Nat} {sh : Nat → Option Kd} {P : Nat} {v : Nat → Nat} {S : StT} (hG : GS z sh P v S) (hb : v 7 ≤ 900000000) : CtI Ω yX11_dropPlan cX11_dropPlan 1 .int rm_X11_dropPlan [.ref P] S (fun r u => ∃ X : Int × (Nat → Nat), r = zI X.1 ∧ GS z sh P X.2 u ∧ X = sDrop v) := by
  have h0 := hG.nums
  obtain ⟨σ, ρ, b, s, nu, hf, fl, sv, p, ln, rfl, hC⟩ := hG
  have q := c_X11_dropPlan (Ω := Ω) (z := z) hC hb
  exact CtI.imp q (fun r u hp => by
    obtain ⟨σ2, ρ2, hu, hr, ⟨b2, s2, hC2⟩, _⟩ := hp
    exact ⟨_, hr, ⟨σ2, ρ2, b2, s2, _, _, fl, sv, p, ln, hu, hC2⟩, rfl⟩)
theorem m_carryPlan {Ω : OmT} {z : Nat} {sh : Nat → Option Kd} {P : Nat} {v : Nat → Nat} {S : StT} (hG : GS z sh P v S) (hb : v 7 ≤ 900000000) : CtI Ω yX11_carryPlan cX11_carryPlan 3 .int rm_X11_carryPlan [.ref P] S (fun r u => ∃ X : Int × (Nat → Nat), r = zI X.1 ∧ GS z sh P X.2 u ∧ X = sCarryP v) := by
  have h0 := hG.nums
  obtain ⟨σ, ρ, b, s, nu, hf, fl, sv, p, ln, rfl, hC⟩ := hG
  have q := c_X11_carryPlan (Ω := Ω) (z := z) hC hb
  exact CtI.imp q (fun r u hp => by
    obtain ⟨σ2, ρ2, hu, hr, ⟨b2, s2, hC2⟩, _⟩ := hp
    exact ⟨_, hr, ⟨σ2, ρ2, b2, s2, _, _, fl, sv, p, ln, hu, hC2⟩, rfl⟩)
