/-! ===== the calls of the law ===== -/
set_option maxRecDepth 100000 in
set_option maxHeartbeats 4000000 in
theorem lc_set {Ω : OmT} {Φ : PhT} {z : Nat} {sh : Nat → Option Kd} {σ : Nat → Nat → Int32} {ρ : Nat → Nat → Option Nat} {P M b i L B : Nat} {xs : Nat → Int32} {v : Nat → Nat} {nu : Nat} {hf : Nat → Nat} {fl : Nat → Bool} {sv p : Nat → Nat} {ln : Nat} (hc : CXp Ω Φ cL_law RL room_1 4) (hX : va_X b L xs Φ.2.2.2.1 Φ.2.2.2.1.heap) (hbO : b < Ω.2.2.2) (hPM : P + 391 ≤ M) (hR : Rel B sh σ ρ P M v nu hf fl sv p ln) (hB : B ≤ 800000000) (hi : i + 5 ≤ L) (hL : L ≤ 2560) (ih : ∀ (σ : Nat → Nat → Int32) (ρ : Nat → Nat → Option Nat) (v : Nat → Nat) (nu : Nat) (hf : Nat → Nat) (fl : Nat → Bool) (sv p : Nat → Nat) (ln : Nat), Rel (B + 27000) sh σ ρ P M v nu hf fl sv p ln → Vw Ω Φ (z, sh, σ, ρ) (600000, 7302250) 935 [(0, .ref b), (1, .ref P), (2, .ref M), (3, .int (nI i))] []) : Vw Ω Φ (z, sh, σ, ρ) (600000, 7302250) 172 [(0, .ref b), (1, .ref P), (2, .ref M), (3, .int (nI i))] [] := by
  obtain ⟨⟨b0, s0, hC⟩, hMS, hBd⟩ := id hR
  have hnu := hC.nu
  have hok := hC.ok
  obtain ⟨hl80, hpp⟩ := hC.ln
  have hbx : v 7 ≤ 900000000 := by have := hBd.1; omega
  have hbx2 : v 7 ≤ 1000000000 := by omega
  obtain ⟨m0, m1, m2, m3, m4, m5, m6, m7⟩ := id hMS
  have hsP : sh P = some (.inl 10) := hC.1.1.1.1
  have hsM : sh M = some (.inl 11) := MS0 m0
  obtain ⟨x1, hx1, hr1⟩ := zI_ex (xs (i + 1))
  obtain ⟨x2, hx2, hr2⟩ := zI_ex (xs (i + 2))
  refine r_aload_n hc dL_law_172 rfl ?_
  refine r_aload_n hc dL_law_173 rfl ?_
  refine r_iload_n hc dL_law_174 rfl ?_
  refine r_iconst (v := nI 1) hc dL_law_175 rfl ?_
  refine r_iadd (v := nI (i + 1)) hc dL_law_176 (ad_NN _ _) ?_
  refine r_sld (j := i + 1) hc hX hbO hL rfl (by omega) hx1 dL_law_177 ?_
  refine r_aload_n hc dL_law_178 rfl ?_
  refine r_iload_n hc dL_law_179 rfl ?_
  refine r_iconst (v := nI 2) hc dL_law_180 rfl ?_
  refine r_iadd (v := nI (i + 2)) hc dL_law_181 (ad_NN _ _) ?_
  refine r_sld (j := i + 2) hc hX hbO hL rfl (by omega) hx2 dL_law_182 ?_
  refine cl_L_13 (As := [.int (zI x1), .int (zI x2)]) hc (c_X11_set hC hbx (x1 := x1) (x2 := x2) hr1 hr2) hsP rfl ⟨Nat.le_of_ble_eq_true rfl, Nat.le_of_ble_eq_true rfl⟩ ⟨rfl, rfl⟩ ⟨Nat.le_of_ble_eq_true rfl, Nat.le_of_ble_eq_true rfl⟩ rfl (Nat.le_of_ble_eq_true rfl) dL_law_183 (fun r u hp => ?_)
  obtain ⟨σ2, ρ2, hu, hr, ⟨b2, s2, hC2⟩, hf2⟩ := hp
  subst hr
  rw [hu]
  have hMS2 : MSt sh σ2 ρ2 M v nu hf fl sv p ln := hMS.sg (fun q q1 q2 => (hf2 q (by omega)).1) (fun k hk => congrFun (hf2 M (by omega)).1 k) (hf2 M (by omega)).2
  obtain ⟨m0, m1, m2, m3, m4, m5, m6, m7⟩ := id hMS2
  refine r_aload_n hc dL_law_186 rfl ?_
  refine r_aload_n hc dL_law_187 rfl ?_
  refine r_iload_n hc dL_law_188 rfl ?_
  refine r_iconst (v := nI 1) hc dL_law_189 rfl ?_
  refine r_iadd (v := nI (i + 1)) hc dL_law_190 (ad_NN _ _) ?_
  refine r_sld (j := i + 1) hc hX hbO hL rfl (by omega) hx1 dL_law_191 ?_
  refine r_aload_n hc dL_law_192 rfl ?_
  refine r_iload_n hc dL_law_193 rfl ?_
  refine r_iconst (v := nI 2) hc dL_law_194 rfl ?_
  refine r_iadd (v := nI (i + 2)) hc dL_law_195 (ad_NN _ _) ?_
  refine r_sld (j := i + 2) hc hX hbO hL rfl (by omega) hx2 dL_law_196 ?_
  refine cl_L_17 (As := [.int (zI x1), .int (zI x2)]) hc (c_X12_set (W := false) m0 m1 hok hbx2 m3 m2 hnu (s := x1) (x := x2) hr1 hr2) hsM rfl ⟨Nat.le_of_ble_eq_true rfl, Nat.le_of_ble_eq_true rfl⟩ ⟨rfl, rfl⟩ ⟨Nat.le_of_ble_eq_true rfl, Nat.le_of_ble_eq_true rfl⟩ rfl (Nat.le_of_ble_eq_true rfl) dL_law_197 (fun r u hp => ?_)
  obtain ⟨τ, hu, hr, hv2, hH2, hfq, hfk⟩ := hp
  subst hr
  rw [hu]
  refine r_icmp_eq (tgt := 935) hc dL_law_200 (by decide) Iff.rfl (fun _ => ?_) (fun q => absurd rfl q)
  have hx := ok_set hok x1 x2
  exact ih _ _ _ _ _ _ _ _ _ (Rel.chg (X := sSet v x1 x2) hPM hnu hC2 hMS2 hBd (Nat.le_trans hx.2 (by omega)) hv2 hH2 (fun q q1 => hfq q (by omega) (by omega) (by omega)) (fun k _ hk => hfk k hk))
set_option maxRecDepth 100000 in
set_option maxHeartbeats 4000000 in
theorem lc_brass {Ω : OmT} {Φ : PhT} {z : Nat} {sh : Nat → Option Kd} {σ : Nat → Nat → Int32} {ρ : Nat → Nat → Option Nat} {P M b i L B : Nat} {xs : Nat → Int32} {v : Nat → Nat} {nu : Nat} {hf : Nat → Nat} {fl : Nat → Bool} {sv p : Nat → Nat} {ln : Nat} (hc : CXp Ω Φ cL_law RL room_1 4) (hX : va_X b L xs Φ.2.2.2.1 Φ.2.2.2.1.heap) (hbO : b < Ω.2.2.2) (hPM : P + 391 ≤ M) (hR : Rel B sh σ ρ P M v nu hf fl sv p ln) (hB : B ≤ 800000000) (hi : i + 5 ≤ L) (hL : L ≤ 2560) (ih : ∀ (σ : Nat → Nat → Int32) (ρ : Nat → Nat → Option Nat) (v : Nat → Nat) (nu : Nat) (hf : Nat → Nat) (fl : Nat → Bool) (sv p : Nat → Nat) (ln : Nat), Rel (B + 27000) sh σ ρ P M v nu hf fl sv p ln → Vw Ω Φ (z, sh, σ, ρ) (600000, 7302250) 935 [(0, .ref b), (1, .ref P), (2, .ref M), (3, .int (nI i))] []) : Vw Ω Φ (z, sh, σ, ρ) (600000, 7302250) 205 [(0, .ref b), (1, .ref P), (2, .ref M), (3, .int (nI i))] [] := by
  obtain ⟨⟨b0, s0, hC⟩, hMS, hBd⟩ := id hR
  have hnu := hC.nu
  have hok := hC.ok
  obtain ⟨hl80, hpp⟩ := hC.ln
  have hbx : v 7 ≤ 900000000 := by have := hBd.1; omega
  have hbx2 : v 7 ≤ 1000000000 := by omega
  obtain ⟨m0, m1, m2, m3, m4, m5, m6, m7⟩ := id hMS
  have hsP : sh P = some (.inl 10) := hC.1.1.1.1
  have hsM : sh M = some (.inl 11) := MS0 m0
  obtain ⟨x1, hx1, hr1⟩ := zI_ex (xs (i + 1))
  refine r_aload_n hc dL_law_205 rfl ?_
  refine r_aload_n hc dL_law_206 rfl ?_
  refine r_iload_n hc dL_law_207 rfl ?_
  refine r_iconst (v := nI 1) hc dL_law_208 rfl ?_
  refine r_iadd (v := nI (i + 1)) hc dL_law_209 (ad_NN _ _) ?_
  refine r_sld (j := i + 1) hc hX hbO hL rfl (by omega) hx1 dL_law_210 ?_
  refine cl_L_18 (As := [.int (zI x1)]) hc (c_X11_brass hC hbx (x1 := x1) hr1) hsP rfl ⟨Nat.le_of_ble_eq_true rfl, Nat.le_of_ble_eq_true rfl⟩ ⟨rfl, rfl⟩ ⟨Nat.le_of_ble_eq_true rfl, Nat.le_of_ble_eq_true rfl⟩ rfl (Nat.le_of_ble_eq_true rfl) dL_law_211 (fun r u hp => ?_)
  obtain ⟨σ2, ρ2, hu, hr, ⟨b2, s2, hC2⟩, hf2⟩ := hp
  subst hr
  rw [hu]
  have hMS2 : MSt sh σ2 ρ2 M v nu hf fl sv p ln := hMS.sg (fun q q1 q2 => (hf2 q (by omega)).1) (fun k hk => congrFun (hf2 M (by omega)).1 k) (hf2 M (by omega)).2
  obtain ⟨m0, m1, m2, m3, m4, m5, m6, m7⟩ := id hMS2
  refine r_aload_n hc dL_law_214 rfl ?_
  refine r_aload_n hc dL_law_215 rfl ?_
  refine r_iload_n hc dL_law_216 rfl ?_
  refine r_iconst (v := nI 1) hc dL_law_217 rfl ?_
  refine r_iadd (v := nI (i + 1)) hc dL_law_218 (ad_NN _ _) ?_
  refine r_sld (j := i + 1) hc hX hbO hL rfl (by omega) hx1 dL_law_219 ?_
  refine cl_L_22 (As := [.int (zI x1)]) hc (c_X12_brass (W := false) m0 m1 hok hbx2 m3 m2 hnu (g := x1) hr1) hsM rfl ⟨Nat.le_of_ble_eq_true rfl, Nat.le_of_ble_eq_true rfl⟩ ⟨rfl, rfl⟩ ⟨Nat.le_of_ble_eq_true rfl, Nat.le_of_ble_eq_true rfl⟩ rfl (Nat.le_of_ble_eq_true rfl) dL_law_220 (fun r u hp => ?_)
  obtain ⟨τ, hu, hr, hv2, hH2, hfq, hfk⟩ := hp
  subst hr
  rw [hu]
  refine r_icmp_eq (tgt := 935) hc dL_law_223 (by decide) Iff.rfl (fun _ => ?_) (fun q => absurd rfl q)
  have hx := ok_brass hok x1
  exact ih _ _ _ _ _ _ _ _ _ (Rel.chg (X := sBrass v x1) hPM hnu hC2 hMS2 hBd (Nat.le_trans hx.2 (by omega)) hv2 hH2 (fun q q1 => hfq q (by omega) (by omega) (by omega)) (fun k _ hk => hfk k hk))
set_option maxRecDepth 100000 in
set_option maxHeartbeats 4000000 in
theorem lc_door {Ω : OmT} {Φ : PhT} {z : Nat} {sh : Nat → Option Kd} {σ : Nat → Nat → Int32} {ρ : Nat → Nat → Option Nat} {P M b i L B : Nat} {xs : Nat → Int32} {v : Nat → Nat} {nu : Nat} {hf : Nat → Nat} {fl : Nat → Bool} {sv p : Nat → Nat} {ln : Nat} (hc : CXp Ω Φ cL_law RL room_1 4) (hX : va_X b L xs Φ.2.2.2.1 Φ.2.2.2.1.heap) (hbO : b < Ω.2.2.2) (hPM : P + 391 ≤ M) (hR : Rel B sh σ ρ P M v nu hf fl sv p ln) (hB : B ≤ 800000000) (hi : i + 5 ≤ L) (hL : L ≤ 2560) (ih : ∀ (σ : Nat → Nat → Int32) (ρ : Nat → Nat → Option Nat) (v : Nat → Nat) (nu : Nat) (hf : Nat → Nat) (fl : Nat → Bool) (sv p : Nat → Nat) (ln : Nat), Rel (B + 27000) sh σ ρ P M v nu hf fl sv p ln → Vw Ω Φ (z, sh, σ, ρ) (600000, 7302250) 935 [(0, .ref b), (1, .ref P), (2, .ref M), (3, .int (nI i))] []) : Vw Ω Φ (z, sh, σ, ρ) (600000, 7302250) 228 [(0, .ref b), (1, .ref P), (2, .ref M), (3, .int (nI i))] [] := by
  obtain ⟨⟨b0, s0, hC⟩, hMS, hBd⟩ := id hR
  have hnu := hC.nu
  have hok := hC.ok
  obtain ⟨hl80, hpp⟩ := hC.ln
  have hbx : v 7 ≤ 900000000 := by have := hBd.1; omega
  have hbx2 : v 7 ≤ 1000000000 := by omega
  obtain ⟨m0, m1, m2, m3, m4, m5, m6, m7⟩ := id hMS
  have hsP : sh P = some (.inl 10) := hC.1.1.1.1
  have hsM : sh M = some (.inl 11) := MS0 m0
  obtain ⟨x1, hx1, hr1⟩ := zI_ex (xs (i + 1))
  obtain ⟨x2, hx2, hr2⟩ := zI_ex (xs (i + 2))
  obtain ⟨x3, hx3, hr3⟩ := zI_ex (xs (i + 3))
  obtain ⟨x4, hx4, hr4⟩ := zI_ex (xs (i + 4))
  refine r_aload_n hc dL_law_228 rfl ?_
  refine r_aload_n hc dL_law_229 rfl ?_
  refine r_iload_n hc dL_law_230 rfl ?_
  refine r_iconst (v := nI 1) hc dL_law_231 rfl ?_
  refine r_iadd (v := nI (i + 1)) hc dL_law_232 (ad_NN _ _) ?_
  refine r_sld (j := i + 1) hc hX hbO hL rfl (by omega) hx1 dL_law_233 ?_
  refine r_aload_n hc dL_law_234 rfl ?_
  refine r_iload_n hc dL_law_235 rfl ?_
  refine r_iconst (v := nI 2) hc dL_law_236 rfl ?_
  refine r_iadd (v := nI (i + 2)) hc dL_law_237 (ad_NN _ _) ?_
  refine r_sld (j := i + 2) hc hX hbO hL rfl (by omega) hx2 dL_law_238 ?_
  refine r_aload_n hc dL_law_239 rfl ?_
  refine r_iload_n hc dL_law_240 rfl ?_
  refine r_iconst (v := nI 3) hc dL_law_241 rfl ?_
  refine r_iadd (v := nI (i + 3)) hc dL_law_242 (ad_NN _ _) ?_
  refine r_sld (j := i + 3) hc hX hbO hL rfl (by omega) hx3 dL_law_243 ?_
  refine r_aload_n hc dL_law_244 rfl ?_
  refine r_iload_n hc dL_law_245 rfl ?_
  refine r_iconst (v := nI 4) hc dL_law_246 rfl ?_
  refine r_iadd (v := nI (i + 4)) hc dL_law_247 (ad_NN _ _) ?_
  refine r_sld (j := i + 4) hc hX hbO hL rfl (by omega) hx4 dL_law_248 ?_
  refine cl_L_23 (As := [.int (zI x1), .int (zI x2), .int (zI x3), .int (zI x4)]) hc (c_X11_door hC hbx (x1 := x1) (x2 := x2) (x3 := x3) (x4 := x4) hr1 hr2 hr3 hr4) hsP rfl ⟨Nat.le_of_ble_eq_true rfl, Nat.le_of_ble_eq_true rfl⟩ ⟨rfl, rfl⟩ ⟨Nat.le_of_ble_eq_true rfl, Nat.le_of_ble_eq_true rfl⟩ rfl (Nat.le_of_ble_eq_true rfl) dL_law_249 (fun r u hp => ?_)
  obtain ⟨σ2, ρ2, hu, hr, ⟨b2, s2, hC2⟩, hf2⟩ := hp
  subst hr
  rw [hu]
  have hMS2 : MSt sh σ2 ρ2 M v nu hf fl sv p ln := hMS.sg (fun q q1 q2 => (hf2 q (by omega)).1) (fun k hk => congrFun (hf2 M (by omega)).1 k) (hf2 M (by omega)).2
  obtain ⟨m0, m1, m2, m3, m4, m5, m6, m7⟩ := id hMS2
  refine r_aload_n hc dL_law_252 rfl ?_
  refine r_aload_n hc dL_law_253 rfl ?_
  refine r_iload_n hc dL_law_254 rfl ?_
  refine r_iconst (v := nI 1) hc dL_law_255 rfl ?_
  refine r_iadd (v := nI (i + 1)) hc dL_law_256 (ad_NN _ _) ?_
  refine r_sld (j := i + 1) hc hX hbO hL rfl (by omega) hx1 dL_law_257 ?_
  refine r_aload_n hc dL_law_258 rfl ?_
  refine r_iload_n hc dL_law_259 rfl ?_
  refine r_iconst (v := nI 2) hc dL_law_260 rfl ?_
  refine r_iadd (v := nI (i + 2)) hc dL_law_261 (ad_NN _ _) ?_
  refine r_sld (j := i + 2) hc hX hbO hL rfl (by omega) hx2 dL_law_262 ?_
  refine r_aload_n hc dL_law_263 rfl ?_
  refine r_iload_n hc dL_law_264 rfl ?_
  refine r_iconst (v := nI 3) hc dL_law_265 rfl ?_
  refine r_iadd (v := nI (i + 3)) hc dL_law_266 (ad_NN _ _) ?_
  refine r_sld (j := i + 3) hc hX hbO hL rfl (by omega) hx3 dL_law_267 ?_
  refine r_aload_n hc dL_law_268 rfl ?_
  refine r_iload_n hc dL_law_269 rfl ?_
  refine r_iconst (v := nI 4) hc dL_law_270 rfl ?_
  refine r_iadd (v := nI (i + 4)) hc dL_law_271 (ad_NN _ _) ?_
  refine r_sld (j := i + 4) hc hX hbO hL rfl (by omega) hx4 dL_law_272 ?_
  refine cl_L_27 (As := [.int (zI x1), .int (zI x2), .int (zI x3), .int (zI x4)]) hc (c_X12_door (W := false) m0 m1 hok hbx2 m3 m2 hnu (a := x1) (b := x2) (f := x3) (s := x4) hr1 hr2 hr3 hr4) hsM rfl ⟨Nat.le_of_ble_eq_true rfl, Nat.le_of_ble_eq_true rfl⟩ ⟨rfl, rfl⟩ ⟨Nat.le_of_ble_eq_true rfl, Nat.le_of_ble_eq_true rfl⟩ rfl (Nat.le_of_ble_eq_true rfl) dL_law_273 (fun r u hp => ?_)
  obtain ⟨τ, hu, hr, hv2, hH2, hfq, hfk⟩ := hp
  subst hr
  rw [hu]
  refine r_icmp_eq (tgt := 935) hc dL_law_276 (by decide) Iff.rfl (fun _ => ?_) (fun q => absurd rfl q)
  have hx := ok_door hok x1 x2 x3 x4
  exact ih _ _ _ _ _ _ _ _ _ (Rel.chg (X := sDoor v x1 x2 x3 x4) hPM hnu hC2 hMS2 hBd (Nat.le_trans hx.2 (by omega)) hv2 hH2 (fun q q1 => hfq q (by omega) (by omega) (by omega)) (fun k _ hk => hfk k hk))
set_option maxRecDepth 100000 in
set_option maxHeartbeats 4000000 in
theorem lc_cut {Ω : OmT} {Φ : PhT} {z : Nat} {sh : Nat → Option Kd} {σ : Nat → Nat → Int32} {ρ : Nat → Nat → Option Nat} {P M b i L B : Nat} {xs : Nat → Int32} {v : Nat → Nat} {nu : Nat} {hf : Nat → Nat} {fl : Nat → Bool} {sv p : Nat → Nat} {ln : Nat} (hc : CXp Ω Φ cL_law RL room_1 4) (hX : va_X b L xs Φ.2.2.2.1 Φ.2.2.2.1.heap) (hbO : b < Ω.2.2.2) (hPM : P + 391 ≤ M) (hR : Rel B sh σ ρ P M v nu hf fl sv p ln) (hB : B ≤ 800000000) (hi : i + 5 ≤ L) (hL : L ≤ 2560) (ih : ∀ (σ : Nat → Nat → Int32) (ρ : Nat → Nat → Option Nat) (v : Nat → Nat) (nu : Nat) (hf : Nat → Nat) (fl : Nat → Bool) (sv p : Nat → Nat) (ln : Nat), Rel (B + 27000) sh σ ρ P M v nu hf fl sv p ln → Vw Ω Φ (z, sh, σ, ρ) (600000, 7302250) 935 [(0, .ref b), (1, .ref P), (2, .ref M), (3, .int (nI i))] []) : Vw Ω Φ (z, sh, σ, ρ) (600000, 7302250) 281 [(0, .ref b), (1, .ref P), (2, .ref M), (3, .int (nI i))] [] := by
  obtain ⟨⟨b0, s0, hC⟩, hMS, hBd⟩ := id hR
  have hnu := hC.nu
  have hok := hC.ok
  obtain ⟨hl80, hpp⟩ := hC.ln
  have hbx : v 7 ≤ 900000000 := by have := hBd.1; omega
  have hbx2 : v 7 ≤ 1000000000 := by omega
  obtain ⟨m0, m1, m2, m3, m4, m5, m6, m7⟩ := id hMS
  have hsP : sh P = some (.inl 10) := hC.1.1.1.1
  have hsM : sh M = some (.inl 11) := MS0 m0
  obtain ⟨x1, hx1, hr1⟩ := zI_ex (xs (i + 1))
  obtain ⟨x2, hx2, hr2⟩ := zI_ex (xs (i + 2))
  obtain ⟨x3, hx3, hr3⟩ := zI_ex (xs (i + 3))
  refine r_aload_n hc dL_law_281 rfl ?_
  refine r_aload_n hc dL_law_282 rfl ?_
  refine r_iload_n hc dL_law_283 rfl ?_
  refine r_iconst (v := nI 1) hc dL_law_284 rfl ?_
  refine r_iadd (v := nI (i + 1)) hc dL_law_285 (ad_NN _ _) ?_
  refine r_sld (j := i + 1) hc hX hbO hL rfl (by omega) hx1 dL_law_286 ?_
  refine r_aload_n hc dL_law_287 rfl ?_
  refine r_iload_n hc dL_law_288 rfl ?_
  refine r_iconst (v := nI 2) hc dL_law_289 rfl ?_
  refine r_iadd (v := nI (i + 2)) hc dL_law_290 (ad_NN _ _) ?_
  refine r_sld (j := i + 2) hc hX hbO hL rfl (by omega) hx2 dL_law_291 ?_
  refine r_aload_n hc dL_law_292 rfl ?_
  refine r_iload_n hc dL_law_293 rfl ?_
  refine r_iconst (v := nI 3) hc dL_law_294 rfl ?_
  refine r_iadd (v := nI (i + 3)) hc dL_law_295 (ad_NN _ _) ?_
  refine r_sld (j := i + 3) hc hX hbO hL rfl (by omega) hx3 dL_law_296 ?_
  refine cl_L_28 (As := [.int (zI x1), .int (zI x2), .int (zI x3)]) hc (c_X11_cut hC hbx (x1 := x1) (x2 := x2) (x3 := x3) hr1 hr2 hr3) hsP rfl ⟨Nat.le_of_ble_eq_true rfl, Nat.le_of_ble_eq_true rfl⟩ ⟨rfl, rfl⟩ ⟨Nat.le_of_ble_eq_true rfl, Nat.le_of_ble_eq_true rfl⟩ rfl (Nat.le_of_ble_eq_true rfl) dL_law_297 (fun r u hp => ?_)
  obtain ⟨σ2, ρ2, hu, hr, ⟨b2, s2, hC2⟩, hf2⟩ := hp
  subst hr
  rw [hu]
  have hMS2 : MSt sh σ2 ρ2 M v nu hf fl sv p ln := hMS.sg (fun q q1 q2 => (hf2 q (by omega)).1) (fun k hk => congrFun (hf2 M (by omega)).1 k) (hf2 M (by omega)).2
  obtain ⟨m0, m1, m2, m3, m4, m5, m6, m7⟩ := id hMS2
  refine r_aload_n hc dL_law_300 rfl ?_
  refine r_aload_n hc dL_law_301 rfl ?_
  refine r_iload_n hc dL_law_302 rfl ?_
  refine r_iconst (v := nI 1) hc dL_law_303 rfl ?_
  refine r_iadd (v := nI (i + 1)) hc dL_law_304 (ad_NN _ _) ?_
  refine r_sld (j := i + 1) hc hX hbO hL rfl (by omega) hx1 dL_law_305 ?_
  refine r_aload_n hc dL_law_306 rfl ?_
  refine r_iload_n hc dL_law_307 rfl ?_
  refine r_iconst (v := nI 2) hc dL_law_308 rfl ?_
  refine r_iadd (v := nI (i + 2)) hc dL_law_309 (ad_NN _ _) ?_
  refine r_sld (j := i + 2) hc hX hbO hL rfl (by omega) hx2 dL_law_310 ?_
  refine r_aload_n hc dL_law_311 rfl ?_
  refine r_iload_n hc dL_law_312 rfl ?_
  refine r_iconst (v := nI 3) hc dL_law_313 rfl ?_
  refine r_iadd (v := nI (i + 3)) hc dL_law_314 (ad_NN _ _) ?_
  refine r_sld (j := i + 3) hc hX hbO hL rfl (by omega) hx3 dL_law_315 ?_
  refine cl_L_32 (As := [.int (zI x1), .int (zI x2), .int (zI x3)]) hc (c_X12_cut (W := false) m0 m1 hok hbx2 m3 m2 hnu (d := x1) (f := x2) (s := x3) hr1 hr2 hr3) hsM rfl ⟨Nat.le_of_ble_eq_true rfl, Nat.le_of_ble_eq_true rfl⟩ ⟨rfl, rfl⟩ ⟨Nat.le_of_ble_eq_true rfl, Nat.le_of_ble_eq_true rfl⟩ rfl (Nat.le_of_ble_eq_true rfl) dL_law_316 (fun r u hp => ?_)
  obtain ⟨τ, hu, hr, hv2, hH2, hfq, hfk⟩ := hp
  subst hr
  rw [hu]
  refine r_icmp_eq (tgt := 935) hc dL_law_319 (by decide) Iff.rfl (fun _ => ?_) (fun q => absurd rfl q)
  have hx := ok_cut hok x1 x2 x3
  exact ih _ _ _ _ _ _ _ _ _ (Rel.chg (X := sCut v x1 x2 x3) hPM hnu hC2 hMS2 hBd (Nat.le_trans hx.2 (by omega)) hv2 hH2 (fun q q1 => hfq q (by omega) (by omega) (by omega)) (fun k _ hk => hfk k hk))
set_option maxRecDepth 100000 in
set_option maxHeartbeats 4000000 in
theorem lc_key {Ω : OmT} {Φ : PhT} {z : Nat} {sh : Nat → Option Kd} {σ : Nat → Nat → Int32} {ρ : Nat → Nat → Option Nat} {P M b i L B : Nat} {xs : Nat → Int32} {v : Nat → Nat} {nu : Nat} {hf : Nat → Nat} {fl : Nat → Bool} {sv p : Nat → Nat} {ln : Nat} (hc : CXp Ω Φ cL_law RL room_1 4) (hX : va_X b L xs Φ.2.2.2.1 Φ.2.2.2.1.heap) (hbO : b < Ω.2.2.2) (hPM : P + 391 ≤ M) (hR : Rel B sh σ ρ P M v nu hf fl sv p ln) (hB : B ≤ 800000000) (hi : i + 5 ≤ L) (hL : L ≤ 2560) (ih : ∀ (σ : Nat → Nat → Int32) (ρ : Nat → Nat → Option Nat) (v : Nat → Nat) (nu : Nat) (hf : Nat → Nat) (fl : Nat → Bool) (sv p : Nat → Nat) (ln : Nat), Rel (B + 27000) sh σ ρ P M v nu hf fl sv p ln → Vw Ω Φ (z, sh, σ, ρ) (600000, 7302250) 935 [(0, .ref b), (1, .ref P), (2, .ref M), (3, .int (nI i))] []) : Vw Ω Φ (z, sh, σ, ρ) (600000, 7302250) 324 [(0, .ref b), (1, .ref P), (2, .ref M), (3, .int (nI i))] [] := by
  obtain ⟨⟨b0, s0, hC⟩, hMS, hBd⟩ := id hR
  have hnu := hC.nu
  have hok := hC.ok
  obtain ⟨hl80, hpp⟩ := hC.ln
  have hbx : v 7 ≤ 900000000 := by have := hBd.1; omega
  have hbx2 : v 7 ≤ 1000000000 := by omega
  obtain ⟨m0, m1, m2, m3, m4, m5, m6, m7⟩ := id hMS
  have hsP : sh P = some (.inl 10) := hC.1.1.1.1
  have hsM : sh M = some (.inl 11) := MS0 m0
  obtain ⟨x1, hx1, hr1⟩ := zI_ex (xs (i + 1))
  obtain ⟨x2, hx2, hr2⟩ := zI_ex (xs (i + 2))
  refine r_aload_n hc dL_law_324 rfl ?_
  refine r_aload_n hc dL_law_325 rfl ?_
  refine r_iload_n hc dL_law_326 rfl ?_
  refine r_iconst (v := nI 1) hc dL_law_327 rfl ?_
  refine r_iadd (v := nI (i + 1)) hc dL_law_328 (ad_NN _ _) ?_
  refine r_sld (j := i + 1) hc hX hbO hL rfl (by omega) hx1 dL_law_329 ?_
  refine r_aload_n hc dL_law_330 rfl ?_
  refine r_iload_n hc dL_law_331 rfl ?_
  refine r_iconst (v := nI 2) hc dL_law_332 rfl ?_
  refine r_iadd (v := nI (i + 2)) hc dL_law_333 (ad_NN _ _) ?_
  refine r_sld (j := i + 2) hc hX hbO hL rfl (by omega) hx2 dL_law_334 ?_
  refine cl_L_33 (As := [.int (zI x1), .int (zI x2)]) hc (c_X11_key hC hbx (x1 := x1) (x2 := x2) hr1 hr2) hsP rfl ⟨Nat.le_of_ble_eq_true rfl, Nat.le_of_ble_eq_true rfl⟩ ⟨rfl, rfl⟩ ⟨Nat.le_of_ble_eq_true rfl, Nat.le_of_ble_eq_true rfl⟩ rfl (Nat.le_of_ble_eq_true rfl) dL_law_335 (fun r u hp => ?_)
  obtain ⟨σ2, ρ2, hu, hr, ⟨b2, s2, hC2⟩, hf2⟩ := hp
  subst hr
  rw [hu]
  have hMS2 : MSt sh σ2 ρ2 M v nu hf fl sv p ln := hMS.sg (fun q q1 q2 => (hf2 q (by omega)).1) (fun k hk => congrFun (hf2 M (by omega)).1 k) (hf2 M (by omega)).2
  obtain ⟨m0, m1, m2, m3, m4, m5, m6, m7⟩ := id hMS2
  refine r_aload_n hc dL_law_338 rfl ?_
  refine r_aload_n hc dL_law_339 rfl ?_
  refine r_iload_n hc dL_law_340 rfl ?_
  refine r_iconst (v := nI 1) hc dL_law_341 rfl ?_
  refine r_iadd (v := nI (i + 1)) hc dL_law_342 (ad_NN _ _) ?_
  refine r_sld (j := i + 1) hc hX hbO hL rfl (by omega) hx1 dL_law_343 ?_
  refine r_aload_n hc dL_law_344 rfl ?_
  refine r_iload_n hc dL_law_345 rfl ?_
  refine r_iconst (v := nI 2) hc dL_law_346 rfl ?_
  refine r_iadd (v := nI (i + 2)) hc dL_law_347 (ad_NN _ _) ?_
  refine r_sld (j := i + 2) hc hX hbO hL rfl (by omega) hx2 dL_law_348 ?_
  refine cl_L_36 (As := [.int (zI x1), .int (zI x2)]) hc (c_X12_key (W := false) m0 m1 hok hbx2 m3 m2 hnu (c := x1) (r := x2) hr1 hr2) hsM rfl ⟨Nat.le_of_ble_eq_true rfl, Nat.le_of_ble_eq_true rfl⟩ ⟨rfl, rfl⟩ ⟨Nat.le_of_ble_eq_true rfl, Nat.le_of_ble_eq_true rfl⟩ rfl (Nat.le_of_ble_eq_true rfl) dL_law_349 (fun r u hp => ?_)
  obtain ⟨τ, hu, hr, hv2, hH2, hfq, hfk⟩ := hp
  subst hr
  rw [hu]
  refine r_icmp_eq (tgt := 935) hc dL_law_352 (by decide) Iff.rfl (fun _ => ?_) (fun q => absurd rfl q)
  have hx := ok_key hok x1 x2
  exact ih _ _ _ _ _ _ _ _ _ (Rel.chg (X := sKey v x1 x2) hPM hnu hC2 hMS2 hBd (Nat.le_trans hx.2 (by omega)) hv2 hH2 (fun q q1 => hfq q (by omega) (by omega) (by omega)) (fun k _ hk => hfk k hk))
set_option maxRecDepth 100000 in
set_option maxHeartbeats 4000000 in
theorem lc_melt {Ω : OmT} {Φ : PhT} {z : Nat} {sh : Nat → Option Kd} {σ : Nat → Nat → Int32} {ρ : Nat → Nat → Option Nat} {P M b i L B : Nat} {xs : Nat → Int32} {v : Nat → Nat} {nu : Nat} {hf : Nat → Nat} {fl : Nat → Bool} {sv p : Nat → Nat} {ln : Nat} (hc : CXp Ω Φ cL_law RL room_1 4) (hX : va_X b L xs Φ.2.2.2.1 Φ.2.2.2.1.heap) (hbO : b < Ω.2.2.2) (hPM : P + 391 ≤ M) (hR : Rel B sh σ ρ P M v nu hf fl sv p ln) (hB : B ≤ 800000000) (hi : i + 5 ≤ L) (hL : L ≤ 2560) (ih : ∀ (σ : Nat → Nat → Int32) (ρ : Nat → Nat → Option Nat) (v : Nat → Nat) (nu : Nat) (hf : Nat → Nat) (fl : Nat → Bool) (sv p : Nat → Nat) (ln : Nat), Rel (B + 27000) sh σ ρ P M v nu hf fl sv p ln → Vw Ω Φ (z, sh, σ, ρ) (600000, 7302250) 935 [(0, .ref b), (1, .ref P), (2, .ref M), (3, .int (nI i))] []) : Vw Ω Φ (z, sh, σ, ρ) (600000, 7302250) 357 [(0, .ref b), (1, .ref P), (2, .ref M), (3, .int (nI i))] [] := by
  obtain ⟨⟨b0, s0, hC⟩, hMS, hBd⟩ := id hR
  have hnu := hC.nu
  have hok := hC.ok
  obtain ⟨hl80, hpp⟩ := hC.ln
  have hbx : v 7 ≤ 900000000 := by have := hBd.1; omega
  have hbx2 : v 7 ≤ 1000000000 := by omega
  obtain ⟨m0, m1, m2, m3, m4, m5, m6, m7⟩ := id hMS
  have hsP : sh P = some (.inl 10) := hC.1.1.1.1
  have hsM : sh M = some (.inl 11) := MS0 m0
  obtain ⟨x1, hx1, hr1⟩ := zI_ex (xs (i + 1))
  refine r_aload_n hc dL_law_357 rfl ?_
  refine r_aload_n hc dL_law_358 rfl ?_
  refine r_iload_n hc dL_law_359 rfl ?_
  refine r_iconst (v := nI 1) hc dL_law_360 rfl ?_
  refine r_iadd (v := nI (i + 1)) hc dL_law_361 (ad_NN _ _) ?_
  refine r_sld (j := i + 1) hc hX hbO hL rfl (by omega) hx1 dL_law_362 ?_
  refine cl_L_37 (As := [.int (zI x1)]) hc (c_X11_melt hC hbx (x1 := x1) hr1) hsP rfl ⟨Nat.le_of_ble_eq_true rfl, Nat.le_of_ble_eq_true rfl⟩ ⟨rfl, rfl⟩ ⟨Nat.le_of_ble_eq_true rfl, Nat.le_of_ble_eq_true rfl⟩ rfl (Nat.le_of_ble_eq_true rfl) dL_law_363 (fun r u hp => ?_)
  obtain ⟨σ2, ρ2, hu, hr, ⟨b2, s2, hC2⟩, hf2⟩ := hp
  subst hr
  rw [hu]
  have hMS2 : MSt sh σ2 ρ2 M v nu hf fl sv p ln := hMS.sg (fun q q1 q2 => (hf2 q (by omega)).1) (fun k hk => congrFun (hf2 M (by omega)).1 k) (hf2 M (by omega)).2
  obtain ⟨m0, m1, m2, m3, m4, m5, m6, m7⟩ := id hMS2
  refine r_aload_n hc dL_law_366 rfl ?_
  refine r_aload_n hc dL_law_367 rfl ?_
  refine r_iload_n hc dL_law_368 rfl ?_
  refine r_iconst (v := nI 1) hc dL_law_369 rfl ?_
  refine r_iadd (v := nI (i + 1)) hc dL_law_370 (ad_NN _ _) ?_
  refine r_sld (j := i + 1) hc hX hbO hL rfl (by omega) hx1 dL_law_371 ?_
  refine cl_L_40 (As := [.int (zI x1)]) hc (c_X12_melt (W := false) m0 m1 hok hbx2 m3 m2 hnu (k := x1) hr1) hsM rfl ⟨Nat.le_of_ble_eq_true rfl, Nat.le_of_ble_eq_true rfl⟩ ⟨rfl, rfl⟩ ⟨Nat.le_of_ble_eq_true rfl, Nat.le_of_ble_eq_true rfl⟩ rfl (Nat.le_of_ble_eq_true rfl) dL_law_372 (fun r u hp => ?_)
  obtain ⟨τ, hu, hr, hv2, hH2, hfq, hfk⟩ := hp
  subst hr
  rw [hu]
  refine r_icmp_eq (tgt := 935) hc dL_law_375 (by decide) Iff.rfl (fun _ => ?_) (fun q => absurd rfl q)
  have hx := ok_melt hok x1
  exact ih _ _ _ _ _ _ _ _ _ (Rel.chg (X := sMelt v x1) hPM hnu hC2 hMS2 hBd (Nat.le_trans hx.2 (by omega)) hv2 hH2 (fun q q1 => hfq q (by omega) (by omega) (by omega)) (fun k _ hk => hfk k hk))
set_option maxRecDepth 100000 in
set_option maxHeartbeats 4000000 in
theorem lc_take {Ω : OmT} {Φ : PhT} {z : Nat} {sh : Nat → Option Kd} {σ : Nat → Nat → Int32} {ρ : Nat → Nat → Option Nat} {P M b i L B : Nat} {xs : Nat → Int32} {v : Nat → Nat} {nu : Nat} {hf : Nat → Nat} {fl : Nat → Bool} {sv p : Nat → Nat} {ln : Nat} (hc : CXp Ω Φ cL_law RL room_1 4) (hX : va_X b L xs Φ.2.2.2.1 Φ.2.2.2.1.heap) (hbO : b < Ω.2.2.2) (hPM : P + 391 ≤ M) (hR : Rel B sh σ ρ P M v nu hf fl sv p ln) (hB : B ≤ 800000000) (hi : i + 5 ≤ L) (hL : L ≤ 2560) (ih : ∀ (σ : Nat → Nat → Int32) (ρ : Nat → Nat → Option Nat) (v : Nat → Nat) (nu : Nat) (hf : Nat → Nat) (fl : Nat → Bool) (sv p : Nat → Nat) (ln : Nat), Rel (B + 27000) sh σ ρ P M v nu hf fl sv p ln → Vw Ω Φ (z, sh, σ, ρ) (600000, 7302250) 935 [(0, .ref b), (1, .ref P), (2, .ref M), (3, .int (nI i))] []) : Vw Ω Φ (z, sh, σ, ρ) (600000, 7302250) 380 [(0, .ref b), (1, .ref P), (2, .ref M), (3, .int (nI i))] [] := by
  obtain ⟨⟨b0, s0, hC⟩, hMS, hBd⟩ := id hR
  have hnu := hC.nu
  have hok := hC.ok
  obtain ⟨hl80, hpp⟩ := hC.ln
  have hbx : v 7 ≤ 900000000 := by have := hBd.1; omega
  have hbx2 : v 7 ≤ 1000000000 := by omega
  obtain ⟨m0, m1, m2, m3, m4, m5, m6, m7⟩ := id hMS
  have hsP : sh P = some (.inl 10) := hC.1.1.1.1
  have hsM : sh M = some (.inl 11) := MS0 m0
  obtain ⟨x1, hx1, hr1⟩ := zI_ex (xs (i + 1))
  refine r_aload_n hc dL_law_380 rfl ?_
  refine r_aload_n hc dL_law_381 rfl ?_
  refine r_iload_n hc dL_law_382 rfl ?_
  refine r_iconst (v := nI 1) hc dL_law_383 rfl ?_
  refine r_iadd (v := nI (i + 1)) hc dL_law_384 (ad_NN _ _) ?_
  refine r_sld (j := i + 1) hc hX hbO hL rfl (by omega) hx1 dL_law_385 ?_
  refine cl_L_41 (As := [.int (zI x1)]) hc (c_X11_take hC hbx (x1 := x1) hr1) hsP rfl ⟨Nat.le_of_ble_eq_true rfl, Nat.le_of_ble_eq_true rfl⟩ ⟨rfl, rfl⟩ ⟨Nat.le_of_ble_eq_true rfl, Nat.le_of_ble_eq_true rfl⟩ rfl (Nat.le_of_ble_eq_true rfl) dL_law_386 (fun r u hp => ?_)
  obtain ⟨σ2, ρ2, hu, hr, ⟨b2, s2, hC2⟩, hf2⟩ := hp
  subst hr
  rw [hu]
  have hMS2 : MSt sh σ2 ρ2 M v nu hf fl sv p ln := hMS.sg (fun q q1 q2 => (hf2 q (by omega)).1) (fun k hk => congrFun (hf2 M (by omega)).1 k) (hf2 M (by omega)).2
  obtain ⟨m0, m1, m2, m3, m4, m5, m6, m7⟩ := id hMS2
  refine r_aload_n hc dL_law_389 rfl ?_
  refine r_aload_n hc dL_law_390 rfl ?_
  refine r_iload_n hc dL_law_391 rfl ?_
  refine r_iconst (v := nI 1) hc dL_law_392 rfl ?_
  refine r_iadd (v := nI (i + 1)) hc dL_law_393 (ad_NN _ _) ?_
  refine r_sld (j := i + 1) hc hX hbO hL rfl (by omega) hx1 dL_law_394 ?_
  refine cl_L_44 (As := [.int (zI x1)]) hc (c_X12_take (W := false) m0 m1 hok hbx2 m3 m2 hnu (k := x1) hr1) hsM rfl ⟨Nat.le_of_ble_eq_true rfl, Nat.le_of_ble_eq_true rfl⟩ ⟨rfl, rfl⟩ ⟨Nat.le_of_ble_eq_true rfl, Nat.le_of_ble_eq_true rfl⟩ rfl (Nat.le_of_ble_eq_true rfl) dL_law_395 (fun r u hp => ?_)
  obtain ⟨τ, hu, hr, hv2, hH2, hfq, hfk⟩ := hp
  subst hr
  rw [hu]
  refine r_icmp_eq (tgt := 935) hc dL_law_398 (by decide) Iff.rfl (fun _ => ?_) (fun q => absurd rfl q)
  have hx := ok_move (a := v 3) (b := 8) hok x1 (by omega)
  exact ih _ _ _ _ _ _ _ _ _ (Rel.chg (X := sMove v x1 (v 3) 8) hPM hnu hC2 hMS2 hBd (Nat.le_trans hx.2 (by omega)) hv2 hH2 (fun q q1 => hfq q (by omega) (by omega) (by omega)) (fun k _ hk => hfk k hk))
set_option maxRecDepth 100000 in
set_option maxHeartbeats 4000000 in
theorem lc_putDown {Ω : OmT} {Φ : PhT} {z : Nat} {sh : Nat → Option Kd} {σ : Nat → Nat → Int32} {ρ : Nat → Nat → Option Nat} {P M b i L B : Nat} {xs : Nat → Int32} {v : Nat → Nat} {nu : Nat} {hf : Nat → Nat} {fl : Nat → Bool} {sv p : Nat → Nat} {ln : Nat} (hc : CXp Ω Φ cL_law RL room_1 4) (hX : va_X b L xs Φ.2.2.2.1 Φ.2.2.2.1.heap) (hbO : b < Ω.2.2.2) (hPM : P + 391 ≤ M) (hR : Rel B sh σ ρ P M v nu hf fl sv p ln) (hB : B ≤ 800000000) (hi : i + 5 ≤ L) (hL : L ≤ 2560) (ih : ∀ (σ : Nat → Nat → Int32) (ρ : Nat → Nat → Option Nat) (v : Nat → Nat) (nu : Nat) (hf : Nat → Nat) (fl : Nat → Bool) (sv p : Nat → Nat) (ln : Nat), Rel (B + 27000) sh σ ρ P M v nu hf fl sv p ln → Vw Ω Φ (z, sh, σ, ρ) (600000, 7302250) 935 [(0, .ref b), (1, .ref P), (2, .ref M), (3, .int (nI i))] []) : Vw Ω Φ (z, sh, σ, ρ) (600000, 7302250) 403 [(0, .ref b), (1, .ref P), (2, .ref M), (3, .int (nI i))] [] := by
  obtain ⟨⟨b0, s0, hC⟩, hMS, hBd⟩ := id hR
  have hnu := hC.nu
  have hok := hC.ok
  obtain ⟨hl80, hpp⟩ := hC.ln
  have hbx : v 7 ≤ 900000000 := by have := hBd.1; omega
  have hbx2 : v 7 ≤ 1000000000 := by omega
  obtain ⟨m0, m1, m2, m3, m4, m5, m6, m7⟩ := id hMS
  have hsP : sh P = some (.inl 10) := hC.1.1.1.1
  have hsM : sh M = some (.inl 11) := MS0 m0
  obtain ⟨x1, hx1, hr1⟩ := zI_ex (xs (i + 1))
  refine r_aload_n hc dL_law_403 rfl ?_
  refine r_aload_n hc dL_law_404 rfl ?_
  refine r_iload_n hc dL_law_405 rfl ?_
  refine r_iconst (v := nI 1) hc dL_law_406 rfl ?_
  refine r_iadd (v := nI (i + 1)) hc dL_law_407 (ad_NN _ _) ?_
  refine r_sld (j := i + 1) hc hX hbO hL rfl (by omega) hx1 dL_law_408 ?_
  refine cl_L_45 (As := [.int (zI x1)]) hc (c_X11_putDown hC hbx (x1 := x1) hr1) hsP rfl ⟨Nat.le_of_ble_eq_true rfl, Nat.le_of_ble_eq_true rfl⟩ ⟨rfl, rfl⟩ ⟨Nat.le_of_ble_eq_true rfl, Nat.le_of_ble_eq_true rfl⟩ rfl (Nat.le_of_ble_eq_true rfl) dL_law_409 (fun r u hp => ?_)
  obtain ⟨σ2, ρ2, hu, hr, ⟨b2, s2, hC2⟩, hf2⟩ := hp
  subst hr
  rw [hu]
  have hMS2 : MSt sh σ2 ρ2 M v nu hf fl sv p ln := hMS.sg (fun q q1 q2 => (hf2 q (by omega)).1) (fun k hk => congrFun (hf2 M (by omega)).1 k) (hf2 M (by omega)).2
  obtain ⟨m0, m1, m2, m3, m4, m5, m6, m7⟩ := id hMS2
  refine r_aload_n hc dL_law_412 rfl ?_
  refine r_aload_n hc dL_law_413 rfl ?_
  refine r_iload_n hc dL_law_414 rfl ?_
  refine r_iconst (v := nI 1) hc dL_law_415 rfl ?_
  refine r_iadd (v := nI (i + 1)) hc dL_law_416 (ad_NN _ _) ?_
  refine r_sld (j := i + 1) hc hX hbO hL rfl (by omega) hx1 dL_law_417 ?_
  refine cl_L_48 (As := [.int (zI x1)]) hc (c_X12_putDown (W := false) m0 m1 hok hbx2 m3 m2 hnu (k := x1) hr1) hsM rfl ⟨Nat.le_of_ble_eq_true rfl, Nat.le_of_ble_eq_true rfl⟩ ⟨rfl, rfl⟩ ⟨Nat.le_of_ble_eq_true rfl, Nat.le_of_ble_eq_true rfl⟩ rfl (Nat.le_of_ble_eq_true rfl) dL_law_418 (fun r u hp => ?_)
  obtain ⟨τ, hu, hr, hv2, hH2, hfq, hfk⟩ := hp
  subst hr
  rw [hu]
  refine r_icmp_eq (tgt := 935) hc dL_law_421 (by decide) Iff.rfl (fun _ => ?_) (fun q => absurd rfl q)
  have hx := ok_move (a := 8) (b := v 3) hok x1 (by have := hok.2.2.2.1; omega)
  exact ih _ _ _ _ _ _ _ _ _ (Rel.chg (X := sMove v x1 8 (v 3)) hPM hnu hC2 hMS2 hBd (Nat.le_trans hx.2 (by omega)) hv2 hH2 (fun q q1 => hfq q (by omega) (by omega) (by omega)) (fun k _ hk => hfk k hk))
set_option maxRecDepth 100000 in
set_option maxHeartbeats 4000000 in
theorem lc_go {Ω : OmT} {Φ : PhT} {z : Nat} {sh : Nat → Option Kd} {σ : Nat → Nat → Int32} {ρ : Nat → Nat → Option Nat} {P M b i L B : Nat} {xs : Nat → Int32} {v : Nat → Nat} {nu : Nat} {hf : Nat → Nat} {fl : Nat → Bool} {sv p : Nat → Nat} {ln : Nat} (hc : CXp Ω Φ cL_law RL room_1 4) (hX : va_X b L xs Φ.2.2.2.1 Φ.2.2.2.1.heap) (hbO : b < Ω.2.2.2) (hPM : P + 391 ≤ M) (hR : Rel B sh σ ρ P M v nu hf fl sv p ln) (hB : B ≤ 800000000) (hi : i + 5 ≤ L) (hL : L ≤ 2560) (ih : ∀ (σ : Nat → Nat → Int32) (ρ : Nat → Nat → Option Nat) (v : Nat → Nat) (nu : Nat) (hf : Nat → Nat) (fl : Nat → Bool) (sv p : Nat → Nat) (ln : Nat), Rel (B + 27000) sh σ ρ P M v nu hf fl sv p ln → Vw Ω Φ (z, sh, σ, ρ) (600000, 7302250) 935 [(0, .ref b), (1, .ref P), (2, .ref M), (3, .int (nI i))] []) : Vw Ω Φ (z, sh, σ, ρ) (600000, 7302250) 426 [(0, .ref b), (1, .ref P), (2, .ref M), (3, .int (nI i))] [] := by
  obtain ⟨⟨b0, s0, hC⟩, hMS, hBd⟩ := id hR
  have hnu := hC.nu
  have hok := hC.ok
  obtain ⟨hl80, hpp⟩ := hC.ln
  have hbx : v 7 ≤ 900000000 := by have := hBd.1; omega
  have hbx2 : v 7 ≤ 1000000000 := by omega
  obtain ⟨m0, m1, m2, m3, m4, m5, m6, m7⟩ := id hMS
  have hsP : sh P = some (.inl 10) := hC.1.1.1.1
  have hsM : sh M = some (.inl 11) := MS0 m0
  obtain ⟨x1, hx1, hr1⟩ := zI_ex (xs (i + 1))
  refine r_aload_n hc dL_law_426 rfl ?_
  refine r_aload_n hc dL_law_427 rfl ?_
  refine r_iload_n hc dL_law_428 rfl ?_
  refine r_iconst (v := nI 1) hc dL_law_429 rfl ?_
  refine r_iadd (v := nI (i + 1)) hc dL_law_430 (ad_NN _ _) ?_
  refine r_sld (j := i + 1) hc hX hbO hL rfl (by omega) hx1 dL_law_431 ?_
  refine cl_L_49 (As := [.int (zI x1)]) hc (c_X11_go hC hbx (x1 := x1) hr1) hsP rfl ⟨Nat.le_of_ble_eq_true rfl, Nat.le_of_ble_eq_true rfl⟩ ⟨rfl, rfl⟩ ⟨Nat.le_of_ble_eq_true rfl, Nat.le_of_ble_eq_true rfl⟩ rfl (Nat.le_of_ble_eq_true rfl) dL_law_432 (fun r u hp => ?_)
  obtain ⟨σ2, ρ2, hu, hr, ⟨b2, s2, hC2⟩, hf2⟩ := hp
  subst hr
  rw [hu]
  have hMS2 : MSt sh σ2 ρ2 M v nu hf fl sv p ln := hMS.sg (fun q q1 q2 => (hf2 q (by omega)).1) (fun k hk => congrFun (hf2 M (by omega)).1 k) (hf2 M (by omega)).2
  obtain ⟨m0, m1, m2, m3, m4, m5, m6, m7⟩ := id hMS2
  refine r_aload_n hc dL_law_435 rfl ?_
  refine r_aload_n hc dL_law_436 rfl ?_
  refine r_iload_n hc dL_law_437 rfl ?_
  refine r_iconst (v := nI 1) hc dL_law_438 rfl ?_
  refine r_iadd (v := nI (i + 1)) hc dL_law_439 (ad_NN _ _) ?_
  refine r_sld (j := i + 1) hc hX hbO hL rfl (by omega) hx1 dL_law_440 ?_
  refine cl_L_52 (As := [.int (zI x1)]) hc (c_X12_go (W := false) m0 m1 hok hbx2 m3 m2 hnu (d := x1) hr1) hsM rfl ⟨Nat.le_of_ble_eq_true rfl, Nat.le_of_ble_eq_true rfl⟩ ⟨rfl, rfl⟩ ⟨Nat.le_of_ble_eq_true rfl, Nat.le_of_ble_eq_true rfl⟩ rfl (Nat.le_of_ble_eq_true rfl) dL_law_441 (fun r u hp => ?_)
  obtain ⟨τ, hu, hr, hv2, hH2, hfq, hfk⟩ := hp
  subst hr
  rw [hu]
  refine r_icmp_eq (tgt := 935) hc dL_law_444 (by decide) Iff.rfl (fun _ => ?_) (fun q => absurd rfl q)
  have hx := ok_go hok x1
  exact ih _ _ _ _ _ _ _ _ _ (Rel.chg (X := sGo v x1) hPM hnu hC2 hMS2 hBd (Nat.le_trans hx.2 (by omega)) hv2 hH2 (fun q q1 => hfq q (by omega) (by omega) (by omega)) (fun k _ hk => hfk k hk))
set_option maxRecDepth 100000 in
set_option maxHeartbeats 4000000 in
theorem lc_plan {Ω : OmT} {Φ : PhT} {z : Nat} {sh : Nat → Option Kd} {σ : Nat → Nat → Int32} {ρ : Nat → Nat → Option Nat} {P M b i L B : Nat} {xs : Nat → Int32} {v : Nat → Nat} {nu : Nat} {hf : Nat → Nat} {fl : Nat → Bool} {sv p : Nat → Nat} {ln : Nat} (hc : CXp Ω Φ cL_law RL room_1 4) (hX : va_X b L xs Φ.2.2.2.1 Φ.2.2.2.1.heap) (hbO : b < Ω.2.2.2) (hPM : P + 391 ≤ M) (hR : Rel B sh σ ρ P M v nu hf fl sv p ln) (hB : B ≤ 800000000) (hi : i + 5 ≤ L) (hL : L ≤ 2560) (ih : ∀ (σ : Nat → Nat → Int32) (ρ : Nat → Nat → Option Nat) (v : Nat → Nat) (nu : Nat) (hf : Nat → Nat) (fl : Nat → Bool) (sv p : Nat → Nat) (ln : Nat), Rel (B + 27000) sh σ ρ P M v nu hf fl sv p ln → Vw Ω Φ (z, sh, σ, ρ) (600000, 7302250) 935 [(0, .ref b), (1, .ref P), (2, .ref M), (3, .int (nI i))] []) : Vw Ω Φ (z, sh, σ, ρ) (600000, 7302250) 449 [(0, .ref b), (1, .ref P), (2, .ref M), (3, .int (nI i))] [] := by
  obtain ⟨⟨b0, s0, hC⟩, hMS, hBd⟩ := id hR
  have hnu := hC.nu
  have hok := hC.ok
  obtain ⟨hl80, hpp⟩ := hC.ln
  have hbx : v 7 ≤ 900000000 := by have := hBd.1; omega
  have hbx2 : v 7 ≤ 1000000000 := by omega
  obtain ⟨m0, m1, m2, m3, m4, m5, m6, m7⟩ := id hMS
  have hsP : sh P = some (.inl 10) := hC.1.1.1.1
  have hsM : sh M = some (.inl 11) := MS0 m0
  obtain ⟨x1, hx1, hr1⟩ := zI_ex (xs (i + 1))
  obtain ⟨x2, hx2, hr2⟩ := zI_ex (xs (i + 2))
  obtain ⟨x3, hx3, hr3⟩ := zI_ex (xs (i + 3))
  refine r_aload_n hc dL_law_449 rfl ?_
  refine r_aload_n hc dL_law_450 rfl ?_
  refine r_iload_n hc dL_law_451 rfl ?_
  refine r_iconst (v := nI 1) hc dL_law_452 rfl ?_
  refine r_iadd (v := nI (i + 1)) hc dL_law_453 (ad_NN _ _) ?_
  refine r_sld (j := i + 1) hc hX hbO hL rfl (by omega) hx1 dL_law_454 ?_
  refine r_aload_n hc dL_law_455 rfl ?_
  refine r_iload_n hc dL_law_456 rfl ?_
  refine r_iconst (v := nI 2) hc dL_law_457 rfl ?_
  refine r_iadd (v := nI (i + 2)) hc dL_law_458 (ad_NN _ _) ?_
  refine r_sld (j := i + 2) hc hX hbO hL rfl (by omega) hx2 dL_law_459 ?_
  refine r_aload_n hc dL_law_460 rfl ?_
  refine r_iload_n hc dL_law_461 rfl ?_
  refine r_iconst (v := nI 3) hc dL_law_462 rfl ?_
  refine r_iadd (v := nI (i + 3)) hc dL_law_463 (ad_NN _ _) ?_
  refine r_sld (j := i + 3) hc hX hbO hL rfl (by omega) hx3 dL_law_464 ?_
  refine cl_L_53 (As := [.int (zI x1), .int (zI x2), .int (zI x3)]) hc (c_X11_plan hC hbx (x1 := x1) (x2 := x2) (x3 := x3) hr1 hr2 hr3) hsP rfl ⟨Nat.le_of_ble_eq_true rfl, Nat.le_of_ble_eq_true rfl⟩ ⟨rfl, rfl⟩ ⟨Nat.le_of_ble_eq_true rfl, Nat.le_of_ble_eq_true rfl⟩ rfl (Nat.le_of_ble_eq_true rfl) dL_law_465 (fun r u hp => ?_)
  obtain ⟨σ2, ρ2, hu, hr, ⟨b2, s2, hC2⟩, hf2⟩ := hp
  subst hr
  rw [hu]
  have hMS2 : MSt sh σ2 ρ2 M v nu hf fl sv p ln := hMS.sg (fun q q1 q2 => (hf2 q (by omega)).1) (fun k hk => congrFun (hf2 M (by omega)).1 k) (hf2 M (by omega)).2
  obtain ⟨m0, m1, m2, m3, m4, m5, m6, m7⟩ := id hMS2
  refine r_aload_n hc dL_law_468 rfl ?_
  refine r_aload_n hc dL_law_469 rfl ?_
  refine r_iload_n hc dL_law_470 rfl ?_
  refine r_iconst (v := nI 1) hc dL_law_471 rfl ?_
  refine r_iadd (v := nI (i + 1)) hc dL_law_472 (ad_NN _ _) ?_
  refine r_sld (j := i + 1) hc hX hbO hL rfl (by omega) hx1 dL_law_473 ?_
  refine r_aload_n hc dL_law_474 rfl ?_
  refine r_iload_n hc dL_law_475 rfl ?_
  refine r_iconst (v := nI 2) hc dL_law_476 rfl ?_
  refine r_iadd (v := nI (i + 2)) hc dL_law_477 (ad_NN _ _) ?_
  refine r_sld (j := i + 2) hc hX hbO hL rfl (by omega) hx2 dL_law_478 ?_
  refine r_aload_n hc dL_law_479 rfl ?_
  refine r_iload_n hc dL_law_480 rfl ?_
  refine r_iconst (v := nI 3) hc dL_law_481 rfl ?_
  refine r_iadd (v := nI (i + 3)) hc dL_law_482 (ad_NN _ _) ?_
  refine r_sld (j := i + 3) hc hX hbO hL rfl (by omega) hx3 dL_law_483 ?_
  refine cl_L_56 (As := [.int (zI x1), .int (zI x2), .int (zI x3)]) hc (c_X12_plan (W := false) m0 m1 hok hbx2 m3 m2 hnu (d := x1) (f := x2) (s := x3) hr1 hr2 hr3) hsM rfl ⟨Nat.le_of_ble_eq_true rfl, Nat.le_of_ble_eq_true rfl⟩ ⟨rfl, rfl⟩ ⟨Nat.le_of_ble_eq_true rfl, Nat.le_of_ble_eq_true rfl⟩ rfl (Nat.le_of_ble_eq_true rfl) dL_law_484 (fun r u hp => ?_)
  obtain ⟨τ, hu, hr, hv2, hH2, hfq, hfk⟩ := hp
  subst hr
  rw [hu]
  refine r_icmp_eq (tgt := 935) hc dL_law_487 (by decide) Iff.rfl (fun _ => ?_) (fun q => absurd rfl q)
  have hx := ok_plan hok x1 x2 x3
  exact ih _ _ _ _ _ _ _ _ _ (Rel.chg (X := sPlan v x1 x2 x3) hPM hnu hC2 hMS2 hBd (Nat.le_trans hx.2 (by omega)) hv2 hH2 (fun q q1 => hfq q (by omega) (by omega) (by omega)) (fun k _ hk => hfk k hk))
set_option maxRecDepth 100000 in
set_option maxHeartbeats 4000000 in
theorem lc_dropPlan {Ω : OmT} {Φ : PhT} {z : Nat} {sh : Nat → Option Kd} {σ : Nat → Nat → Int32} {ρ : Nat → Nat → Option Nat} {P M b i L B : Nat} {xs : Nat → Int32} {v : Nat → Nat} {nu : Nat} {hf : Nat → Nat} {fl : Nat → Bool} {sv p : Nat → Nat} {ln : Nat} (hc : CXp Ω Φ cL_law RL room_1 4) (hX : va_X b L xs Φ.2.2.2.1 Φ.2.2.2.1.heap) (hbO : b < Ω.2.2.2) (hPM : P + 391 ≤ M) (hR : Rel B sh σ ρ P M v nu hf fl sv p ln) (hB : B ≤ 800000000) (hi : i + 5 ≤ L) (hL : L ≤ 2560) (ih : ∀ (σ : Nat → Nat → Int32) (ρ : Nat → Nat → Option Nat) (v : Nat → Nat) (nu : Nat) (hf : Nat → Nat) (fl : Nat → Bool) (sv p : Nat → Nat) (ln : Nat), Rel (B + 27000) sh σ ρ P M v nu hf fl sv p ln → Vw Ω Φ (z, sh, σ, ρ) (600000, 7302250) 935 [(0, .ref b), (1, .ref P), (2, .ref M), (3, .int (nI i))] []) : Vw Ω Φ (z, sh, σ, ρ) (600000, 7302250) 492 [(0, .ref b), (1, .ref P), (2, .ref M), (3, .int (nI i))] [] := by
  obtain ⟨⟨b0, s0, hC⟩, hMS, hBd⟩ := id hR
  have hnu := hC.nu
  have hok := hC.ok
  obtain ⟨hl80, hpp⟩ := hC.ln
  have hbx : v 7 ≤ 900000000 := by have := hBd.1; omega
  have hbx2 : v 7 ≤ 1000000000 := by omega
  obtain ⟨m0, m1, m2, m3, m4, m5, m6, m7⟩ := id hMS
  have hsP : sh P = some (.inl 10) := hC.1.1.1.1
  have hsM : sh M = some (.inl 11) := MS0 m0
  refine r_aload_n hc dL_law_492 rfl ?_
  refine cl_L_57 (As := []) hc (c_X11_dropPlan hC hbx ) hsP rfl ⟨Nat.le_of_ble_eq_true rfl, Nat.le_of_ble_eq_true rfl⟩ ⟨rfl, rfl⟩ ⟨Nat.le_of_ble_eq_true rfl, Nat.le_of_ble_eq_true rfl⟩ rfl (Nat.le_of_ble_eq_true rfl) dL_law_493 (fun r u hp => ?_)
  obtain ⟨σ2, ρ2, hu, hr, ⟨b2, s2, hC2⟩, hf2⟩ := hp
  subst hr
  rw [hu]
  have hMS2 : MSt sh σ2 ρ2 M v nu hf fl sv p ln := hMS.sg (fun q q1 q2 => (hf2 q (by omega)).1) (fun k hk => congrFun (hf2 M (by omega)).1 k) (hf2 M (by omega)).2
  obtain ⟨m0, m1, m2, m3, m4, m5, m6, m7⟩ := id hMS2
  refine r_aload_n hc dL_law_496 rfl ?_
  refine cl_L_61 (As := []) hc (c_X12_dropPlan (W := false) m0 m1 hok hbx2 m3 m2 hnu ) hsM rfl ⟨Nat.le_of_ble_eq_true rfl, Nat.le_of_ble_eq_true rfl⟩ ⟨rfl, rfl⟩ ⟨Nat.le_of_ble_eq_true rfl, Nat.le_of_ble_eq_true rfl⟩ rfl (Nat.le_of_ble_eq_true rfl) dL_law_497 (fun r u hp => ?_)
  obtain ⟨τ, hu, hr, hv2, hH2, hfq, hfk⟩ := hp
  subst hr
  rw [hu]
  refine r_icmp_eq (tgt := 935) hc dL_law_500 (by decide) Iff.rfl (fun _ => ?_) (fun q => absurd rfl q)
  have hx := ok_drop hok
  exact ih _ _ _ _ _ _ _ _ _ (Rel.chg (X := sDrop v) hPM hnu hC2 hMS2 hBd (Nat.le_trans hx.2 (by omega)) hv2 hH2 (fun q q1 => hfq q (by omega) (by omega) (by omega)) (fun k _ hk => hfk k hk))
set_option maxRecDepth 100000 in
set_option maxHeartbeats 4000000 in
theorem lc_carryPlan {Ω : OmT} {Φ : PhT} {z : Nat} {sh : Nat → Option Kd} {σ : Nat → Nat → Int32} {ρ : Nat → Nat → Option Nat} {P M b i L B : Nat} {xs : Nat → Int32} {v : Nat → Nat} {nu : Nat} {hf : Nat → Nat} {fl : Nat → Bool} {sv p : Nat → Nat} {ln : Nat} (hc : CXp Ω Φ cL_law RL room_1 4) (hX : va_X b L xs Φ.2.2.2.1 Φ.2.2.2.1.heap) (hbO : b < Ω.2.2.2) (hPM : P + 391 ≤ M) (hR : Rel B sh σ ρ P M v nu hf fl sv p ln) (hB : B ≤ 800000000) (hi : i + 5 ≤ L) (hL : L ≤ 2560) (ih : ∀ (σ : Nat → Nat → Int32) (ρ : Nat → Nat → Option Nat) (v : Nat → Nat) (nu : Nat) (hf : Nat → Nat) (fl : Nat → Bool) (sv p : Nat → Nat) (ln : Nat), Rel (B + 27000) sh σ ρ P M v nu hf fl sv p ln → Vw Ω Φ (z, sh, σ, ρ) (600000, 7302250) 935 [(0, .ref b), (1, .ref P), (2, .ref M), (3, .int (nI i))] []) : Vw Ω Φ (z, sh, σ, ρ) (600000, 7302250) 505 [(0, .ref b), (1, .ref P), (2, .ref M), (3, .int (nI i))] [] := by
  obtain ⟨⟨b0, s0, hC⟩, hMS, hBd⟩ := id hR
  have hnu := hC.nu
  have hok := hC.ok
  obtain ⟨hl80, hpp⟩ := hC.ln
  have hbx : v 7 ≤ 900000000 := by have := hBd.1; omega
  have hbx2 : v 7 ≤ 1000000000 := by omega
  obtain ⟨m0, m1, m2, m3, m4, m5, m6, m7⟩ := id hMS
  have hsP : sh P = some (.inl 10) := hC.1.1.1.1
  have hsM : sh M = some (.inl 11) := MS0 m0
  refine r_aload_n hc dL_law_505 rfl ?_
  refine cl_L_62 (As := []) hc (c_X11_carryPlan hC hbx) hsP rfl ⟨Nat.le_of_ble_eq_true rfl, Nat.le_of_ble_eq_true rfl⟩ ⟨rfl, rfl⟩ ⟨Nat.le_of_ble_eq_true rfl, Nat.le_of_ble_eq_true rfl⟩ rfl (Nat.le_of_ble_eq_true rfl) dL_law_506 (fun r u hp => ?_)
  obtain ⟨σ2, ρ2, hu, hr, ⟨b2, s2, hC2⟩, hf2⟩ := hp
  subst hr
  rw [hu]
  have hMS2 : MSt sh σ2 ρ2 M v nu hf fl sv p ln := hMS.sg (fun q q1 q2 => (hf2 q (by omega)).1) (fun k hk => congrFun (hf2 M (by omega)).1 k) (hf2 M (by omega)).2
  obtain ⟨m0, m1, m2, m3, m4, m5, m6, m7⟩ := id hMS2
  refine r_aload_n hc dL_law_509 rfl ?_
  refine cl_L_65 (As := []) hc (c_X12_carryPlan (W := false) m0 m1 hok hbx m3 m2 hnu) hsM rfl ⟨Nat.le_of_ble_eq_true rfl, Nat.le_of_ble_eq_true rfl⟩ ⟨rfl, rfl⟩ ⟨Nat.le_of_ble_eq_true rfl, Nat.le_of_ble_eq_true rfl⟩ rfl (Nat.le_of_ble_eq_true rfl) dL_law_510 (fun r u hp => ?_)
  obtain ⟨τ, hu, hr, hv2, hH2, hfq, hfk⟩ := hp
  subst hr
  rw [hu]
  refine r_icmp_eq (tgt := 935) hc dL_law_513 (by decide) Iff.rfl (fun _ => ?_) (fun q => absurd rfl q)
  have hx := ok_carryP hok
  exact ih _ _ _ _ _ _ _ _ _ (Rel.chg (X := sCarryP v) hPM hnu hC2 hMS2 hBd (Nat.le_trans hx.2 (by omega)) hv2 hH2 (fun q q1 => hfq q (by omega) (by omega) (by omega) (by omega) (by omega)) (fun k k1 hk => hfk k hk (by omega)))
set_option maxRecDepth 100000 in
set_option maxHeartbeats 4000000 in
theorem lc_ofDoor {Ω : OmT} {Φ : PhT} {z : Nat} {sh : Nat → Option Kd} {σ : Nat → Nat → Int32} {ρ : Nat → Nat → Option Nat} {P M b i L B : Nat} {xs : Nat → Int32} {v : Nat → Nat} {nu : Nat} {hf : Nat → Nat} {fl : Nat → Bool} {sv p : Nat → Nat} {ln : Nat} (hc : CXp Ω Φ cL_law RL room_1 4) (hX : va_X b L xs Φ.2.2.2.1 Φ.2.2.2.1.heap) (hbO : b < Ω.2.2.2) (hPM : P + 391 ≤ M) (hR : Rel B sh σ ρ P M v nu hf fl sv p ln) (hB : B ≤ 800000000) (hi : i + 5 ≤ L) (hL : L ≤ 2560) (ih : ∀ (σ : Nat → Nat → Int32) (ρ : Nat → Nat → Option Nat) (v : Nat → Nat) (nu : Nat) (hf : Nat → Nat) (fl : Nat → Bool) (sv p : Nat → Nat) (ln : Nat), Rel (B + 27000) sh σ ρ P M v nu hf fl sv p ln → Vw Ω Φ (z, sh, σ, ρ) (600000, 7302250) 935 [(0, .ref b), (1, .ref P), (2, .ref M), (3, .int (nI i))] []) : Vw Ω Φ (z, sh, σ, ρ) (600000, 7302250) 518 [(0, .ref b), (1, .ref P), (2, .ref M), (3, .int (nI i))] [] := by
  obtain ⟨⟨b0, s0, hC⟩, hMS, hBd⟩ := id hR
  have hnu := hC.nu
  have hok := hC.ok
  obtain ⟨hl80, hpp⟩ := hC.ln
  have hbx : v 7 ≤ 900000000 := by have := hBd.1; omega
  have hbx2 : v 7 ≤ 1000000000 := by omega
  obtain ⟨m0, m1, m2, m3, m4, m5, m6, m7⟩ := id hMS
  have hsP : sh P = some (.inl 10) := hC.1.1.1.1
  have hsM : sh M = some (.inl 11) := MS0 m0
  obtain ⟨x1, hx1, hr1⟩ := zI_ex (xs (i + 1))
  obtain ⟨x2, hx2, hr2⟩ := zI_ex (xs (i + 2))
  refine r_aload_n hc dL_law_518 rfl ?_
  refine r_aload_n hc dL_law_519 rfl ?_
  refine r_iload_n hc dL_law_520 rfl ?_
  refine r_iconst (v := nI 1) hc dL_law_521 rfl ?_
  refine r_iadd (v := nI (i + 1)) hc dL_law_522 (ad_NN _ _) ?_
  refine r_sld (j := i + 1) hc hX hbO hL rfl (by omega) hx1 dL_law_523 ?_
  refine r_aload_n hc dL_law_524 rfl ?_
  refine r_iload_n hc dL_law_525 rfl ?_
  refine r_iconst (v := nI 2) hc dL_law_526 rfl ?_
  refine r_iadd (v := nI (i + 2)) hc dL_law_527 (ad_NN _ _) ?_
  refine r_sld (j := i + 2) hc hX hbO hL rfl (by omega) hx2 dL_law_528 ?_
  refine cl_L_66 (As := [.int (zI x1), .int (zI x2)]) hc (c_X11_ofDoor hC hbx (x1 := x1) (x2 := x2) hr1 hr2) hsP rfl ⟨Nat.le_of_ble_eq_true rfl, Nat.le_of_ble_eq_true rfl⟩ ⟨rfl, rfl⟩ ⟨Nat.le_of_ble_eq_true rfl, Nat.le_of_ble_eq_true rfl⟩ rfl (Nat.le_of_ble_eq_true rfl) dL_law_529 (fun r u hp => ?_)
  obtain ⟨hr, hu⟩ := hp
  have hfx : ∀ q, (q < P + 307 ∨ P + 323 ≤ q) → σ q = σ q := fun _ _ => rfl
  rw [hu, hr]
  refine r_aload_n hc dL_law_532 rfl ?_
  refine r_aload_n hc dL_law_533 rfl ?_
  refine r_iload_n hc dL_law_534 rfl ?_
  refine r_iconst (v := nI 1) hc dL_law_535 rfl ?_
  refine r_iadd (v := nI (i + 1)) hc dL_law_536 (ad_NN _ _) ?_
  refine r_sld (j := i + 1) hc hX hbO hL rfl (by omega) hx1 dL_law_537 ?_
  refine r_aload_n hc dL_law_538 rfl ?_
  refine r_iload_n hc dL_law_539 rfl ?_
  refine r_iconst (v := nI 2) hc dL_law_540 rfl ?_
  refine r_iadd (v := nI (i + 2)) hc dL_law_541 (ad_NN _ _) ?_
  refine r_sld (j := i + 2) hc hX hbO hL rfl (by omega) hx2 dL_law_542 ?_
  refine cl_L_69 (As := [.int (zI x1), .int (zI x2)]) hc (c_X12_ofDoor m0 m1 hok hbx2 (d := x1) (w := x2) hr1 hr2) hsM rfl ⟨Nat.le_of_ble_eq_true rfl, Nat.le_of_ble_eq_true rfl⟩ ⟨rfl, rfl⟩ ⟨Nat.le_of_ble_eq_true rfl, Nat.le_of_ble_eq_true rfl⟩ rfl (Nat.le_of_ble_eq_true rfl) dL_law_543 (fun r u hp => ?_)
  obtain ⟨hr, hu⟩ := hp
  rw [hu, hr]
  refine r_icmp_eq (tgt := 935) hc dL_law_546 (by decide) Iff.rfl (fun _ => ?_) (fun q => absurd rfl q)
  exact ih _ _ _ _ _ _ _ _ _ (Rel.same hPM hR hfx (fun _ _ => rfl) (fun _ _ => rfl))
set_option maxRecDepth 100000 in
set_option maxHeartbeats 4000000 in
theorem lc_ofKey {Ω : OmT} {Φ : PhT} {z : Nat} {sh : Nat → Option Kd} {σ : Nat → Nat → Int32} {ρ : Nat → Nat → Option Nat} {P M b i L B : Nat} {xs : Nat → Int32} {v : Nat → Nat} {nu : Nat} {hf : Nat → Nat} {fl : Nat → Bool} {sv p : Nat → Nat} {ln : Nat} (hc : CXp Ω Φ cL_law RL room_1 4) (hX : va_X b L xs Φ.2.2.2.1 Φ.2.2.2.1.heap) (hbO : b < Ω.2.2.2) (hPM : P + 391 ≤ M) (hR : Rel B sh σ ρ P M v nu hf fl sv p ln) (hB : B ≤ 800000000) (hi : i + 5 ≤ L) (hL : L ≤ 2560) (ih : ∀ (σ : Nat → Nat → Int32) (ρ : Nat → Nat → Option Nat) (v : Nat → Nat) (nu : Nat) (hf : Nat → Nat) (fl : Nat → Bool) (sv p : Nat → Nat) (ln : Nat), Rel (B + 27000) sh σ ρ P M v nu hf fl sv p ln → Vw Ω Φ (z, sh, σ, ρ) (600000, 7302250) 935 [(0, .ref b), (1, .ref P), (2, .ref M), (3, .int (nI i))] []) : Vw Ω Φ (z, sh, σ, ρ) (600000, 7302250) 551 [(0, .ref b), (1, .ref P), (2, .ref M), (3, .int (nI i))] [] := by
  obtain ⟨⟨b0, s0, hC⟩, hMS, hBd⟩ := id hR
  have hnu := hC.nu
  have hok := hC.ok
  obtain ⟨hl80, hpp⟩ := hC.ln
  have hbx : v 7 ≤ 900000000 := by have := hBd.1; omega
  have hbx2 : v 7 ≤ 1000000000 := by omega
  obtain ⟨m0, m1, m2, m3, m4, m5, m6, m7⟩ := id hMS
  have hsP : sh P = some (.inl 10) := hC.1.1.1.1
  have hsM : sh M = some (.inl 11) := MS0 m0
  obtain ⟨x1, hx1, hr1⟩ := zI_ex (xs (i + 1))
  obtain ⟨x2, hx2, hr2⟩ := zI_ex (xs (i + 2))
  refine r_aload_n hc dL_law_551 rfl ?_
  refine r_aload_n hc dL_law_552 rfl ?_
  refine r_iload_n hc dL_law_553 rfl ?_
  refine r_iconst (v := nI 1) hc dL_law_554 rfl ?_
  refine r_iadd (v := nI (i + 1)) hc dL_law_555 (ad_NN _ _) ?_
  refine r_sld (j := i + 1) hc hX hbO hL rfl (by omega) hx1 dL_law_556 ?_
  refine r_aload_n hc dL_law_557 rfl ?_
  refine r_iload_n hc dL_law_558 rfl ?_
  refine r_iconst (v := nI 2) hc dL_law_559 rfl ?_
  refine r_iadd (v := nI (i + 2)) hc dL_law_560 (ad_NN _ _) ?_
  refine r_sld (j := i + 2) hc hX hbO hL rfl (by omega) hx2 dL_law_561 ?_
  refine cl_L_70 (As := [.int (zI x1), .int (zI x2)]) hc (c_X11_ofKey hC hbx (x1 := x1) (x2 := x2) hr1 hr2) hsP rfl ⟨Nat.le_of_ble_eq_true rfl, Nat.le_of_ble_eq_true rfl⟩ ⟨rfl, rfl⟩ ⟨Nat.le_of_ble_eq_true rfl, Nat.le_of_ble_eq_true rfl⟩ rfl (Nat.le_of_ble_eq_true rfl) dL_law_562 (fun r u hp => ?_)
  obtain ⟨hr, hu⟩ := hp
  have hfx : ∀ q, (q < P + 307 ∨ P + 323 ≤ q) → σ q = σ q := fun _ _ => rfl
  rw [hu, hr]
  refine r_aload_n hc dL_law_565 rfl ?_
  refine r_aload_n hc dL_law_566 rfl ?_
  refine r_iload_n hc dL_law_567 rfl ?_
  refine r_iconst (v := nI 1) hc dL_law_568 rfl ?_
  refine r_iadd (v := nI (i + 1)) hc dL_law_569 (ad_NN _ _) ?_
  refine r_sld (j := i + 1) hc hX hbO hL rfl (by omega) hx1 dL_law_570 ?_
  refine r_aload_n hc dL_law_571 rfl ?_
  refine r_iload_n hc dL_law_572 rfl ?_
  refine r_iconst (v := nI 2) hc dL_law_573 rfl ?_
  refine r_iadd (v := nI (i + 2)) hc dL_law_574 (ad_NN _ _) ?_
  refine r_sld (j := i + 2) hc hX hbO hL rfl (by omega) hx2 dL_law_575 ?_
  refine cl_L_73 (As := [.int (zI x1), .int (zI x2)]) hc (c_X12_ofKey m0 m1 hok hbx2 (k := x1) (w := x2) hr1 hr2) hsM rfl ⟨Nat.le_of_ble_eq_true rfl, Nat.le_of_ble_eq_true rfl⟩ ⟨rfl, rfl⟩ ⟨Nat.le_of_ble_eq_true rfl, Nat.le_of_ble_eq_true rfl⟩ rfl (Nat.le_of_ble_eq_true rfl) dL_law_576 (fun r u hp => ?_)
  obtain ⟨hr, hu⟩ := hp
  rw [hu, hr]
  refine r_icmp_eq (tgt := 935) hc dL_law_579 (by decide) Iff.rfl (fun _ => ?_) (fun q => absurd rfl q)
  exact ih _ _ _ _ _ _ _ _ _ (Rel.same hPM hR hfx (fun _ _ => rfl) (fun _ _ => rfl))
set_option maxRecDepth 100000 in
set_option maxHeartbeats 4000000 in
theorem lc_count {Ω : OmT} {Φ : PhT} {z : Nat} {sh : Nat → Option Kd} {σ : Nat → Nat → Int32} {ρ : Nat → Nat → Option Nat} {P M b i L B : Nat} {xs : Nat → Int32} {v : Nat → Nat} {nu : Nat} {hf : Nat → Nat} {fl : Nat → Bool} {sv p : Nat → Nat} {ln : Nat} (hc : CXp Ω Φ cL_law RL room_1 4) (hX : va_X b L xs Φ.2.2.2.1 Φ.2.2.2.1.heap) (hbO : b < Ω.2.2.2) (hPM : P + 391 ≤ M) (hR : Rel B sh σ ρ P M v nu hf fl sv p ln) (hB : B ≤ 800000000) (hi : i + 5 ≤ L) (hL : L ≤ 2560) (ih : ∀ (σ : Nat → Nat → Int32) (ρ : Nat → Nat → Option Nat) (v : Nat → Nat) (nu : Nat) (hf : Nat → Nat) (fl : Nat → Bool) (sv p : Nat → Nat) (ln : Nat), Rel (B + 27000) sh σ ρ P M v nu hf fl sv p ln → Vw Ω Φ (z, sh, σ, ρ) (600000, 7302250) 935 [(0, .ref b), (1, .ref P), (2, .ref M), (3, .int (nI i))] []) : Vw Ω Φ (z, sh, σ, ρ) (600000, 7302250) 584 [(0, .ref b), (1, .ref P), (2, .ref M), (3, .int (nI i))] [] := by
  obtain ⟨⟨b0, s0, hC⟩, hMS, hBd⟩ := id hR
  have hnu := hC.nu
  have hok := hC.ok
  obtain ⟨hl80, hpp⟩ := hC.ln
  have hbx : v 7 ≤ 900000000 := by have := hBd.1; omega
  have hbx2 : v 7 ≤ 1000000000 := by omega
  obtain ⟨m0, m1, m2, m3, m4, m5, m6, m7⟩ := id hMS
  have hsP : sh P = some (.inl 10) := hC.1.1.1.1
  have hsM : sh M = some (.inl 11) := MS0 m0
  obtain ⟨x1, hx1, hr1⟩ := zI_ex (xs (i + 1))
  refine r_aload_n hc dL_law_584 rfl ?_
  refine r_aload_n hc dL_law_585 rfl ?_
  refine r_iload_n hc dL_law_586 rfl ?_
  refine r_iconst (v := nI 1) hc dL_law_587 rfl ?_
  refine r_iadd (v := nI (i + 1)) hc dL_law_588 (ad_NN _ _) ?_
  refine r_sld (j := i + 1) hc hX hbO hL rfl (by omega) hx1 dL_law_589 ?_
  refine cl_L_74 (As := [.int (zI x1)]) hc (c_X11_count hC hbx (x1 := x1) hr1) hsP rfl ⟨Nat.le_of_ble_eq_true rfl, Nat.le_of_ble_eq_true rfl⟩ ⟨rfl, rfl⟩ ⟨Nat.le_of_ble_eq_true rfl, Nat.le_of_ble_eq_true rfl⟩ rfl (Nat.le_of_ble_eq_true rfl) dL_law_590 (fun r u hp => ?_)
  obtain ⟨hr, hu⟩ := hp
  have hfx : ∀ q, (q < P + 307 ∨ P + 323 ≤ q) → σ q = σ q := fun _ _ => rfl
  rw [hu, hr]
  refine r_aload_n hc dL_law_593 rfl ?_
  refine r_aload_n hc dL_law_594 rfl ?_
  refine r_iload_n hc dL_law_595 rfl ?_
  refine r_iconst (v := nI 1) hc dL_law_596 rfl ?_
  refine r_iadd (v := nI (i + 1)) hc dL_law_597 (ad_NN _ _) ?_
  refine r_sld (j := i + 1) hc hX hbO hL rfl (by omega) hx1 dL_law_598 ?_
  refine cl_L_77 (As := [.int (zI x1)]) hc (c_X12_count m0 m1 hok hbx2 m6 m2.1 (w := x1) hr1) hsM rfl ⟨Nat.le_of_ble_eq_true rfl, Nat.le_of_ble_eq_true rfl⟩ ⟨rfl, rfl⟩ ⟨Nat.le_of_ble_eq_true rfl, Nat.le_of_ble_eq_true rfl⟩ rfl (Nat.le_of_ble_eq_true rfl) dL_law_599 (fun r u hp => ?_)
  obtain ⟨hr, hu⟩ := hp
  rw [hu, hr]
  refine r_icmp_eq (tgt := 935) hc dL_law_602 (by decide) Iff.rfl (fun _ => ?_) (fun q => absurd rfl q)
  exact ih _ _ _ _ _ _ _ _ _ (Rel.same hPM hR hfx (fun _ _ => rfl) (fun _ _ => rfl))
set_option maxRecDepth 100000 in
set_option maxHeartbeats 4000000 in
theorem lc_opens {Ω : OmT} {Φ : PhT} {z : Nat} {sh : Nat → Option Kd} {σ : Nat → Nat → Int32} {ρ : Nat → Nat → Option Nat} {P M b i L B : Nat} {xs : Nat → Int32} {v : Nat → Nat} {nu : Nat} {hf : Nat → Nat} {fl : Nat → Bool} {sv p : Nat → Nat} {ln : Nat} (hc : CXp Ω Φ cL_law RL room_1 4) (hX : va_X b L xs Φ.2.2.2.1 Φ.2.2.2.1.heap) (hbO : b < Ω.2.2.2) (hPM : P + 391 ≤ M) (hR : Rel B sh σ ρ P M v nu hf fl sv p ln) (hB : B ≤ 800000000) (hi : i + 5 ≤ L) (hL : L ≤ 2560) (ih : ∀ (σ : Nat → Nat → Int32) (ρ : Nat → Nat → Option Nat) (v : Nat → Nat) (nu : Nat) (hf : Nat → Nat) (fl : Nat → Bool) (sv p : Nat → Nat) (ln : Nat), Rel (B + 27000) sh σ ρ P M v nu hf fl sv p ln → Vw Ω Φ (z, sh, σ, ρ) (600000, 7302250) 935 [(0, .ref b), (1, .ref P), (2, .ref M), (3, .int (nI i))] []) : Vw Ω Φ (z, sh, σ, ρ) (600000, 7302250) 607 [(0, .ref b), (1, .ref P), (2, .ref M), (3, .int (nI i))] [] := by
  obtain ⟨⟨b0, s0, hC⟩, hMS, hBd⟩ := id hR
  have hnu := hC.nu
  have hok := hC.ok
  obtain ⟨hl80, hpp⟩ := hC.ln
  have hbx : v 7 ≤ 900000000 := by have := hBd.1; omega
  have hbx2 : v 7 ≤ 1000000000 := by omega
  obtain ⟨m0, m1, m2, m3, m4, m5, m6, m7⟩ := id hMS
  have hsP : sh P = some (.inl 10) := hC.1.1.1.1
  have hsM : sh M = some (.inl 11) := MS0 m0
  obtain ⟨x1, hx1, hr1⟩ := zI_ex (xs (i + 1))
  obtain ⟨x2, hx2, hr2⟩ := zI_ex (xs (i + 2))
  refine r_aload_n hc dL_law_607 rfl ?_
  refine r_aload_n hc dL_law_608 rfl ?_
  refine r_iload_n hc dL_law_609 rfl ?_
  refine r_iconst (v := nI 1) hc dL_law_610 rfl ?_
  refine r_iadd (v := nI (i + 1)) hc dL_law_611 (ad_NN _ _) ?_
  refine r_sld (j := i + 1) hc hX hbO hL rfl (by omega) hx1 dL_law_612 ?_
  refine r_aload_n hc dL_law_613 rfl ?_
  refine r_iload_n hc dL_law_614 rfl ?_
  refine r_iconst (v := nI 2) hc dL_law_615 rfl ?_
  refine r_iadd (v := nI (i + 2)) hc dL_law_616 (ad_NN _ _) ?_
  refine r_sld (j := i + 2) hc hX hbO hL rfl (by omega) hx2 dL_law_617 ?_
  refine cl_L_78 (As := [.int (zI x1), .int (zI x2)]) hc (c_X11_opens hC hbx (x1 := x1) (x2 := x2) hr1 hr2) hsP rfl ⟨Nat.le_of_ble_eq_true rfl, Nat.le_of_ble_eq_true rfl⟩ ⟨rfl, rfl⟩ ⟨Nat.le_of_ble_eq_true rfl, Nat.le_of_ble_eq_true rfl⟩ rfl (Nat.le_of_ble_eq_true rfl) dL_law_618 (fun r u hp => ?_)
  obtain ⟨hr, hu⟩ := hp
  have hfx : ∀ q, (q < P + 307 ∨ P + 323 ≤ q) → σ q = σ q := fun _ _ => rfl
  rw [hu, hr]
  refine r_aload_n hc dL_law_621 rfl ?_
  refine r_aload_n hc dL_law_622 rfl ?_
  refine r_iload_n hc dL_law_623 rfl ?_
  refine r_iconst (v := nI 1) hc dL_law_624 rfl ?_
  refine r_iadd (v := nI (i + 1)) hc dL_law_625 (ad_NN _ _) ?_
  refine r_sld (j := i + 1) hc hX hbO hL rfl (by omega) hx1 dL_law_626 ?_
  refine r_aload_n hc dL_law_627 rfl ?_
  refine r_iload_n hc dL_law_628 rfl ?_
  refine r_iconst (v := nI 2) hc dL_law_629 rfl ?_
  refine r_iadd (v := nI (i + 2)) hc dL_law_630 (ad_NN _ _) ?_
  refine r_sld (j := i + 2) hc hX hbO hL rfl (by omega) hx2 dL_law_631 ?_
  refine cl_L_81 (As := [.int (zI x1), .int (zI x2)]) hc (c_X12_opens m0 m1 (c := x1) (d := x2) hr1 hr2 hok.2.2.2.2.1 (fun d hd => ⟨(hok.2.2.2.2.2.2.2.1 d hd).2.2.1, (hok.2.2.2.2.2.2.2.1 d hd).2.2.2⟩)) hsM rfl ⟨Nat.le_of_ble_eq_true rfl, Nat.le_of_ble_eq_true rfl⟩ ⟨rfl, rfl⟩ ⟨Nat.le_of_ble_eq_true rfl, Nat.le_of_ble_eq_true rfl⟩ rfl (Nat.le_of_ble_eq_true rfl) dL_law_632 (fun r u hp => ?_)
  obtain ⟨hr, hu⟩ := hp
  rw [hu, hr]
  refine r_icmp_eq (tgt := 935) hc dL_law_635 (by decide) Iff.rfl (fun _ => ?_) (fun q => absurd rfl q)
  exact ih _ _ _ _ _ _ _ _ _ (Rel.same hPM hR hfx (fun _ _ => rfl) (fun _ _ => rfl))
set_option maxRecDepth 100000 in
set_option maxHeartbeats 4000000 in
theorem lc_chanceKeys {Ω : OmT} {Φ : PhT} {z : Nat} {sh : Nat → Option Kd} {σ : Nat → Nat → Int32} {ρ : Nat → Nat → Option Nat} {P M b i L B : Nat} {xs : Nat → Int32} {v : Nat → Nat} {nu : Nat} {hf : Nat → Nat} {fl : Nat → Bool} {sv p : Nat → Nat} {ln : Nat} (hc : CXp Ω Φ cL_law RL room_1 4) (hX : va_X b L xs Φ.2.2.2.1 Φ.2.2.2.1.heap) (hbO : b < Ω.2.2.2) (hPM : P + 391 ≤ M) (hR : Rel B sh σ ρ P M v nu hf fl sv p ln) (hB : B ≤ 800000000) (hi : i + 5 ≤ L) (hL : L ≤ 2560) (ih : ∀ (σ : Nat → Nat → Int32) (ρ : Nat → Nat → Option Nat) (v : Nat → Nat) (nu : Nat) (hf : Nat → Nat) (fl : Nat → Bool) (sv p : Nat → Nat) (ln : Nat), Rel (B + 27000) sh σ ρ P M v nu hf fl sv p ln → Vw Ω Φ (z, sh, σ, ρ) (600000, 7302250) 935 [(0, .ref b), (1, .ref P), (2, .ref M), (3, .int (nI i))] []) : Vw Ω Φ (z, sh, σ, ρ) (600000, 7302250) 640 [(0, .ref b), (1, .ref P), (2, .ref M), (3, .int (nI i))] [] := by
  obtain ⟨⟨b0, s0, hC⟩, hMS, hBd⟩ := id hR
  have hnu := hC.nu
  have hok := hC.ok
  obtain ⟨hl80, hpp⟩ := hC.ln
  have hbx : v 7 ≤ 900000000 := by have := hBd.1; omega
  have hbx2 : v 7 ≤ 1000000000 := by omega
  obtain ⟨m0, m1, m2, m3, m4, m5, m6, m7⟩ := id hMS
  have hsP : sh P = some (.inl 10) := hC.1.1.1.1
  have hsM : sh M = some (.inl 11) := MS0 m0
  obtain ⟨x1, hx1, hr1⟩ := zI_ex (xs (i + 1))
  refine r_aload_n hc dL_law_640 rfl ?_
  refine r_aload_n hc dL_law_641 rfl ?_
  refine r_iload_n hc dL_law_642 rfl ?_
  refine r_iconst (v := nI 1) hc dL_law_643 rfl ?_
  refine r_iadd (v := nI (i + 1)) hc dL_law_644 (ad_NN _ _) ?_
  refine r_sld (j := i + 1) hc hX hbO hL rfl (by omega) hx1 dL_law_645 ?_
  refine cl_L_82 (As := [.int (zI x1)]) hc (c_X11_chanceKeys hC hbx (x1 := x1) hr1) hsP rfl ⟨Nat.le_of_ble_eq_true rfl, Nat.le_of_ble_eq_true rfl⟩ ⟨rfl, rfl⟩ ⟨Nat.le_of_ble_eq_true rfl, Nat.le_of_ble_eq_true rfl⟩ rfl (Nat.le_of_ble_eq_true rfl) dL_law_646 (fun r u hp => ?_)
  obtain ⟨τ, hu, hr, hfx⟩ := hp
  rw [hu, hr]
  have hMS2 : MSt sh τ ρ M v nu hf fl sv p ln := hMS.sg (fun q q1 q2 => hfx q (by omega)) (fun k hk => congrFun (hfx M (by omega)) k) rfl
  obtain ⟨m0, m1, m2, m3, m4, m5, m6, m7⟩ := id hMS2
  refine r_aload_n hc dL_law_649 rfl ?_
  refine r_aload_n hc dL_law_650 rfl ?_
  refine r_iload_n hc dL_law_651 rfl ?_
  refine r_iconst (v := nI 1) hc dL_law_652 rfl ?_
  refine r_iadd (v := nI (i + 1)) hc dL_law_653 (ad_NN _ _) ?_
  refine r_sld (j := i + 1) hc hX hbO hL rfl (by omega) hx1 dL_law_654 ?_
  refine cl_L_85 (As := [.int (zI x1)]) hc (c_X12_chanceKeys m0 m1 (x := x1) hr1 hok.1.2 hok.2.2.2.2.1 (fun d hd => ⟨(hok.2.2.2.2.2.2.2.1 d hd).2.2.1, (hok.2.2.2.2.2.2.2.1 d hd).2.2.2⟩)) hsM rfl ⟨Nat.le_of_ble_eq_true rfl, Nat.le_of_ble_eq_true rfl⟩ ⟨rfl, rfl⟩ ⟨Nat.le_of_ble_eq_true rfl, Nat.le_of_ble_eq_true rfl⟩ rfl (Nat.le_of_ble_eq_true rfl) dL_law_655 (fun r u hp => ?_)
  obtain ⟨hr, hu⟩ := hp
  rw [hu, hr]
  refine r_icmp_eq (tgt := 935) hc dL_law_658 (by decide) Iff.rfl (fun _ => ?_) (fun q => absurd rfl q)
  exact ih _ _ _ _ _ _ _ _ _ (Rel.same hPM hR hfx (fun _ _ => rfl) (fun _ _ => rfl))
set_option maxRecDepth 100000 in
set_option maxHeartbeats 4000000 in
theorem lc_justFor {Ω : OmT} {Φ : PhT} {z : Nat} {sh : Nat → Option Kd} {σ : Nat → Nat → Int32} {ρ : Nat → Nat → Option Nat} {P M b i L B : Nat} {xs : Nat → Int32} {v : Nat → Nat} {nu : Nat} {hf : Nat → Nat} {fl : Nat → Bool} {sv p : Nat → Nat} {ln : Nat} (hc : CXp Ω Φ cL_law RL room_1 4) (hX : va_X b L xs Φ.2.2.2.1 Φ.2.2.2.1.heap) (hbO : b < Ω.2.2.2) (hPM : P + 391 ≤ M) (hR : Rel B sh σ ρ P M v nu hf fl sv p ln) (hB : B ≤ 800000000) (hi : i + 5 ≤ L) (hL : L ≤ 2560) (ih : ∀ (σ : Nat → Nat → Int32) (ρ : Nat → Nat → Option Nat) (v : Nat → Nat) (nu : Nat) (hf : Nat → Nat) (fl : Nat → Bool) (sv p : Nat → Nat) (ln : Nat), Rel (B + 27000) sh σ ρ P M v nu hf fl sv p ln → Vw Ω Φ (z, sh, σ, ρ) (600000, 7302250) 935 [(0, .ref b), (1, .ref P), (2, .ref M), (3, .int (nI i))] []) : Vw Ω Φ (z, sh, σ, ρ) (600000, 7302250) 663 [(0, .ref b), (1, .ref P), (2, .ref M), (3, .int (nI i))] [] := by
  obtain ⟨⟨b0, s0, hC⟩, hMS, hBd⟩ := id hR
  have hnu := hC.nu
  have hok := hC.ok
  obtain ⟨hl80, hpp⟩ := hC.ln
  have hbx : v 7 ≤ 900000000 := by have := hBd.1; omega
  have hbx2 : v 7 ≤ 1000000000 := by omega
  obtain ⟨m0, m1, m2, m3, m4, m5, m6, m7⟩ := id hMS
  have hsP : sh P = some (.inl 10) := hC.1.1.1.1
  have hsM : sh M = some (.inl 11) := MS0 m0
  obtain ⟨x1, hx1, hr1⟩ := zI_ex (xs (i + 1))
  refine r_aload_n hc dL_law_663 rfl ?_
  refine r_aload_n hc dL_law_664 rfl ?_
  refine r_iload_n hc dL_law_665 rfl ?_
  refine r_iconst (v := nI 1) hc dL_law_666 rfl ?_
  refine r_iadd (v := nI (i + 1)) hc dL_law_667 (ad_NN _ _) ?_
  refine r_sld (j := i + 1) hc hX hbO hL rfl (by omega) hx1 dL_law_668 ?_
  refine cl_L_86 (As := [.int (zI x1)]) hc (c_X11_justFor hC hbx (x1 := x1) hr1) hsP rfl ⟨Nat.le_of_ble_eq_true rfl, Nat.le_of_ble_eq_true rfl⟩ ⟨rfl, rfl⟩ ⟨Nat.le_of_ble_eq_true rfl, Nat.le_of_ble_eq_true rfl⟩ rfl (Nat.le_of_ble_eq_true rfl) dL_law_669 (fun r u hp => ?_)
  obtain ⟨τ, hu, hr, hfx⟩ := hp
  rw [hu, hr]
  have hMS2 : MSt sh τ ρ M v nu hf fl sv p ln := hMS.sg (fun q q1 q2 => hfx q (by omega)) (fun k hk => congrFun (hfx M (by omega)) k) rfl
  obtain ⟨m0, m1, m2, m3, m4, m5, m6, m7⟩ := id hMS2
  refine r_aload_n hc dL_law_672 rfl ?_
  refine r_aload_n hc dL_law_673 rfl ?_
  refine r_iload_n hc dL_law_674 rfl ?_
  refine r_iconst (v := nI 1) hc dL_law_675 rfl ?_
  refine r_iadd (v := nI (i + 1)) hc dL_law_676 (ad_NN _ _) ?_
  refine r_sld (j := i + 1) hc hX hbO hL rfl (by omega) hx1 dL_law_677 ?_
  refine cl_L_89 (As := [.int (zI x1)]) hc (c_X12_justFor m0 m1 (x := x1) hr1 hok.1.2 hok.2.2.2.2.1 (fun d hd => ⟨(hok.2.2.2.2.2.2.2.1 d hd).2.2.1, (hok.2.2.2.2.2.2.2.1 d hd).2.2.2⟩)) hsM rfl ⟨Nat.le_of_ble_eq_true rfl, Nat.le_of_ble_eq_true rfl⟩ ⟨rfl, rfl⟩ ⟨Nat.le_of_ble_eq_true rfl, Nat.le_of_ble_eq_true rfl⟩ rfl (Nat.le_of_ble_eq_true rfl) dL_law_678 (fun r u hp => ?_)
  obtain ⟨hr, hu⟩ := hp
  rw [hu, hr]
  refine r_icmp_eq (tgt := 935) hc dL_law_681 (by decide) Iff.rfl (fun _ => ?_) (fun q => absurd rfl q)
  exact ih _ _ _ _ _ _ _ _ _ (Rel.same hPM hR hfx (fun _ _ => rfl) (fun _ _ => rfl))
set_option maxRecDepth 100000 in
set_option maxHeartbeats 4000000 in
theorem lc_reach {Ω : OmT} {Φ : PhT} {z : Nat} {sh : Nat → Option Kd} {σ : Nat → Nat → Int32} {ρ : Nat → Nat → Option Nat} {P M b i L B : Nat} {xs : Nat → Int32} {v : Nat → Nat} {nu : Nat} {hf : Nat → Nat} {fl : Nat → Bool} {sv p : Nat → Nat} {ln : Nat} (hc : CXp Ω Φ cL_law RL room_1 4) (hX : va_X b L xs Φ.2.2.2.1 Φ.2.2.2.1.heap) (hbO : b < Ω.2.2.2) (hPM : P + 391 ≤ M) (hR : Rel B sh σ ρ P M v nu hf fl sv p ln) (hB : B ≤ 800000000) (hi : i + 5 ≤ L) (hL : L ≤ 2560) (ih : ∀ (σ : Nat → Nat → Int32) (ρ : Nat → Nat → Option Nat) (v : Nat → Nat) (nu : Nat) (hf : Nat → Nat) (fl : Nat → Bool) (sv p : Nat → Nat) (ln : Nat), Rel (B + 27000) sh σ ρ P M v nu hf fl sv p ln → Vw Ω Φ (z, sh, σ, ρ) (600000, 7302250) 935 [(0, .ref b), (1, .ref P), (2, .ref M), (3, .int (nI i))] []) : Vw Ω Φ (z, sh, σ, ρ) (600000, 7302250) 686 [(0, .ref b), (1, .ref P), (2, .ref M), (3, .int (nI i))] [] := by
  obtain ⟨⟨b0, s0, hC⟩, hMS, hBd⟩ := id hR
  have hnu := hC.nu
  have hok := hC.ok
  obtain ⟨hl80, hpp⟩ := hC.ln
  have hbx : v 7 ≤ 900000000 := by have := hBd.1; omega
  have hbx2 : v 7 ≤ 1000000000 := by omega
  obtain ⟨m0, m1, m2, m3, m4, m5, m6, m7⟩ := id hMS
  have hsP : sh P = some (.inl 10) := hC.1.1.1.1
  have hsM : sh M = some (.inl 11) := MS0 m0
  refine r_aload_n hc dL_law_686 rfl ?_
  refine cl_L_90 (As := []) hc (c_X11_reach hC hbx) hsP rfl ⟨Nat.le_of_ble_eq_true rfl, Nat.le_of_ble_eq_true rfl⟩ ⟨rfl, rfl⟩ ⟨Nat.le_of_ble_eq_true rfl, Nat.le_of_ble_eq_true rfl⟩ rfl (Nat.le_of_ble_eq_true rfl) dL_law_687 (fun r u hp => ?_)
  obtain ⟨τ, hu, hr, hfx⟩ := hp
  rw [hu, hr]
  have hMS2 : MSt sh τ ρ M v nu hf fl sv p ln := hMS.sg (fun q q1 q2 => hfx q (by omega)) (fun k hk => congrFun (hfx M (by omega)) k) rfl
  obtain ⟨m0, m1, m2, m3, m4, m5, m6, m7⟩ := id hMS2
  refine r_aload_n hc dL_law_690 rfl ?_
  refine cl_L_93 (As := []) hc (c_X12_reach m0 m1 hok) hsM rfl ⟨Nat.le_of_ble_eq_true rfl, Nat.le_of_ble_eq_true rfl⟩ ⟨rfl, rfl⟩ ⟨Nat.le_of_ble_eq_true rfl, Nat.le_of_ble_eq_true rfl⟩ rfl (Nat.le_of_ble_eq_true rfl) dL_law_691 (fun r u hp => ?_)
  obtain ⟨hr, hu⟩ := hp
  rw [hu, hr]
  rw [nz (sReach v)]
  refine r_icmp_eq (tgt := 935) hc dL_law_694 (by decide) Iff.rfl (fun _ => ?_) (fun q => absurd rfl q)
  exact ih _ _ _ _ _ _ _ _ _ (Rel.same hPM hR hfx (fun _ _ => rfl) (fun _ _ => rfl))
set_option maxRecDepth 100000 in
set_option maxHeartbeats 4000000 in
theorem lc_doorsTo {Ω : OmT} {Φ : PhT} {z : Nat} {sh : Nat → Option Kd} {σ : Nat → Nat → Int32} {ρ : Nat → Nat → Option Nat} {P M b i L B : Nat} {xs : Nat → Int32} {v : Nat → Nat} {nu : Nat} {hf : Nat → Nat} {fl : Nat → Bool} {sv p : Nat → Nat} {ln : Nat} (hc : CXp Ω Φ cL_law RL room_1 4) (hX : va_X b L xs Φ.2.2.2.1 Φ.2.2.2.1.heap) (hbO : b < Ω.2.2.2) (hPM : P + 391 ≤ M) (hR : Rel B sh σ ρ P M v nu hf fl sv p ln) (hB : B ≤ 800000000) (hi : i + 5 ≤ L) (hL : L ≤ 2560) (ih : ∀ (σ : Nat → Nat → Int32) (ρ : Nat → Nat → Option Nat) (v : Nat → Nat) (nu : Nat) (hf : Nat → Nat) (fl : Nat → Bool) (sv p : Nat → Nat) (ln : Nat), Rel (B + 27000) sh σ ρ P M v nu hf fl sv p ln → Vw Ω Φ (z, sh, σ, ρ) (600000, 7302250) 935 [(0, .ref b), (1, .ref P), (2, .ref M), (3, .int (nI i))] []) : Vw Ω Φ (z, sh, σ, ρ) (600000, 7302250) 699 [(0, .ref b), (1, .ref P), (2, .ref M), (3, .int (nI i))] [] := by
  obtain ⟨⟨b0, s0, hC⟩, hMS, hBd⟩ := id hR
  have hnu := hC.nu
  have hok := hC.ok
  obtain ⟨hl80, hpp⟩ := hC.ln
  have hbx : v 7 ≤ 900000000 := by have := hBd.1; omega
  have hbx2 : v 7 ≤ 1000000000 := by omega
  obtain ⟨m0, m1, m2, m3, m4, m5, m6, m7⟩ := id hMS
  have hsP : sh P = some (.inl 10) := hC.1.1.1.1
  have hsM : sh M = some (.inl 11) := MS0 m0
  obtain ⟨x1, hx1, hr1⟩ := zI_ex (xs (i + 1))
  refine r_aload_n hc dL_law_699 rfl ?_
  refine r_aload_n hc dL_law_700 rfl ?_
  refine r_iload_n hc dL_law_701 rfl ?_
  refine r_iconst (v := nI 1) hc dL_law_702 rfl ?_
  refine r_iadd (v := nI (i + 1)) hc dL_law_703 (ad_NN _ _) ?_
  refine r_sld (j := i + 1) hc hX hbO hL rfl (by omega) hx1 dL_law_704 ?_
  refine cl_L_94 (As := [.int (zI x1)]) hc (c_X11_doorsTo hC hbx (x1 := x1) hr1) hsP rfl ⟨Nat.le_of_ble_eq_true rfl, Nat.le_of_ble_eq_true rfl⟩ ⟨rfl, rfl⟩ ⟨Nat.le_of_ble_eq_true rfl, Nat.le_of_ble_eq_true rfl⟩ rfl (Nat.le_of_ble_eq_true rfl) dL_law_705 (fun r u hp => ?_)
  obtain ⟨τ, hu, hr, hfx⟩ := hp
  rw [hu, hr]
  have hMS2 : MSt sh τ ρ M v nu hf fl sv p ln := hMS.sg (fun q q1 q2 => hfx q (by omega)) (fun k hk => congrFun (hfx M (by omega)) k) rfl
  obtain ⟨m0, m1, m2, m3, m4, m5, m6, m7⟩ := id hMS2
  refine r_aload_n hc dL_law_708 rfl ?_
  refine r_aload_n hc dL_law_709 rfl ?_
  refine r_iload_n hc dL_law_710 rfl ?_
  refine r_iconst (v := nI 1) hc dL_law_711 rfl ?_
  refine r_iadd (v := nI (i + 1)) hc dL_law_712 (ad_NN _ _) ?_
  refine r_sld (j := i + 1) hc hX hbO hL rfl (by omega) hx1 dL_law_713 ?_
  refine cl_L_97 (As := [.int (zI x1)]) hc (c_X12_doorsTo m0 m1 hok (t := x1) hr1) hsM rfl ⟨Nat.le_of_ble_eq_true rfl, Nat.le_of_ble_eq_true rfl⟩ ⟨rfl, rfl⟩ ⟨Nat.le_of_ble_eq_true rfl, Nat.le_of_ble_eq_true rfl⟩ rfl (Nat.le_of_ble_eq_true rfl) dL_law_714 (fun r u hp => ?_)
  obtain ⟨τ2, hu, hr, hfq⟩ := hp
  rw [hu, hr]
  refine r_icmp_eq (tgt := 935) hc dL_law_717 (by decide) Iff.rfl (fun _ => ?_) (fun q => absurd rfl q)
  exact ih _ _ _ _ _ _ _ _ _ (Rel.same hPM hR hfx (fun q q1 => hfq q (by omega) (by omega)) (fun k hk => congrFun (hfq M (by omega) (by omega)) k))
set_option maxRecDepth 100000 in
set_option maxHeartbeats 4000000 in
theorem lc_planOrder {Ω : OmT} {Φ : PhT} {z : Nat} {sh : Nat → Option Kd} {σ : Nat → Nat → Int32} {ρ : Nat → Nat → Option Nat} {P M b i L B : Nat} {xs : Nat → Int32} {v : Nat → Nat} {nu : Nat} {hf : Nat → Nat} {fl : Nat → Bool} {sv p : Nat → Nat} {ln : Nat} (hc : CXp Ω Φ cL_law RL room_1 4) (hX : va_X b L xs Φ.2.2.2.1 Φ.2.2.2.1.heap) (hbO : b < Ω.2.2.2) (hPM : P + 391 ≤ M) (hR : Rel B sh σ ρ P M v nu hf fl sv p ln) (hB : B ≤ 800000000) (hi : i + 5 ≤ L) (hL : L ≤ 2560) (ih : ∀ (σ : Nat → Nat → Int32) (ρ : Nat → Nat → Option Nat) (v : Nat → Nat) (nu : Nat) (hf : Nat → Nat) (fl : Nat → Bool) (sv p : Nat → Nat) (ln : Nat), Rel (B + 27000) sh σ ρ P M v nu hf fl sv p ln → Vw Ω Φ (z, sh, σ, ρ) (600000, 7302250) 935 [(0, .ref b), (1, .ref P), (2, .ref M), (3, .int (nI i))] []) : Vw Ω Φ (z, sh, σ, ρ) (600000, 7302250) 722 [(0, .ref b), (1, .ref P), (2, .ref M), (3, .int (nI i))] [] := by
  obtain ⟨⟨b0, s0, hC⟩, hMS, hBd⟩ := id hR
  have hnu := hC.nu
  have hok := hC.ok
  obtain ⟨hl80, hpp⟩ := hC.ln
  have hbx : v 7 ≤ 900000000 := by have := hBd.1; omega
  have hbx2 : v 7 ≤ 1000000000 := by omega
  obtain ⟨m0, m1, m2, m3, m4, m5, m6, m7⟩ := id hMS
  have hsP : sh P = some (.inl 10) := hC.1.1.1.1
  have hsM : sh M = some (.inl 11) := MS0 m0
  obtain ⟨x1, hx1, hr1⟩ := zI_ex (xs (i + 1))
  refine r_aload_n hc dL_law_722 rfl ?_
  refine r_aload_n hc dL_law_723 rfl ?_
  refine r_iload_n hc dL_law_724 rfl ?_
  refine r_iconst (v := nI 1) hc dL_law_725 rfl ?_
  refine r_iadd (v := nI (i + 1)) hc dL_law_726 (ad_NN _ _) ?_
  refine r_sld (j := i + 1) hc hX hbO hL rfl (by omega) hx1 dL_law_727 ?_
  refine cl_L_98 (As := [.int (zI x1)]) hc (c_X11_planOrder hC hbx (x1 := x1) hr1) hsP rfl ⟨Nat.le_of_ble_eq_true rfl, Nat.le_of_ble_eq_true rfl⟩ ⟨rfl, rfl⟩ ⟨Nat.le_of_ble_eq_true rfl, Nat.le_of_ble_eq_true rfl⟩ rfl (Nat.le_of_ble_eq_true rfl) dL_law_728 (fun r u hp => ?_)
  obtain ⟨τ, hu, hr, hfx⟩ := hp
  rw [hu, hr]
  have hMS2 : MSt sh τ ρ M v nu hf fl sv p ln := hMS.sg (fun q q1 q2 => hfx q (by omega)) (fun k hk => congrFun (hfx M (by omega)) k) rfl
  obtain ⟨m0, m1, m2, m3, m4, m5, m6, m7⟩ := id hMS2
  refine r_aload_n hc dL_law_731 rfl ?_
  refine r_aload_n hc dL_law_732 rfl ?_
  refine r_iload_n hc dL_law_733 rfl ?_
  refine r_iconst (v := nI 1) hc dL_law_734 rfl ?_
  refine r_iadd (v := nI (i + 1)) hc dL_law_735 (ad_NN _ _) ?_
  refine r_sld (j := i + 1) hc hX hbO hL rfl (by omega) hx1 dL_law_736 ?_
  refine cl_L_101 (As := [.int (zI x1)]) hc (c_X12_planOrder m0 m1 hok hbx2 (t := x1) hr1) hsM rfl ⟨Nat.le_of_ble_eq_true rfl, Nat.le_of_ble_eq_true rfl⟩ ⟨rfl, rfl⟩ ⟨Nat.le_of_ble_eq_true rfl, Nat.le_of_ble_eq_true rfl⟩ rfl (Nat.le_of_ble_eq_true rfl) dL_law_737 (fun r u hp => ?_)
  obtain ⟨τ2, hu, hr, hfq, hfk⟩ := hp
  rw [hu, hr]
  refine r_icmp_eq (tgt := 935) hc dL_law_740 (by decide) Iff.rfl (fun _ => ?_) (fun q => absurd rfl q)
  exact ih _ _ _ _ _ _ _ _ _ (Rel.same hPM hR hfx (fun q q1 => hfq q (by omega) (by omega) (by omega)) (fun k hk => hfk k (by omega)))
set_option maxRecDepth 100000 in
set_option maxHeartbeats 4000000 in
theorem lc_planOrders {Ω : OmT} {Φ : PhT} {z : Nat} {sh : Nat → Option Kd} {σ : Nat → Nat → Int32} {ρ : Nat → Nat → Option Nat} {P M b i L B : Nat} {xs : Nat → Int32} {v : Nat → Nat} {nu : Nat} {hf : Nat → Nat} {fl : Nat → Bool} {sv p : Nat → Nat} {ln : Nat} (hc : CXp Ω Φ cL_law RL room_1 4) (hX : va_X b L xs Φ.2.2.2.1 Φ.2.2.2.1.heap) (hbO : b < Ω.2.2.2) (hPM : P + 391 ≤ M) (hR : Rel B sh σ ρ P M v nu hf fl sv p ln) (hB : B ≤ 800000000) (hi : i + 5 ≤ L) (hL : L ≤ 2560) (ih : ∀ (σ : Nat → Nat → Int32) (ρ : Nat → Nat → Option Nat) (v : Nat → Nat) (nu : Nat) (hf : Nat → Nat) (fl : Nat → Bool) (sv p : Nat → Nat) (ln : Nat), Rel (B + 27000) sh σ ρ P M v nu hf fl sv p ln → Vw Ω Φ (z, sh, σ, ρ) (600000, 7302250) 935 [(0, .ref b), (1, .ref P), (2, .ref M), (3, .int (nI i))] []) : Vw Ω Φ (z, sh, σ, ρ) (600000, 7302250) 745 [(0, .ref b), (1, .ref P), (2, .ref M), (3, .int (nI i))] [] := by
  obtain ⟨⟨b0, s0, hC⟩, hMS, hBd⟩ := id hR
  have hnu := hC.nu
  have hok := hC.ok
  obtain ⟨hl80, hpp⟩ := hC.ln
  have hbx : v 7 ≤ 900000000 := by have := hBd.1; omega
  have hbx2 : v 7 ≤ 1000000000 := by omega
  obtain ⟨m0, m1, m2, m3, m4, m5, m6, m7⟩ := id hMS
  have hsP : sh P = some (.inl 10) := hC.1.1.1.1
  have hsM : sh M = some (.inl 11) := MS0 m0
  refine r_aload_n hc dL_law_745 rfl ?_
  refine cl_L_102 (As := []) hc (c_X11_planOrders hC hbx) hsP rfl ⟨Nat.le_of_ble_eq_true rfl, Nat.le_of_ble_eq_true rfl⟩ ⟨rfl, rfl⟩ ⟨Nat.le_of_ble_eq_true rfl, Nat.le_of_ble_eq_true rfl⟩ rfl (Nat.le_of_ble_eq_true rfl) dL_law_746 (fun r u hp => ?_)
  obtain ⟨τ, hu, hr, hfx⟩ := hp
  rw [hu, hr]
  have hMS2 : MSt sh τ ρ M v nu hf fl sv p ln := hMS.sg (fun q q1 q2 => hfx q (by omega)) (fun k hk => congrFun (hfx M (by omega)) k) rfl
  obtain ⟨m0, m1, m2, m3, m4, m5, m6, m7⟩ := id hMS2
  refine r_aload_n hc dL_law_749 rfl ?_
  refine cl_L_105 (As := []) hc (c_X12_planOrders m0 m1 hok hbx2) hsM rfl ⟨Nat.le_of_ble_eq_true rfl, Nat.le_of_ble_eq_true rfl⟩ ⟨rfl, rfl⟩ ⟨Nat.le_of_ble_eq_true rfl, Nat.le_of_ble_eq_true rfl⟩ rfl (Nat.le_of_ble_eq_true rfl) dL_law_750 (fun r u hp => ?_)
  obtain ⟨τ2, hu, hr, hfq, hfk⟩ := hp
  rw [hu, hr]
  rw [nz (oC v (v 9) 0)]
  refine r_icmp_eq (tgt := 935) hc dL_law_753 (by decide) Iff.rfl (fun _ => ?_) (fun q => absurd rfl q)
  exact ih _ _ _ _ _ _ _ _ _ (Rel.same hPM hR hfx (fun q q1 => hfq q (by omega) (by omega) (by omega)) (fun k hk => hfk k (by omega)))
set_option maxRecDepth 100000 in
set_option maxHeartbeats 4000000 in
theorem lc_mustBeLast {Ω : OmT} {Φ : PhT} {z : Nat} {sh : Nat → Option Kd} {σ : Nat → Nat → Int32} {ρ : Nat → Nat → Option Nat} {P M b i L B : Nat} {xs : Nat → Int32} {v : Nat → Nat} {nu : Nat} {hf : Nat → Nat} {fl : Nat → Bool} {sv p : Nat → Nat} {ln : Nat} (hc : CXp Ω Φ cL_law RL room_1 4) (hX : va_X b L xs Φ.2.2.2.1 Φ.2.2.2.1.heap) (hbO : b < Ω.2.2.2) (hPM : P + 391 ≤ M) (hR : Rel B sh σ ρ P M v nu hf fl sv p ln) (hB : B ≤ 800000000) (hi : i + 5 ≤ L) (hL : L ≤ 2560) (ih : ∀ (σ : Nat → Nat → Int32) (ρ : Nat → Nat → Option Nat) (v : Nat → Nat) (nu : Nat) (hf : Nat → Nat) (fl : Nat → Bool) (sv p : Nat → Nat) (ln : Nat), Rel (B + 27000) sh σ ρ P M v nu hf fl sv p ln → Vw Ω Φ (z, sh, σ, ρ) (600000, 7302250) 935 [(0, .ref b), (1, .ref P), (2, .ref M), (3, .int (nI i))] []) : Vw Ω Φ (z, sh, σ, ρ) (600000, 7302250) 758 [(0, .ref b), (1, .ref P), (2, .ref M), (3, .int (nI i))] [] := by
  obtain ⟨⟨b0, s0, hC⟩, hMS, hBd⟩ := id hR
  have hnu := hC.nu
  have hok := hC.ok
  obtain ⟨hl80, hpp⟩ := hC.ln
  have hbx : v 7 ≤ 900000000 := by have := hBd.1; omega
  have hbx2 : v 7 ≤ 1000000000 := by omega
  obtain ⟨m0, m1, m2, m3, m4, m5, m6, m7⟩ := id hMS
  have hsP : sh P = some (.inl 10) := hC.1.1.1.1
  have hsM : sh M = some (.inl 11) := MS0 m0
  refine r_aload_n hc dL_law_758 rfl ?_
  refine cl_L_106 (As := []) hc (c_X11_mustBeLast hC hbx) hsP rfl ⟨Nat.le_of_ble_eq_true rfl, Nat.le_of_ble_eq_true rfl⟩ ⟨rfl, rfl⟩ ⟨Nat.le_of_ble_eq_true rfl, Nat.le_of_ble_eq_true rfl⟩ rfl (Nat.le_of_ble_eq_true rfl) dL_law_759 (fun r u hp => ?_)
  obtain ⟨τ, hu, hr, hfx⟩ := hp
  rw [hu, hr]
  have hMS2 : MSt sh τ ρ M v nu hf fl sv p ln := hMS.sg (fun q q1 q2 => hfx q (by omega)) (fun k hk => congrFun (hfx M (by omega)) k) rfl
  obtain ⟨m0, m1, m2, m3, m4, m5, m6, m7⟩ := id hMS2
  refine r_aload_n hc dL_law_762 rfl ?_
  refine cl_L_109 (As := []) hc (c_X12_mustBeLast m0 m1 hok hbx2) hsM rfl ⟨Nat.le_of_ble_eq_true rfl, Nat.le_of_ble_eq_true rfl⟩ ⟨rfl, rfl⟩ ⟨Nat.le_of_ble_eq_true rfl, Nat.le_of_ble_eq_true rfl⟩ rfl (Nat.le_of_ble_eq_true rfl) dL_law_763 (fun r u hp => ?_)
  obtain ⟨τ2, hu, hr, hfq, hfk⟩ := hp
  rw [hu, hr]
  refine r_icmp_eq (tgt := 935) hc dL_law_766 (by decide) Iff.rfl (fun _ => ?_) (fun q => absurd rfl q)
  exact ih _ _ _ _ _ _ _ _ _ (Rel.same hPM hR hfx (fun q q1 => hfq q (by omega) (by omega) (by omega)) (fun k hk => hfk k (by omega)))
set_option maxRecDepth 100000 in
set_option maxHeartbeats 4000000 in
theorem lc_brassForPlan {Ω : OmT} {Φ : PhT} {z : Nat} {sh : Nat → Option Kd} {σ : Nat → Nat → Int32} {ρ : Nat → Nat → Option Nat} {P M b i L B : Nat} {xs : Nat → Int32} {v : Nat → Nat} {nu : Nat} {hf : Nat → Nat} {fl : Nat → Bool} {sv p : Nat → Nat} {ln : Nat} (hc : CXp Ω Φ cL_law RL room_1 4) (hX : va_X b L xs Φ.2.2.2.1 Φ.2.2.2.1.heap) (hbO : b < Ω.2.2.2) (hPM : P + 391 ≤ M) (hR : Rel B sh σ ρ P M v nu hf fl sv p ln) (hB : B ≤ 800000000) (hi : i + 5 ≤ L) (hL : L ≤ 2560) (ih : ∀ (σ : Nat → Nat → Int32) (ρ : Nat → Nat → Option Nat) (v : Nat → Nat) (nu : Nat) (hf : Nat → Nat) (fl : Nat → Bool) (sv p : Nat → Nat) (ln : Nat), Rel (B + 27000) sh σ ρ P M v nu hf fl sv p ln → Vw Ω Φ (z, sh, σ, ρ) (600000, 7302250) 935 [(0, .ref b), (1, .ref P), (2, .ref M), (3, .int (nI i))] []) : Vw Ω Φ (z, sh, σ, ρ) (600000, 7302250) 771 [(0, .ref b), (1, .ref P), (2, .ref M), (3, .int (nI i))] [] := by
  obtain ⟨⟨b0, s0, hC⟩, hMS, hBd⟩ := id hR
  have hnu := hC.nu
  have hok := hC.ok
  obtain ⟨hl80, hpp⟩ := hC.ln
  have hbx : v 7 ≤ 900000000 := by have := hBd.1; omega
  have hbx2 : v 7 ≤ 1000000000 := by omega
  obtain ⟨m0, m1, m2, m3, m4, m5, m6, m7⟩ := id hMS
  have hsP : sh P = some (.inl 10) := hC.1.1.1.1
  have hsM : sh M = some (.inl 11) := MS0 m0
  refine r_aload_n hc dL_law_771 rfl ?_
  refine cl_L_110 (As := []) hc (c_X11_brassForPlan hC hbx) hsP rfl ⟨Nat.le_of_ble_eq_true rfl, Nat.le_of_ble_eq_true rfl⟩ ⟨rfl, rfl⟩ ⟨Nat.le_of_ble_eq_true rfl, Nat.le_of_ble_eq_true rfl⟩ rfl (Nat.le_of_ble_eq_true rfl) dL_law_772 (fun r u hp => ?_)
  obtain ⟨τ, hu, hr, hfx⟩ := hp
  rw [hu, hr]
  have hMS2 : MSt sh τ ρ M v nu hf fl sv p ln := hMS.sg (fun q q1 q2 => hfx q (by omega)) (fun k hk => congrFun (hfx M (by omega)) k) rfl
  obtain ⟨m0, m1, m2, m3, m4, m5, m6, m7⟩ := id hMS2
  refine r_aload_n hc dL_law_775 rfl ?_
  refine cl_L_113 (As := []) hc (c_X12_brassForPlan m0 m1 hok hbx2) hsM rfl ⟨Nat.le_of_ble_eq_true rfl, Nat.le_of_ble_eq_true rfl⟩ ⟨rfl, rfl⟩ ⟨Nat.le_of_ble_eq_true rfl, Nat.le_of_ble_eq_true rfl⟩ rfl (Nat.le_of_ble_eq_true rfl) dL_law_776 (fun r u hp => ?_)
  obtain ⟨τ2, hu, hr, hfq, hfk⟩ := hp
  rw [hu, hr]
  rw [nz (mC v (v 9) 0)]
  refine r_icmp_eq (tgt := 935) hc dL_law_779 (by decide) Iff.rfl (fun _ => ?_) (fun q => absurd rfl q)
  exact ih _ _ _ _ _ _ _ _ _ (Rel.same hPM hR hfx (fun q q1 => hfq q (by omega) (by omega) (by omega)) (fun k hk => hfk k (by omega)))
theorem put_ok {p : Nat → Nat} {ln n : Nat} (hl80 : ln ≤ 80) (hp : ∀ j, j < ln → p j < 256) (hn : n < 2 ^ 64) : (sPut p ln n).2.1 ≤ 80 ∧ ∀ j, j < (sPut p ln n).2.1 → (sPut p ln n).2.2 j < 256 := by
  unfold sPut
  split
  · exact ⟨hl80, hp⟩
  · split
    · exact ⟨hl80, hp⟩
    · refine ⟨by dsimp only; omega, fun j hj => ?_⟩
      dsimp only at hj ⊢
      unfold apF
      split
      · exact Nat.mod_lt _ (by decide)
      · exact hp j (by omega)
set_option maxRecDepth 100000 in
set_option maxHeartbeats 4000000 in
theorem lc_put {Ω : OmT} {Φ : PhT} {z : Nat} {sh : Nat → Option Kd} {σ : Nat → Nat → Int32} {ρ : Nat → Nat → Option Nat} {P M b i L B : Nat} {xs : Nat → Int32} {v : Nat → Nat} {nu : Nat} {hf : Nat → Nat} {fl : Nat → Bool} {sv p : Nat → Nat} {ln : Nat} (hc : CXp Ω Φ cL_law RL room_1 4) (hX : va_X b L xs Φ.2.2.2.1 Φ.2.2.2.1.heap) (hbO : b < Ω.2.2.2) (hPM : P + 391 ≤ M) (hR : Rel B sh σ ρ P M v nu hf fl sv p ln) (hB : B ≤ 800000000) (hi : i + 5 ≤ L) (hL : L ≤ 2560) (ih : ∀ (σ : Nat → Nat → Int32) (ρ : Nat → Nat → Option Nat) (v : Nat → Nat) (nu : Nat) (hf : Nat → Nat) (fl : Nat → Bool) (sv p : Nat → Nat) (ln : Nat), Rel (B + 27000) sh σ ρ P M v nu hf fl sv p ln → Vw Ω Φ (z, sh, σ, ρ) (600000, 7302250) 935 [(0, .ref b), (1, .ref P), (2, .ref M), (3, .int (nI i))] []) : Vw Ω Φ (z, sh, σ, ρ) (600000, 7302250) 784 [(0, .ref b), (1, .ref P), (2, .ref M), (3, .int (nI i))] [] := by
  obtain ⟨⟨b0, s0, hC⟩, hMS, hBd⟩ := id hR
  have hnu := hC.nu
  have hok := hC.ok
  obtain ⟨hl80, hpp⟩ := hC.ln
  have hbx : v 7 ≤ 900000000 := by have := hBd.1; omega
  have hbx2 : v 7 ≤ 1000000000 := by omega
  obtain ⟨m0, m1, m2, m3, m4, m5, m6, m7⟩ := id hMS
  have hsP : sh P = some (.inl 10) := hC.1.1.1.1
  have hsM : sh M = some (.inl 11) := MS0 m0
  obtain ⟨x1, hx1, hr1⟩ := zI_ex (xs (i + 1))
  obtain ⟨x2, hx2, hr2⟩ := zI_ex (xs (i + 2))
  refine r_aload_n hc dL_law_784 rfl ?_
  refine r_aload_n hc dL_law_785 rfl ?_
  refine r_iload_n hc dL_law_786 rfl ?_
  refine r_iconst (v := nI 1) hc dL_law_787 rfl ?_
  refine r_iadd (v := nI (i + 1)) hc dL_law_788 (ad_NN _ _) ?_
  refine r_sld (j := i + 1) hc hX hbO hL rfl (by omega) hx1 dL_law_789 ?_
  refine r_i2l (v := Int32.toInt64 (zI x1)) hc dL_law_790 rfl ?_
  refine r_bipush (v := nI 32) hc dL_law_791 rfl ?_
  refine r_lshl (v := (Int32.toInt64 (zI x1)) <<< ((nI 32).toInt64 &&& 63)) hc dL_law_793 rfl ?_
  refine r_aload_n hc dL_law_794 rfl ?_
  refine r_iload_n hc dL_law_795 rfl ?_
  refine r_iconst (v := nI 2) hc dL_law_796 rfl ?_
  refine r_iadd (v := nI (i + 2)) hc dL_law_797 (ad_NN _ _) ?_
  refine r_sld (j := i + 2) hc hX hbO hL rfl (by omega) hx2 dL_law_798 ?_
  refine r_i2l (v := Int32.toInt64 (zI x2)) hc dL_law_799 rfl ?_
  refine lk_L_114 hc dL_law_800 ?_
  refine r_land (v := (Int32.toInt64 (zI x2)) &&& (4294967295)) hc dL_law_803 rfl ?_
  refine r_lor (v := ((Int32.toInt64 (zI x1)) <<< ((nI 32).toInt64 &&& 63)) ||| ((Int32.toInt64 (zI x2)) &&& (4294967295))) hc dL_law_804 rfl ?_
  generalize hyy : ((Int32.toInt64 (zI x1)) <<< ((nI 32).toInt64 &&& 63)) ||| ((Int32.toInt64 (zI x2)) &&& (4294967295)) = yy
  obtain ⟨n, hyn, hn64⟩ := lI_ex yy
  rw [hyn] at hyy
  rw [hyn]
  refine cl_L_116 (As := [.long (lI n)]) hc (c_X11_put hC hbx (n := n) hn64) hsP rfl ⟨Nat.le_of_ble_eq_true rfl, Nat.le_of_ble_eq_true rfl⟩ ⟨rfl, rfl⟩ ⟨Nat.le_of_ble_eq_true rfl, Nat.le_of_ble_eq_true rfl⟩ rfl (Nat.le_of_ble_eq_true rfl) dL_law_805 (fun r u hp => ?_)
  obtain ⟨τ, hu, hr, hl2, hp2, hfx, hfxk⟩ := hp
  rw [hu, hr]
  have hMS2 : MSt sh τ ρ M v nu hf fl sv p ln := hMS.sg (fun q q1 q2 => hfx q (by omega) (by omega)) (fun k hk => congrFun (hfx M (by omega) (by omega)) k) rfl
  obtain ⟨m0, m1, m2, m3, m4, m5, m6, m7⟩ := id hMS2
  refine r_aload_n hc dL_law_808 rfl ?_
  refine r_aload_n hc dL_law_809 rfl ?_
  refine r_iload_n hc dL_law_810 rfl ?_
  refine r_iconst (v := nI 1) hc dL_law_811 rfl ?_
  refine r_iadd (v := nI (i + 1)) hc dL_law_812 (ad_NN _ _) ?_
  refine r_sld (j := i + 1) hc hX hbO hL rfl (by omega) hx1 dL_law_813 ?_
  refine r_i2l (v := Int32.toInt64 (zI x1)) hc dL_law_814 rfl ?_
  refine r_bipush (v := nI 32) hc dL_law_815 rfl ?_
  refine r_lshl (v := (Int32.toInt64 (zI x1)) <<< ((nI 32).toInt64 &&& 63)) hc dL_law_817 rfl ?_
  refine r_aload_n hc dL_law_818 rfl ?_
  refine r_iload_n hc dL_law_819 rfl ?_
  refine r_iconst (v := nI 2) hc dL_law_820 rfl ?_
  refine r_iadd (v := nI (i + 2)) hc dL_law_821 (ad_NN _ _) ?_
  refine r_sld (j := i + 2) hc hX hbO hL rfl (by omega) hx2 dL_law_822 ?_
  refine r_i2l (v := Int32.toInt64 (zI x2)) hc dL_law_823 rfl ?_
  refine lk_L_114 hc dL_law_824 ?_
  refine r_land (v := (Int32.toInt64 (zI x2)) &&& (4294967295)) hc dL_law_827 rfl ?_
  refine r_lor (v := ((Int32.toInt64 (zI x1)) <<< ((nI 32).toInt64 &&& 63)) ||| ((Int32.toInt64 (zI x2)) &&& (4294967295))) hc dL_law_828 rfl ?_
  rw [hyy]
  refine cl_L_120 (As := [.long (lI n)]) hc (c_X12_put m0 m6 m7 hl80 hpp (n := n) hn64) hsM rfl ⟨Nat.le_of_ble_eq_true rfl, Nat.le_of_ble_eq_true rfl⟩ ⟨rfl, rfl⟩ ⟨Nat.le_of_ble_eq_true rfl, Nat.le_of_ble_eq_true rfl⟩ rfl (Nat.le_of_ble_eq_true rfl) dL_law_829 (fun r u hp => ?_)
  obtain ⟨τ2, hu, hr, hl3, hp3, hfq, hfk⟩ := hp
  rw [hu, hr]
  refine r_icmp_eq (tgt := 935) hc dL_law_832 (by decide) Iff.rfl (fun _ => ?_) (fun q => absurd rfl q)
  obtain ⟨e1, e2⟩ := put_ok hl80 hpp hn64
  have hC2 : CSt sh τ2 ρ P b0 s0 v nu hf fl sv (sPut p ln n).2.2 (sPut p ln n).2.1 := hC.pd (fun q q1 q2 q3 => (hfq q (by omega) (by omega)).trans (hfx q (by omega) (by omega))) (by rw [hfq _ (by omega) (by omega)]; exact hl2) (hp2.sig (hfq _ (by omega) (by omega))) e1 e2
  exact ih _ _ _ _ _ _ _ _ _ ⟨⟨b0, s0, hC2⟩, ⟨m0, m1.sig (hfq _ (by omega) (by omega)), ⟨by rw [hfk 2 (by omega)]; exact m2.1, m2.2.sig (hfq _ (by omega) (by omega))⟩, by rw [hfk 7 (by omega)]; exact m3, m4.sig (hfq _ (by omega) (by omega)), fun j hj => by rw [hfq _ (by omega) (by omega)]; exact m5 j hj, hl3, hp3⟩, hBd.mono (by omega)⟩
set_option maxRecDepth 100000 in
set_option maxHeartbeats 4000000 in
theorem lc_wipe {Ω : OmT} {Φ : PhT} {z : Nat} {sh : Nat → Option Kd} {σ : Nat → Nat → Int32} {ρ : Nat → Nat → Option Nat} {P M b i L B : Nat} {xs : Nat → Int32} {v : Nat → Nat} {nu : Nat} {hf : Nat → Nat} {fl : Nat → Bool} {sv p : Nat → Nat} {ln : Nat} (hc : CXp Ω Φ cL_law RL room_1 4) (hX : va_X b L xs Φ.2.2.2.1 Φ.2.2.2.1.heap) (hbO : b < Ω.2.2.2) (hPM : P + 391 ≤ M) (hR : Rel B sh σ ρ P M v nu hf fl sv p ln) (hB : B ≤ 800000000) (hi : i + 5 ≤ L) (hL : L ≤ 2560) (ih : ∀ (σ : Nat → Nat → Int32) (ρ : Nat → Nat → Option Nat) (v : Nat → Nat) (nu : Nat) (hf : Nat → Nat) (fl : Nat → Bool) (sv p : Nat → Nat) (ln : Nat), Rel (B + 27000) sh σ ρ P M v nu hf fl sv p ln → Vw Ω Φ (z, sh, σ, ρ) (600000, 7302250) 935 [(0, .ref b), (1, .ref P), (2, .ref M), (3, .int (nI i))] []) : Vw Ω Φ (z, sh, σ, ρ) (600000, 7302250) 837 [(0, .ref b), (1, .ref P), (2, .ref M), (3, .int (nI i))] [] := by
  obtain ⟨⟨b0, s0, hC⟩, hMS, hBd⟩ := id hR
  have hnu := hC.nu
  have hok := hC.ok
  obtain ⟨hl80, hpp⟩ := hC.ln
  have hbx : v 7 ≤ 900000000 := by have := hBd.1; omega
  have hbx2 : v 7 ≤ 1000000000 := by omega
  obtain ⟨m0, m1, m2, m3, m4, m5, m6, m7⟩ := id hMS
  have hsP : sh P = some (.inl 10) := hC.1.1.1.1
  have hsM : sh M = some (.inl 11) := MS0 m0
  refine r_aload_n hc dL_law_837 rfl ?_
  refine cl_L_121 (As := []) hc (c_X11_wipe hC hbx) hsP rfl ⟨Nat.le_of_ble_eq_true rfl, Nat.le_of_ble_eq_true rfl⟩ ⟨rfl, rfl⟩ ⟨Nat.le_of_ble_eq_true rfl, Nat.le_of_ble_eq_true rfl⟩ rfl (Nat.le_of_ble_eq_true rfl) dL_law_838 (fun r u hp => ?_)
  obtain ⟨hr, hu⟩ := hp
  rw [hu, hr]
  generalize hτ : s2 σ (P + 277) 1 (nI 0) = τ
  have hfx : ∀ q, q ≠ P + 277 → τ q = σ q := fun q hq => by rw [← hτ, s2_ne hq]
  have hMS2 : MSt sh τ ρ M v nu hf fl sv p ln := hMS.sg (fun q q1 q2 => hfx q (by omega)) (fun k hk => congrFun (hfx M (by omega)) k) rfl
  obtain ⟨m0, m1, m2, m3, m4, m5, m6, m7⟩ := id hMS2
  refine r_aload_n hc dL_law_841 rfl ?_
  refine cl_L_124 (As := []) hc (c_X12_wipe m0 m6 m7 hl80 hpp) hsM rfl ⟨Nat.le_of_ble_eq_true rfl, Nat.le_of_ble_eq_true rfl⟩ ⟨rfl, rfl⟩ ⟨Nat.le_of_ble_eq_true rfl, Nat.le_of_ble_eq_true rfl⟩ rfl (Nat.le_of_ble_eq_true rfl) dL_law_842 (fun r u hp => ?_)
  obtain ⟨hr, hu⟩ := hp
  rw [hu, hr]
  generalize hτ2 : s2 τ M 6 (nI 0) = τ2
  have hfq : ∀ q, q ≠ M → τ2 q = τ q := fun q hq => by rw [← hτ2, s2_ne hq]
  refine r_icmp_eq (tgt := 935) hc dL_law_845 (by decide) Iff.rfl (fun _ => ?_) (fun q => absurd rfl q)
  have hC2 : CSt sh τ2 ρ P b0 s0 v nu hf fl sv p 0 := hC.pd (fun q q1 q2 q3 => (hfq q (by omega)).trans (hfx q (by omega))) (by rw [hfq _ (by omega), ← hτ, s2_same]) rowAt.zero (by omega) (fun j hj => absurd hj (Nat.not_lt_zero _))
  exact ih _ _ _ _ _ _ _ _ _ ⟨⟨b0, s0, hC2⟩, ⟨m0, m1.sig (hfq _ (by omega)), ⟨by rw [← hτ2, s2_nk (by omega)]; exact m2.1, m2.2.sig (hfq _ (by omega))⟩, by rw [← hτ2, s2_nk (by omega)]; exact m3, m4.sig (hfq _ (by omega)), fun j hj => by rw [hfq _ (by omega)]; exact m5 j hj, by rw [← hτ2, s2_same], rowAt.zero⟩, hBd.mono (by omega)⟩
set_option maxRecDepth 100000 in
set_option maxHeartbeats 4000000 in
theorem lc_fault {Ω : OmT} {Φ : PhT} {z : Nat} {sh : Nat → Option Kd} {σ : Nat → Nat → Int32} {ρ : Nat → Nat → Option Nat} {P M b i L B : Nat} {xs : Nat → Int32} {v : Nat → Nat} {nu : Nat} {hf : Nat → Nat} {fl : Nat → Bool} {sv p : Nat → Nat} {ln : Nat} (hc : CXp Ω Φ cL_law RL room_1 4) (hX : va_X b L xs Φ.2.2.2.1 Φ.2.2.2.1.heap) (hbO : b < Ω.2.2.2) (hPM : P + 391 ≤ M) (hR : Rel B sh σ ρ P M v nu hf fl sv p ln) (hB : B ≤ 800000000) (hi : i + 5 ≤ L) (hL : L ≤ 2560) (ih : ∀ (σ : Nat → Nat → Int32) (ρ : Nat → Nat → Option Nat) (v : Nat → Nat) (nu : Nat) (hf : Nat → Nat) (fl : Nat → Bool) (sv p : Nat → Nat) (ln : Nat), Rel (B + 27000) sh σ ρ P M v nu hf fl sv p ln → Vw Ω Φ (z, sh, σ, ρ) (600000, 7302250) 935 [(0, .ref b), (1, .ref P), (2, .ref M), (3, .int (nI i))] []) : Vw Ω Φ (z, sh, σ, ρ) (600000, 7302250) 850 [(0, .ref b), (1, .ref P), (2, .ref M), (3, .int (nI i))] [] := by
  obtain ⟨⟨b0, s0, hC⟩, hMS, hBd⟩ := id hR
  have hnu := hC.nu
  have hok := hC.ok
  obtain ⟨hl80, hpp⟩ := hC.ln
  have hbx : v 7 ≤ 900000000 := by have := hBd.1; omega
  have hbx2 : v 7 ≤ 1000000000 := by omega
  obtain ⟨m0, m1, m2, m3, m4, m5, m6, m7⟩ := id hMS
  have hsP : sh P = some (.inl 10) := hC.1.1.1.1
  have hsM : sh M = some (.inl 11) := MS0 m0
  refine r_aload_n hc dL_law_850 rfl ?_
  refine cl_L_125 (As := []) hc (c_X11_fault hC hbx) hsP rfl ⟨Nat.le_of_ble_eq_true rfl, Nat.le_of_ble_eq_true rfl⟩ ⟨rfl, rfl⟩ ⟨Nat.le_of_ble_eq_true rfl, Nat.le_of_ble_eq_true rfl⟩ rfl (Nat.le_of_ble_eq_true rfl) dL_law_851 (fun r u hp => ?_)
  obtain ⟨τ, hu, hr, hl2, hp2, hfx⟩ := hp
  rw [hu, hr]
  have hMS2 : MSt sh τ ρ M v nu hf fl sv p ln := hMS.sg (fun q q1 q2 => hfx q (by omega)) (fun k hk => congrFun (hfx M (by omega)) k) rfl
  obtain ⟨m0, m1, m2, m3, m4, m5, m6, m7⟩ := id hMS2
  refine r_aload_n hc dL_law_854 rfl ?_
  refine cl_L_128 (As := []) hc (c_X12_fault m0 m6 m7 hl80 hpp) hsM rfl ⟨Nat.le_of_ble_eq_true rfl, Nat.le_of_ble_eq_true rfl⟩ ⟨rfl, rfl⟩ ⟨Nat.le_of_ble_eq_true rfl, Nat.le_of_ble_eq_true rfl⟩ rfl (Nat.le_of_ble_eq_true rfl) dL_law_855 (fun r u hp => ?_)
  obtain ⟨τ2, hu, hr, hfq, hfk⟩ := hp
  rw [hu, hr]
  refine r_icmp_eq (tgt := 935) hc dL_law_858 (by decide) Iff.rfl (fun _ => ?_) (fun q => absurd rfl q)
  have hC2 : CSt sh τ2 ρ P b0 s0 v nu hf fl sv p ln := hC.pd (fun q q1 q2 q3 => (hfq q (by omega) (by omega)).trans (hfx q (by omega))) (by rw [hfq _ (by omega) (by omega)]; exact hl2) (hp2.sig (hfq _ (by omega) (by omega))) hl80 hpp
  exact ih _ _ _ _ _ _ _ _ _ ⟨⟨b0, s0, hC2⟩, hMS2.sg (fun q q1 q2 => hfq q (by omega) (by omega)) (fun k hk => hfk k (by omega)) rfl, hBd.mono (by omega)⟩
theorem rd_cnt0 {p : Nat → Nat} {ln : Nat} (hl : ln ≤ 80) (f : Nat) : ∀ i t, f + i = 28 → 3 * i ≤ t → t ≤ ln → (rdF p ln f i t).1 = -6 → 3 * (rdF p ln f i t).2 ≤ ln + 1 := by
  induction f with
  | zero => intro i t h0 h1 h2 h3; omega
  | succ f ih =>
    intro i t h0 h1 h2 h3
    rw [rd_af] at h3 ⊢
    by_cases e : (pO p ln t).1 = true
    · have h4 := pO_ok h2 e
      rw [if_pos e] at h3 ⊢
      unfold afF at h3 ⊢
      by_cases e1 : ln ≤ (pO p ln t).2.1
      · rw [if_pos e1]; show 3 * (i + 1) ≤ ln + 1; omega
      · rw [if_neg e1] at h3 ⊢
        by_cases e2 : sgn p ln (pO p ln t).2.1 = 59
        · rw [if_pos e2] at h3 ⊢
          exact ih _ _ (by omega) (by omega) (by omega) h3
        · rw [if_neg e2] at h3
          exact absurd h3 (by show ¬ (((pO p ln t).2.1 : Nat) : Int) = -6; omega)
    · rw [if_neg e] at h3
      exact absurd h3 (by show ¬ (((pO p ln t).2.1 : Nat) : Int) = -6; omega)
theorem rd_cnt {p : Nat → Nat} {ln : Nat} (hl : ln ≤ 80) (h : (RD p ln).1 = -6) : (RD p ln).2 ≤ 27 := by
  have h1 : 3 * (rdF p ln 28 0 0).2 ≤ ln + 1 := rd_cnt0 hl 28 0 0 (by omega) (by omega) (by omega) h
  show (rdF p ln 28 0 0).2 ≤ 27
  omega
theorem ok_carryO {v : Nat → Nat} (h : okR v) (p : Nat → Nat) (ln : Nat) (hl : ln ≤ 80) : okR (sCarryO v p ln).2 ∧ (sCarryO v p ln).2 7 ≤ v 7 + 27000 := by
  unfold sCarryO
  split
  · rename_i hr
    have h1 := ex_ok p ln (RD p ln).2 0 v h
    have h2 := rd_cnt (p := p) hl hr
    exact ⟨h1.1, Nat.le_trans h1.2 (by omega)⟩
  · exact ⟨h, Nat.le_add_right _ _⟩
set_option maxRecDepth 100000 in
set_option maxHeartbeats 4000000 in
theorem lc_carryOut {Ω : OmT} {Φ : PhT} {z : Nat} {sh : Nat → Option Kd} {σ : Nat → Nat → Int32} {ρ : Nat → Nat → Option Nat} {P M b i L B : Nat} {xs : Nat → Int32} {v : Nat → Nat} {nu : Nat} {hf : Nat → Nat} {fl : Nat → Bool} {sv p : Nat → Nat} {ln : Nat} (hc : CXp Ω Φ cL_law RL room_1 4) (hX : va_X b L xs Φ.2.2.2.1 Φ.2.2.2.1.heap) (hbO : b < Ω.2.2.2) (hPM : P + 391 ≤ M) (hR : Rel B sh σ ρ P M v nu hf fl sv p ln) (hB : B ≤ 800000000) (hi : i + 5 ≤ L) (hL : L ≤ 2560) (ih : ∀ (σ : Nat → Nat → Int32) (ρ : Nat → Nat → Option Nat) (v : Nat → Nat) (nu : Nat) (hf : Nat → Nat) (fl : Nat → Bool) (sv p : Nat → Nat) (ln : Nat), Rel (B + 27000) sh σ ρ P M v nu hf fl sv p ln → Vw Ω Φ (z, sh, σ, ρ) (600000, 7302250) 935 [(0, .ref b), (1, .ref P), (2, .ref M), (3, .int (nI i))] []) : Vw Ω Φ (z, sh, σ, ρ) (600000, 7302250) 863 [(0, .ref b), (1, .ref P), (2, .ref M), (3, .int (nI i))] [] := by
  obtain ⟨⟨b0, s0, hC⟩, hMS, hBd⟩ := id hR
  have hnu := hC.nu
  have hok := hC.ok
  obtain ⟨hl80, hpp⟩ := hC.ln
  have hbx : v 7 ≤ 900000000 := by have := hBd.1; omega
  have hbx2 : v 7 ≤ 1000000000 := by omega
  obtain ⟨m0, m1, m2, m3, m4, m5, m6, m7⟩ := id hMS
  have hsP : sh P = some (.inl 10) := hC.1.1.1.1
  have hsM : sh M = some (.inl 11) := MS0 m0
  refine r_aload_n hc dL_law_863 rfl ?_
  refine cl_L_129 (As := []) hc (c_X11_carryOut hC hbx) hsP rfl ⟨Nat.le_of_ble_eq_true rfl, Nat.le_of_ble_eq_true rfl⟩ ⟨rfl, rfl⟩ ⟨Nat.le_of_ble_eq_true rfl, Nat.le_of_ble_eq_true rfl⟩ rfl (Nat.le_of_ble_eq_true rfl) dL_law_864 (fun r u hp => ?_)
  obtain ⟨σ2, ρ2, hu, hr, ⟨b2, s2, hC2⟩, hf2⟩ := hp
  rw [hu, hr]
  have hMS2 : MSt sh σ2 ρ2 M v nu hf fl sv p ln := hMS.sg (fun q q1 q2 => (hf2 q (by omega)).1) (fun k hk => congrFun (hf2 M (by omega)).1 k) (hf2 M (by omega)).2
  obtain ⟨m0, m1, m2, m3, m4, m5, m6, m7⟩ := id hMS2
  refine r_aload_n hc dL_law_867 rfl ?_
  refine cl_L_132 (As := []) hc (c_X12_carryOut m0 m1 hok hbx m2 hnu m6 m7 hl80 hpp m3) hsM rfl ⟨Nat.le_of_ble_eq_true rfl, Nat.le_of_ble_eq_true rfl⟩ ⟨rfl, rfl⟩ ⟨Nat.le_of_ble_eq_true rfl, Nat.le_of_ble_eq_true rfl⟩ rfl (Nat.le_of_ble_eq_true rfl) dL_law_868 (fun r u hp => ?_)
  obtain ⟨τ, hu, hr, hv2, hH2, hl2, hW2, hfq, hfk⟩ := hp
  rw [hu, hr]
  refine r_icmp_eq (tgt := 935) hc dL_law_871 (by decide) Iff.rfl (fun _ => ?_) (fun q => absurd rfl q)
  have hx := ok_carryO hok p ln hl80
  have hle : (if 0 ≤ (sCarryO v p ln).1 then 0 else ln) ≤ ln := by split <;> omega
  exact ih _ _ _ _ _ _ _ _ _ ⟨⟨b2, s2, hC2.sig (fun q q1 q2 q3 => hfq q (by omega) (by omega) (by omega) (by omega))⟩, ⟨m0, hv2, hH2, hW2, m4.sig (hfq _ (by omega) (by omega) (by omega) (by omega)), fun j hj => by rw [hfq _ (by omega) (by omega) (by omega) (by omega)]; exact m5 j hj, hl2, (m7.sig (hfq _ (by omega) (by omega) (by omega) (by omega))).sub hle⟩, hBd.chg _ (Nat.le_trans hx.2 (by have := hBd.1; omega)) hnu⟩
set_option maxRecDepth 100000 in
set_option maxHeartbeats 4000000 in
theorem lc_undo {Ω : OmT} {Φ : PhT} {z : Nat} {sh : Nat → Option Kd} {σ : Nat → Nat → Int32} {ρ : Nat → Nat → Option Nat} {P M b i L B : Nat} {xs : Nat → Int32} {v : Nat → Nat} {nu : Nat} {hf : Nat → Nat} {fl : Nat → Bool} {sv p : Nat → Nat} {ln : Nat} (hc : CXp Ω Φ cL_law RL room_1 4) (hX : va_X b L xs Φ.2.2.2.1 Φ.2.2.2.1.heap) (hbO : b < Ω.2.2.2) (hPM : P + 391 ≤ M) (hR : Rel B sh σ ρ P M v nu hf fl sv p ln) (hB : B ≤ 800000000) (hi : i + 5 ≤ L) (hL : L ≤ 2560) (ih : ∀ (σ : Nat → Nat → Int32) (ρ : Nat → Nat → Option Nat) (v : Nat → Nat) (nu : Nat) (hf : Nat → Nat) (fl : Nat → Bool) (sv p : Nat → Nat) (ln : Nat), Rel (B + 27000) sh σ ρ P M v nu hf fl sv p ln → Vw Ω Φ (z, sh, σ, ρ) (600000, 7302250) 935 [(0, .ref b), (1, .ref P), (2, .ref M), (3, .int (nI i))] []) : Vw Ω Φ (z, sh, σ, ρ) (600000, 7302250) 876 [(0, .ref b), (1, .ref P), (2, .ref M), (3, .int (nI i))] [] := by
  obtain ⟨⟨b0, s0, hC⟩, hMS, hBd⟩ := id hR
  have hnu := hC.nu
  have hok := hC.ok
  obtain ⟨hl80, hpp⟩ := hC.ln
  have hbx : v 7 ≤ 900000000 := by have := hBd.1; omega
  have hbx2 : v 7 ≤ 1000000000 := by omega
  obtain ⟨m0, m1, m2, m3, m4, m5, m6, m7⟩ := id hMS
  have hsP : sh P = some (.inl 10) := hC.1.1.1.1
  have hsM : sh M = some (.inl 11) := MS0 m0
  refine r_aload_n hc dL_law_876 rfl ?_
  refine cl_L_133 (As := []) hc (c_X11_undo hC hbx) hsP rfl ⟨Nat.le_of_ble_eq_true rfl, Nat.le_of_ble_eq_true rfl⟩ ⟨rfl, rfl⟩ ⟨Nat.le_of_ble_eq_true rfl, Nat.le_of_ble_eq_true rfl⟩ rfl (Nat.le_of_ble_eq_true rfl) dL_law_877 (fun r u hp => ?_)
  obtain ⟨τ, hu, hq⟩ := hp
  rw [hu]
  rcases hq with ⟨hn0, hr, rfl⟩ | ⟨hn0, hr, hC2, hfx⟩
  ·
    rw [hr]
    refine r_aload_n hc dL_law_880 rfl ?_
    refine cl_L_136 (As := []) hc (c_X12_undo m0 m2 hnu) hsM rfl ⟨Nat.le_of_ble_eq_true rfl, Nat.le_of_ble_eq_true rfl⟩ ⟨rfl, rfl⟩ ⟨Nat.le_of_ble_eq_true rfl, Nat.le_of_ble_eq_true rfl⟩ rfl (Nat.le_of_ble_eq_true rfl) dL_law_881 (fun r u hp => ?_)
    obtain ⟨τ2, hu, hq⟩ := hp
    rw [hu]
    rcases hq with ⟨_, hr2, rfl⟩ | ⟨hn1, _⟩
    rotate_left
    · exact absurd hn0 (by omega)
    rw [hr2]
    refine r_icmp_eq (tgt := 935) hc dL_law_884 (by decide) Iff.rfl (fun _ => ?_) (fun q => absurd rfl q)
    exact ih _ _ _ _ _ _ _ _ _ ⟨⟨b0, s0, hC⟩, hMS, hBd.mono (by omega)⟩
  ·
    rw [hr]
    have hMS2 : MSt sh τ ρ M v nu hf fl sv p ln := hMS.sg (fun q q1 q2 => hfx q (by omega)) (fun k hk => congrFun (hfx M (by omega)) k) rfl
    obtain ⟨m0, m1, m2, m3, m4, m5, m6, m7⟩ := id hMS2
    refine r_aload_n hc dL_law_880 rfl ?_
    refine cl_L_136 (As := []) hc (c_X12_undo m0 m2 hnu) hsM rfl ⟨Nat.le_of_ble_eq_true rfl, Nat.le_of_ble_eq_true rfl⟩ ⟨rfl, rfl⟩ ⟨Nat.le_of_ble_eq_true rfl, Nat.le_of_ble_eq_true rfl⟩ rfl (Nat.le_of_ble_eq_true rfl) dL_law_881 (fun r u hp => ?_)
    obtain ⟨τ2, hu, hq⟩ := hp
    rw [hu]
    rcases hq with ⟨hn1, _⟩ | ⟨_, hr2, hn2, hv2, hfq, hfk⟩
    · exact absurd hn0 (by omega)
    rw [hr2]
    refine r_icmp_eq (tgt := 935) hc dL_law_884 (by decide) Iff.rfl (fun _ => ?_) (fun q => absurd rfl q)
    exact ih _ _ _ _ _ _ _ _ _ ⟨⟨b0, s0, hC2.sig (fun q q1 q2 q3 => hfq q (by omega) (by omega))⟩, ⟨m0, hv2, ⟨hn2, (m2.2.sub (Nat.mul_le_mul_right 170 (Nat.sub_le nu 1))).sig (hfq _ (by omega) (by omega))⟩, by rw [hfk 7 (by omega)]; exact m3, m4.sig (hfq _ (by omega) (by omega)), fun j hj => by rw [hfq _ (by omega) (by omega)]; exact m5 j hj, by rw [hfk 6 (by omega)]; exact m6, m7.sig (hfq _ (by omega) (by omega))⟩, ⟨Nat.le_trans (hBd.2.1 (nu - 1) (by omega)) (by omega), fun j hj => Nat.le_trans (hBd.2.1 j (by omega)) (by omega), fun d hd hx => Nat.le_trans (hBd.2.2 d hd hx) (by omega)⟩⟩
set_option maxRecDepth 100000 in
set_option maxHeartbeats 4000000 in
theorem lc_save {Ω : OmT} {Φ : PhT} {z : Nat} {sh : Nat → Option Kd} {σ : Nat → Nat → Int32} {ρ : Nat → Nat → Option Nat} {P M b i L B : Nat} {xs : Nat → Int32} {v : Nat → Nat} {nu : Nat} {hf : Nat → Nat} {fl : Nat → Bool} {sv p : Nat → Nat} {ln : Nat} (hc : CXp Ω Φ cL_law RL room_1 4) (hX : va_X b L xs Φ.2.2.2.1 Φ.2.2.2.1.heap) (hbO : b < Ω.2.2.2) (hPM : P + 391 ≤ M) (hR : Rel B sh σ ρ P M v nu hf fl sv p ln) (hB : B ≤ 800000000) (hi : i + 5 ≤ L) (hL : L ≤ 2560) (ih : ∀ (σ : Nat → Nat → Int32) (ρ : Nat → Nat → Option Nat) (v : Nat → Nat) (nu : Nat) (hf : Nat → Nat) (fl : Nat → Bool) (sv p : Nat → Nat) (ln : Nat), Rel (B + 27000) sh σ ρ P M v nu hf fl sv p ln → Vw Ω Φ (z, sh, σ, ρ) (600000, 7302250) 935 [(0, .ref b), (1, .ref P), (2, .ref M), (3, .int (nI i))] []) : Vw Ω Φ (z, sh, σ, ρ) (600000, 7302250) 889 [(0, .ref b), (1, .ref P), (2, .ref M), (3, .int (nI i))] [] := by
  obtain ⟨⟨b0, s0, hC⟩, hMS, hBd⟩ := id hR
  have hnu := hC.nu
  have hok := hC.ok
  obtain ⟨hl80, hpp⟩ := hC.ln
  have hbx : v 7 ≤ 900000000 := by have := hBd.1; omega
  have hbx2 : v 7 ≤ 1000000000 := by omega
  obtain ⟨m0, m1, m2, m3, m4, m5, m6, m7⟩ := id hMS
  have hsP : sh P = some (.inl 10) := hC.1.1.1.1
  have hsM : sh M = some (.inl 11) := MS0 m0
  obtain ⟨x1, hx1, hr1⟩ := zI_ex (xs (i + 1))
  refine r_aload_n hc dL_law_889 rfl ?_
  refine r_aload_n hc dL_law_890 rfl ?_
  refine r_iload_n hc dL_law_891 rfl ?_
  refine r_iconst (v := nI 1) hc dL_law_892 rfl ?_
  refine r_iadd (v := nI (i + 1)) hc dL_law_893 (ad_NN _ _) ?_
  refine r_sld (j := i + 1) hc hX hbO hL rfl (by omega) hx1 dL_law_894 ?_
  refine cl_L_137 (As := [.int (zI x1)]) hc (c_X11_save hC hbx (x1 := x1) hr1) hsP rfl ⟨Nat.le_of_ble_eq_true rfl, Nat.le_of_ble_eq_true rfl⟩ ⟨rfl, rfl⟩ ⟨Nat.le_of_ble_eq_true rfl, Nat.le_of_ble_eq_true rfl⟩ rfl (Nat.le_of_ble_eq_true rfl) dL_law_895 (fun r u hp => ?_)
  obtain ⟨τ, hu, hq⟩ := hp
  rw [hu]
  rcases hq with ⟨hn0, hr, rfl⟩ | ⟨S, hS1, hxS, hr, hC2, hfx⟩
  ·
    rw [hr]
    refine r_aload_n hc dL_law_898 rfl ?_
    refine r_aload_n hc dL_law_899 rfl ?_
    refine r_iload_n hc dL_law_900 rfl ?_
    refine r_iconst (v := nI 1) hc dL_law_901 rfl ?_
    refine r_iadd (v := nI (i + 1)) hc dL_law_902 (ad_NN _ _) ?_
    refine r_sld (j := i + 1) hc hX hbO hL rfl (by omega) hx1 dL_law_903 ?_
    refine cl_L_140 (As := [.int (zI x1)]) hc (c_X12_save m0 m1 m4 (s := x1) hr1) hsM rfl ⟨Nat.le_of_ble_eq_true rfl, Nat.le_of_ble_eq_true rfl⟩ ⟨rfl, rfl⟩ ⟨Nat.le_of_ble_eq_true rfl, Nat.le_of_ble_eq_true rfl⟩ rfl (Nat.le_of_ble_eq_true rfl) dL_law_904 (fun r u hp => ?_)
    obtain ⟨τ2, hu, hq⟩ := hp
    rw [hu]
    rcases hq with ⟨_, hr2, rfl⟩ | ⟨S, hS1, hxS, _⟩
    rotate_left
    · exact absurd hn0 (by omega)
    rw [hr2]
    refine r_icmp_eq (tgt := 935) hc dL_law_907 (by decide) Iff.rfl (fun _ => ?_) (fun q => absurd rfl q)
    exact ih _ _ _ _ _ _ _ _ _ ⟨⟨b0, s0, hC⟩, hMS, hBd.mono (by omega)⟩
  ·
    rw [hr]
    have hMS2 : MSt sh τ ρ M v nu hf fl sv p ln := hMS.sg (fun q q1 q2 => hfx q (by omega)) (fun k hk => congrFun (hfx M (by omega)) k) rfl
    obtain ⟨m0, m1, m2, m3, m4, m5, m6, m7⟩ := id hMS2
    refine r_aload_n hc dL_law_898 rfl ?_
    refine r_aload_n hc dL_law_899 rfl ?_
    refine r_iload_n hc dL_law_900 rfl ?_
    refine r_iconst (v := nI 1) hc dL_law_901 rfl ?_
    refine r_iadd (v := nI (i + 1)) hc dL_law_902 (ad_NN _ _) ?_
    refine r_sld (j := i + 1) hc hX hbO hL rfl (by omega) hx1 dL_law_903 ?_
    refine cl_L_140 (As := [.int (zI x1)]) hc (c_X12_save m0 m1 m4 (s := x1) hr1) hsM rfl ⟨Nat.le_of_ble_eq_true rfl, Nat.le_of_ble_eq_true rfl⟩ ⟨rfl, rfl⟩ ⟨Nat.le_of_ble_eq_true rfl, Nat.le_of_ble_eq_true rfl⟩ rfl (Nat.le_of_ble_eq_true rfl) dL_law_904 (fun r u hp => ?_)
    obtain ⟨τ2, hu, hq⟩ := hp
    rw [hu]
    rcases hq with ⟨hn1, _⟩ | ⟨S2, hS2, hxS2, hr2, hv2, hf1, hf2, hfq⟩
    · exact absurd hn1 (by omega)
    have eS : S2 = S := by omega
    subst eS
    rw [hr2]
    refine r_icmp_eq (tgt := 935) hc dL_law_907 (by decide) Iff.rfl (fun _ => ?_) (fun q => absurd rfl q)
    refine ih _ _ _ _ _ _ _ _ _ ⟨⟨b0, s0, hC2.sig (fun q q1 q2 q3 => hfq q (by omega) (by omega))⟩, ⟨m0, m1.sig (hfq _ (by omega) (by omega)), ⟨by rw [hfq _ (by omega) (by omega)]; exact m2.1, m2.2.sig (hfq _ (by omega) (by omega))⟩, by rw [hfq _ (by omega) (by omega)]; exact m3, hv2, fun j hj => by
        by_cases e : j = S2
        · subst e; rw [hf1, va_up_at]
        · rw [hf2 j e, va_up_off e]; exact m5 j hj, by rw [hfq _ (by omega) (by omega)]; exact m6, m7.sig (hfq _ (by omega) (by omega))⟩, ⟨Nat.le_trans hBd.1 (by omega), fun j hj => Nat.le_trans (hBd.2.1 j hj) (by omega), fun d hd hx => ?_⟩⟩
    by_cases e : d = S2
    · subst e; rw [← sv_at 7 (by omega)]; exact Nat.le_trans hBd.1 (by omega)
    · rw [va_up_off e] at hx; rw [← sv_off e 7 (by omega)]; exact Nat.le_trans (hBd.2.2 d hd hx) (by omega)
set_option maxRecDepth 100000 in
set_option maxHeartbeats 4000000 in
theorem lc_restore {Ω : OmT} {Φ : PhT} {z : Nat} {sh : Nat → Option Kd} {σ : Nat → Nat → Int32} {ρ : Nat → Nat → Option Nat} {P M b i L B : Nat} {xs : Nat → Int32} {v : Nat → Nat} {nu : Nat} {hf : Nat → Nat} {fl : Nat → Bool} {sv p : Nat → Nat} {ln : Nat} (hc : CXp Ω Φ cL_law RL room_1 4) (hX : va_X b L xs Φ.2.2.2.1 Φ.2.2.2.1.heap) (hbO : b < Ω.2.2.2) (hPM : P + 391 ≤ M) (hR : Rel B sh σ ρ P M v nu hf fl sv p ln) (hB : B ≤ 800000000) (hi : i + 5 ≤ L) (hL : L ≤ 2560) (ih : ∀ (σ : Nat → Nat → Int32) (ρ : Nat → Nat → Option Nat) (v : Nat → Nat) (nu : Nat) (hf : Nat → Nat) (fl : Nat → Bool) (sv p : Nat → Nat) (ln : Nat), Rel (B + 27000) sh σ ρ P M v nu hf fl sv p ln → Vw Ω Φ (z, sh, σ, ρ) (600000, 7302250) 935 [(0, .ref b), (1, .ref P), (2, .ref M), (3, .int (nI i))] []) : Vw Ω Φ (z, sh, σ, ρ) (600000, 7302250) 912 [(0, .ref b), (1, .ref P), (2, .ref M), (3, .int (nI i))] [] := by
  obtain ⟨⟨b0, s0, hC⟩, hMS, hBd⟩ := id hR
  have hnu := hC.nu
  have hok := hC.ok
  obtain ⟨hl80, hpp⟩ := hC.ln
  have hbx : v 7 ≤ 900000000 := by have := hBd.1; omega
  have hbx2 : v 7 ≤ 1000000000 := by omega
  obtain ⟨m0, m1, m2, m3, m4, m5, m6, m7⟩ := id hMS
  have hsP : sh P = some (.inl 10) := hC.1.1.1.1
  have hsM : sh M = some (.inl 11) := MS0 m0
  obtain ⟨x1, hx1, hr1⟩ := zI_ex (xs (i + 1))
  refine r_aload_n hc dL_law_912 rfl ?_
  refine r_aload_n hc dL_law_913 rfl ?_
  refine r_iload_n hc dL_law_914 rfl ?_
  refine r_iconst (v := nI 1) hc dL_law_915 rfl ?_
  refine r_iadd (v := nI (i + 1)) hc dL_law_916 (ad_NN _ _) ?_
  refine r_sld (j := i + 1) hc hX hbO hL rfl (by omega) hx1 dL_law_917 ?_
  refine cl_L_141 (As := [.int (zI x1)]) hc (c_X11_restore hC hbx (x1 := x1) hr1) hsP rfl ⟨Nat.le_of_ble_eq_true rfl, Nat.le_of_ble_eq_true rfl⟩ ⟨rfl, rfl⟩ ⟨Nat.le_of_ble_eq_true rfl, Nat.le_of_ble_eq_true rfl⟩ rfl (Nat.le_of_ble_eq_true rfl) dL_law_918 (fun r u hp => ?_)
  obtain ⟨σ2, ρ2, hu, hq⟩ := hp
  rw [hu]
  rcases hq with ⟨hn0, hr, rfl, rfl⟩ | ⟨S, hS1, hxS, ⟨hfS, hr, rfl, rfl⟩ | ⟨hfS, hr, ⟨b2, s2, hC2⟩, hf2⟩⟩
  ·
    rw [hr]
    refine r_aload_n hc dL_law_921 rfl ?_
    refine r_aload_n hc dL_law_922 rfl ?_
    refine r_iload_n hc dL_law_923 rfl ?_
    refine r_iconst (v := nI 1) hc dL_law_924 rfl ?_
    refine r_iadd (v := nI (i + 1)) hc dL_law_925 (ad_NN _ _) ?_
    refine r_sld (j := i + 1) hc hX hbO hL rfl (by omega) hx1 dL_law_926 ?_
    refine cl_L_144 (As := [.int (zI x1)]) hc (c_X12_restore (W := false) m0 m1 m3 m2 hnu m4 m5 (s := x1) hr1) hsM rfl ⟨Nat.le_of_ble_eq_true rfl, Nat.le_of_ble_eq_true rfl⟩ ⟨rfl, rfl⟩ ⟨Nat.le_of_ble_eq_true rfl, Nat.le_of_ble_eq_true rfl⟩ rfl (Nat.le_of_ble_eq_true rfl) dL_law_927 (fun r u hp => ?_)
    obtain ⟨τ2, hu, hq⟩ := hp
    rw [hu]
    rcases hq with ⟨_, hr2, rfl⟩ | ⟨S, hS1, hxS, _⟩
    rotate_left
    · exact absurd hn0 (by omega)
    rw [hr2]
    refine r_icmp_eq (tgt := 935) hc dL_law_930 (by decide) Iff.rfl (fun _ => ?_) (fun q => absurd rfl q)
    exact ih _ _ _ _ _ _ _ _ _ ⟨⟨b0, s0, hC⟩, hMS, hBd.mono (by omega)⟩
  ·
    rw [hr]
    refine r_aload_n hc dL_law_921 rfl ?_
    refine r_aload_n hc dL_law_922 rfl ?_
    refine r_iload_n hc dL_law_923 rfl ?_
    refine r_iconst (v := nI 1) hc dL_law_924 rfl ?_
    refine r_iadd (v := nI (i + 1)) hc dL_law_925 (ad_NN _ _) ?_
    refine r_sld (j := i + 1) hc hX hbO hL rfl (by omega) hx1 dL_law_926 ?_
    refine cl_L_144 (As := [.int (zI x1)]) hc (c_X12_restore (W := false) m0 m1 m3 m2 hnu m4 m5 (s := x1) hr1) hsM rfl ⟨Nat.le_of_ble_eq_true rfl, Nat.le_of_ble_eq_true rfl⟩ ⟨rfl, rfl⟩ ⟨Nat.le_of_ble_eq_true rfl, Nat.le_of_ble_eq_true rfl⟩ rfl (Nat.le_of_ble_eq_true rfl) dL_law_927 (fun r u hp => ?_)
    obtain ⟨τ2, hu, hq⟩ := hp
    rw [hu]
    rcases hq with ⟨hn1, _⟩ | ⟨S2, hS2, hxS2, ⟨_, hr2, rfl⟩ | ⟨hfS2, _⟩⟩
    · exact absurd hn1 (by omega)
    rotate_left
    · exact absurd hfS2 (by rw [show S2 = S by omega, hfS]; decide)
    rw [hr2]
    refine r_icmp_eq (tgt := 935) hc dL_law_930 (by decide) Iff.rfl (fun _ => ?_) (fun q => absurd rfl q)
    exact ih _ _ _ _ _ _ _ _ _ ⟨⟨b0, s0, hC⟩, hMS, hBd.mono (by omega)⟩
  ·
    rw [hr]
    have hMS2 : MSt sh σ2 ρ2 M v nu hf fl sv p ln := hMS.sg (fun q q1 q2 => (hf2 q (by omega)).1) (fun k hk => congrFun (hf2 M (by omega)).1 k) (hf2 M (by omega)).2
    obtain ⟨m0, m1, m2, m3, m4, m5, m6, m7⟩ := id hMS2
    refine r_aload_n hc dL_law_921 rfl ?_
    refine r_aload_n hc dL_law_922 rfl ?_
    refine r_iload_n hc dL_law_923 rfl ?_
    refine r_iconst (v := nI 1) hc dL_law_924 rfl ?_
    refine r_iadd (v := nI (i + 1)) hc dL_law_925 (ad_NN _ _) ?_
    refine r_sld (j := i + 1) hc hX hbO hL rfl (by omega) hx1 dL_law_926 ?_
    refine cl_L_144 (As := [.int (zI x1)]) hc (c_X12_restore (W := false) m0 m1 m3 m2 hnu m4 m5 (s := x1) hr1) hsM rfl ⟨Nat.le_of_ble_eq_true rfl, Nat.le_of_ble_eq_true rfl⟩ ⟨rfl, rfl⟩ ⟨Nat.le_of_ble_eq_true rfl, Nat.le_of_ble_eq_true rfl⟩ rfl (Nat.le_of_ble_eq_true rfl) dL_law_927 (fun r u hp => ?_)
    obtain ⟨τ2, hu, hq⟩ := hp
    rw [hu]
    rcases hq with ⟨hn1, _⟩ | ⟨S2, hS2, hxS2, ⟨hfS2, _⟩ | ⟨_, hr2, hv2, hH2, hfq, hfk⟩⟩
    · exact absurd hn1 (by omega)
    · exact absurd hfS2 (by rw [show S2 = S by omega, hfS]; decide)
    have eS : S2 = S := by omega
    subst eS
    rw [hr2]
    refine r_icmp_eq (tgt := 935) hc dL_law_930 (by decide) Iff.rfl (fun _ => ?_) (fun q => absurd rfl q)
    have hb8 := hBd.2.2 S2 (by omega) hfS
    exact ih _ _ _ _ _ _ _ _ _ ⟨⟨b2, s2, hC2.sig (fun q q1 q2 q3 => hfq q (by omega) (by omega) (by omega))⟩, ⟨m0, hv2, hH2, by rw [hfk 7 (by omega)]; exact m3, m4.sig (hfq _ (by omega) (by omega) (by omega)), fun j hj => by rw [hfq _ (by omega) (by omega) (by omega)]; exact m5 j hj, by rw [hfk 6 (by omega)]; exact m6, m7.sig (hfq _ (by omega) (by omega) (by omega))⟩, hBd.chg 0 (Nat.le_trans hb8 (by omega)) hnu⟩
