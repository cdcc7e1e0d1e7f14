/-! ===== the law: brass adds up; one act ===== -/
theorem dOf_has (v : Nat → Nat) {k : Nat} (hk : k < v 5) : bitsF (fun e => (keysFor v e).testBit k) (v 4) = doorsOf v k := by
  unfold doorsOf
  apply bitsF_cong
  intro e he
  unfold keysFor
  rw [bitsF_test, decide_eq_true hk, Bool.true_and]
set_option maxRecDepth 100000 in
set_option maxHeartbeats 4000000 in
theorem c_L_agree {Ω : OmT} {z : Nat} {sh : Nat → Option Kd} {P : Nat} {v : Nat → Nat} {S : StT} (hG : GS z sh P v S) (hL : Led v) (hB : v 6 ≤ 800000000)  : CtI Ω yL_agree cL_agree 7 .boolean rm_L_agree [.ref P] S (fun r u => r = nI 1 ∧ GS z sh P v u) := by
  have hn := hG.nums
  have hL1 := hL.1
  refine CtI.enter (by decide) (Nat.le_of_ble_eq_true rfl) (fun Φ hc hR => ?_)
  show Vw Ω Φ S (0, 0) 0 [(0, .ref P)] []
  refine r_iconst (v := nI 0) hc dL_agree_0 rfl ?_
  refine r_istore_n (ls' := [(1, .int (nI 0)), (0, .ref P)]) hc dL_agree_1 (by decide) rfl ?_
  refine r_iconst (v := nI 0) hc dL_agree_2 rfl ?_
  refine r_istore_n (ls' := [(2, .int (nI 0)), (1, .int (nI 0)), (0, .ref P)]) hc dL_agree_3 (by decide) rfl ?_
  have loop4 : ∀ (n4 : Nat) (S : StT) (l : Nat) (d : Nat), (d ≤ v 4) → (l = sumN (lockWt v) d) → (GS z sh P v S) → (v 4 - d) < n4 → Vw Ω Φ S (0, 0) 4 [(0, .ref P), (1, .int (nI l)), (2, .int (nI d))] [] := by
    intro n4
    induction n4 with
    | zero => intro S l d hd hl hG hm; exact absurd hm (Nat.not_lt_zero _)
    | succ n4 ih4 =>
      intro S l d hd hl hG hm4
      refine r_iload_n hc dL_agree_4 rfl ?_
      refine r_aload_n hc dL_agree_5 rfl ?_
      refine r_iconst (v := nI 2) hc dL_agree_6 rfl ?_
      refine cl_L_14 (As := [.int (nI 2)]) hc (qc_2 hG (by omega)) hG.sh rfl ⟨by decide, by decide⟩ ⟨rfl, rfl⟩ ⟨by decide, by decide⟩ rfl (Nat.le_of_ble_eq_true rfl) dL_agree_7 (fun r u hp => ?_)
      obtain ⟨rfl, hG⟩ := hp
      refine r_icmp_ge (tgt := 171) hc dL_agree_10 (by decide) (le_NN (by omega) (by omega)) (fun c_10 => ?_) (fun c_10 => ?_)
      ·
        have hle : l = inLk v := by rw [hl, show d = v 4 by omega]; rfl
        refine r_iconst (v := nI 0) hc dL_agree_171 rfl ?_
        refine r_istore_n (ls' := [(2, .int (nI 0)), (0, .ref P), (1, .int (nI l))]) hc dL_agree_172 (by decide) rfl ?_
        refine r_iconst (v := nI 0) hc dL_agree_173 rfl ?_
        refine r_istore_n (ls' := [(3, .int (nI 0)), (2, .int (nI 0)), (0, .ref P), (1, .int (nI l))]) hc dL_agree_174 (by decide) rfl ?_
        refine r_iconst (v := nI 0) hc dL_agree_175 rfl ?_
        refine r_istore (ls' := [(4, .int (nI 0)), (3, .int (nI 0)), (2, .int (nI 0)), (0, .ref P), (1, .int (nI l))]) hc dL_agree_176 (by decide) rfl ?_
        have loop178 : ∀ (n178 : Nat) (S : StT) (y : Nat) (c : Nat) (k : Nat), (k ≤ v 5) → (y = sumN (keyWt v) k) → (c = bitsF (fun k => decide (whrR v k = 8)) k) → (GS z sh P v S) → (v 5 - k) < n178 → Vw Ω Φ S (0, 0) 178 [(0, .ref P), (1, .int (nI l)), (2, .int (nI y)), (3, .int (nI c)), (4, .int (nI k))] [] := by
          intro n178
          induction n178 with
          | zero => intro S y c k hk hy hcs hG hm; exact absurd hm (Nat.not_lt_zero _)
          | succ n178 ih178 =>
            intro S y c k hk hy hcs hG hm178
            refine r_iload hc dL_agree_178 rfl ?_
            refine r_aload_n hc dL_agree_180 rfl ?_
            refine r_iconst (v := nI 3) hc dL_agree_181 rfl ?_
            refine cl_L_14 (As := [.int (nI 3)]) hc (qc_3 hG (by omega)) hG.sh rfl ⟨by decide, by decide⟩ ⟨rfl, rfl⟩ ⟨by decide, by decide⟩ rfl (Nat.le_of_ble_eq_true rfl) dL_agree_182 (fun r u hp => ?_)
            obtain ⟨rfl, hG⟩ := hp
            refine r_icmp_ge (tgt := 327) hc dL_agree_185 (by decide) (le_NN (by omega) (by omega)) (fun c_185 => ?_) (fun c_185 => ?_)
            ·
              have hye : y = inKy v := by rw [hy, show k = v 5 by omega]; rfl
              have hce : c = keysAt v 8 := by rw [hcs, show k = v 5 by omega]; rfl
              refine r_aload_n hc dL_agree_327 rfl ?_
              refine r_iconst (v := nI 1) hc dL_agree_328 rfl ?_
              refine cl_L_14 (As := [.int (nI 1)]) hc (qc_1 hG (by omega)) hG.sh rfl ⟨by decide, by decide⟩ ⟨rfl, rfl⟩ ⟨by decide, by decide⟩ rfl (Nat.le_of_ble_eq_true rfl) dL_agree_329 (fun r u hp => ?_)
              obtain ⟨rfl, hG⟩ := hp
              refine r_iload_n hc dL_agree_332 rfl ?_
              refine r_icmp_ne (tgt := 393) hc dL_agree_333 (by decide) (eq_NN (by omega) (by omega)) (fun c_333 => ?_) (fun c_333 => ?_)
              ·
                exfalso; omega
              ·
                refine r_aload_n hc dL_agree_336 rfl ?_
                refine r_iconst (v := nI 5) hc dL_agree_337 rfl ?_
                refine cl_L_14 (As := [.int (nI 5)]) hc (qc_5 hG (by omega)) hG.sh rfl ⟨by decide, by decide⟩ ⟨rfl, rfl⟩ ⟨by decide, by decide⟩ rfl (Nat.le_of_ble_eq_true rfl) dL_agree_338 (fun r u hp => ?_)
                obtain ⟨rfl, hG⟩ := hp
                refine r_iload_n hc dL_agree_341 rfl ?_
                refine r_icmp_ne (tgt := 393) hc dL_agree_342 (by decide) (eq_NN (by omega) (by omega)) (fun c_342 => ?_) (fun c_342 => ?_)
                ·
                  exfalso; omega
                ·
                  refine r_aload_n hc dL_agree_345 rfl ?_
                  refine r_bipush (v := nI 6) hc dL_agree_346 rfl ?_
                  refine cl_L_14 (As := [.int (nI 6)]) hc (qc_6 hG (by omega)) hG.sh rfl ⟨by decide, by decide⟩ ⟨rfl, rfl⟩ ⟨by decide, by decide⟩ rfl (Nat.le_of_ble_eq_true rfl) dL_agree_348 (fun r u hp => ?_)
                  obtain ⟨rfl, hG⟩ := hp
                  refine r_iload_n hc dL_agree_351 rfl ?_
                  refine r_icmp_ne (tgt := 393) hc dL_agree_352 (by decide) (eq_NN (by omega) (by omega)) (fun c_352 => ?_) (fun c_352 => ?_)
                  ·
                    exfalso; omega
                  ·
                    refine r_aload_n hc dL_agree_355 rfl ?_
                    refine r_iconst (v := nI 4) hc dL_agree_356 rfl ?_
                    refine cl_L_14 (As := [.int (nI 4)]) hc (qc_4 hG (by omega)) hG.sh rfl ⟨by decide, by decide⟩ ⟨rfl, rfl⟩ ⟨by decide, by decide⟩ rfl (Nat.le_of_ble_eq_true rfl) dL_agree_357 (fun r u hp => ?_)
                    obtain ⟨rfl, hG⟩ := hp
                    refine r_iload_n hc dL_agree_360 rfl ?_
                    refine r_iload_n hc dL_agree_361 rfl ?_
                    refine r_iadd (v := nI (l + y)) hc dL_agree_362 (ad_NN _ _) ?_
                    refine r_aload_n hc dL_agree_363 rfl ?_
                    refine r_bipush (v := nI 7) hc dL_agree_364 rfl ?_
                    refine cl_L_14 (As := [.int (nI 7)]) hc (qc_7 hG (by omega)) hG.sh rfl ⟨by decide, by decide⟩ ⟨rfl, rfl⟩ ⟨by decide, by decide⟩ rfl (Nat.le_of_ble_eq_true rfl) dL_agree_366 (fun r u hp => ?_)
                    obtain ⟨rfl, hG⟩ := hp
                    refine r_iadd (v := nI (l + y + (v 7))) hc dL_agree_369 (ad_NN _ _) ?_
                    refine r_aload_n hc dL_agree_370 rfl ?_
                    refine r_bipush (v := nI 8) hc dL_agree_371 rfl ?_
                    refine cl_L_14 (As := [.int (nI 8)]) hc (qc_8 hG (by omega)) hG.sh rfl ⟨by decide, by decide⟩ ⟨rfl, rfl⟩ ⟨by decide, by decide⟩ rfl (Nat.le_of_ble_eq_true rfl) dL_agree_373 (fun r u hp => ?_)
                    obtain ⟨rfl, hG⟩ := hp
                    refine r_iadd (v := nI (l + y + (v 7) + (v 8))) hc dL_agree_376 (ad_NN _ _) ?_
                    refine r_icmp_ne (tgt := 393) hc dL_agree_377 (by decide) (eq_NN (by omega) (by omega)) (fun c_377 => ?_) (fun c_377 => ?_)
                    ·
                      exfalso; omega
                    ·
                      refine r_aload_n hc dL_agree_380 rfl ?_
                      refine r_bipush (v := nI 7) hc dL_agree_381 rfl ?_
                      refine cl_L_14 (As := [.int (nI 7)]) hc (qc_7 hG (by omega)) hG.sh rfl ⟨by decide, by decide⟩ ⟨rfl, rfl⟩ ⟨by decide, by decide⟩ rfl (Nat.le_of_ble_eq_true rfl) dL_agree_383 (fun r u hp => ?_)
                      obtain ⟨rfl, hG⟩ := hp
                      refine r_if_lt (tgt := 393) hc dL_agree_386 (by decide) (l0_N (by omega)) (fun c_386 => ?_) (fun c_386 => ?_)
                      ·
                        exfalso; omega
                      ·
                        refine r_iconst (v := nI 1) hc dL_agree_389 rfl ?_
                        refine r_goto (tgt := 394) hc dL_agree_390 (by decide) ?_
                        exact hR _ _ ⟨rfl, hG⟩ rfl _ _ dL_agree_394
            ·
              have hkr := hG.key (k := k) (by omega)
              have hkp := keyWt_pos hG.ok (k := k) (by omega)
              refine r_iload_n hc dL_agree_188 rfl ?_
              refine r_aload_n hc dL_agree_189 rfl ?_
              refine r_iload hc dL_agree_190 rfl ?_
              refine r_iconst (v := nI 1) hc dL_agree_192 rfl ?_
              refine cl_L_23 (As := [.int (nI k), .int (nI 1)]) hc (qk_1 hG (by omega) (k := k) (by omega)) hG.sh rfl ⟨by decide, by decide⟩ ⟨rfl, rfl⟩ ⟨by decide, by decide⟩ rfl (Nat.le_of_ble_eq_true rfl) dL_agree_193 (fun r u hp => ?_)
              obtain ⟨rfl, hG⟩ := hp
              refine r_iadd (v := nI (y + (keyWt v k))) hc dL_agree_196 (ad_NN _ _) ?_
              refine r_istore_n (ls' := [(2, .int (nI (y + (keyWt v k)))), (0, .ref P), (1, .int (nI l)), (3, .int (nI c)), (4, .int (nI k))]) hc dL_agree_197 (by decide) rfl ?_
              refine r_iload_n hc dL_agree_198 rfl ?_
              refine r_aload_n hc dL_agree_199 rfl ?_
              refine r_iload hc dL_agree_200 rfl ?_
              refine r_iconst (v := nI 2) hc dL_agree_202 rfl ?_
              refine cl_L_23 (As := [.int (nI k), .int (nI 2)]) hc (qk_2 hG (by omega) (k := k) (by omega)) hG.sh rfl ⟨by decide, by decide⟩ ⟨rfl, rfl⟩ ⟨by decide, by decide⟩ rfl (Nat.le_of_ble_eq_true rfl) dL_agree_203 (fun r u hp => ?_)
              obtain ⟨rfl, hG⟩ := hp
              refine r_bipush (v := nI 8) hc dL_agree_206 rfl ?_
              refine r_icmp_ne (tgt := 218) hc dL_agree_208 (by decide) (eq_NN (by omega) (by omega)) (fun c_208 => ?_) (fun c_208 => ?_)
              ·
                refine r_iconst (v := nI 0) hc dL_agree_218 rfl ?_
                refine r_ior (v := nI (c ||| 0)) hc dL_agree_219 (or_NN _ _) ?_
                refine r_istore_n (ls' := [(3, .int (nI (c ||| 0))), (2, .int (nI (y + (keyWt v k)))), (0, .ref P), (1, .int (nI l)), (4, .int (nI k))]) hc dL_agree_220 (by decide) rfl ?_
                have hc2 : c ||| 0 = bitsF (fun k => decide (whrR v k = 8)) (k + 1) := (by rw [bitsF, ← hcs, if_neg (fun q => c_208 (of_decide_eq_true q))])
                refine r_iconst (v := nI 0) hc dL_agree_221 rfl ?_
                refine r_istore (ls' := [(5, .int (nI 0)), (3, .int (nI (c ||| 0))), (2, .int (nI (y + (keyWt v k)))), (0, .ref P), (1, .int (nI l)), (4, .int (nI k))]) hc dL_agree_222 (by decide) rfl ?_
                refine r_iconst (v := nI 0) hc dL_agree_224 rfl ?_
                refine r_istore (ls' := [(6, .int (nI 0)), (5, .int (nI 0)), (3, .int (nI (c ||| 0))), (2, .int (nI (y + (keyWt v k)))), (0, .ref P), (1, .int (nI l)), (4, .int (nI k))]) hc dL_agree_225 (by decide) rfl ?_
                have loop227 : ∀ (n227 : Nat) (S : StT) (c2 : Nat) (x : Nat) (e : Nat), (e ≤ v 4) → (c2 = bitsF (fun k => decide (whrR v k = 8)) (k + 1)) → (x = bitsF (fun e => (keysFor v e).testBit k) e) → (GS z sh P v S) → (v 4 - e) < n227 → Vw Ω Φ S (0, 0) 227 [(0, .ref P), (1, .int (nI l)), (2, .int (nI (y + keyWt v k))), (3, .int (nI c2)), (4, .int (nI k)), (5, .int (nI x)), (6, .int (nI e))] [] := by
                  intro n227
                  induction n227 with
                  | zero => intro S c2 x e he hc2 hx hG hm; exact absurd hm (Nat.not_lt_zero _)
                  | succ n227 ih227 =>
                    intro S c2 x e he hc2 hx hG hm227
                    refine r_iload hc dL_agree_227 rfl ?_
                    refine r_aload_n hc dL_agree_229 rfl ?_
                    refine r_iconst (v := nI 2) hc dL_agree_230 rfl ?_
                    refine cl_L_14 (As := [.int (nI 2)]) hc (qc_2 hG (by omega)) hG.sh rfl ⟨by decide, by decide⟩ ⟨rfl, rfl⟩ ⟨by decide, by decide⟩ rfl (Nat.le_of_ble_eq_true rfl) dL_agree_231 (fun r u hp => ?_)
                    obtain ⟨rfl, hG⟩ := hp
                    refine r_icmp_ge (tgt := 272) hc dL_agree_234 (by decide) (le_NN (by omega) (by omega)) (fun c_234 => ?_) (fun c_234 => ?_)
                    ·
                      have hxe : x = doorsOf v k := by rw [hx, show e = v 4 by omega]; exact dOf_has v (by omega)
                      refine r_aload_n hc dL_agree_272 rfl ?_
                      refine r_iload hc dL_agree_273 rfl ?_
                      refine r_iconst (v := nI 3) hc dL_agree_275 rfl ?_
                      refine cl_L_23 (As := [.int (nI k), .int (nI 3)]) hc (qk_3 hG (by omega) (k := k) (by omega)) hG.sh rfl ⟨by decide, by decide⟩ ⟨rfl, rfl⟩ ⟨by decide, by decide⟩ rfl (Nat.le_of_ble_eq_true rfl) dL_agree_276 (fun r u hp => ?_)
                      obtain ⟨rfl, hG⟩ := hp
                      refine r_iload hc dL_agree_279 rfl ?_
                      refine r_icmp_ne (tgt := 319) hc dL_agree_281 (by decide) (eq_NN (by omega) (by omega)) (fun c_281 => ?_) (fun c_281 => ?_)
                      ·
                        exfalso; omega
                      ·
                        refine r_aload_n hc dL_agree_284 rfl ?_
                        refine r_iload hc dL_agree_285 rfl ?_
                        refine r_iconst (v := nI 1) hc dL_agree_287 rfl ?_
                        refine cl_L_23 (As := [.int (nI k), .int (nI 1)]) hc (qk_1 hG (by omega) (k := k) (by omega)) hG.sh rfl ⟨by decide, by decide⟩ ⟨rfl, rfl⟩ ⟨by decide, by decide⟩ rfl (Nat.le_of_ble_eq_true rfl) dL_agree_288 (fun r u hp => ?_)
                        obtain ⟨rfl, hG⟩ := hp
                        refine r_if_ne (tgt := 298) hc dL_agree_291 (by decide) (e0_N (by omega)) (fun c_291 => ?_) (fun c_291 => ?_)
                        ·
                          refine r_iconst (v := nI 0) hc dL_agree_298 rfl ?_
                          refine r_aload_n hc dL_agree_299 rfl ?_
                          refine r_iload hc dL_agree_300 rfl ?_
                          refine r_iconst (v := nI 2) hc dL_agree_302 rfl ?_
                          refine cl_L_23 (As := [.int (nI k), .int (nI 2)]) hc (qk_2 hG (by omega) (k := k) (by omega)) hG.sh rfl ⟨by decide, by decide⟩ ⟨rfl, rfl⟩ ⟨by decide, by decide⟩ rfl (Nat.le_of_ble_eq_true rfl) dL_agree_303 (fun r u hp => ?_)
                          obtain ⟨rfl, hG⟩ := hp
                          refine r_bipush (v := nI 9) hc dL_agree_306 rfl ?_
                          refine r_icmp_ne (tgt := 315) hc dL_agree_308 (by decide) (eq_NN (by omega) (by omega)) (fun c_308 => ?_) (fun c_308 => ?_)
                          ·
                            refine r_iconst (v := nI 0) hc dL_agree_315 rfl ?_
                            refine r_icmp_eq (tgt := 321) hc dL_agree_316 (by decide) (eq_NN (by omega) (by omega)) (fun c_316 => ?_) (fun c_316 => ?_)
                            ·
                              refine r_iinc (v := nI (k + 1)) (ls' := [(4, .int (nI (k + 1))), (0, .ref P), (1, .int (nI l)), (2, .int (nI (y + keyWt v k))), (3, .int (nI c2)), (5, .int (nI x)), (6, .int (nI e))]) hc dL_agree_321 rfl (ad_NN _ 1) (by decide) rfl ?_
                              refine r_goto (tgt := 178) hc dL_agree_324 (by decide) ?_
                              refine r_locp [1, 2, 3, 4, 0] (ls' := [(0, .ref P), (1, .int (nI l)), (2, .int (nI (y + keyWt v k))), (3, .int (nI c2)), (4, .int (nI (k + 1)))]) rfl ?_
                              exact ih178 _ (y + keyWt v k) c2 (k + 1) (by omega) (by rw [sumN, ← hy]) hc2 hG (by omega)
                            ·
                              exfalso; omega
                          ·
                            refine r_iconst (v := nI 1) hc dL_agree_311 rfl ?_
                            refine r_goto (tgt := 316) hc dL_agree_312 (by decide) ?_
                            refine r_icmp_eq (tgt := 321) hc dL_agree_316 (by decide) (eq_NN (by omega) (by omega)) (fun c_316 => ?_) (fun c_316 => ?_)
                            ·
                              exfalso; omega
                            ·
                              exfalso; omega
                        ·
                          refine r_iconst (v := nI 1) hc dL_agree_294 rfl ?_
                          refine r_goto (tgt := 299) hc dL_agree_295 (by decide) ?_
                          refine r_aload_n hc dL_agree_299 rfl ?_
                          refine r_iload hc dL_agree_300 rfl ?_
                          refine r_iconst (v := nI 2) hc dL_agree_302 rfl ?_
                          refine cl_L_23 (As := [.int (nI k), .int (nI 2)]) hc (qk_2 hG (by omega) (k := k) (by omega)) hG.sh rfl ⟨by decide, by decide⟩ ⟨rfl, rfl⟩ ⟨by decide, by decide⟩ rfl (Nat.le_of_ble_eq_true rfl) dL_agree_303 (fun r u hp => ?_)
                          obtain ⟨rfl, hG⟩ := hp
                          refine r_bipush (v := nI 9) hc dL_agree_306 rfl ?_
                          refine r_icmp_ne (tgt := 315) hc dL_agree_308 (by decide) (eq_NN (by omega) (by omega)) (fun c_308 => ?_) (fun c_308 => ?_)
                          ·
                            refine r_iconst (v := nI 0) hc dL_agree_315 rfl ?_
                            refine r_icmp_eq (tgt := 321) hc dL_agree_316 (by decide) (eq_NN (by omega) (by omega)) (fun c_316 => ?_) (fun c_316 => ?_)
                            ·
                              exfalso; omega
                            ·
                              exfalso; omega
                          ·
                            refine r_iconst (v := nI 1) hc dL_agree_311 rfl ?_
                            refine r_goto (tgt := 316) hc dL_agree_312 (by decide) ?_
                            refine r_icmp_eq (tgt := 321) hc dL_agree_316 (by decide) (eq_NN (by omega) (by omega)) (fun c_316 => ?_) (fun c_316 => ?_)
                            ·
                              refine r_iinc (v := nI (k + 1)) (ls' := [(4, .int (nI (k + 1))), (0, .ref P), (1, .int (nI l)), (2, .int (nI (y + keyWt v k))), (3, .int (nI c2)), (5, .int (nI x)), (6, .int (nI e))]) hc dL_agree_321 rfl (ad_NN _ 1) (by decide) rfl ?_
                              refine r_goto (tgt := 178) hc dL_agree_324 (by decide) ?_
                              refine r_locp [1, 2, 3, 4, 0] (ls' := [(0, .ref P), (1, .int (nI l)), (2, .int (nI (y + keyWt v k))), (3, .int (nI c2)), (4, .int (nI (k + 1)))]) rfl ?_
                              exact ih178 _ (y + keyWt v k) c2 (k + 1) (by omega) (by rw [sumN, ← hy]) hc2 hG (by omega)
                            ·
                              exfalso; omega
                    ·
                      have hdr := hG.door (d := e) (by omega)
                      refine r_iload hc dL_agree_237 rfl ?_
                      refine r_aload_n hc dL_agree_239 rfl ?_
                      refine r_iload hc dL_agree_240 rfl ?_
                      refine r_bipush (v := nI 6) hc dL_agree_242 rfl ?_
                      refine cl_L_20 (As := [.int (nI e), .int (nI 6)]) hc (qd_6 hG (by omega) (d := e) (by omega)) hG.sh rfl ⟨by decide, by decide⟩ ⟨rfl, rfl⟩ ⟨by decide, by decide⟩ rfl (Nat.le_of_ble_eq_true rfl) dL_agree_244 (fun r u hp => ?_)
                      obtain ⟨rfl, hG⟩ := hp
                      refine r_iload hc dL_agree_247 rfl ?_
                      refine cl_L_36 (As := [.int (nI (keysFor v e)), .int (nI k)]) hc (c_L_has (x := keysFor v e) (k := k) (by omega) (by omega)) rfl ⟨by decide, by decide⟩ ⟨rfl, rfl⟩ ⟨by decide, by decide⟩ rfl (Nat.le_of_ble_eq_true rfl) dL_agree_249 (fun r u hp => ?_)
                      obtain ⟨rfl, hu⟩ := hp
                      rw [hu]
                      refine r_if_eq (tgt := 262) hc dL_agree_252 (by decide) (bI_0 _) (fun c_252 => ?_) (fun c_252 => ?_)
                      ·
                        refine r_iconst (v := nI 0) hc dL_agree_262 rfl ?_
                        refine r_ior (v := nI (x ||| 0)) hc dL_agree_263 (or_NN _ _) ?_
                        refine r_istore (ls' := [(5, .int (nI (x ||| 0))), (0, .ref P), (1, .int (nI l)), (2, .int (nI (y + keyWt v k))), (3, .int (nI c2)), (4, .int (nI k)), (6, .int (nI e))]) hc dL_agree_264 (by decide) rfl ?_
                        refine r_iinc (v := nI (e + 1)) (ls' := [(6, .int (nI (e + 1))), (5, .int (nI (x ||| 0))), (0, .ref P), (1, .int (nI l)), (2, .int (nI (y + keyWt v k))), (3, .int (nI c2)), (4, .int (nI k))]) hc dL_agree_266 rfl (ad_NN _ 1) (by decide) rfl ?_
                        refine r_goto (tgt := 227) hc dL_agree_269 (by decide) ?_
                        refine r_locp [2, 3, 4, 5, 6, 1, 0] (ls' := [(0, .ref P), (1, .int (nI l)), (2, .int (nI (y + keyWt v k))), (3, .int (nI c2)), (4, .int (nI k)), (5, .int (nI (x ||| 0))), (6, .int (nI (e + 1)))]) rfl ?_
                        exact ih227 _ c2 (x ||| 0) (e + 1) (by omega) hc2 (by rw [bitsF, ← hx, if_neg (by rw [c_252]; decide)]) hG (by omega)
                      ·
                        have c_252 := bnf c_252
                        refine r_iconst (v := nI 1) hc dL_agree_255 rfl ?_
                        refine r_iload hc dL_agree_256 rfl ?_
                        refine r_ishl (v := nI (2 ^ e)) hc dL_agree_258 (sl_1 _ (by omega)) ?_
                        refine r_goto (tgt := 263) hc dL_agree_259 (by decide) ?_
                        refine r_ior (v := nI (x ||| (2 ^ e))) hc dL_agree_263 (or_NN _ _) ?_
                        refine r_istore (ls' := [(5, .int (nI (x ||| (2 ^ e)))), (0, .ref P), (1, .int (nI l)), (2, .int (nI (y + keyWt v k))), (3, .int (nI c2)), (4, .int (nI k)), (6, .int (nI e))]) hc dL_agree_264 (by decide) rfl ?_
                        refine r_iinc (v := nI (e + 1)) (ls' := [(6, .int (nI (e + 1))), (5, .int (nI (x ||| (2 ^ e)))), (0, .ref P), (1, .int (nI l)), (2, .int (nI (y + keyWt v k))), (3, .int (nI c2)), (4, .int (nI k))]) hc dL_agree_266 rfl (ad_NN _ 1) (by decide) rfl ?_
                        refine r_goto (tgt := 227) hc dL_agree_269 (by decide) ?_
                        refine r_locp [2, 3, 4, 5, 6, 1, 0] (ls' := [(0, .ref P), (1, .int (nI l)), (2, .int (nI (y + keyWt v k))), (3, .int (nI c2)), (4, .int (nI k)), (5, .int (nI (x ||| (2 ^ e)))), (6, .int (nI (e + 1)))]) rfl ?_
                        exact ih227 _ c2 (x ||| (2 ^ e)) (e + 1) (by omega) hc2 (by rw [bitsF, ← hx, if_pos c_252]) hG (by omega)
                refine r_locp [4, 5, 3, 2, 6, 1, 0] (ls' := [(0, .ref P), (1, .int (nI l)), (2, .int (nI (y + (keyWt v k)))), (3, .int (nI (c ||| 0))), (4, .int (nI k)), (5, .int (nI 0)), (6, .int (nI 0))]) rfl ?_
                exact loop227 _ _ (c ||| 0) 0 0 (by omega) hc2 rfl hG (Nat.lt_succ_self _)
              ·
                refine r_iconst (v := nI 1) hc dL_agree_211 rfl ?_
                refine r_iload hc dL_agree_212 rfl ?_
                refine r_ishl (v := nI (2 ^ k)) hc dL_agree_214 (sl_1 _ (by omega)) ?_
                refine r_goto (tgt := 219) hc dL_agree_215 (by decide) ?_
                refine r_ior (v := nI (c ||| (2 ^ k))) hc dL_agree_219 (or_NN _ _) ?_
                refine r_istore_n (ls' := [(3, .int (nI (c ||| (2 ^ k)))), (2, .int (nI (y + (keyWt v k)))), (0, .ref P), (1, .int (nI l)), (4, .int (nI k))]) hc dL_agree_220 (by decide) rfl ?_
                have hc2 : c ||| (2 ^ k) = bitsF (fun k => decide (whrR v k = 8)) (k + 1) := (by rw [bitsF, ← hcs, if_pos (decide_eq_true c_208)])
                refine r_iconst (v := nI 0) hc dL_agree_221 rfl ?_
                refine r_istore (ls' := [(5, .int (nI 0)), (3, .int (nI (c ||| (2 ^ k)))), (2, .int (nI (y + (keyWt v k)))), (0, .ref P), (1, .int (nI l)), (4, .int (nI k))]) hc dL_agree_222 (by decide) rfl ?_
                refine r_iconst (v := nI 0) hc dL_agree_224 rfl ?_
                refine r_istore (ls' := [(6, .int (nI 0)), (5, .int (nI 0)), (3, .int (nI (c ||| (2 ^ k)))), (2, .int (nI (y + (keyWt v k)))), (0, .ref P), (1, .int (nI l)), (4, .int (nI k))]) hc dL_agree_225 (by decide) rfl ?_
                have loop227 : ∀ (n227 : Nat) (S : StT) (c2 : Nat) (x : Nat) (e : Nat), (e ≤ v 4) → (c2 = bitsF (fun k => decide (whrR v k = 8)) (k + 1)) → (x = bitsF (fun e => (keysFor v e).testBit k) e) → (GS z sh P v S) → (v 4 - e) < n227 → Vw Ω Φ S (0, 0) 227 [(0, .ref P), (1, .int (nI l)), (2, .int (nI (y + keyWt v k))), (3, .int (nI c2)), (4, .int (nI k)), (5, .int (nI x)), (6, .int (nI e))] [] := by
                  intro n227
                  induction n227 with
                  | zero => intro S c2 x e he hc2 hx hG hm; exact absurd hm (Nat.not_lt_zero _)
                  | succ n227 ih227 =>
                    intro S c2 x e he hc2 hx hG hm227
                    refine r_iload hc dL_agree_227 rfl ?_
                    refine r_aload_n hc dL_agree_229 rfl ?_
                    refine r_iconst (v := nI 2) hc dL_agree_230 rfl ?_
                    refine cl_L_14 (As := [.int (nI 2)]) hc (qc_2 hG (by omega)) hG.sh rfl ⟨by decide, by decide⟩ ⟨rfl, rfl⟩ ⟨by decide, by decide⟩ rfl (Nat.le_of_ble_eq_true rfl) dL_agree_231 (fun r u hp => ?_)
                    obtain ⟨rfl, hG⟩ := hp
                    refine r_icmp_ge (tgt := 272) hc dL_agree_234 (by decide) (le_NN (by omega) (by omega)) (fun c_234 => ?_) (fun c_234 => ?_)
                    ·
                      have hxe : x = doorsOf v k := by rw [hx, show e = v 4 by omega]; exact dOf_has v (by omega)
                      refine r_aload_n hc dL_agree_272 rfl ?_
                      refine r_iload hc dL_agree_273 rfl ?_
                      refine r_iconst (v := nI 3) hc dL_agree_275 rfl ?_
                      refine cl_L_23 (As := [.int (nI k), .int (nI 3)]) hc (qk_3 hG (by omega) (k := k) (by omega)) hG.sh rfl ⟨by decide, by decide⟩ ⟨rfl, rfl⟩ ⟨by decide, by decide⟩ rfl (Nat.le_of_ble_eq_true rfl) dL_agree_276 (fun r u hp => ?_)
                      obtain ⟨rfl, hG⟩ := hp
                      refine r_iload hc dL_agree_279 rfl ?_
                      refine r_icmp_ne (tgt := 319) hc dL_agree_281 (by decide) (eq_NN (by omega) (by omega)) (fun c_281 => ?_) (fun c_281 => ?_)
                      ·
                        exfalso; omega
                      ·
                        refine r_aload_n hc dL_agree_284 rfl ?_
                        refine r_iload hc dL_agree_285 rfl ?_
                        refine r_iconst (v := nI 1) hc dL_agree_287 rfl ?_
                        refine cl_L_23 (As := [.int (nI k), .int (nI 1)]) hc (qk_1 hG (by omega) (k := k) (by omega)) hG.sh rfl ⟨by decide, by decide⟩ ⟨rfl, rfl⟩ ⟨by decide, by decide⟩ rfl (Nat.le_of_ble_eq_true rfl) dL_agree_288 (fun r u hp => ?_)
                        obtain ⟨rfl, hG⟩ := hp
                        refine r_if_ne (tgt := 298) hc dL_agree_291 (by decide) (e0_N (by omega)) (fun c_291 => ?_) (fun c_291 => ?_)
                        ·
                          refine r_iconst (v := nI 0) hc dL_agree_298 rfl ?_
                          refine r_aload_n hc dL_agree_299 rfl ?_
                          refine r_iload hc dL_agree_300 rfl ?_
                          refine r_iconst (v := nI 2) hc dL_agree_302 rfl ?_
                          refine cl_L_23 (As := [.int (nI k), .int (nI 2)]) hc (qk_2 hG (by omega) (k := k) (by omega)) hG.sh rfl ⟨by decide, by decide⟩ ⟨rfl, rfl⟩ ⟨by decide, by decide⟩ rfl (Nat.le_of_ble_eq_true rfl) dL_agree_303 (fun r u hp => ?_)
                          obtain ⟨rfl, hG⟩ := hp
                          refine r_bipush (v := nI 9) hc dL_agree_306 rfl ?_
                          refine r_icmp_ne (tgt := 315) hc dL_agree_308 (by decide) (eq_NN (by omega) (by omega)) (fun c_308 => ?_) (fun c_308 => ?_)
                          ·
                            refine r_iconst (v := nI 0) hc dL_agree_315 rfl ?_
                            refine r_icmp_eq (tgt := 321) hc dL_agree_316 (by decide) (eq_NN (by omega) (by omega)) (fun c_316 => ?_) (fun c_316 => ?_)
                            ·
                              refine r_iinc (v := nI (k + 1)) (ls' := [(4, .int (nI (k + 1))), (0, .ref P), (1, .int (nI l)), (2, .int (nI (y + keyWt v k))), (3, .int (nI c2)), (5, .int (nI x)), (6, .int (nI e))]) hc dL_agree_321 rfl (ad_NN _ 1) (by decide) rfl ?_
                              refine r_goto (tgt := 178) hc dL_agree_324 (by decide) ?_
                              refine r_locp [1, 2, 3, 4, 0] (ls' := [(0, .ref P), (1, .int (nI l)), (2, .int (nI (y + keyWt v k))), (3, .int (nI c2)), (4, .int (nI (k + 1)))]) rfl ?_
                              exact ih178 _ (y + keyWt v k) c2 (k + 1) (by omega) (by rw [sumN, ← hy]) hc2 hG (by omega)
                            ·
                              exfalso; omega
                          ·
                            refine r_iconst (v := nI 1) hc dL_agree_311 rfl ?_
                            refine r_goto (tgt := 316) hc dL_agree_312 (by decide) ?_
                            refine r_icmp_eq (tgt := 321) hc dL_agree_316 (by decide) (eq_NN (by omega) (by omega)) (fun c_316 => ?_) (fun c_316 => ?_)
                            ·
                              exfalso; omega
                            ·
                              exfalso; omega
                        ·
                          refine r_iconst (v := nI 1) hc dL_agree_294 rfl ?_
                          refine r_goto (tgt := 299) hc dL_agree_295 (by decide) ?_
                          refine r_aload_n hc dL_agree_299 rfl ?_
                          refine r_iload hc dL_agree_300 rfl ?_
                          refine r_iconst (v := nI 2) hc dL_agree_302 rfl ?_
                          refine cl_L_23 (As := [.int (nI k), .int (nI 2)]) hc (qk_2 hG (by omega) (k := k) (by omega)) hG.sh rfl ⟨by decide, by decide⟩ ⟨rfl, rfl⟩ ⟨by decide, by decide⟩ rfl (Nat.le_of_ble_eq_true rfl) dL_agree_303 (fun r u hp => ?_)
                          obtain ⟨rfl, hG⟩ := hp
                          refine r_bipush (v := nI 9) hc dL_agree_306 rfl ?_
                          refine r_icmp_ne (tgt := 315) hc dL_agree_308 (by decide) (eq_NN (by omega) (by omega)) (fun c_308 => ?_) (fun c_308 => ?_)
                          ·
                            refine r_iconst (v := nI 0) hc dL_agree_315 rfl ?_
                            refine r_icmp_eq (tgt := 321) hc dL_agree_316 (by decide) (eq_NN (by omega) (by omega)) (fun c_316 => ?_) (fun c_316 => ?_)
                            ·
                              exfalso; omega
                            ·
                              exfalso; omega
                          ·
                            refine r_iconst (v := nI 1) hc dL_agree_311 rfl ?_
                            refine r_goto (tgt := 316) hc dL_agree_312 (by decide) ?_
                            refine r_icmp_eq (tgt := 321) hc dL_agree_316 (by decide) (eq_NN (by omega) (by omega)) (fun c_316 => ?_) (fun c_316 => ?_)
                            ·
                              refine r_iinc (v := nI (k + 1)) (ls' := [(4, .int (nI (k + 1))), (0, .ref P), (1, .int (nI l)), (2, .int (nI (y + keyWt v k))), (3, .int (nI c2)), (5, .int (nI x)), (6, .int (nI e))]) hc dL_agree_321 rfl (ad_NN _ 1) (by decide) rfl ?_
                              refine r_goto (tgt := 178) hc dL_agree_324 (by decide) ?_
                              refine r_locp [1, 2, 3, 4, 0] (ls' := [(0, .ref P), (1, .int (nI l)), (2, .int (nI (y + keyWt v k))), (3, .int (nI c2)), (4, .int (nI (k + 1)))]) rfl ?_
                              exact ih178 _ (y + keyWt v k) c2 (k + 1) (by omega) (by rw [sumN, ← hy]) hc2 hG (by omega)
                            ·
                              exfalso; omega
                    ·
                      have hdr := hG.door (d := e) (by omega)
                      refine r_iload hc dL_agree_237 rfl ?_
                      refine r_aload_n hc dL_agree_239 rfl ?_
                      refine r_iload hc dL_agree_240 rfl ?_
                      refine r_bipush (v := nI 6) hc dL_agree_242 rfl ?_
                      refine cl_L_20 (As := [.int (nI e), .int (nI 6)]) hc (qd_6 hG (by omega) (d := e) (by omega)) hG.sh rfl ⟨by decide, by decide⟩ ⟨rfl, rfl⟩ ⟨by decide, by decide⟩ rfl (Nat.le_of_ble_eq_true rfl) dL_agree_244 (fun r u hp => ?_)
                      obtain ⟨rfl, hG⟩ := hp
                      refine r_iload hc dL_agree_247 rfl ?_
                      refine cl_L_36 (As := [.int (nI (keysFor v e)), .int (nI k)]) hc (c_L_has (x := keysFor v e) (k := k) (by omega) (by omega)) rfl ⟨by decide, by decide⟩ ⟨rfl, rfl⟩ ⟨by decide, by decide⟩ rfl (Nat.le_of_ble_eq_true rfl) dL_agree_249 (fun r u hp => ?_)
                      obtain ⟨rfl, hu⟩ := hp
                      rw [hu]
                      refine r_if_eq (tgt := 262) hc dL_agree_252 (by decide) (bI_0 _) (fun c_252 => ?_) (fun c_252 => ?_)
                      ·
                        refine r_iconst (v := nI 0) hc dL_agree_262 rfl ?_
                        refine r_ior (v := nI (x ||| 0)) hc dL_agree_263 (or_NN _ _) ?_
                        refine r_istore (ls' := [(5, .int (nI (x ||| 0))), (0, .ref P), (1, .int (nI l)), (2, .int (nI (y + keyWt v k))), (3, .int (nI c2)), (4, .int (nI k)), (6, .int (nI e))]) hc dL_agree_264 (by decide) rfl ?_
                        refine r_iinc (v := nI (e + 1)) (ls' := [(6, .int (nI (e + 1))), (5, .int (nI (x ||| 0))), (0, .ref P), (1, .int (nI l)), (2, .int (nI (y + keyWt v k))), (3, .int (nI c2)), (4, .int (nI k))]) hc dL_agree_266 rfl (ad_NN _ 1) (by decide) rfl ?_
                        refine r_goto (tgt := 227) hc dL_agree_269 (by decide) ?_
                        refine r_locp [2, 3, 4, 5, 6, 1, 0] (ls' := [(0, .ref P), (1, .int (nI l)), (2, .int (nI (y + keyWt v k))), (3, .int (nI c2)), (4, .int (nI k)), (5, .int (nI (x ||| 0))), (6, .int (nI (e + 1)))]) rfl ?_
                        exact ih227 _ c2 (x ||| 0) (e + 1) (by omega) hc2 (by rw [bitsF, ← hx, if_neg (by rw [c_252]; decide)]) hG (by omega)
                      ·
                        have c_252 := bnf c_252
                        refine r_iconst (v := nI 1) hc dL_agree_255 rfl ?_
                        refine r_iload hc dL_agree_256 rfl ?_
                        refine r_ishl (v := nI (2 ^ e)) hc dL_agree_258 (sl_1 _ (by omega)) ?_
                        refine r_goto (tgt := 263) hc dL_agree_259 (by decide) ?_
                        refine r_ior (v := nI (x ||| (2 ^ e))) hc dL_agree_263 (or_NN _ _) ?_
                        refine r_istore (ls' := [(5, .int (nI (x ||| (2 ^ e)))), (0, .ref P), (1, .int (nI l)), (2, .int (nI (y + keyWt v k))), (3, .int (nI c2)), (4, .int (nI k)), (6, .int (nI e))]) hc dL_agree_264 (by decide) rfl ?_
                        refine r_iinc (v := nI (e + 1)) (ls' := [(6, .int (nI (e + 1))), (5, .int (nI (x ||| (2 ^ e)))), (0, .ref P), (1, .int (nI l)), (2, .int (nI (y + keyWt v k))), (3, .int (nI c2)), (4, .int (nI k))]) hc dL_agree_266 rfl (ad_NN _ 1) (by decide) rfl ?_
                        refine r_goto (tgt := 227) hc dL_agree_269 (by decide) ?_
                        refine r_locp [2, 3, 4, 5, 6, 1, 0] (ls' := [(0, .ref P), (1, .int (nI l)), (2, .int (nI (y + keyWt v k))), (3, .int (nI c2)), (4, .int (nI k)), (5, .int (nI (x ||| (2 ^ e)))), (6, .int (nI (e + 1)))]) rfl ?_
                        exact ih227 _ c2 (x ||| (2 ^ e)) (e + 1) (by omega) hc2 (by rw [bitsF, ← hx, if_pos c_252]) hG (by omega)
                refine r_locp [4, 5, 3, 2, 6, 1, 0] (ls' := [(0, .ref P), (1, .int (nI l)), (2, .int (nI (y + (keyWt v k)))), (3, .int (nI (c ||| (2 ^ k)))), (4, .int (nI k)), (5, .int (nI 0)), (6, .int (nI 0))]) rfl ?_
                exact loop227 _ _ (c ||| (2 ^ k)) 0 0 (by omega) hc2 rfl hG (Nat.lt_succ_self _)
        refine r_locp [3, 4, 2, 1, 0] (ls' := [(0, .ref P), (1, .int (nI l)), (2, .int (nI 0)), (3, .int (nI 0)), (4, .int (nI 0))]) rfl ?_
        exact loop178 _ _ 0 0 0 (by omega) rfl rfl hG (Nat.lt_succ_self _)
      ·
        have hdr := hG.door (d := d) (by omega)
        have hne := hL.2 d (by omega)
        refine r_aload_n hc dL_agree_13 rfl ?_
        refine r_iload_n hc dL_agree_14 rfl ?_
        refine r_iconst (v := nI 2) hc dL_agree_15 rfl ?_
        refine cl_L_20 (As := [.int (nI d), .int (nI 2)]) hc (qd_2 hG (by omega) (d := d) (by omega)) hG.sh rfl ⟨by decide, by decide⟩ ⟨rfl, rfl⟩ ⟨by decide, by decide⟩ rfl (Nat.le_of_ble_eq_true rfl) dL_agree_16 (fun r u hp => ?_)
        obtain ⟨rfl, hG⟩ := hp
        refine r_istore_n (ls' := [(3, .int (nI (v (20 + 6 * d + 2)))), (0, .ref P), (1, .int (nI l)), (2, .int (nI d))]) hc dL_agree_19 (by decide) rfl ?_
        refine r_aload_n hc dL_agree_20 rfl ?_
        refine r_iload_n hc dL_agree_21 rfl ?_
        refine r_iconst (v := nI 3) hc dL_agree_22 rfl ?_
        refine cl_L_20 (As := [.int (nI d), .int (nI 3)]) hc (qd_3 hG (by omega) (d := d) (by omega)) hG.sh rfl ⟨by decide, by decide⟩ ⟨rfl, rfl⟩ ⟨by decide, by decide⟩ rfl (Nat.le_of_ble_eq_true rfl) dL_agree_23 (fun r u hp => ?_)
        obtain ⟨rfl, hG⟩ := hp
        refine r_istore (ls' := [(4, .int (nI (v (20 + 6 * d + 3)))), (3, .int (nI (v (20 + 6 * d + 2)))), (0, .ref P), (1, .int (nI l)), (2, .int (nI d))]) hc dL_agree_26 (by decide) rfl ?_
        refine r_iload_n hc dL_agree_28 rfl ?_
        refine r_aload_n hc dL_agree_29 rfl ?_
        refine r_iload_n hc dL_agree_30 rfl ?_
        refine r_iconst (v := nI 4) hc dL_agree_31 rfl ?_
        refine cl_L_20 (As := [.int (nI d), .int (nI 4)]) hc (qd_4 hG (by omega) (d := d) (by omega)) hG.sh rfl ⟨by decide, by decide⟩ ⟨rfl, rfl⟩ ⟨by decide, by decide⟩ rfl (Nat.le_of_ble_eq_true rfl) dL_agree_32 (fun r u hp => ?_)
        obtain ⟨rfl, hG⟩ := hp
        refine r_iadd (v := nI (l + (lockWt v d))) hc dL_agree_35 (ad_NN _ _) ?_
        refine r_istore_n (ls' := [(1, .int (nI (l + (lockWt v d)))), (4, .int (nI (v (20 + 6 * d + 3)))), (3, .int (nI (v (20 + 6 * d + 2)))), (0, .ref P), (2, .int (nI d))]) hc dL_agree_36 (by decide) rfl ?_
        refine r_iconst (v := nI 0) hc dL_agree_37 rfl ?_
        refine r_istore (ls' := [(5, .int (nI 0)), (1, .int (nI (l + (lockWt v d)))), (4, .int (nI (v (20 + 6 * d + 3)))), (3, .int (nI (v (20 + 6 * d + 2)))), (0, .ref P), (2, .int (nI d))]) hc dL_agree_38 (by decide) rfl ?_
        refine r_iconst (v := nI 0) hc dL_agree_40 rfl ?_
        refine r_istore (ls' := [(6, .int (nI 0)), (5, .int (nI 0)), (1, .int (nI (l + (lockWt v d)))), (4, .int (nI (v (20 + 6 * d + 3)))), (3, .int (nI (v (20 + 6 * d + 2)))), (0, .ref P), (2, .int (nI d))]) hc dL_agree_41 (by decide) rfl ?_
        have loop43 : ∀ (n43 : Nat) (S : StT) (x : Nat) (k : Nat), (k ≤ v 5) → (x = bitsF (fun k => !decide (whrR v k = 9) && opnD v (cutR v k) d) k) → (GS z sh P v S) → (v 5 - k) < n43 → Vw Ω Φ S (0, 0) 43 [(0, .ref P), (1, .int (nI (l + lockWt v d))), (2, .int (nI d)), (3, .int (nI (v (20 + 6 * d + 2)))), (4, .int (nI (v (20 + 6 * d + 3)))), (5, .int (nI x)), (6, .int (nI k))] [] := by
          intro n43
          induction n43 with
          | zero => intro S x k hk hx hG hm; exact absurd hm (Nat.not_lt_zero _)
          | succ n43 ih43 =>
            intro S x k hk hx hG hm43
            refine r_iload hc dL_agree_43 rfl ?_
            refine r_aload_n hc dL_agree_45 rfl ?_
            refine r_iconst (v := nI 3) hc dL_agree_46 rfl ?_
            refine cl_L_14 (As := [.int (nI 3)]) hc (qc_3 hG (by omega)) hG.sh rfl ⟨by decide, by decide⟩ ⟨rfl, rfl⟩ ⟨by decide, by decide⟩ rfl (Nat.le_of_ble_eq_true rfl) dL_agree_47 (fun r u hp => ?_)
            obtain ⟨rfl, hG⟩ := hp
            refine r_icmp_ge (tgt := 100) hc dL_agree_50 (by decide) (le_NN (by omega) (by omega)) (fun c_50 => ?_) (fun c_50 => ?_)
            ·
              have hxe : x = keysFor v d := by rw [hx, show k = v 5 by omega]; rfl
              refine r_aload_n hc dL_agree_100 rfl ?_
              refine r_iload_n hc dL_agree_101 rfl ?_
              refine r_iconst (v := nI 4) hc dL_agree_102 rfl ?_
              refine cl_L_20 (As := [.int (nI d), .int (nI 4)]) hc (qd_4 hG (by omega) (d := d) (by omega)) hG.sh rfl ⟨by decide, by decide⟩ ⟨rfl, rfl⟩ ⟨by decide, by decide⟩ rfl (Nat.le_of_ble_eq_true rfl) dL_agree_103 (fun r u hp => ?_)
              obtain ⟨rfl, hG⟩ := hp
              refine r_iload_n hc dL_agree_106 rfl ?_
              refine r_iload hc dL_agree_107 rfl ?_
              refine cl_L_30 (As := [.int (nI (v (20 + 6 * d + 2))), .int (nI (v (20 + 6 * d + 3)))]) hc (c_L_weight (f := v (20 + 6 * d + 2)) (s := v (20 + 6 * d + 3)) (by omega) (by omega)) rfl ⟨by decide, by decide⟩ ⟨rfl, rfl⟩ ⟨by decide, by decide⟩ rfl (Nat.le_of_ble_eq_true rfl) dL_agree_109 (fun r u hp => ?_)
              obtain ⟨rfl, hu⟩ := hp
              rw [hu]
              refine r_icmp_ne (tgt := 163) hc dL_agree_112 (by decide) (iff_of_true rfl (rfl : (0 : Nat) = 0)) (fun c_112 => ?_) (fun c_112 => ?_)
              ·
                exfalso; omega
              ·
                refine r_aload_n hc dL_agree_115 rfl ?_
                refine r_iload_n hc dL_agree_116 rfl ?_
                refine r_bipush (v := nI 6) hc dL_agree_117 rfl ?_
                refine cl_L_20 (As := [.int (nI d), .int (nI 6)]) hc (qd_6 hG (by omega) (d := d) (by omega)) hG.sh rfl ⟨by decide, by decide⟩ ⟨rfl, rfl⟩ ⟨by decide, by decide⟩ rfl (Nat.le_of_ble_eq_true rfl) dL_agree_119 (fun r u hp => ?_)
                obtain ⟨rfl, hG⟩ := hp
                refine r_iload hc dL_agree_122 rfl ?_
                refine r_icmp_ne (tgt := 163) hc dL_agree_124 (by decide) (eq_NN (by omega) (by omega)) (fun c_124 => ?_) (fun c_124 => ?_)
                ·
                  exfalso; omega
                ·
                  refine r_aload_n hc dL_agree_127 rfl ?_
                  refine r_iload_n hc dL_agree_128 rfl ?_
                  refine r_iconst (v := nI 0) hc dL_agree_129 rfl ?_
                  refine cl_L_20 (As := [.int (nI d), .int (nI 0)]) hc (qd_0 hG (by omega) (d := d) (by omega)) hG.sh rfl ⟨by decide, by decide⟩ ⟨rfl, rfl⟩ ⟨by decide, by decide⟩ rfl (Nat.le_of_ble_eq_true rfl) dL_agree_130 (fun r u hp => ?_)
                  obtain ⟨rfl, hG⟩ := hp
                  refine r_aload_n hc dL_agree_133 rfl ?_
                  refine r_iload_n hc dL_agree_134 rfl ?_
                  refine r_iconst (v := nI 1) hc dL_agree_135 rfl ?_
                  refine cl_L_20 (As := [.int (nI d), .int (nI 1)]) hc (qd_1 hG (by omega) (d := d) (by omega)) hG.sh rfl ⟨by decide, by decide⟩ ⟨rfl, rfl⟩ ⟨by decide, by decide⟩ rfl (Nat.le_of_ble_eq_true rfl) dL_agree_136 (fun r u hp => ?_)
                  obtain ⟨rfl, hG⟩ := hp
                  refine r_icmp_eq (tgt := 163) hc dL_agree_139 (by decide) (eq_NN (by omega) (by omega)) (fun c_139 => ?_) (fun c_139 => ?_)
                  ·
                    exfalso; omega
                  ·
                    refine r_aload_n hc dL_agree_142 rfl ?_
                    refine r_iload_n hc dL_agree_143 rfl ?_
                    refine r_iload_n hc dL_agree_144 rfl ?_
                    refine cl_L_33 (As := [.int (nI (v (20 + 6 * d + 2))), .int (nI d)]) hc (qo_1 hG (by omega) (d := d) (by omega)) hG.sh rfl ⟨by decide, by decide⟩ ⟨rfl, rfl⟩ ⟨by decide, by decide⟩ rfl (Nat.le_of_ble_eq_true rfl) dL_agree_145 (fun r u hp => ?_)
                    obtain ⟨rfl, hG⟩ := hp
                    refine r_iconst (v := nI 1) hc dL_agree_148 rfl ?_
                    refine r_icmp_ne (tgt := 163) hc dL_agree_149 (by decide) (eq_NN (by omega) (by omega)) (fun c_149 => ?_) (fun c_149 => ?_)
                    ·
                      exfalso; omega
                    ·
                      refine r_aload_n hc dL_agree_152 rfl ?_
                      refine r_iload hc dL_agree_153 rfl ?_
                      refine r_iload_n hc dL_agree_155 rfl ?_
                      refine cl_L_33 (As := [.int (nI (v (20 + 6 * d + 3))), .int (nI d)]) hc (qo_2 hG (by omega) (d := d) (by omega)) hG.sh rfl ⟨by decide, by decide⟩ ⟨rfl, rfl⟩ ⟨by decide, by decide⟩ rfl (Nat.le_of_ble_eq_true rfl) dL_agree_156 (fun r u hp => ?_)
                      obtain ⟨rfl, hG⟩ := hp
                      refine r_iconst (v := nI 1) hc dL_agree_159 rfl ?_
                      refine r_icmp_eq (tgt := 165) hc dL_agree_160 (by decide) (eq_NN (by omega) (by omega)) (fun c_160 => ?_) (fun c_160 => ?_)
                      ·
                        refine r_iinc (v := nI (d + 1)) (ls' := [(2, .int (nI (d + 1))), (0, .ref P), (1, .int (nI (l + lockWt v d))), (3, .int (nI (v (20 + 6 * d + 2)))), (4, .int (nI (v (20 + 6 * d + 3)))), (5, .int (nI x)), (6, .int (nI k))]) hc dL_agree_165 rfl (ad_NN _ 1) (by decide) rfl ?_
                        refine r_goto (tgt := 4) hc dL_agree_168 (by decide) ?_
                        refine r_locp [1, 2, 0] (ls' := [(0, .ref P), (1, .int (nI (l + lockWt v d))), (2, .int (nI (d + 1)))]) rfl ?_
                        exact ih4 _ (l + lockWt v d) (d + 1) (by omega) (by rw [sumN, ← hl]) hG (by omega)
                      ·
                        exfalso; omega
            ·
              have hkr := hG.key (k := k) (by omega)
              refine r_iload hc dL_agree_53 rfl ?_
              refine r_aload_n hc dL_agree_55 rfl ?_
              refine r_iload hc dL_agree_56 rfl ?_
              refine r_iconst (v := nI 2) hc dL_agree_58 rfl ?_
              refine cl_L_23 (As := [.int (nI k), .int (nI 2)]) hc (qk_2 hG (by omega) (k := k) (by omega)) hG.sh rfl ⟨by decide, by decide⟩ ⟨rfl, rfl⟩ ⟨by decide, by decide⟩ rfl (Nat.le_of_ble_eq_true rfl) dL_agree_59 (fun r u hp => ?_)
              obtain ⟨rfl, hG⟩ := hp
              refine r_bipush (v := nI 9) hc dL_agree_62 rfl ?_
              refine r_icmp_eq (tgt := 90) hc dL_agree_64 (by decide) (eq_NN (by omega) (by omega)) (fun c_64 => ?_) (fun c_64 => ?_)
              ·
                refine r_iconst (v := nI 0) hc dL_agree_90 rfl ?_
                refine r_ior (v := nI (x ||| 0)) hc dL_agree_91 (or_NN _ _) ?_
                refine r_istore (ls' := [(5, .int (nI (x ||| 0))), (0, .ref P), (1, .int (nI (l + lockWt v d))), (2, .int (nI d)), (3, .int (nI (v (20 + 6 * d + 2)))), (4, .int (nI (v (20 + 6 * d + 3)))), (6, .int (nI k))]) hc dL_agree_92 (by decide) rfl ?_
                refine r_iinc (v := nI (k + 1)) (ls' := [(6, .int (nI (k + 1))), (5, .int (nI (x ||| 0))), (0, .ref P), (1, .int (nI (l + lockWt v d))), (2, .int (nI d)), (3, .int (nI (v (20 + 6 * d + 2)))), (4, .int (nI (v (20 + 6 * d + 3))))]) hc dL_agree_94 rfl (ad_NN _ 1) (by decide) rfl ?_
                refine r_goto (tgt := 43) hc dL_agree_97 (by decide) ?_
                refine r_locp [2, 3, 4, 5, 6, 1, 0] (ls' := [(0, .ref P), (1, .int (nI (l + lockWt v d))), (2, .int (nI d)), (3, .int (nI (v (20 + 6 * d + 2)))), (4, .int (nI (v (20 + 6 * d + 3)))), (5, .int (nI (x ||| 0))), (6, .int (nI (k + 1)))]) rfl ?_
                exact ih43 _ (x ||| 0) (k + 1) (by omega) (by rw [bitsF, ← hx, if_neg (by show ¬ (!decide (v (80 + 4 * k + 2) = 9) && fitL (v (80 + 4 * k)) (v (20 + 6 * d + 2)) (v (20 + 6 * d + 3))) = true; rw [decide_eq_true c_64]; simp)]) hG (by omega)
              ·
                refine r_aload_n hc dL_agree_67 rfl ?_
                refine r_iload hc dL_agree_68 rfl ?_
                refine r_iconst (v := nI 0) hc dL_agree_70 rfl ?_
                refine cl_L_23 (As := [.int (nI k), .int (nI 0)]) hc (qk_0 hG (by omega) (k := k) (by omega)) hG.sh rfl ⟨by decide, by decide⟩ ⟨rfl, rfl⟩ ⟨by decide, by decide⟩ rfl (Nat.le_of_ble_eq_true rfl) dL_agree_71 (fun r u hp => ?_)
                obtain ⟨rfl, hG⟩ := hp
                refine r_iload_n hc dL_agree_74 rfl ?_
                refine r_iload hc dL_agree_75 rfl ?_
                refine cl_L_26 (As := [.int (nI (v (80 + 4 * k))), .int (nI (v (20 + 6 * d + 2))), .int (nI (v (20 + 6 * d + 3)))]) hc (c_L_fits (c := v (80 + 4 * k)) (f := v (20 + 6 * d + 2)) (s := v (20 + 6 * d + 3)) (by omega) (by omega) (by omega)) rfl ⟨by decide, by decide⟩ ⟨rfl, rfl⟩ ⟨by decide, by decide⟩ rfl (Nat.le_of_ble_eq_true rfl) dL_agree_77 (fun r u hp => ?_)
                obtain ⟨rfl, hu⟩ := hp
                rw [hu]
                refine r_if_eq (tgt := 90) hc dL_agree_80 (by decide) (bI_0 _) (fun c_80 => ?_) (fun c_80 => ?_)
                ·
                  refine r_iconst (v := nI 0) hc dL_agree_90 rfl ?_
                  refine r_ior (v := nI (x ||| 0)) hc dL_agree_91 (or_NN _ _) ?_
                  refine r_istore (ls' := [(5, .int (nI (x ||| 0))), (0, .ref P), (1, .int (nI (l + lockWt v d))), (2, .int (nI d)), (3, .int (nI (v (20 + 6 * d + 2)))), (4, .int (nI (v (20 + 6 * d + 3)))), (6, .int (nI k))]) hc dL_agree_92 (by decide) rfl ?_
                  refine r_iinc (v := nI (k + 1)) (ls' := [(6, .int (nI (k + 1))), (5, .int (nI (x ||| 0))), (0, .ref P), (1, .int (nI (l + lockWt v d))), (2, .int (nI d)), (3, .int (nI (v (20 + 6 * d + 2)))), (4, .int (nI (v (20 + 6 * d + 3))))]) hc dL_agree_94 rfl (ad_NN _ 1) (by decide) rfl ?_
                  refine r_goto (tgt := 43) hc dL_agree_97 (by decide) ?_
                  refine r_locp [2, 3, 4, 5, 6, 1, 0] (ls' := [(0, .ref P), (1, .int (nI (l + lockWt v d))), (2, .int (nI d)), (3, .int (nI (v (20 + 6 * d + 2)))), (4, .int (nI (v (20 + 6 * d + 3)))), (5, .int (nI (x ||| 0))), (6, .int (nI (k + 1)))]) rfl ?_
                  exact ih43 _ (x ||| 0) (k + 1) (by omega) (by rw [bitsF, ← hx, if_neg (by show ¬ (!decide (v (80 + 4 * k + 2) = 9) && fitL (v (80 + 4 * k)) (v (20 + 6 * d + 2)) (v (20 + 6 * d + 3))) = true; rw [c_80, Bool.and_false]; decide)]) hG (by omega)
                ·
                  have c_80 := bnf c_80
                  refine r_iconst (v := nI 1) hc dL_agree_83 rfl ?_
                  refine r_iload hc dL_agree_84 rfl ?_
                  refine r_ishl (v := nI (2 ^ k)) hc dL_agree_86 (sl_1 _ (by omega)) ?_
                  refine r_goto (tgt := 91) hc dL_agree_87 (by decide) ?_
                  refine r_ior (v := nI (x ||| (2 ^ k))) hc dL_agree_91 (or_NN _ _) ?_
                  refine r_istore (ls' := [(5, .int (nI (x ||| (2 ^ k)))), (0, .ref P), (1, .int (nI (l + lockWt v d))), (2, .int (nI d)), (3, .int (nI (v (20 + 6 * d + 2)))), (4, .int (nI (v (20 + 6 * d + 3)))), (6, .int (nI k))]) hc dL_agree_92 (by decide) rfl ?_
                  refine r_iinc (v := nI (k + 1)) (ls' := [(6, .int (nI (k + 1))), (5, .int (nI (x ||| (2 ^ k)))), (0, .ref P), (1, .int (nI (l + lockWt v d))), (2, .int (nI d)), (3, .int (nI (v (20 + 6 * d + 2)))), (4, .int (nI (v (20 + 6 * d + 3))))]) hc dL_agree_94 rfl (ad_NN _ 1) (by decide) rfl ?_
                  refine r_goto (tgt := 43) hc dL_agree_97 (by decide) ?_
                  refine r_locp [2, 3, 4, 5, 6, 1, 0] (ls' := [(0, .ref P), (1, .int (nI (l + lockWt v d))), (2, .int (nI d)), (3, .int (nI (v (20 + 6 * d + 2)))), (4, .int (nI (v (20 + 6 * d + 3)))), (5, .int (nI (x ||| (2 ^ k)))), (6, .int (nI (k + 1)))]) rfl ?_
                  exact ih43 _ (x ||| (2 ^ k)) (k + 1) (by omega) (by rw [bitsF, ← hx, if_pos (by show (!decide (v (80 + 4 * k + 2) = 9) && fitL (v (80 + 4 * k)) (v (20 + 6 * d + 2)) (v (20 + 6 * d + 3))) = true; rw [decide_eq_false c_64]; exact c_80)]) hG (by omega)
        refine r_locp [5, 2, 6, 4, 3, 1, 0] (ls' := [(0, .ref P), (1, .int (nI (l + (lockWt v d)))), (2, .int (nI d)), (3, .int (nI (v (20 + 6 * d + 2)))), (4, .int (nI (v (20 + 6 * d + 3)))), (5, .int (nI 0)), (6, .int (nI 0))]) rfl ?_
        exact loop43 _ _ 0 0 (by omega) rfl hG (Nat.lt_succ_self _)
  refine r_locp [2, 1, 0] (ls' := [(0, .ref P), (1, .int (nI 0)), (2, .int (nI 0))]) rfl ?_
  exact loop4 _ _ 0 0 (by omega) rfl hG (Nat.lt_succ_self _)
set_option maxRecDepth 100000 in
set_option maxHeartbeats 4000000 in
theorem c_L_isAct {Ω : OmT} {z : Nat} {sh : Nat → Option Kd} {P : Nat} {v : Nat → Nat} {S : StT} (hG : GS z sh P v S) (hL : Led v) (hB : v 6 ≤ 800000000) {a : Nat} (ha : a < 8000) : CtI Ω yL_isAct cL_isAct 10 .boolean rm_L_isAct [.ref P, .ref (scB Ω), .int (nI a)] S (fun r u => r = nI 1 ∧ ∃ w, GS z sh P w u ∧ Led w ∧ w 6 ≤ v 6 + 100) := by
  have hn := hG.nums
  have hL1 := hL.1
  refine CtI.enter (by decide) (Nat.le_of_ble_eq_true rfl) (fun Φ hc hR => ?_)
  show Vw Ω Φ S (0, 0) 0 [(0, .ref P), (1, .ref (scB Ω)), (2, .int (nI a))] []
  refine r_aload_n hc dL_isAct_0 rfl ?_
  refine r_iload_n hc dL_isAct_1 rfl ?_
  refine r_iconst (v := nI 1) hc dL_isAct_2 rfl ?_
  refine r_iadd (v := nI (a + 1)) hc dL_isAct_3 (ad_NN _ _) ?_
  refine r_aload_n hc dL_isAct_4 rfl ?_
  refine r_iconst (v := nI 2) hc dL_isAct_5 rfl ?_
  refine cl_L_14 (As := [.int (nI 2)]) hc (qc_2 hG (by omega)) hG.sh rfl ⟨by decide, by decide⟩ ⟨rfl, rfl⟩ ⟨by decide, by decide⟩ rfl (Nat.le_of_ble_eq_true rfl) dL_isAct_6 (fun r u hp => ?_)
  obtain ⟨rfl, hG⟩ := hp
  refine r_iconst (v := nI 1) hc dL_isAct_9 rfl ?_
  refine r_iadd (v := nI (v 4 + 1)) hc dL_isAct_10 (ad_NN _ _) ?_
  refine cl_L_95 (As := [.ref (scB Ω), .int (nI (a + 1)), .int (nI (v 4 + 1))]) hc (c_L_cell (k := a + 1) (n := v 4 + 1) (by omega) (by omega) (by omega)) rfl ⟨by decide, by decide⟩ ⟨rfl, rfl⟩ ⟨by decide, by decide⟩ rfl (Nat.le_of_ble_eq_true rfl) dL_isAct_11 (fun r u hp => ?_)
  obtain ⟨m_11, hm_11, rfl, hu⟩ := hp
  rw [hu]
  refine r_istore_n (ls' := [(3, .int (nI m_11)), (0, .ref P), (1, .ref (scB Ω)), (2, .int (nI a))]) hc dL_isAct_14 (by decide) rfl ?_
  refine r_aload_n hc dL_isAct_15 rfl ?_
  refine r_iload_n hc dL_isAct_16 rfl ?_
  refine r_iconst (v := nI 1) hc dL_isAct_17 rfl ?_
  refine r_iadd (v := nI (a + 1)) hc dL_isAct_18 (ad_NN _ _) ?_
  refine r_aload_n hc dL_isAct_19 rfl ?_
  refine r_iconst (v := nI 3) hc dL_isAct_20 rfl ?_
  refine cl_L_14 (As := [.int (nI 3)]) hc (qc_3 hG (by omega)) hG.sh rfl ⟨by decide, by decide⟩ ⟨rfl, rfl⟩ ⟨by decide, by decide⟩ rfl (Nat.le_of_ble_eq_true rfl) dL_isAct_21 (fun r u hp => ?_)
  obtain ⟨rfl, hG⟩ := hp
  refine r_iconst (v := nI 1) hc dL_isAct_24 rfl ?_
  refine r_iadd (v := nI (v 5 + 1)) hc dL_isAct_25 (ad_NN _ _) ?_
  refine cl_L_95 (As := [.ref (scB Ω), .int (nI (a + 1)), .int (nI (v 5 + 1))]) hc (c_L_cell (k := a + 1) (n := v 5 + 1) (by omega) (by omega) (by omega)) rfl ⟨by decide, by decide⟩ ⟨rfl, rfl⟩ ⟨by decide, by decide⟩ rfl (Nat.le_of_ble_eq_true rfl) dL_isAct_26 (fun r u hp => ?_)
  obtain ⟨m_26, hm_26, rfl, hu⟩ := hp
  rw [hu]
  refine r_istore (ls' := [(4, .int (nI m_26)), (3, .int (nI m_11)), (0, .ref P), (1, .ref (scB Ω)), (2, .int (nI a))]) hc dL_isAct_29 (by decide) rfl ?_
  refine r_aload_n hc dL_isAct_31 rfl ?_
  refine r_iload_n hc dL_isAct_32 rfl ?_
  refine r_iconst (v := nI 2) hc dL_isAct_33 rfl ?_
  refine r_iadd (v := nI (a + 2)) hc dL_isAct_34 (ad_NN _ _) ?_
  refine cl_L_99 (As := [.ref (scB Ω), .int (nI (a + 2))]) hc (c_L_row (a := a + 2) (by omega)) rfl ⟨by decide, by decide⟩ ⟨rfl, rfl⟩ ⟨by decide, by decide⟩ rfl (Nat.le_of_ble_eq_true rfl) dL_isAct_35 (fun r u hp => ?_)
  obtain ⟨m_35, hm_35, rfl, hu⟩ := hp
  rw [hu]
  refine r_istore (ls' := [(5, .int (nI m_35)), (4, .int (nI m_26)), (3, .int (nI m_11)), (0, .ref P), (1, .ref (scB Ω)), (2, .int (nI a))]) hc dL_isAct_38 (by decide) rfl ?_
  refine r_aload_n hc dL_isAct_40 rfl ?_
  refine r_iload_n hc dL_isAct_41 rfl ?_
  refine r_iconst (v := nI 3) hc dL_isAct_42 rfl ?_
  refine r_iadd (v := nI (a + 3)) hc dL_isAct_43 (ad_NN _ _) ?_
  refine cl_L_99 (As := [.ref (scB Ω), .int (nI (a + 3))]) hc (c_L_row (a := a + 3) (by omega)) rfl ⟨by decide, by decide⟩ ⟨rfl, rfl⟩ ⟨by decide, by decide⟩ rfl (Nat.le_of_ble_eq_true rfl) dL_isAct_44 (fun r u hp => ?_)
  obtain ⟨m_44, hm_44, rfl, hu⟩ := hp
  rw [hu]
  refine r_istore (ls' := [(6, .int (nI m_44)), (5, .int (nI m_35)), (4, .int (nI m_26)), (3, .int (nI m_11)), (0, .ref P), (1, .ref (scB Ω)), (2, .int (nI a))]) hc dL_isAct_47 (by decide) rfl ?_
  refine r_aload_n hc dL_isAct_49 rfl ?_
  refine r_iload_n hc dL_isAct_50 rfl ?_
  refine r_bipush (v := nI 18) hc dL_isAct_51 rfl ?_
  refine cl_L_95 (As := [.ref (scB Ω), .int (nI a), .int (nI 18)]) hc (c_L_cell (k := a) (n := 18) (by omega) (by omega) (by omega)) rfl ⟨by decide, by decide⟩ ⟨rfl, rfl⟩ ⟨by decide, by decide⟩ rfl (Nat.le_of_ble_eq_true rfl) dL_isAct_53 (fun r u hp => ?_)
  obtain ⟨m_53, hm_53, rfl, hu⟩ := hp
  rw [hu]
  rcases (show m_53 = 0 ∨ m_53 = 1 ∨ m_53 = 2 ∨ m_53 = 3 ∨ m_53 = 4 ∨ m_53 = 5 ∨ m_53 = 6 ∨ m_53 = 7 ∨ m_53 = 8 ∨ m_53 = 9 ∨ m_53 = 10 ∨ m_53 = 11 ∨ m_53 = 12 ∨ m_53 = 13 ∨ m_53 = 14 ∨ m_53 = 15 ∨ m_53 = 16 ∨ m_53 = 17 by omega) with rfl | rfl | rfl | rfl | rfl | rfl | rfl | rfl | rfl | rfl | rfl | rfl | rfl | rfl | rfl | rfl | rfl | rfl
  ·
    refine r_tableIn (off := 84) (tgt := 140) hc dL_isAct_56 (by decide) (by decide) (by decide) (by decide) ?_
    refine r_aload_n hc dL_isAct_140 rfl ?_
    refine r_iload_n hc dL_isAct_141 rfl ?_
    refine r_iload hc dL_isAct_142 rfl ?_
    refine r_iload hc dL_isAct_144 rfl ?_
    refine cl_L_103 (As := [.ref P, .int (nI m_11), .int (nI m_35), .int (nI m_44)]) hc (c_L_isCut hG hL hB (d := m_11) (f := m_35) (s := m_44) (by omega) (by omega) (by omega)) rfl ⟨by decide, by decide⟩ ⟨rfl, rfl⟩ ⟨by decide, by decide⟩ rfl (Nat.le_of_ble_eq_true rfl) dL_isAct_146 (fun r u hp => ?_)
    obtain ⟨rfl, w, hG, hL, h6⟩ := hp
    exact hR _ _ ⟨rfl, w, hG, hL, by omega⟩ rfl _ _ dL_isAct_149
  ·
    refine r_tableIn (off := 84) (tgt := 140) hc dL_isAct_56 (by decide) (by decide) (by decide) (by decide) ?_
    refine r_aload_n hc dL_isAct_140 rfl ?_
    refine r_iload_n hc dL_isAct_141 rfl ?_
    refine r_iload hc dL_isAct_142 rfl ?_
    refine r_iload hc dL_isAct_144 rfl ?_
    refine cl_L_103 (As := [.ref P, .int (nI m_11), .int (nI m_35), .int (nI m_44)]) hc (c_L_isCut hG hL hB (d := m_11) (f := m_35) (s := m_44) (by omega) (by omega) (by omega)) rfl ⟨by decide, by decide⟩ ⟨rfl, rfl⟩ ⟨by decide, by decide⟩ rfl (Nat.le_of_ble_eq_true rfl) dL_isAct_146 (fun r u hp => ?_)
    obtain ⟨rfl, w, hG, hL, h6⟩ := hp
    exact hR _ _ ⟨rfl, w, hG, hL, by omega⟩ rfl _ _ dL_isAct_149
  ·
    refine r_tableIn (off := 94) (tgt := 150) hc dL_isAct_56 (by decide) (by decide) (by decide) (by decide) ?_
    refine r_aload_n hc dL_isAct_150 rfl ?_
    refine r_iload hc dL_isAct_151 rfl ?_
    refine r_aload_n hc dL_isAct_153 rfl ?_
    refine r_iload_n hc dL_isAct_154 rfl ?_
    refine r_iconst (v := nI 4) hc dL_isAct_155 rfl ?_
    refine r_iadd (v := nI (a + 4)) hc dL_isAct_156 (ad_NN _ _) ?_
    refine r_iconst (v := nI 4) hc dL_isAct_157 rfl ?_
    refine cl_L_95 (As := [.ref (scB Ω), .int (nI (a + 4)), .int (nI 4)]) hc (c_L_cell (k := a + 4) (n := 4) (by omega) (by omega) (by omega)) rfl ⟨by decide, by decide⟩ ⟨rfl, rfl⟩ ⟨by decide, by decide⟩ rfl (Nat.le_of_ble_eq_true rfl) dL_isAct_158 (fun r u hp => ?_)
    obtain ⟨m_158, hm_158, rfl, hu⟩ := hp
    rw [hu]
    refine cl_L_107 (As := [.ref P, .int (nI m_35), .int (nI m_158)]) hc (c_L_isCutKey hG hL (by omega) (c := m_35) (r := m_158) (by omega) (by omega)) rfl ⟨by decide, by decide⟩ ⟨rfl, rfl⟩ ⟨by decide, by decide⟩ rfl (Nat.le_of_ble_eq_true rfl) dL_isAct_161 (fun r u hp => ?_)
    obtain ⟨rfl, w, hG, hL, h6⟩ := hp
    exact hR _ _ ⟨rfl, w, hG, hL, by omega⟩ rfl _ _ dL_isAct_164
  ·
    refine r_tableIn (off := 94) (tgt := 150) hc dL_isAct_56 (by decide) (by decide) (by decide) (by decide) ?_
    refine r_aload_n hc dL_isAct_150 rfl ?_
    refine r_iload hc dL_isAct_151 rfl ?_
    refine r_aload_n hc dL_isAct_153 rfl ?_
    refine r_iload_n hc dL_isAct_154 rfl ?_
    refine r_iconst (v := nI 4) hc dL_isAct_155 rfl ?_
    refine r_iadd (v := nI (a + 4)) hc dL_isAct_156 (ad_NN _ _) ?_
    refine r_iconst (v := nI 4) hc dL_isAct_157 rfl ?_
    refine cl_L_95 (As := [.ref (scB Ω), .int (nI (a + 4)), .int (nI 4)]) hc (c_L_cell (k := a + 4) (n := 4) (by omega) (by omega) (by omega)) rfl ⟨by decide, by decide⟩ ⟨rfl, rfl⟩ ⟨by decide, by decide⟩ rfl (Nat.le_of_ble_eq_true rfl) dL_isAct_158 (fun r u hp => ?_)
    obtain ⟨m_158, hm_158, rfl, hu⟩ := hp
    rw [hu]
    refine cl_L_107 (As := [.ref P, .int (nI m_35), .int (nI m_158)]) hc (c_L_isCutKey hG hL (by omega) (c := m_35) (r := m_158) (by omega) (by omega)) rfl ⟨by decide, by decide⟩ ⟨rfl, rfl⟩ ⟨by decide, by decide⟩ rfl (Nat.le_of_ble_eq_true rfl) dL_isAct_161 (fun r u hp => ?_)
    obtain ⟨rfl, w, hG, hL, h6⟩ := hp
    exact hR _ _ ⟨rfl, w, hG, hL, by omega⟩ rfl _ _ dL_isAct_164
  ·
    refine r_tableIn (off := 109) (tgt := 165) hc dL_isAct_56 (by decide) (by decide) (by decide) (by decide) ?_
    refine r_aload_n hc dL_isAct_165 rfl ?_
    refine r_iload hc dL_isAct_166 rfl ?_
    refine cl_L_111 (As := [.ref P, .int (nI m_26)]) hc (c_L_isMelted hG hL hB (k := m_26) (by omega)) rfl ⟨by decide, by decide⟩ ⟨rfl, rfl⟩ ⟨by decide, by decide⟩ rfl (Nat.le_of_ble_eq_true rfl) dL_isAct_168 (fun r u hp => ?_)
    obtain ⟨rfl, w, hG, hL, h6⟩ := hp
    exact hR _ _ ⟨rfl, w, hG, hL, by omega⟩ rfl _ _ dL_isAct_171
  ·
    refine r_tableIn (off := 116) (tgt := 172) hc dL_isAct_56 (by decide) (by decide) (by decide) (by decide) ?_
    refine r_aload_n hc dL_isAct_172 rfl ?_
    refine r_iload hc dL_isAct_173 rfl ?_
    refine cl_L_115 (As := [.ref P, .int (nI m_26)]) hc (c_L_isTaken hG hL hB (k := m_26) (by omega)) rfl ⟨by decide, by decide⟩ ⟨rfl, rfl⟩ ⟨by decide, by decide⟩ rfl (Nat.le_of_ble_eq_true rfl) dL_isAct_175 (fun r u hp => ?_)
    obtain ⟨rfl, w, hG, hL, h6⟩ := hp
    exact hR _ _ ⟨rfl, w, hG, hL, by omega⟩ rfl _ _ dL_isAct_178
  ·
    refine r_tableIn (off := 116) (tgt := 172) hc dL_isAct_56 (by decide) (by decide) (by decide) (by decide) ?_
    refine r_aload_n hc dL_isAct_172 rfl ?_
    refine r_iload hc dL_isAct_173 rfl ?_
    refine cl_L_115 (As := [.ref P, .int (nI m_26)]) hc (c_L_isTaken hG hL hB (k := m_26) (by omega)) rfl ⟨by decide, by decide⟩ ⟨rfl, rfl⟩ ⟨by decide, by decide⟩ rfl (Nat.le_of_ble_eq_true rfl) dL_isAct_175 (fun r u hp => ?_)
    obtain ⟨rfl, w, hG, hL, h6⟩ := hp
    exact hR _ _ ⟨rfl, w, hG, hL, by omega⟩ rfl _ _ dL_isAct_178
  ·
    refine r_tableIn (off := 116) (tgt := 172) hc dL_isAct_56 (by decide) (by decide) (by decide) (by decide) ?_
    refine r_aload_n hc dL_isAct_172 rfl ?_
    refine r_iload hc dL_isAct_173 rfl ?_
    refine cl_L_115 (As := [.ref P, .int (nI m_26)]) hc (c_L_isTaken hG hL hB (k := m_26) (by omega)) rfl ⟨by decide, by decide⟩ ⟨rfl, rfl⟩ ⟨by decide, by decide⟩ rfl (Nat.le_of_ble_eq_true rfl) dL_isAct_175 (fun r u hp => ?_)
    obtain ⟨rfl, w, hG, hL, h6⟩ := hp
    exact hR _ _ ⟨rfl, w, hG, hL, by omega⟩ rfl _ _ dL_isAct_178
  ·
    refine r_tableIn (off := 123) (tgt := 179) hc dL_isAct_56 (by decide) (by decide) (by decide) (by decide) ?_
    refine r_aload_n hc dL_isAct_179 rfl ?_
    refine r_iload hc dL_isAct_180 rfl ?_
    refine cl_L_118 (As := [.ref P, .int (nI m_26)]) hc (c_L_isPut hG hL hB (k := m_26) (by omega)) rfl ⟨by decide, by decide⟩ ⟨rfl, rfl⟩ ⟨by decide, by decide⟩ rfl (Nat.le_of_ble_eq_true rfl) dL_isAct_182 (fun r u hp => ?_)
    obtain ⟨rfl, w, hG, hL, h6⟩ := hp
    exact hR _ _ ⟨rfl, w, hG, hL, by omega⟩ rfl _ _ dL_isAct_185
  ·
    refine r_tableIn (off := 130) (tgt := 186) hc dL_isAct_56 (by decide) (by decide) (by decide) (by decide) ?_
    refine r_aload_n hc dL_isAct_186 rfl ?_
    refine r_iload_n hc dL_isAct_187 rfl ?_
    refine cl_L_121 (As := [.ref P, .int (nI m_11)]) hc (c_L_isGone hG hL hB (d := m_11) (by omega)) rfl ⟨by decide, by decide⟩ ⟨rfl, rfl⟩ ⟨by decide, by decide⟩ rfl (Nat.le_of_ble_eq_true rfl) dL_isAct_188 (fun r u hp => ?_)
    obtain ⟨rfl, w, hG, hL, h6⟩ := hp
    exact hR _ _ ⟨rfl, w, hG, hL, by omega⟩ rfl _ _ dL_isAct_191
  ·
    refine r_tableIn (off := 130) (tgt := 186) hc dL_isAct_56 (by decide) (by decide) (by decide) (by decide) ?_
    refine r_aload_n hc dL_isAct_186 rfl ?_
    refine r_iload_n hc dL_isAct_187 rfl ?_
    refine cl_L_121 (As := [.ref P, .int (nI m_11)]) hc (c_L_isGone hG hL hB (d := m_11) (by omega)) rfl ⟨by decide, by decide⟩ ⟨rfl, rfl⟩ ⟨by decide, by decide⟩ rfl (Nat.le_of_ble_eq_true rfl) dL_isAct_188 (fun r u hp => ?_)
    obtain ⟨rfl, w, hG, hL, h6⟩ := hp
    exact hR _ _ ⟨rfl, w, hG, hL, by omega⟩ rfl _ _ dL_isAct_191
  ·
    refine r_tableIn (off := 130) (tgt := 186) hc dL_isAct_56 (by decide) (by decide) (by decide) (by decide) ?_
    refine r_aload_n hc dL_isAct_186 rfl ?_
    refine r_iload_n hc dL_isAct_187 rfl ?_
    refine cl_L_121 (As := [.ref P, .int (nI m_11)]) hc (c_L_isGone hG hL hB (d := m_11) (by omega)) rfl ⟨by decide, by decide⟩ ⟨rfl, rfl⟩ ⟨by decide, by decide⟩ rfl (Nat.le_of_ble_eq_true rfl) dL_isAct_188 (fun r u hp => ?_)
    obtain ⟨rfl, w, hG, hL, h6⟩ := hp
    exact hR _ _ ⟨rfl, w, hG, hL, by omega⟩ rfl _ _ dL_isAct_191
  ·
    refine r_tableIn (off := 136) (tgt := 192) hc dL_isAct_56 (by decide) (by decide) (by decide) (by decide) ?_
    refine r_aload_n hc dL_isAct_192 rfl ?_
    refine r_iload_n hc dL_isAct_193 rfl ?_
    refine r_iload hc dL_isAct_194 rfl ?_
    refine r_iload hc dL_isAct_196 rfl ?_
    refine cl_L_124 (As := [.ref P, .int (nI m_11), .int (nI m_35), .int (nI m_44)]) hc (c_L_isPlanned hG hL hB (d := m_11) (f := m_35) (s := m_44) (by omega) (by omega) (by omega)) rfl ⟨by decide, by decide⟩ ⟨rfl, rfl⟩ ⟨by decide, by decide⟩ rfl (Nat.le_of_ble_eq_true rfl) dL_isAct_198 (fun r u hp => ?_)
    obtain ⟨rfl, w, hG, hL, h6⟩ := hp
    exact hR _ _ ⟨rfl, w, hG, hL, by omega⟩ rfl _ _ dL_isAct_201
  ·
    refine r_tableIn (off := 136) (tgt := 192) hc dL_isAct_56 (by decide) (by decide) (by decide) (by decide) ?_
    refine r_aload_n hc dL_isAct_192 rfl ?_
    refine r_iload_n hc dL_isAct_193 rfl ?_
    refine r_iload hc dL_isAct_194 rfl ?_
    refine r_iload hc dL_isAct_196 rfl ?_
    refine cl_L_124 (As := [.ref P, .int (nI m_11), .int (nI m_35), .int (nI m_44)]) hc (c_L_isPlanned hG hL hB (d := m_11) (f := m_35) (s := m_44) (by omega) (by omega) (by omega)) rfl ⟨by decide, by decide⟩ ⟨rfl, rfl⟩ ⟨by decide, by decide⟩ rfl (Nat.le_of_ble_eq_true rfl) dL_isAct_198 (fun r u hp => ?_)
    obtain ⟨rfl, w, hG, hL, h6⟩ := hp
    exact hR _ _ ⟨rfl, w, hG, hL, by omega⟩ rfl _ _ dL_isAct_201
  ·
    refine r_tableIn (off := 146) (tgt := 202) hc dL_isAct_56 (by decide) (by decide) (by decide) (by decide) ?_
    refine r_aload_n hc dL_isAct_202 rfl ?_
    refine cl_L_127 (As := [.ref P]) hc (c_L_isCarried hG hL hB) rfl ⟨by decide, by decide⟩ ⟨rfl, rfl⟩ ⟨by decide, by decide⟩ rfl (Nat.le_of_ble_eq_true rfl) dL_isAct_203 (fun r u hp => ?_)
    obtain ⟨rfl, w, hG, hL, h6⟩ := hp
    exact hR _ _ ⟨rfl, w, hG, hL, by omega⟩ rfl _ _ dL_isAct_206
  ·
    refine r_tableIn (off := 151) (tgt := 207) hc dL_isAct_56 (by decide) (by decide) (by decide) (by decide) ?_
    refine r_aload_n hc dL_isAct_207 rfl ?_
    refine r_bipush (v := nI 7) hc dL_isAct_208 rfl ?_
    refine cl_L_14 (As := [.int (nI 7)]) hc (qc_7 hG (by omega)) hG.sh rfl ⟨by decide, by decide⟩ ⟨rfl, rfl⟩ ⟨by decide, by decide⟩ rfl (Nat.le_of_ble_eq_true rfl) dL_isAct_210 (fun r u hp => ?_)
    obtain ⟨rfl, hG⟩ := hp
    refine r_istore (ls' := [(7, .int (nI (v 7))), (6, .int (nI m_44)), (5, .int (nI m_35)), (4, .int (nI m_26)), (3, .int (nI m_11)), (0, .ref P), (1, .ref (scB Ω)), (2, .int (nI a))]) hc dL_isAct_213 (by decide) rfl ?_
    refine r_iconst (v := nI 1) hc dL_isAct_215 rfl ?_
    refine r_aload_n hc dL_isAct_216 rfl ?_
    refine r_iload_n hc dL_isAct_217 rfl ?_
    refine r_iconst (v := nI 4) hc dL_isAct_218 rfl ?_
    refine r_iadd (v := nI (a + 4)) hc dL_isAct_219 (ad_NN _ _) ?_
    refine r_bipush (v := nI 40) hc dL_isAct_220 rfl ?_
    refine cl_L_95 (As := [.ref (scB Ω), .int (nI (a + 4)), .int (nI 40)]) hc (c_L_cell (k := a + 4) (n := 40) (by omega) (by omega) (by omega)) rfl ⟨by decide, by decide⟩ ⟨rfl, rfl⟩ ⟨by decide, by decide⟩ rfl (Nat.le_of_ble_eq_true rfl) dL_isAct_222 (fun r u hp => ?_)
    obtain ⟨m_222, hm_222, rfl, hu⟩ := hp
    rw [hu]
    refine r_iadd (v := nI (1 + m_222)) hc dL_isAct_225 (ad_NN _ _) ?_
    refine r_istore (ls' := [(8, .int (nI (1 + m_222))), (7, .int (nI (v 7))), (6, .int (nI m_44)), (5, .int (nI m_35)), (4, .int (nI m_26)), (3, .int (nI m_11)), (0, .ref P), (1, .ref (scB Ω)), (2, .int (nI a))]) hc dL_isAct_226 (by decide) rfl ?_
    refine r_aload_n hc dL_isAct_228 rfl ?_
    refine r_iload hc dL_isAct_229 rfl ?_
    refine cl_L_131 (As := [.int (nI (1 + m_222))]) hc (m_brass hG (by omega) (g := 1 + m_222) (by omega)) hG.sh rfl ⟨by decide, by decide⟩ ⟨rfl, rfl⟩ ⟨by decide, by decide⟩ rfl (Nat.le_of_ble_eq_true rfl) dL_isAct_231 (fun r u hp => ?_)
    obtain ⟨X, rfl, hG2, hX⟩ := hp
    obtain ⟨w, hE, hL, e6, w7⟩ := t_brass hG.ok hL (g := 1 + m_222) (by omega)
    rw [hE] at hX
    subst hX
    have hG : GS z sh P w u := hG2
    have hL21 := hL.1
    refine r_iload hc dL_isAct_234 rfl ?_
    refine r_iload hc dL_isAct_236 rfl ?_
    refine r_iadd (v := nI (v 7 + (1 + m_222))) hc dL_isAct_238 (ad_NN _ _) ?_
    refine r_icmp_ne (tgt := 260) hc dL_isAct_239 (by decide) (eq_ZN (by omega) (by omega)) (fun c_239 => ?_) (fun c_239 => ?_)
    ·
      exfalso; omega
    ·
      refine r_aload_n hc dL_isAct_242 rfl ?_
      refine r_bipush (v := nI 7) hc dL_isAct_243 rfl ?_
      refine cl_L_14 (As := [.int (nI 7)]) hc (qc_7 hG (by omega)) hG.sh rfl ⟨by decide, by decide⟩ ⟨rfl, rfl⟩ ⟨by decide, by decide⟩ rfl (Nat.le_of_ble_eq_true rfl) dL_isAct_245 (fun r u hp => ?_)
      obtain ⟨rfl, hG⟩ := hp
      refine r_iload hc dL_isAct_248 rfl ?_
      refine r_iload hc dL_isAct_250 rfl ?_
      refine r_iadd (v := nI (v 7 + (1 + m_222))) hc dL_isAct_252 (ad_NN _ _) ?_
      refine r_icmp_ne (tgt := 260) hc dL_isAct_253 (by decide) (eq_NN (by omega) (by omega)) (fun c_253 => ?_) (fun c_253 => ?_)
      ·
        exfalso; omega
      ·
        refine r_iconst (v := nI 1) hc dL_isAct_256 rfl ?_
        refine r_goto (tgt := 261) hc dL_isAct_257 (by decide) ?_
        exact hR _ _ ⟨rfl, w, hG, hL, by omega⟩ rfl _ _ dL_isAct_261
  ·
    refine r_tableIn (off := 206) (tgt := 262) hc dL_isAct_56 (by decide) (by decide) (by decide) (by decide) ?_
    refine r_aload_n hc dL_isAct_262 rfl ?_
    refine r_bipush (v := nI 9) hc dL_isAct_263 rfl ?_
    refine cl_L_14 (As := [.int (nI 9)]) hc (qc_9 hG (by omega)) hG.sh rfl ⟨by decide, by decide⟩ ⟨rfl, rfl⟩ ⟨by decide, by decide⟩ rfl (Nat.le_of_ble_eq_true rfl) dL_isAct_265 (fun r u hp => ?_)
    obtain ⟨rfl, hG⟩ := hp
    refine r_istore (ls' := [(9, .int (nI (v 9))), (6, .int (nI m_44)), (5, .int (nI m_35)), (4, .int (nI m_26)), (3, .int (nI m_11)), (0, .ref P), (1, .ref (scB Ω)), (2, .int (nI a))]) hc dL_isAct_268 (by decide) rfl ?_
    refine r_aload_n hc dL_isAct_270 rfl ?_
    refine r_iload_n hc dL_isAct_271 rfl ?_
    refine r_iconst (v := nI 4) hc dL_isAct_272 rfl ?_
    refine r_iadd (v := nI (a + 4)) hc dL_isAct_273 (ad_NN _ _) ?_
    refine r_iconst (v := nI 3) hc dL_isAct_274 rfl ?_
    refine cl_L_95 (As := [.ref (scB Ω), .int (nI (a + 4)), .int (nI 3)]) hc (c_L_cell (k := a + 4) (n := 3) (by omega) (by omega) (by omega)) rfl ⟨by decide, by decide⟩ ⟨rfl, rfl⟩ ⟨by decide, by decide⟩ rfl (Nat.le_of_ble_eq_true rfl) dL_isAct_275 (fun r u hp => ?_)
    obtain ⟨m_275, hm_275, rfl, hu⟩ := hp
    rw [hu]
    refine r_if_gt (tgt := 299) hc dL_isAct_278 (by decide) (g0_N (by omega)) (fun c_278 => ?_) (fun c_278 => ?_)
    ·
      refine r_iconst (v := nI 1) hc dL_isAct_299 rfl ?_
      refine r_goto (tgt := 304) hc dL_isAct_300 (by decide) ?_
      exact hR _ _ ⟨rfl, v, hG, hL, by omega⟩ rfl _ _ dL_isAct_304
    ·
      refine r_aload_n hc dL_isAct_281 rfl ?_
      refine cl_L_134 (As := []) hc (m_dropPlan hG (by omega)) hG.sh rfl ⟨by decide, by decide⟩ ⟨rfl, rfl⟩ ⟨by decide, by decide⟩ rfl (Nat.le_of_ble_eq_true rfl) dL_isAct_282 (fun r u hp => ?_)
      obtain ⟨⟨y, w⟩, rfl, hG2, hX⟩ := hp
      have hT := t_drop hG.ok hL hX
      dsimp only at hT
      obtain ⟨hL, e6, hy, w9⟩ := hT
      subst hy
      have hG : GS z sh P w u := hG2
      have hL21 := hL.1
      have hn2 := hG.nums
      refine r_iload hc dL_isAct_285 rfl ?_
      refine r_icmp_ne (tgt := 303) hc dL_isAct_287 (by decide) (eq_ZN (by omega) (by omega)) (fun c_287 => ?_) (fun c_287 => ?_)
      ·
        exfalso; omega
      ·
        refine r_aload_n hc dL_isAct_290 rfl ?_
        refine r_bipush (v := nI 9) hc dL_isAct_291 rfl ?_
        refine cl_L_14 (As := [.int (nI 9)]) hc (qc_9 hG (by omega)) hG.sh rfl ⟨by decide, by decide⟩ ⟨rfl, rfl⟩ ⟨by decide, by decide⟩ rfl (Nat.le_of_ble_eq_true rfl) dL_isAct_293 (fun r u hp => ?_)
        obtain ⟨rfl, hG⟩ := hp
        refine r_if_ne (tgt := 303) hc dL_isAct_296 (by decide) (e0_N (by omega)) (fun c_296 => ?_) (fun c_296 => ?_)
        ·
          exfalso; omega
        ·
          refine r_iconst (v := nI 1) hc dL_isAct_299 rfl ?_
          refine r_goto (tgt := 304) hc dL_isAct_300 (by decide) ?_
          exact hR _ _ ⟨rfl, w, hG, hL, by omega⟩ rfl _ _ dL_isAct_304
  ·
    refine r_tableOut (tgt := 305) hc dL_isAct_56 (by decide) (by decide) ?_
    refine r_aload_n hc dL_isAct_305 rfl ?_
    refine r_aload_n hc dL_isAct_306 rfl ?_
    refine r_iload_n hc dL_isAct_307 rfl ?_
    refine r_iconst (v := nI 1) hc dL_isAct_308 rfl ?_
    refine r_iadd (v := nI (a + 1)) hc dL_isAct_309 (ad_NN _ _) ?_
    refine r_iconst (v := nI 4) hc dL_isAct_310 rfl ?_
    refine cl_L_95 (As := [.ref (scB Ω), .int (nI (a + 1)), .int (nI 4)]) hc (c_L_cell (k := a + 1) (n := 4) (by omega) (by omega) (by omega)) rfl ⟨by decide, by decide⟩ ⟨rfl, rfl⟩ ⟨by decide, by decide⟩ rfl (Nat.le_of_ble_eq_true rfl) dL_isAct_311 (fun r u hp => ?_)
    obtain ⟨m_311, hm_311, rfl, hu⟩ := hp
    rw [hu]
    refine r_aload_n hc dL_isAct_314 rfl ?_
    refine r_iload_n hc dL_isAct_315 rfl ?_
    refine r_iconst (v := nI 4) hc dL_isAct_316 rfl ?_
    refine r_iadd (v := nI (a + 4)) hc dL_isAct_317 (ad_NN _ _) ?_
    refine r_iconst (v := nI 4) hc dL_isAct_318 rfl ?_
    refine cl_L_95 (As := [.ref (scB Ω), .int (nI (a + 4)), .int (nI 4)]) hc (c_L_cell (k := a + 4) (n := 4) (by omega) (by omega) (by omega)) rfl ⟨by decide, by decide⟩ ⟨rfl, rfl⟩ ⟨by decide, by decide⟩ rfl (Nat.le_of_ble_eq_true rfl) dL_isAct_319 (fun r u hp => ?_)
    obtain ⟨m_319, hm_319, rfl, hu⟩ := hp
    rw [hu]
    refine r_iload hc dL_isAct_322 rfl ?_
    refine r_iload hc dL_isAct_324 rfl ?_
    refine cl_L_137 (As := [.ref P, .int (nI m_311), .int (nI m_319), .int (nI m_35), .int (nI m_44)]) hc (c_L_isDoor hG hL (by omega) (a := m_311) (b := m_319) (f := m_35) (s := m_44) (by omega) (by omega) (by omega) (by omega)) rfl ⟨by decide, by decide⟩ ⟨rfl, rfl⟩ ⟨by decide, by decide⟩ rfl (Nat.le_of_ble_eq_true rfl) dL_isAct_326 (fun r u hp => ?_)
    obtain ⟨rfl, w, hG, hL, h6⟩ := hp
    exact hR _ _ ⟨rfl, w, hG, hL, by omega⟩ rfl _ _ dL_isAct_329
