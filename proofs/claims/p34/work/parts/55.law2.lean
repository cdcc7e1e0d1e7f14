/-! ===== the law: its acts ===== -/
theorem sReach_lt {v : Nat → Nat} (hok : okR v) : sReach v < 256 :=
  rcC_lt (fun d hd => bothR_lt (hok.2.2.2.2.2.2.2.1 d hd).1 (hok.2.2.2.2.2.2.2.1 d hd).2.1) (Nat.pow_lt_pow_right (by decide) hok.2.2.2.1) 8
set_option maxRecDepth 100000 in
set_option maxHeartbeats 4000000 in
theorem c_L_loss {Ω : OmT} {z : Nat} {sh : Nat → Option Kd} {P : Nat} {v : Nat → Nat} {S : StT} (hG : GS z sh P v S) (hL : Led v) (hB : v 6 ≤ 800000000) {g : Nat} (hg : g ≤ 100) : CtI Ω yL_loss cL_loss 3 .int rm_L_loss [.ref P, .int (nI g)] S (fun r u => r = nI (lossW g (v 1)) ∧ GS z sh P v u) := by
  have hn := hG.nums
  have hL1 := hL.1
  have hm : g * v 1 ≤ 100 * 50 := Nat.mul_le_mul hg (by omega)
  refine CtI.enter (by decide) (Nat.le_of_ble_eq_true rfl) (fun Φ hc hR => ?_)
  show Vw Ω Φ S (0, 0) 0 [(0, .ref P), (1, .int (nI g))] []
  refine r_iload_n hc dL_loss_0 rfl ?_
  refine r_aload_n hc dL_loss_1 rfl ?_
  refine r_bipush (v := nI 14) hc dL_loss_2 rfl ?_
  refine cl_L_14 (As := [.int (nI 14)]) hc (qc_14 hG (by omega)) hG.sh rfl ⟨by decide, by decide⟩ ⟨rfl, rfl⟩ ⟨by decide, by decide⟩ rfl (Nat.le_of_ble_eq_true rfl) dL_loss_4 (fun r u hp => ?_)
  obtain ⟨rfl, hG⟩ := hp
  refine r_imul (v := nI (g * (v 1))) hc dL_loss_7 (ml_NN _ _) ?_
  refine r_istore_n (ls' := [(2, .int (nI (g * (v 1)))), (0, .ref P), (1, .int (nI g))]) hc dL_loss_8 (by decide) rfl ?_
  refine r_iload_n hc dL_loss_9 rfl ?_
  refine r_bipush (v := nI 100) hc dL_loss_10 rfl ?_
  refine r_idiv (v := nI ((g * (v 1)) / 100)) hc dL_loss_12 (nu_ne0 (by omega) (by omega)) (dv_NN _ _ (by omega) (by omega) (by omega)) ?_
  refine r_iload_n hc dL_loss_13 rfl ?_
  refine r_bipush (v := nI 100) hc dL_loss_14 rfl ?_
  refine r_irem (v := nI ((g * (v 1)) % 100)) hc dL_loss_16 (nu_ne0 (by omega) (by omega)) (rm_NN _ _ (by omega) (by omega) (by omega)) ?_
  refine r_if_le (tgt := 24) hc dL_loss_17 (by decide) (le0_N (by omega)) (fun c_17 => ?_) (fun c_17 => ?_)
  ·
    refine r_iconst (v := nI 0) hc dL_loss_24 rfl ?_
    refine r_iadd (v := nI ((g * (v 1)) / 100)) hc dL_loss_25 (ad_NN _ 0) ?_
    exact hR _ _ ⟨congrArg nI (by unfold lossW; omega), hG⟩ rfl _ _ dL_loss_26
  ·
    refine r_iconst (v := nI 1) hc dL_loss_20 rfl ?_
    refine r_goto (tgt := 25) hc dL_loss_21 (by decide) ?_
    refine r_iadd (v := nI ((g * (v 1)) / 100 + 1)) hc dL_loss_25 (ad_NN _ _) ?_
    exact hR _ _ ⟨congrArg nI (by unfold lossW; omega), hG⟩ rfl _ _ dL_loss_26
set_option maxRecDepth 100000 in
set_option maxHeartbeats 4000000 in
theorem c_L_isDoor {Ω : OmT} {z : Nat} {sh : Nat → Option Kd} {P : Nat} {v : Nat → Nat} {S : StT} (hG : GS z sh P v S) (hL : Led v) (hB : v 6 ≤ 800000000) {a b f s : Nat} (ha : a < 8) (hb : b < 8) (hf : f < 10000) (hs : s < 10000) : CtI Ω yL_isDoor cL_isDoor 8 .boolean rm_L_isDoor [.ref P, .int (nI a), .int (nI b), .int (nI f), .int (nI s)] S (fun r u => r = nI 1 ∧ ∃ w, GS z sh P w u ∧ Led w ∧ w 6 ≤ v 6 + 100) := by
  have hn := hG.nums
  have hL1 := hL.1
  have hlk := lockW_le f s
  have hlp := lockW_pos f s
  refine CtI.enter (by decide) (Nat.le_of_ble_eq_true rfl) (fun Φ hc hR => ?_)
  show Vw Ω Φ S (0, 0) 0 [(0, .ref P), (1, .int (nI a)), (2, .int (nI b)), (3, .int (nI f)), (4, .int (nI s))] []
  refine r_aload_n hc dL_isDoor_0 rfl ?_
  refine r_iconst (v := nI 2) hc dL_isDoor_1 rfl ?_
  refine cl_L_14 (As := [.int (nI 2)]) hc (qc_2 hG (by omega)) hG.sh rfl ⟨by decide, by decide⟩ ⟨rfl, rfl⟩ ⟨by decide, by decide⟩ rfl (Nat.le_of_ble_eq_true rfl) dL_isDoor_2 (fun r u hp => ?_)
  obtain ⟨rfl, hG⟩ := hp
  refine r_istore (ls' := [(5, .int (nI (v 4))), (0, .ref P), (1, .int (nI a)), (2, .int (nI b)), (3, .int (nI f)), (4, .int (nI s))]) hc dL_isDoor_5 (by decide) rfl ?_
  refine r_aload_n hc dL_isDoor_7 rfl ?_
  refine r_bipush (v := nI 7) hc dL_isDoor_8 rfl ?_
  refine cl_L_14 (As := [.int (nI 7)]) hc (qc_7 hG (by omega)) hG.sh rfl ⟨by decide, by decide⟩ ⟨rfl, rfl⟩ ⟨by decide, by decide⟩ rfl (Nat.le_of_ble_eq_true rfl) dL_isDoor_10 (fun r u hp => ?_)
  obtain ⟨rfl, hG⟩ := hp
  refine r_istore (ls' := [(6, .int (nI (v 7))), (5, .int (nI (v 4))), (0, .ref P), (1, .int (nI a)), (2, .int (nI b)), (3, .int (nI f)), (4, .int (nI s))]) hc dL_isDoor_13 (by decide) rfl ?_
  refine r_aload_n hc dL_isDoor_15 rfl ?_
  refine r_iload_n hc dL_isDoor_16 rfl ?_
  refine r_iload_n hc dL_isDoor_17 rfl ?_
  refine r_iload_n hc dL_isDoor_18 rfl ?_
  refine r_iload hc dL_isDoor_19 rfl ?_
  refine cl_L_40 (As := [.int (nI a), .int (nI b), .int (nI f), .int (nI s)]) hc (m_door hG (by omega) (by omega) (by omega) (by omega) (by omega)) hG.sh rfl ⟨by decide, by decide⟩ ⟨rfl, rfl⟩ ⟨by decide, by decide⟩ rfl (Nat.le_of_ble_eq_true rfl) dL_isDoor_21 (fun r u hp => ?_)
  obtain ⟨⟨y, w⟩, rfl, hG0, hX⟩ := hp
  have hT := t_door hG.ok hL ha hb hf hs hX
  dsimp only at hT
  have hG2 : GS z sh P w u := hG0
  obtain ⟨hL2, e6, hT⟩ := hT
  rcases hT with ⟨hab, hy, hw⟩ | ⟨hab, h10, hy, hw⟩ | ⟨hab, h10, hlw, hy, hw⟩ | ⟨hab, h10, hy, w4, wa, wb, wf, ws, wt, w7⟩
  ·
    have hL21 := hL2.1
    subst hy
    rw [hw] at hG2 hL2 e6 hL21
    have hG := hG2
    refine r_istore (ls' := [(7, .int (zI (-2))), (6, .int (nI (v 7))), (5, .int (nI (v 4))), (0, .ref P), (1, .int (nI a)), (2, .int (nI b)), (3, .int (nI f)), (4, .int (nI s))]) hc dL_isDoor_24 (by decide) rfl ?_
    refine r_iload_n hc dL_isDoor_26 rfl ?_
    refine r_iload_n hc dL_isDoor_27 rfl ?_
    refine r_icmp_ne (tgt := 54) hc dL_isDoor_28 (by decide) (eq_NN (by omega) (by omega)) (fun c_28 => ?_) (fun c_28 => ?_)
    ·
      exfalso; omega
    ·
      refine r_iload hc dL_isDoor_31 rfl ?_
      refine r_bipush (v := zI (-2)) hc dL_isDoor_33 rfl ?_
      refine r_icmp_ne (tgt := 52) hc dL_isDoor_35 (by decide) (eq_ZZ (by omega) (by omega)) (fun c_35 => ?_) (fun c_35 => ?_)
      ·
        exfalso; omega
      ·
        refine r_aload_n hc dL_isDoor_38 rfl ?_
        refine r_iconst (v := nI 2) hc dL_isDoor_39 rfl ?_
        refine cl_L_14 (As := [.int (nI 2)]) hc (qc_2 hG (by omega)) hG.sh rfl ⟨by decide, by decide⟩ ⟨rfl, rfl⟩ ⟨by decide, by decide⟩ rfl (Nat.le_of_ble_eq_true rfl) dL_isDoor_40 (fun r u hp => ?_)
        obtain ⟨rfl, hG⟩ := hp
        refine r_iload hc dL_isDoor_43 rfl ?_
        refine r_icmp_ne (tgt := 52) hc dL_isDoor_45 (by decide) (eq_NN (by omega) (by omega)) (fun c_45 => ?_) (fun c_45 => ?_)
        ·
          exfalso; omega
        ·
          refine r_iconst (v := nI 1) hc dL_isDoor_48 rfl ?_
          refine r_goto (tgt := 53) hc dL_isDoor_49 (by decide) ?_
          exact hR _ _ ⟨rfl, v, hG, hL2, by omega⟩ rfl _ _ dL_isDoor_53
  ·
    have hL21 := hL2.1
    subst hy
    rw [hw] at hG2 hL2 e6 hL21
    have hG := hG2
    refine r_istore (ls' := [(7, .int (zI (-4))), (6, .int (nI (v 7))), (5, .int (nI (v 4))), (0, .ref P), (1, .int (nI a)), (2, .int (nI b)), (3, .int (nI f)), (4, .int (nI s))]) hc dL_isDoor_24 (by decide) rfl ?_
    refine r_iload_n hc dL_isDoor_26 rfl ?_
    refine r_iload_n hc dL_isDoor_27 rfl ?_
    refine r_icmp_ne (tgt := 54) hc dL_isDoor_28 (by decide) (eq_NN (by omega) (by omega)) (fun c_28 => ?_) (fun c_28 => ?_)
    ·
      refine r_iload hc dL_isDoor_54 rfl ?_
      refine r_bipush (v := nI 10) hc dL_isDoor_56 rfl ?_
      refine r_icmp_eq (tgt := 72) hc dL_isDoor_58 (by decide) (eq_NN (by omega) (by omega)) (fun c_58 => ?_) (fun c_58 => ?_)
      ·
        refine r_iload hc dL_isDoor_72 rfl ?_
        refine r_iload hc dL_isDoor_74 rfl ?_
        refine r_bipush (v := nI 10) hc dL_isDoor_76 rfl ?_
        refine r_icmp_ne (tgt := 86) hc dL_isDoor_78 (by decide) (eq_NN (by omega) (by omega)) (fun c_78 => ?_) (fun c_78 => ?_)
        ·
          exfalso; omega
        ·
          refine r_bipush (v := zI (-4)) hc dL_isDoor_81 rfl ?_
          refine r_goto (tgt := 88) hc dL_isDoor_83 (by decide) ?_
          refine r_icmp_ne (tgt := 116) hc dL_isDoor_88 (by decide) (eq_ZZ (by omega) (by omega)) (fun c_88 => ?_) (fun c_88 => ?_)
          ·
            exfalso; omega
          ·
            refine r_aload_n hc dL_isDoor_91 rfl ?_
            refine r_iconst (v := nI 2) hc dL_isDoor_92 rfl ?_
            refine cl_L_14 (As := [.int (nI 2)]) hc (qc_2 hG (by omega)) hG.sh rfl ⟨by decide, by decide⟩ ⟨rfl, rfl⟩ ⟨by decide, by decide⟩ rfl (Nat.le_of_ble_eq_true rfl) dL_isDoor_93 (fun r u hp => ?_)
            obtain ⟨rfl, hG⟩ := hp
            refine r_iload hc dL_isDoor_96 rfl ?_
            refine r_icmp_ne (tgt := 116) hc dL_isDoor_98 (by decide) (eq_NN (by omega) (by omega)) (fun c_98 => ?_) (fun c_98 => ?_)
            ·
              exfalso; omega
            ·
              refine r_aload_n hc dL_isDoor_101 rfl ?_
              refine r_bipush (v := nI 7) hc dL_isDoor_102 rfl ?_
              refine cl_L_14 (As := [.int (nI 7)]) hc (qc_7 hG (by omega)) hG.sh rfl ⟨by decide, by decide⟩ ⟨rfl, rfl⟩ ⟨by decide, by decide⟩ rfl (Nat.le_of_ble_eq_true rfl) dL_isDoor_104 (fun r u hp => ?_)
              obtain ⟨rfl, hG⟩ := hp
              refine r_iload hc dL_isDoor_107 rfl ?_
              refine r_icmp_ne (tgt := 116) hc dL_isDoor_109 (by decide) (eq_NN (by omega) (by omega)) (fun c_109 => ?_) (fun c_109 => ?_)
              ·
                exfalso; omega
              ·
                refine r_iconst (v := nI 1) hc dL_isDoor_112 rfl ?_
                refine r_goto (tgt := 117) hc dL_isDoor_113 (by decide) ?_
                exact hR _ _ ⟨rfl, v, hG, hL2, by omega⟩ rfl _ _ dL_isDoor_117
      ·
        exfalso; omega
    ·
      exfalso; omega
  ·
    have hL21 := hL2.1
    subst hy
    rw [hw] at hG2 hL2 e6 hL21
    have hG := hG2
    refine r_istore (ls' := [(7, .int (zI (-5))), (6, .int (nI (v 7))), (5, .int (nI (v 4))), (0, .ref P), (1, .int (nI a)), (2, .int (nI b)), (3, .int (nI f)), (4, .int (nI s))]) hc dL_isDoor_24 (by decide) rfl ?_
    refine r_iload_n hc dL_isDoor_26 rfl ?_
    refine r_iload_n hc dL_isDoor_27 rfl ?_
    refine r_icmp_ne (tgt := 54) hc dL_isDoor_28 (by decide) (eq_NN (by omega) (by omega)) (fun c_28 => ?_) (fun c_28 => ?_)
    ·
      refine r_iload hc dL_isDoor_54 rfl ?_
      refine r_bipush (v := nI 10) hc dL_isDoor_56 rfl ?_
      refine r_icmp_eq (tgt := 72) hc dL_isDoor_58 (by decide) (eq_NN (by omega) (by omega)) (fun c_58 => ?_) (fun c_58 => ?_)
      ·
        exfalso; omega
      ·
        refine r_iload hc dL_isDoor_61 rfl ?_
        refine r_iload_n hc dL_isDoor_63 rfl ?_
        refine r_iload hc dL_isDoor_64 rfl ?_
        refine cl_L_30 (As := [.int (nI f), .int (nI s)]) hc (c_L_weight (f := f) (s := s) (by omega) (by omega)) rfl ⟨by decide, by decide⟩ ⟨rfl, rfl⟩ ⟨by decide, by decide⟩ rfl (Nat.le_of_ble_eq_true rfl) dL_isDoor_66 (fun r u hp => ?_)
        obtain ⟨rfl, hu⟩ := hp
        rw [hu]
        refine r_icmp_ge (tgt := 118) hc dL_isDoor_69 (by decide) (le_NN (by omega) (by omega)) (fun c_69 => ?_) (fun c_69 => ?_)
        ·
          exfalso; omega
        ·
          refine r_iload hc dL_isDoor_72 rfl ?_
          refine r_iload hc dL_isDoor_74 rfl ?_
          refine r_bipush (v := nI 10) hc dL_isDoor_76 rfl ?_
          refine r_icmp_ne (tgt := 86) hc dL_isDoor_78 (by decide) (eq_NN (by omega) (by omega)) (fun c_78 => ?_) (fun c_78 => ?_)
          ·
            refine r_bipush (v := zI (-5)) hc dL_isDoor_86 rfl ?_
            refine r_icmp_ne (tgt := 116) hc dL_isDoor_88 (by decide) (eq_ZZ (by omega) (by omega)) (fun c_88 => ?_) (fun c_88 => ?_)
            ·
              exfalso; omega
            ·
              refine r_aload_n hc dL_isDoor_91 rfl ?_
              refine r_iconst (v := nI 2) hc dL_isDoor_92 rfl ?_
              refine cl_L_14 (As := [.int (nI 2)]) hc (qc_2 hG (by omega)) hG.sh rfl ⟨by decide, by decide⟩ ⟨rfl, rfl⟩ ⟨by decide, by decide⟩ rfl (Nat.le_of_ble_eq_true rfl) dL_isDoor_93 (fun r u hp => ?_)
              obtain ⟨rfl, hG⟩ := hp
              refine r_iload hc dL_isDoor_96 rfl ?_
              refine r_icmp_ne (tgt := 116) hc dL_isDoor_98 (by decide) (eq_NN (by omega) (by omega)) (fun c_98 => ?_) (fun c_98 => ?_)
              ·
                exfalso; omega
              ·
                refine r_aload_n hc dL_isDoor_101 rfl ?_
                refine r_bipush (v := nI 7) hc dL_isDoor_102 rfl ?_
                refine cl_L_14 (As := [.int (nI 7)]) hc (qc_7 hG (by omega)) hG.sh rfl ⟨by decide, by decide⟩ ⟨rfl, rfl⟩ ⟨by decide, by decide⟩ rfl (Nat.le_of_ble_eq_true rfl) dL_isDoor_104 (fun r u hp => ?_)
                obtain ⟨rfl, hG⟩ := hp
                refine r_iload hc dL_isDoor_107 rfl ?_
                refine r_icmp_ne (tgt := 116) hc dL_isDoor_109 (by decide) (eq_NN (by omega) (by omega)) (fun c_109 => ?_) (fun c_109 => ?_)
                ·
                  exfalso; omega
                ·
                  refine r_iconst (v := nI 1) hc dL_isDoor_112 rfl ?_
                  refine r_goto (tgt := 117) hc dL_isDoor_113 (by decide) ?_
                  exact hR _ _ ⟨rfl, v, hG, hL2, by omega⟩ rfl _ _ dL_isDoor_117
          ·
            exfalso; omega
    ·
      exfalso; omega
  ·
    have hL21 := hL2.1
    subst hy
    have hn2 := hG2.nums
    have hG := hG2
    refine r_istore (ls' := [(7, .int (zI (((v 4 : Nat) : Int)))), (6, .int (nI (v 7))), (5, .int (nI (v 4))), (0, .ref P), (1, .int (nI a)), (2, .int (nI b)), (3, .int (nI f)), (4, .int (nI s))]) hc dL_isDoor_24 (by decide) rfl ?_
    refine r_iload_n hc dL_isDoor_26 rfl ?_
    refine r_iload_n hc dL_isDoor_27 rfl ?_
    refine r_icmp_ne (tgt := 54) hc dL_isDoor_28 (by decide) (eq_NN (by omega) (by omega)) (fun c_28 => ?_) (fun c_28 => ?_)
    ·
      refine r_iload hc dL_isDoor_54 rfl ?_
      refine r_bipush (v := nI 10) hc dL_isDoor_56 rfl ?_
      refine r_icmp_eq (tgt := 72) hc dL_isDoor_58 (by decide) (eq_NN (by omega) (by omega)) (fun c_58 => ?_) (fun c_58 => ?_)
      ·
        exfalso; omega
      ·
        refine r_iload hc dL_isDoor_61 rfl ?_
        refine r_iload_n hc dL_isDoor_63 rfl ?_
        refine r_iload hc dL_isDoor_64 rfl ?_
        refine cl_L_30 (As := [.int (nI f), .int (nI s)]) hc (c_L_weight (f := f) (s := s) (by omega) (by omega)) rfl ⟨by decide, by decide⟩ ⟨rfl, rfl⟩ ⟨by decide, by decide⟩ rfl (Nat.le_of_ble_eq_true rfl) dL_isDoor_66 (fun r u hp => ?_)
        obtain ⟨rfl, hu⟩ := hp
        rw [hu]
        refine r_icmp_ge (tgt := 118) hc dL_isDoor_69 (by decide) (le_NN (by omega) (by omega)) (fun c_69 => ?_) (fun c_69 => ?_)
        ·
          refine r_iload hc dL_isDoor_118 rfl ?_
          refine r_iload hc dL_isDoor_120 rfl ?_
          refine r_icmp_ne (tgt := 202) hc dL_isDoor_122 (by decide) (eq_ZN (by omega) (by omega)) (fun c_122 => ?_) (fun c_122 => ?_)
          ·
            exfalso; omega
          ·
            refine r_aload_n hc dL_isDoor_125 rfl ?_
            refine r_iload hc dL_isDoor_126 rfl ?_
            refine r_iconst (v := nI 0) hc dL_isDoor_128 rfl ?_
            refine cl_L_20 (As := [.int (nI (v 4)), .int (nI 0)]) hc (qd_0 hG (by omega) (d := v 4) (by omega)) hG.sh rfl ⟨by decide, by decide⟩ ⟨rfl, rfl⟩ ⟨by decide, by decide⟩ rfl (Nat.le_of_ble_eq_true rfl) dL_isDoor_129 (fun r u hp => ?_)
            obtain ⟨rfl, hG⟩ := hp
            refine r_iload_n hc dL_isDoor_132 rfl ?_
            refine r_icmp_ne (tgt := 202) hc dL_isDoor_133 (by decide) (eq_NN (by omega) (by omega)) (fun c_133 => ?_) (fun c_133 => ?_)
            ·
              exfalso; omega
            ·
              refine r_aload_n hc dL_isDoor_136 rfl ?_
              refine r_iload hc dL_isDoor_137 rfl ?_
              refine r_iconst (v := nI 1) hc dL_isDoor_139 rfl ?_
              refine cl_L_20 (As := [.int (nI (v 4)), .int (nI 1)]) hc (qd_1 hG (by omega) (d := v 4) (by omega)) hG.sh rfl ⟨by decide, by decide⟩ ⟨rfl, rfl⟩ ⟨by decide, by decide⟩ rfl (Nat.le_of_ble_eq_true rfl) dL_isDoor_140 (fun r u hp => ?_)
              obtain ⟨rfl, hG⟩ := hp
              refine r_iload_n hc dL_isDoor_143 rfl ?_
              refine r_icmp_ne (tgt := 202) hc dL_isDoor_144 (by decide) (eq_NN (by omega) (by omega)) (fun c_144 => ?_) (fun c_144 => ?_)
              ·
                exfalso; omega
              ·
                refine r_aload_n hc dL_isDoor_147 rfl ?_
                refine r_iload hc dL_isDoor_148 rfl ?_
                refine r_iconst (v := nI 2) hc dL_isDoor_150 rfl ?_
                refine cl_L_20 (As := [.int (nI (v 4)), .int (nI 2)]) hc (qd_2 hG (by omega) (d := v 4) (by omega)) hG.sh rfl ⟨by decide, by decide⟩ ⟨rfl, rfl⟩ ⟨by decide, by decide⟩ rfl (Nat.le_of_ble_eq_true rfl) dL_isDoor_151 (fun r u hp => ?_)
                obtain ⟨rfl, hG⟩ := hp
                refine r_iload_n hc dL_isDoor_154 rfl ?_
                refine r_icmp_ne (tgt := 202) hc dL_isDoor_155 (by decide) (eq_NN (by omega) (by omega)) (fun c_155 => ?_) (fun c_155 => ?_)
                ·
                  exfalso; omega
                ·
                  refine r_aload_n hc dL_isDoor_158 rfl ?_
                  refine r_iload hc dL_isDoor_159 rfl ?_
                  refine r_iconst (v := nI 3) hc dL_isDoor_161 rfl ?_
                  refine cl_L_20 (As := [.int (nI (v 4)), .int (nI 3)]) hc (qd_3 hG (by omega) (d := v 4) (by omega)) hG.sh rfl ⟨by decide, by decide⟩ ⟨rfl, rfl⟩ ⟨by decide, by decide⟩ rfl (Nat.le_of_ble_eq_true rfl) dL_isDoor_162 (fun r u hp => ?_)
                  obtain ⟨rfl, hG⟩ := hp
                  refine r_iload hc dL_isDoor_165 rfl ?_
                  refine r_icmp_ne (tgt := 202) hc dL_isDoor_167 (by decide) (eq_NN (by omega) (by omega)) (fun c_167 => ?_) (fun c_167 => ?_)
                  ·
                    exfalso; omega
                  ·
                    refine r_aload_n hc dL_isDoor_170 rfl ?_
                    refine r_iload hc dL_isDoor_171 rfl ?_
                    refine r_iconst (v := nI 5) hc dL_isDoor_173 rfl ?_
                    refine cl_L_20 (As := [.int (nI (v 4)), .int (nI 5)]) hc (qd_5 hG (by omega) (d := v 4) (by omega)) hG.sh rfl ⟨by decide, by decide⟩ ⟨rfl, rfl⟩ ⟨by decide, by decide⟩ rfl (Nat.le_of_ble_eq_true rfl) dL_isDoor_174 (fun r u hp => ?_)
                    obtain ⟨rfl, hG⟩ := hp
                    refine r_if_ne (tgt := 202) hc dL_isDoor_177 (by decide) (e0_N (by omega)) (fun c_177 => ?_) (fun c_177 => ?_)
                    ·
                      exfalso; omega
                    ·
                      refine r_aload_n hc dL_isDoor_180 rfl ?_
                      refine r_bipush (v := nI 7) hc dL_isDoor_181 rfl ?_
                      refine cl_L_14 (As := [.int (nI 7)]) hc (qc_7 hG (by omega)) hG.sh rfl ⟨by decide, by decide⟩ ⟨rfl, rfl⟩ ⟨by decide, by decide⟩ rfl (Nat.le_of_ble_eq_true rfl) dL_isDoor_183 (fun r u hp => ?_)
                      obtain ⟨rfl, hG⟩ := hp
                      refine r_iload hc dL_isDoor_186 rfl ?_
                      refine r_iload_n hc dL_isDoor_188 rfl ?_
                      refine r_iload hc dL_isDoor_189 rfl ?_
                      refine cl_L_30 (As := [.int (nI f), .int (nI s)]) hc (c_L_weight (f := f) (s := s) (by omega) (by omega)) rfl ⟨by decide, by decide⟩ ⟨rfl, rfl⟩ ⟨by decide, by decide⟩ rfl (Nat.le_of_ble_eq_true rfl) dL_isDoor_191 (fun r u hp => ?_)
                      obtain ⟨rfl, hu⟩ := hp
                      rw [hu]
                      refine r_isub (v := zI (((v 7 : Nat) : Int) - ((lockW f s : Nat) : Int))) hc dL_isDoor_194 (sb_NN _ _) ?_
                      refine r_icmp_ne (tgt := 202) hc dL_isDoor_195 (by decide) (eq_NZ (by omega) (by omega)) (fun c_195 => ?_) (fun c_195 => ?_)
                      ·
                        exfalso; omega
                      ·
                        refine r_iconst (v := nI 1) hc dL_isDoor_198 rfl ?_
                        refine r_goto (tgt := 203) hc dL_isDoor_199 (by decide) ?_
                        exact hR _ _ ⟨rfl, w, hG, hL2, by omega⟩ rfl _ _ dL_isDoor_203
        ·
          exfalso; omega
    ·
      exfalso; omega
set_option maxRecDepth 100000 in
set_option maxHeartbeats 4000000 in
theorem c_L_isCut {Ω : OmT} {z : Nat} {sh : Nat → Option Kd} {P : Nat} {v : Nat → Nat} {S : StT} (hG : GS z sh P v S) (hL : Led v) (hB : v 6 ≤ 800000000) {d f s : Nat} (hd0 : d ≤ v 4) (hf : f < 10000) (hs : s < 10000) : CtI Ω yL_isCut cL_isCut 12 .boolean rm_L_isCut [.ref P, .int (nI d), .int (nI f), .int (nI s)] S (fun r u => r = nI 1 ∧ ∃ w, GS z sh P w u ∧ Led w ∧ w 6 ≤ v 6 + 100) := by
  have hn := hG.nums
  have hL1 := hL.1
  have hlk := lockW_le f s
  have hlp := lockW_pos f s
  refine CtI.enter (by decide) (Nat.le_of_ble_eq_true rfl) (fun Φ hc hR => ?_)
  show Vw Ω Φ S (0, 0) 0 [(0, .ref P), (1, .int (nI d)), (2, .int (nI f)), (3, .int (nI s))] []
  refine r_iload_n hc dL_isCut_0 rfl ?_
  refine r_aload_n hc dL_isCut_1 rfl ?_
  refine r_iconst (v := nI 2) hc dL_isCut_2 rfl ?_
  refine cl_L_14 (As := [.int (nI 2)]) hc (qc_2 hG (by omega)) hG.sh rfl ⟨by decide, by decide⟩ ⟨rfl, rfl⟩ ⟨by decide, by decide⟩ rfl (Nat.le_of_ble_eq_true rfl) dL_isCut_3 (fun r u hp => ?_)
  obtain ⟨rfl, hG⟩ := hp
  refine r_icmp_lt (tgt := 26) hc dL_isCut_6 (by decide) (lt_NN (by omega) (by omega)) (fun c_6 => ?_) (fun c_6 => ?_)
  ·
    have hdr := hG.door (d := d) (by omega)
    have hls := lossW_le (w := lockWt v d) (l := v 1) (by omega) (by omega)
    refine r_aload_n hc dL_isCut_26 rfl ?_
    refine r_iload_n hc dL_isCut_27 rfl ?_
    refine r_iconst (v := nI 4) hc dL_isCut_28 rfl ?_
    refine cl_L_20 (As := [.int (nI d), .int (nI 4)]) hc (qd_4 hG (by omega) (d := d) (by omega)) hG.sh rfl ⟨by decide, by decide⟩ ⟨rfl, rfl⟩ ⟨by decide, by decide⟩ rfl (Nat.le_of_ble_eq_true rfl) dL_isCut_29 (fun r u hp => ?_)
    obtain ⟨rfl, hG⟩ := hp
    refine r_istore (ls' := [(4, .int (nI (lockWt v d))), (0, .ref P), (1, .int (nI d)), (2, .int (nI f)), (3, .int (nI s))]) hc dL_isCut_32 (by decide) rfl ?_
    refine r_aload_n hc dL_isCut_34 rfl ?_
    refine r_bipush (v := nI 7) hc dL_isCut_35 rfl ?_
    refine cl_L_14 (As := [.int (nI 7)]) hc (qc_7 hG (by omega)) hG.sh rfl ⟨by decide, by decide⟩ ⟨rfl, rfl⟩ ⟨by decide, by decide⟩ rfl (Nat.le_of_ble_eq_true rfl) dL_isCut_37 (fun r u hp => ?_)
    obtain ⟨rfl, hG⟩ := hp
    refine r_istore (ls' := [(5, .int (nI (v 7))), (4, .int (nI (lockWt v d))), (0, .ref P), (1, .int (nI d)), (2, .int (nI f)), (3, .int (nI s))]) hc dL_isCut_40 (by decide) rfl ?_
    refine r_aload_n hc dL_isCut_42 rfl ?_
    refine r_bipush (v := nI 8) hc dL_isCut_43 rfl ?_
    refine cl_L_14 (As := [.int (nI 8)]) hc (qc_8 hG (by omega)) hG.sh rfl ⟨by decide, by decide⟩ ⟨rfl, rfl⟩ ⟨by decide, by decide⟩ rfl (Nat.le_of_ble_eq_true rfl) dL_isCut_45 (fun r u hp => ?_)
    obtain ⟨rfl, hG⟩ := hp
    refine r_istore (ls' := [(6, .int (nI (v 8))), (5, .int (nI (v 7))), (4, .int (nI (lockWt v d))), (0, .ref P), (1, .int (nI d)), (2, .int (nI f)), (3, .int (nI s))]) hc dL_isCut_48 (by decide) rfl ?_
    refine r_aload_n hc dL_isCut_50 rfl ?_
    refine r_iload_n hc dL_isCut_51 rfl ?_
    refine r_iconst (v := nI 5) hc dL_isCut_52 rfl ?_
    refine cl_L_20 (As := [.int (nI d), .int (nI 5)]) hc (qd_5 hG (by omega) (d := d) (by omega)) hG.sh rfl ⟨by decide, by decide⟩ ⟨rfl, rfl⟩ ⟨by decide, by decide⟩ rfl (Nat.le_of_ble_eq_true rfl) dL_isCut_53 (fun r u hp => ?_)
    obtain ⟨rfl, hG⟩ := hp
    refine r_istore (ls' := [(7, .int (nI (v (20 + 6 * d + 4)))), (6, .int (nI (v 8))), (5, .int (nI (v 7))), (4, .int (nI (lockWt v d))), (0, .ref P), (1, .int (nI d)), (2, .int (nI f)), (3, .int (nI s))]) hc dL_isCut_56 (by decide) rfl ?_
    refine r_aload_n hc dL_isCut_58 rfl ?_
    refine r_iload_n hc dL_isCut_59 rfl ?_
    refine r_iconst (v := nI 2) hc dL_isCut_60 rfl ?_
    refine cl_L_20 (As := [.int (nI d), .int (nI 2)]) hc (qd_2 hG (by omega) (d := d) (by omega)) hG.sh rfl ⟨by decide, by decide⟩ ⟨rfl, rfl⟩ ⟨by decide, by decide⟩ rfl (Nat.le_of_ble_eq_true rfl) dL_isCut_61 (fun r u hp => ?_)
    obtain ⟨rfl, hG⟩ := hp
    refine r_istore (ls' := [(8, .int (nI (v (20 + 6 * d + 2)))), (7, .int (nI (v (20 + 6 * d + 4)))), (6, .int (nI (v 8))), (5, .int (nI (v 7))), (4, .int (nI (lockWt v d))), (0, .ref P), (1, .int (nI d)), (2, .int (nI f)), (3, .int (nI s))]) hc dL_isCut_64 (by decide) rfl ?_
    refine r_iload hc dL_isCut_66 rfl ?_
    refine r_iload hc dL_isCut_68 rfl ?_
    refine r_iadd (v := nI (v 7 + (lockWt v d))) hc dL_isCut_70 (ad_NN _ _) ?_
    refine r_aload_n hc dL_isCut_71 rfl ?_
    refine r_iload hc dL_isCut_72 rfl ?_
    refine cl_L_48 (As := [.ref P, .int (nI (lockWt v d))]) hc (c_L_loss hG hL hB (g := lockWt v d) (by omega)) rfl ⟨by decide, by decide⟩ ⟨rfl, rfl⟩ ⟨by decide, by decide⟩ rfl (Nat.le_of_ble_eq_true rfl) dL_isCut_74 (fun r u hp => ?_)
    obtain ⟨rfl, hG⟩ := hp
    refine r_isub (v := zI (((v 7 + (lockWt v d) : Nat) : Int) - ((lossW (lockWt v d) (v 1) : Nat) : Int))) hc dL_isCut_77 (sb_NN _ _) ?_
    refine r_iload_n hc dL_isCut_78 rfl ?_
    refine r_iload_n hc dL_isCut_79 rfl ?_
    refine cl_L_30 (As := [.int (nI f), .int (nI s)]) hc (c_L_weight (f := f) (s := s) (by omega) (by omega)) rfl ⟨by decide, by decide⟩ ⟨rfl, rfl⟩ ⟨by decide, by decide⟩ rfl (Nat.le_of_ble_eq_true rfl) dL_isCut_80 (fun r u hp => ?_)
    obtain ⟨rfl, hu⟩ := hp
    rw [hu]
    refine r_isub (v := zI ((((v 7 + (lockWt v d) : Nat) : Int) - ((lossW (lockWt v d) (v 1) : Nat) : Int)) - ((lockW f s : Nat) : Int))) hc dL_isCut_83 (sb_ZN _ _) ?_
    refine r_istore (ls' := [(9, .int (zI ((((v 7 + (lockWt v d) : Nat) : Int) - ((lossW (lockWt v d) (v 1) : Nat) : Int)) - ((lockW f s : Nat) : Int)))), (8, .int (nI (v (20 + 6 * d + 2)))), (7, .int (nI (v (20 + 6 * d + 4)))), (6, .int (nI (v 8))), (5, .int (nI (v 7))), (4, .int (nI (lockWt v d))), (0, .ref P), (1, .int (nI d)), (2, .int (nI f)), (3, .int (nI s))]) hc dL_isCut_84 (by decide) rfl ?_
    refine r_aload_n hc dL_isCut_86 rfl ?_
    refine r_iload hc dL_isCut_87 rfl ?_
    refine cl_L_48 (As := [.ref P, .int (nI (lockWt v d))]) hc (c_L_loss hG hL hB (g := lockWt v d) (by omega)) rfl ⟨by decide, by decide⟩ ⟨rfl, rfl⟩ ⟨by decide, by decide⟩ rfl (Nat.le_of_ble_eq_true rfl) dL_isCut_89 (fun r u hp => ?_)
    obtain ⟨rfl, hG⟩ := hp
    refine r_istore (ls' := [(10, .int (nI (lossW (lockWt v d) (v 1)))), (9, .int (zI ((((v 7 + (lockWt v d) : Nat) : Int) - ((lossW (lockWt v d) (v 1) : Nat) : Int)) - ((lockW f s : Nat) : Int)))), (8, .int (nI (v (20 + 6 * d + 2)))), (7, .int (nI (v (20 + 6 * d + 4)))), (6, .int (nI (v 8))), (5, .int (nI (v 7))), (4, .int (nI (lockWt v d))), (0, .ref P), (1, .int (nI d)), (2, .int (nI f)), (3, .int (nI s))]) hc dL_isCut_92 (by decide) rfl ?_
    refine r_aload_n hc dL_isCut_94 rfl ?_
    refine r_iload_n hc dL_isCut_95 rfl ?_
    refine r_iload_n hc dL_isCut_96 rfl ?_
    refine r_iload_n hc dL_isCut_97 rfl ?_
    refine cl_L_44 (As := [.int (nI d), .int (nI f), .int (nI s)]) hc (m_cut hG (by omega) (by omega) (by omega) (by omega)) hG.sh rfl ⟨by decide, by decide⟩ ⟨rfl, rfl⟩ ⟨by decide, by decide⟩ rfl (Nat.le_of_ble_eq_true rfl) dL_isCut_98 (fun r u hp => ?_)
    obtain ⟨⟨y, w⟩, rfl, hG0, hX⟩ := hp
    have hT := t_cut hG.ok hL (d := d) hf hs hX
    dsimp only at hT
    have hG2 : GS z sh P w u := hG0
    obtain ⟨hL2, e6, hT⟩ := hT
    rcases hT with ⟨hd, hy, hw⟩ | ⟨hd, hlw, hy, hw⟩ | ⟨hd, hy, w7, w8, w4, wf, ws, wt⟩
    ·
      exfalso; omega
    ·
      have hL21 := hL2.1
      subst hy
      rw [hw] at hG2 hL2 e6 hL21
      have hG := hG2
      refine r_istore (ls' := [(11, .int (zI (-5))), (10, .int (nI (lossW (lockWt v d) (v 1)))), (9, .int (zI ((((v 7 + (lockWt v d) : Nat) : Int) - ((lossW (lockWt v d) (v 1) : Nat) : Int)) - ((lockW f s : Nat) : Int)))), (8, .int (nI (v (20 + 6 * d + 2)))), (7, .int (nI (v (20 + 6 * d + 4)))), (6, .int (nI (v 8))), (5, .int (nI (v 7))), (4, .int (nI (lockWt v d))), (0, .ref P), (1, .int (nI d)), (2, .int (nI f)), (3, .int (nI s))]) hc dL_isCut_101 (by decide) rfl ?_
      refine r_iload hc dL_isCut_103 rfl ?_
      refine r_if_ge (tgt := 165) hc dL_isCut_105 (by decide) (ge0_Z (by omega)) (fun c_105 => ?_) (fun c_105 => ?_)
      ·
        exfalso; omega
      ·
        refine r_iload hc dL_isCut_108 rfl ?_
        refine r_bipush (v := zI (-5)) hc dL_isCut_110 rfl ?_
        refine r_icmp_ne (tgt := 163) hc dL_isCut_112 (by decide) (eq_ZZ (by omega) (by omega)) (fun c_112 => ?_) (fun c_112 => ?_)
        ·
          exfalso; omega
        ·
          refine r_aload_n hc dL_isCut_115 rfl ?_
          refine r_bipush (v := nI 7) hc dL_isCut_116 rfl ?_
          refine cl_L_14 (As := [.int (nI 7)]) hc (qc_7 hG (by omega)) hG.sh rfl ⟨by decide, by decide⟩ ⟨rfl, rfl⟩ ⟨by decide, by decide⟩ rfl (Nat.le_of_ble_eq_true rfl) dL_isCut_118 (fun r u hp => ?_)
          obtain ⟨rfl, hG⟩ := hp
          refine r_iload hc dL_isCut_121 rfl ?_
          refine r_icmp_ne (tgt := 163) hc dL_isCut_123 (by decide) (eq_NN (by omega) (by omega)) (fun c_123 => ?_) (fun c_123 => ?_)
          ·
            exfalso; omega
          ·
            refine r_aload_n hc dL_isCut_126 rfl ?_
            refine r_bipush (v := nI 8) hc dL_isCut_127 rfl ?_
            refine cl_L_14 (As := [.int (nI 8)]) hc (qc_8 hG (by omega)) hG.sh rfl ⟨by decide, by decide⟩ ⟨rfl, rfl⟩ ⟨by decide, by decide⟩ rfl (Nat.le_of_ble_eq_true rfl) dL_isCut_129 (fun r u hp => ?_)
            obtain ⟨rfl, hG⟩ := hp
            refine r_iload hc dL_isCut_132 rfl ?_
            refine r_icmp_ne (tgt := 163) hc dL_isCut_134 (by decide) (eq_NN (by omega) (by omega)) (fun c_134 => ?_) (fun c_134 => ?_)
            ·
              exfalso; omega
            ·
              refine r_aload_n hc dL_isCut_137 rfl ?_
              refine r_iload_n hc dL_isCut_138 rfl ?_
              refine r_iconst (v := nI 2) hc dL_isCut_139 rfl ?_
              refine cl_L_20 (As := [.int (nI d), .int (nI 2)]) hc (qd_2 hG (by omega) (d := d) (by omega)) hG.sh rfl ⟨by decide, by decide⟩ ⟨rfl, rfl⟩ ⟨by decide, by decide⟩ rfl (Nat.le_of_ble_eq_true rfl) dL_isCut_140 (fun r u hp => ?_)
              obtain ⟨rfl, hG⟩ := hp
              refine r_iload hc dL_isCut_143 rfl ?_
              refine r_icmp_ne (tgt := 163) hc dL_isCut_145 (by decide) (eq_NN (by omega) (by omega)) (fun c_145 => ?_) (fun c_145 => ?_)
              ·
                exfalso; omega
              ·
                refine r_aload_n hc dL_isCut_148 rfl ?_
                refine r_iload_n hc dL_isCut_149 rfl ?_
                refine r_iconst (v := nI 5) hc dL_isCut_150 rfl ?_
                refine cl_L_20 (As := [.int (nI d), .int (nI 5)]) hc (qd_5 hG (by omega) (d := d) (by omega)) hG.sh rfl ⟨by decide, by decide⟩ ⟨rfl, rfl⟩ ⟨by decide, by decide⟩ rfl (Nat.le_of_ble_eq_true rfl) dL_isCut_151 (fun r u hp => ?_)
                obtain ⟨rfl, hG⟩ := hp
                refine r_iload hc dL_isCut_154 rfl ?_
                refine r_icmp_ne (tgt := 163) hc dL_isCut_156 (by decide) (iff_of_true rfl (rfl : (0 : Nat) = 0)) (fun c_156 => ?_) (fun c_156 => ?_)
                ·
                  exfalso; omega
                ·
                  refine r_iconst (v := nI 1) hc dL_isCut_159 rfl ?_
                  refine r_goto (tgt := 164) hc dL_isCut_160 (by decide) ?_
                  exact hR _ _ ⟨rfl, v, hG, hL2, by omega⟩ rfl _ _ dL_isCut_164
    ·
      have hL21 := hL2.1
      subst hy
      have hn2 := hG2.nums
      have hG := hG2
      have hdw := hG.door (d := d) (by omega)
      refine r_istore (ls' := [(11, .int (zI (((w 7 : Nat) : Int)))), (10, .int (nI (lossW (lockWt v d) (v 1)))), (9, .int (zI ((((v 7 + (lockWt v d) : Nat) : Int) - ((lossW (lockWt v d) (v 1) : Nat) : Int)) - ((lockW f s : Nat) : Int)))), (8, .int (nI (v (20 + 6 * d + 2)))), (7, .int (nI (v (20 + 6 * d + 4)))), (6, .int (nI (v 8))), (5, .int (nI (v 7))), (4, .int (nI (lockWt v d))), (0, .ref P), (1, .int (nI d)), (2, .int (nI f)), (3, .int (nI s))]) hc dL_isCut_101 (by decide) rfl ?_
      refine r_iload hc dL_isCut_103 rfl ?_
      refine r_if_ge (tgt := 165) hc dL_isCut_105 (by decide) (ge0_Z (by omega)) (fun c_105 => ?_) (fun c_105 => ?_)
      ·
        refine r_iload hc dL_isCut_165 rfl ?_
        refine r_iload hc dL_isCut_167 rfl ?_
        refine r_icmp_ne (tgt := 234) hc dL_isCut_169 (by decide) (eq_ZZ (by omega) (by omega)) (fun c_169 => ?_) (fun c_169 => ?_)
        ·
          exfalso; omega
        ·
          refine r_aload_n hc dL_isCut_172 rfl ?_
          refine r_bipush (v := nI 7) hc dL_isCut_173 rfl ?_
          refine cl_L_14 (As := [.int (nI 7)]) hc (qc_7 hG (by omega)) hG.sh rfl ⟨by decide, by decide⟩ ⟨rfl, rfl⟩ ⟨by decide, by decide⟩ rfl (Nat.le_of_ble_eq_true rfl) dL_isCut_175 (fun r u hp => ?_)
          obtain ⟨rfl, hG⟩ := hp
          refine r_iload hc dL_isCut_178 rfl ?_
          refine r_icmp_ne (tgt := 234) hc dL_isCut_180 (by decide) (eq_NZ (by omega) (by omega)) (fun c_180 => ?_) (fun c_180 => ?_)
          ·
            exfalso; omega
          ·
            refine r_aload_n hc dL_isCut_183 rfl ?_
            refine r_bipush (v := nI 8) hc dL_isCut_184 rfl ?_
            refine cl_L_14 (As := [.int (nI 8)]) hc (qc_8 hG (by omega)) hG.sh rfl ⟨by decide, by decide⟩ ⟨rfl, rfl⟩ ⟨by decide, by decide⟩ rfl (Nat.le_of_ble_eq_true rfl) dL_isCut_186 (fun r u hp => ?_)
            obtain ⟨rfl, hG⟩ := hp
            refine r_iload hc dL_isCut_189 rfl ?_
            refine r_iload hc dL_isCut_191 rfl ?_
            refine r_iadd (v := nI (v 8 + (lossW (lockWt v d) (v 1)))) hc dL_isCut_193 (ad_NN _ _) ?_
            refine r_icmp_ne (tgt := 234) hc dL_isCut_194 (by decide) (eq_NN (by omega) (by omega)) (fun c_194 => ?_) (fun c_194 => ?_)
            ·
              exfalso; omega
            ·
              refine r_aload_n hc dL_isCut_197 rfl ?_
              refine r_iload_n hc dL_isCut_198 rfl ?_
              refine r_iconst (v := nI 2) hc dL_isCut_199 rfl ?_
              refine cl_L_20 (As := [.int (nI d), .int (nI 2)]) hc (qd_2 hG (by omega) (d := d) (by omega)) hG.sh rfl ⟨by decide, by decide⟩ ⟨rfl, rfl⟩ ⟨by decide, by decide⟩ rfl (Nat.le_of_ble_eq_true rfl) dL_isCut_200 (fun r u hp => ?_)
              obtain ⟨rfl, hG⟩ := hp
              refine r_iload_n hc dL_isCut_203 rfl ?_
              refine r_icmp_ne (tgt := 234) hc dL_isCut_204 (by decide) (eq_NN (by omega) (by omega)) (fun c_204 => ?_) (fun c_204 => ?_)
              ·
                exfalso; omega
              ·
                refine r_aload_n hc dL_isCut_207 rfl ?_
                refine r_iload_n hc dL_isCut_208 rfl ?_
                refine r_iconst (v := nI 3) hc dL_isCut_209 rfl ?_
                refine cl_L_20 (As := [.int (nI d), .int (nI 3)]) hc (qd_3 hG (by omega) (d := d) (by omega)) hG.sh rfl ⟨by decide, by decide⟩ ⟨rfl, rfl⟩ ⟨by decide, by decide⟩ rfl (Nat.le_of_ble_eq_true rfl) dL_isCut_210 (fun r u hp => ?_)
                obtain ⟨rfl, hG⟩ := hp
                refine r_iload_n hc dL_isCut_213 rfl ?_
                refine r_icmp_ne (tgt := 234) hc dL_isCut_214 (by decide) (eq_NN (by omega) (by omega)) (fun c_214 => ?_) (fun c_214 => ?_)
                ·
                  exfalso; omega
                ·
                  refine r_aload_n hc dL_isCut_217 rfl ?_
                  refine r_iload_n hc dL_isCut_218 rfl ?_
                  refine r_iconst (v := nI 5) hc dL_isCut_219 rfl ?_
                  refine cl_L_20 (As := [.int (nI d), .int (nI 5)]) hc (qd_5 hG (by omega) (d := d) (by omega)) hG.sh rfl ⟨by decide, by decide⟩ ⟨rfl, rfl⟩ ⟨by decide, by decide⟩ rfl (Nat.le_of_ble_eq_true rfl) dL_isCut_220 (fun r u hp => ?_)
                  obtain ⟨rfl, hG⟩ := hp
                  refine r_iload hc dL_isCut_223 rfl ?_
                  refine r_iconst (v := nI 1) hc dL_isCut_225 rfl ?_
                  refine r_iadd (v := nI (v (20 + 6 * d + 4) + 1)) hc dL_isCut_226 (ad_NN _ _) ?_
                  refine r_icmp_ne (tgt := 234) hc dL_isCut_227 (by decide) (iff_of_true (by rw [wt]) (rfl : (0 : Nat) = 0)) (fun c_227 => ?_) (fun c_227 => ?_)
                  ·
                    exfalso; omega
                  ·
                    refine r_iconst (v := nI 1) hc dL_isCut_230 rfl ?_
                    refine r_goto (tgt := 235) hc dL_isCut_231 (by decide) ?_
                    exact hR _ _ ⟨rfl, w, hG, hL2, by omega⟩ rfl _ _ dL_isCut_235
      ·
        exfalso; omega
  ·
    refine r_aload_n hc dL_isCut_9 rfl ?_
    refine r_iload_n hc dL_isCut_10 rfl ?_
    refine r_iload_n hc dL_isCut_11 rfl ?_
    refine r_iload_n hc dL_isCut_12 rfl ?_
    refine cl_L_44 (As := [.int (nI d), .int (nI f), .int (nI s)]) hc (m_cut hG (by omega) (by omega) (by omega) (by omega)) hG.sh rfl ⟨by decide, by decide⟩ ⟨rfl, rfl⟩ ⟨by decide, by decide⟩ rfl (Nat.le_of_ble_eq_true rfl) dL_isCut_13 (fun r u hp => ?_)
    obtain ⟨⟨y, w⟩, rfl, hG0, hX⟩ := hp
    have hT := t_cut hG.ok hL (d := d) hf hs hX
    dsimp only at hT
    have hG2 : GS z sh P w u := hG0
    obtain ⟨hL2, e6, hT⟩ := hT
    rcases hT with ⟨hd, hy, hw⟩ | ⟨hd, hlw, hy, hw⟩ | ⟨hd, hy, w7, w8, w4, wf, ws, wt⟩
    ·
      have hL21 := hL2.1
      subst hy
      rw [hw] at hG2 hL2 e6 hL21
      have hG := hG2
      refine r_iconst (v := zI (-1)) hc dL_isCut_16 rfl ?_
      refine r_icmp_ne (tgt := 24) hc dL_isCut_17 (by decide) (eq_ZZ (by omega) (by omega)) (fun c_17 => ?_) (fun c_17 => ?_)
      ·
        exfalso; omega
      ·
        refine r_iconst (v := nI 1) hc dL_isCut_20 rfl ?_
        refine r_goto (tgt := 25) hc dL_isCut_21 (by decide) ?_
        exact hR _ _ ⟨rfl, v, hG, hL2, by omega⟩ rfl _ _ dL_isCut_25
    ·
      exfalso; omega
    ·
      exfalso; omega
set_option maxRecDepth 100000 in
set_option maxHeartbeats 4000000 in
theorem c_L_isCutKey {Ω : OmT} {z : Nat} {sh : Nat → Option Kd} {P : Nat} {v : Nat → Nat} {S : StT} (hG : GS z sh P v S) (hL : Led v) (hB : v 6 ≤ 800000000) {c r : Nat} (hc0 : c < 10000) (hr0 : r < 8) : CtI Ω yL_isCutKey cL_isCutKey 8 .boolean rm_L_isCutKey [.ref P, .int (nI c), .int (nI r)] S (fun r u => r = nI 1 ∧ ∃ w, GS z sh P w u ∧ Led w ∧ w 6 ≤ v 6 + 100) := by
  have hn := hG.nums
  have hL1 := hL.1
  have hsd := sumD_le c
  have hsde : sumD c = dgt c 0 + dgt c 1 + dgt c 2 + dgt c 3 := rfl
  refine CtI.enter (by decide) (Nat.le_of_ble_eq_true rfl) (fun Φ hc hR => ?_)
  show Vw Ω Φ S (0, 0) 0 [(0, .ref P), (1, .int (nI c)), (2, .int (nI r))] []
  refine r_aload_n hc dL_isCutKey_0 rfl ?_
  refine r_iconst (v := nI 3) hc dL_isCutKey_1 rfl ?_
  refine cl_L_14 (As := [.int (nI 3)]) hc (qc_3 hG (by omega)) hG.sh rfl ⟨by decide, by decide⟩ ⟨rfl, rfl⟩ ⟨by decide, by decide⟩ rfl (Nat.le_of_ble_eq_true rfl) dL_isCutKey_2 (fun r u hp => ?_)
  obtain ⟨rfl, hG⟩ := hp
  refine r_istore_n (ls' := [(3, .int (nI (v 5))), (0, .ref P), (1, .int (nI c)), (2, .int (nI r))]) hc dL_isCutKey_5 (by decide) rfl ?_
  refine r_aload_n hc dL_isCutKey_6 rfl ?_
  refine r_bipush (v := nI 7) hc dL_isCutKey_7 rfl ?_
  refine cl_L_14 (As := [.int (nI 7)]) hc (qc_7 hG (by omega)) hG.sh rfl ⟨by decide, by decide⟩ ⟨rfl, rfl⟩ ⟨by decide, by decide⟩ rfl (Nat.le_of_ble_eq_true rfl) dL_isCutKey_9 (fun r u hp => ?_)
  obtain ⟨rfl, hG⟩ := hp
  refine r_istore (ls' := [(4, .int (nI (v 7))), (3, .int (nI (v 5))), (0, .ref P), (1, .int (nI c)), (2, .int (nI r))]) hc dL_isCutKey_12 (by decide) rfl ?_
  refine r_aload_n hc dL_isCutKey_14 rfl ?_
  refine r_iconst (v := nI 4) hc dL_isCutKey_15 rfl ?_
  refine cl_L_14 (As := [.int (nI 4)]) hc (qc_4 hG (by omega)) hG.sh rfl ⟨by decide, by decide⟩ ⟨rfl, rfl⟩ ⟨by decide, by decide⟩ rfl (Nat.le_of_ble_eq_true rfl) dL_isCutKey_16 (fun r u hp => ?_)
  obtain ⟨rfl, hG⟩ := hp
  refine r_istore (ls' := [(5, .int (nI (v 6))), (4, .int (nI (v 7))), (3, .int (nI (v 5))), (0, .ref P), (1, .int (nI c)), (2, .int (nI r))]) hc dL_isCutKey_19 (by decide) rfl ?_
  refine r_iload_n hc dL_isCutKey_21 rfl ?_
  refine r_iconst (v := nI 0) hc dL_isCutKey_22 rfl ?_
  have hdg_23 := dgt_lt c (3 - 0)
  have e_23 : dgt c (3 - 0) = dgt c 3 := rfl
  refine cl_L_8 (As := [.int (nI c), .int (nI 0)]) hc (c_L_digit (c := c) (p := 0) (by omega) (by omega)) rfl ⟨by decide, by decide⟩ ⟨rfl, rfl⟩ ⟨by decide, by decide⟩ rfl (Nat.le_of_ble_eq_true rfl) dL_isCutKey_23 (fun r u hp => ?_)
  obtain ⟨rfl, hu⟩ := hp
  rw [hu]
  rw [e_23]
  rw [e_23] at hdg_23
  refine r_iload_n hc dL_isCutKey_26 rfl ?_
  refine r_iconst (v := nI 1) hc dL_isCutKey_27 rfl ?_
  have hdg_28 := dgt_lt c (3 - 1)
  have e_28 : dgt c (3 - 1) = dgt c 2 := rfl
  refine cl_L_8 (As := [.int (nI c), .int (nI 1)]) hc (c_L_digit (c := c) (p := 1) (by omega) (by omega)) rfl ⟨by decide, by decide⟩ ⟨rfl, rfl⟩ ⟨by decide, by decide⟩ rfl (Nat.le_of_ble_eq_true rfl) dL_isCutKey_28 (fun r u hp => ?_)
  obtain ⟨rfl, hu⟩ := hp
  rw [hu]
  rw [e_28]
  rw [e_28] at hdg_28
  refine r_iadd (v := nI (dgt c 3 + (dgt c 2))) hc dL_isCutKey_31 (ad_NN _ _) ?_
  refine r_iload_n hc dL_isCutKey_32 rfl ?_
  refine r_iconst (v := nI 2) hc dL_isCutKey_33 rfl ?_
  have hdg_34 := dgt_lt c (3 - 2)
  have e_34 : dgt c (3 - 2) = dgt c 1 := rfl
  refine cl_L_8 (As := [.int (nI c), .int (nI 2)]) hc (c_L_digit (c := c) (p := 2) (by omega) (by omega)) rfl ⟨by decide, by decide⟩ ⟨rfl, rfl⟩ ⟨by decide, by decide⟩ rfl (Nat.le_of_ble_eq_true rfl) dL_isCutKey_34 (fun r u hp => ?_)
  obtain ⟨rfl, hu⟩ := hp
  rw [hu]
  rw [e_34]
  rw [e_34] at hdg_34
  refine r_iadd (v := nI (dgt c 3 + (dgt c 2) + (dgt c 1))) hc dL_isCutKey_37 (ad_NN _ _) ?_
  refine r_iload_n hc dL_isCutKey_38 rfl ?_
  refine r_iconst (v := nI 3) hc dL_isCutKey_39 rfl ?_
  have hdg_40 := dgt_lt c (3 - 3)
  have e_40 : dgt c (3 - 3) = dgt c 0 := rfl
  refine cl_L_8 (As := [.int (nI c), .int (nI 3)]) hc (c_L_digit (c := c) (p := 3) (by omega) (by omega)) rfl ⟨by decide, by decide⟩ ⟨rfl, rfl⟩ ⟨by decide, by decide⟩ rfl (Nat.le_of_ble_eq_true rfl) dL_isCutKey_40 (fun r u hp => ?_)
  obtain ⟨rfl, hu⟩ := hp
  rw [hu]
  rw [e_40]
  rw [e_40] at hdg_40
  refine r_iadd (v := nI (dgt c 3 + (dgt c 2) + (dgt c 1) + (dgt c 0))) hc dL_isCutKey_43 (ad_NN _ _) ?_
  refine r_istore (ls' := [(6, .int (nI (dgt c 3 + (dgt c 2) + (dgt c 1) + (dgt c 0)))), (5, .int (nI (v 6))), (4, .int (nI (v 7))), (3, .int (nI (v 5))), (0, .ref P), (1, .int (nI c)), (2, .int (nI r))]) hc dL_isCutKey_44 (by decide) rfl ?_
  refine r_aload_n hc dL_isCutKey_46 rfl ?_
  refine r_iload_n hc dL_isCutKey_47 rfl ?_
  refine r_iload_n hc dL_isCutKey_48 rfl ?_
  refine cl_L_52 (As := [.int (nI c), .int (nI r)]) hc (m_key hG (by omega) (by omega) (by omega)) hG.sh rfl ⟨by decide, by decide⟩ ⟨rfl, rfl⟩ ⟨by decide, by decide⟩ rfl (Nat.le_of_ble_eq_true rfl) dL_isCutKey_49 (fun r u hp => ?_)
  obtain ⟨⟨y, w⟩, rfl, hG0, hX⟩ := hp
  have hT := t_key hG.ok hL hc0 hr0 hX
  dsimp only at hT
  have hG2 : GS z sh P w u := hG0
  obtain ⟨hL2, e6, hT⟩ := hT
  rcases hT with ⟨h16, hy, hw⟩ | ⟨h16, hck, hy, hw⟩ | ⟨h16, hck, hy, w6, w5, wc, wk, wr, w7, w2, w0⟩
  ·
    have hL21 := hL2.1
    subst hy
    rw [hw] at hG2 hL2 e6 hL21
    have hG := hG2
    refine r_istore (ls' := [(7, .int (zI (-4))), (6, .int (nI (dgt c 3 + (dgt c 2) + (dgt c 1) + (dgt c 0)))), (5, .int (nI (v 6))), (4, .int (nI (v 7))), (3, .int (nI (v 5))), (0, .ref P), (1, .int (nI c)), (2, .int (nI r))]) hc dL_isCutKey_52 (by decide) rfl ?_
    refine r_iload_n hc dL_isCutKey_54 rfl ?_
    refine r_bipush (v := nI 16) hc dL_isCutKey_55 rfl ?_
    refine r_icmp_eq (tgt := 73) hc dL_isCutKey_57 (by decide) (eq_NN (by omega) (by omega)) (fun c_57 => ?_) (fun c_57 => ?_)
    ·
      refine r_iload hc dL_isCutKey_73 rfl ?_
      refine r_iload_n hc dL_isCutKey_75 rfl ?_
      refine r_bipush (v := nI 16) hc dL_isCutKey_76 rfl ?_
      refine r_icmp_ne (tgt := 86) hc dL_isCutKey_78 (by decide) (eq_NN (by omega) (by omega)) (fun c_78 => ?_) (fun c_78 => ?_)
      ·
        exfalso; omega
      ·
        refine r_bipush (v := zI (-4)) hc dL_isCutKey_81 rfl ?_
        refine r_goto (tgt := 88) hc dL_isCutKey_83 (by decide) ?_
        refine r_icmp_ne (tgt := 114) hc dL_isCutKey_88 (by decide) (eq_ZZ (by omega) (by omega)) (fun c_88 => ?_) (fun c_88 => ?_)
        ·
          exfalso; omega
        ·
          refine r_aload_n hc dL_isCutKey_91 rfl ?_
          refine r_iconst (v := nI 3) hc dL_isCutKey_92 rfl ?_
          refine cl_L_14 (As := [.int (nI 3)]) hc (qc_3 hG (by omega)) hG.sh rfl ⟨by decide, by decide⟩ ⟨rfl, rfl⟩ ⟨by decide, by decide⟩ rfl (Nat.le_of_ble_eq_true rfl) dL_isCutKey_93 (fun r u hp => ?_)
          obtain ⟨rfl, hG⟩ := hp
          refine r_iload_n hc dL_isCutKey_96 rfl ?_
          refine r_icmp_ne (tgt := 114) hc dL_isCutKey_97 (by decide) (eq_NN (by omega) (by omega)) (fun c_97 => ?_) (fun c_97 => ?_)
          ·
            exfalso; omega
          ·
            refine r_aload_n hc dL_isCutKey_100 rfl ?_
            refine r_iconst (v := nI 4) hc dL_isCutKey_101 rfl ?_
            refine cl_L_14 (As := [.int (nI 4)]) hc (qc_4 hG (by omega)) hG.sh rfl ⟨by decide, by decide⟩ ⟨rfl, rfl⟩ ⟨by decide, by decide⟩ rfl (Nat.le_of_ble_eq_true rfl) dL_isCutKey_102 (fun r u hp => ?_)
            obtain ⟨rfl, hG⟩ := hp
            refine r_iload hc dL_isCutKey_105 rfl ?_
            refine r_icmp_ne (tgt := 114) hc dL_isCutKey_107 (by decide) (eq_NN (by omega) (by omega)) (fun c_107 => ?_) (fun c_107 => ?_)
            ·
              exfalso; omega
            ·
              refine r_iconst (v := nI 1) hc dL_isCutKey_110 rfl ?_
              refine r_goto (tgt := 115) hc dL_isCutKey_111 (by decide) ?_
              exact hR _ _ ⟨rfl, v, hG, hL2, by omega⟩ rfl _ _ dL_isCutKey_115
    ·
      exfalso; omega
  ·
    have hL21 := hL2.1
    subst hy
    rw [hw] at hG2 hL2 e6 hL21
    have hG := hG2
    refine r_istore (ls' := [(7, .int (zI (-5))), (6, .int (nI (dgt c 3 + (dgt c 2) + (dgt c 1) + (dgt c 0)))), (5, .int (nI (v 6))), (4, .int (nI (v 7))), (3, .int (nI (v 5))), (0, .ref P), (1, .int (nI c)), (2, .int (nI r))]) hc dL_isCutKey_52 (by decide) rfl ?_
    refine r_iload_n hc dL_isCutKey_54 rfl ?_
    refine r_bipush (v := nI 16) hc dL_isCutKey_55 rfl ?_
    refine r_icmp_eq (tgt := 73) hc dL_isCutKey_57 (by decide) (eq_NN (by omega) (by omega)) (fun c_57 => ?_) (fun c_57 => ?_)
    ·
      exfalso; omega
    ·
      refine r_iload_n hc dL_isCutKey_60 rfl ?_
      refine r_aload_n hc dL_isCutKey_61 rfl ?_
      refine r_bipush (v := nI 13) hc dL_isCutKey_62 rfl ?_
      refine cl_L_14 (As := [.int (nI 13)]) hc (qc_13 hG (by omega)) hG.sh rfl ⟨by decide, by decide⟩ ⟨rfl, rfl⟩ ⟨by decide, by decide⟩ rfl (Nat.le_of_ble_eq_true rfl) dL_isCutKey_64 (fun r u hp => ?_)
      obtain ⟨rfl, hG⟩ := hp
      refine cl_L_55 (As := [.int (nI c), .int (nI (v 0))]) hc (c_L_isKey (c := c) (b := v 0) (by omega) (by omega)) rfl ⟨by decide, by decide⟩ ⟨rfl, rfl⟩ ⟨by decide, by decide⟩ rfl (Nat.le_of_ble_eq_true rfl) dL_isCutKey_67 (fun r u hp => ?_)
      obtain ⟨rfl, hu⟩ := hp
      rw [hu]
      refine r_if_ne (tgt := 116) hc dL_isCutKey_70 (by decide) (bI_0 _) (fun c_70 => ?_) (fun c_70 => ?_)
      ·
        have c_70 := bnf c_70
        exact absurd c_70 (by rw [hck]; decide)
      ·
        refine r_iload hc dL_isCutKey_73 rfl ?_
        refine r_iload_n hc dL_isCutKey_75 rfl ?_
        refine r_bipush (v := nI 16) hc dL_isCutKey_76 rfl ?_
        refine r_icmp_ne (tgt := 86) hc dL_isCutKey_78 (by decide) (eq_NN (by omega) (by omega)) (fun c_78 => ?_) (fun c_78 => ?_)
        ·
          refine r_bipush (v := zI (-5)) hc dL_isCutKey_86 rfl ?_
          refine r_icmp_ne (tgt := 114) hc dL_isCutKey_88 (by decide) (eq_ZZ (by omega) (by omega)) (fun c_88 => ?_) (fun c_88 => ?_)
          ·
            exfalso; omega
          ·
            refine r_aload_n hc dL_isCutKey_91 rfl ?_
            refine r_iconst (v := nI 3) hc dL_isCutKey_92 rfl ?_
            refine cl_L_14 (As := [.int (nI 3)]) hc (qc_3 hG (by omega)) hG.sh rfl ⟨by decide, by decide⟩ ⟨rfl, rfl⟩ ⟨by decide, by decide⟩ rfl (Nat.le_of_ble_eq_true rfl) dL_isCutKey_93 (fun r u hp => ?_)
            obtain ⟨rfl, hG⟩ := hp
            refine r_iload_n hc dL_isCutKey_96 rfl ?_
            refine r_icmp_ne (tgt := 114) hc dL_isCutKey_97 (by decide) (eq_NN (by omega) (by omega)) (fun c_97 => ?_) (fun c_97 => ?_)
            ·
              exfalso; omega
            ·
              refine r_aload_n hc dL_isCutKey_100 rfl ?_
              refine r_iconst (v := nI 4) hc dL_isCutKey_101 rfl ?_
              refine cl_L_14 (As := [.int (nI 4)]) hc (qc_4 hG (by omega)) hG.sh rfl ⟨by decide, by decide⟩ ⟨rfl, rfl⟩ ⟨by decide, by decide⟩ rfl (Nat.le_of_ble_eq_true rfl) dL_isCutKey_102 (fun r u hp => ?_)
              obtain ⟨rfl, hG⟩ := hp
              refine r_iload hc dL_isCutKey_105 rfl ?_
              refine r_icmp_ne (tgt := 114) hc dL_isCutKey_107 (by decide) (eq_NN (by omega) (by omega)) (fun c_107 => ?_) (fun c_107 => ?_)
              ·
                exfalso; omega
              ·
                refine r_iconst (v := nI 1) hc dL_isCutKey_110 rfl ?_
                refine r_goto (tgt := 115) hc dL_isCutKey_111 (by decide) ?_
                exact hR _ _ ⟨rfl, v, hG, hL2, by omega⟩ rfl _ _ dL_isCutKey_115
        ·
          exfalso; omega
  ·
    have hL21 := hL2.1
    subst hy
    have hn2 := hG2.nums
    have hG := hG2
    have hkw := hG.key (k := v 5) (by omega)
    refine r_istore (ls' := [(7, .int (zI (((v 5 : Nat) : Int)))), (6, .int (nI (dgt c 3 + (dgt c 2) + (dgt c 1) + (dgt c 0)))), (5, .int (nI (v 6))), (4, .int (nI (v 7))), (3, .int (nI (v 5))), (0, .ref P), (1, .int (nI c)), (2, .int (nI r))]) hc dL_isCutKey_52 (by decide) rfl ?_
    refine r_iload_n hc dL_isCutKey_54 rfl ?_
    refine r_bipush (v := nI 16) hc dL_isCutKey_55 rfl ?_
    refine r_icmp_eq (tgt := 73) hc dL_isCutKey_57 (by decide) (eq_NN (by omega) (by omega)) (fun c_57 => ?_) (fun c_57 => ?_)
    ·
      exfalso; omega
    ·
      refine r_iload_n hc dL_isCutKey_60 rfl ?_
      refine r_aload_n hc dL_isCutKey_61 rfl ?_
      refine r_bipush (v := nI 13) hc dL_isCutKey_62 rfl ?_
      refine cl_L_14 (As := [.int (nI 13)]) hc (qc_13 hG (by omega)) hG.sh rfl ⟨by decide, by decide⟩ ⟨rfl, rfl⟩ ⟨by decide, by decide⟩ rfl (Nat.le_of_ble_eq_true rfl) dL_isCutKey_64 (fun r u hp => ?_)
      obtain ⟨rfl, hG⟩ := hp
      refine cl_L_55 (As := [.int (nI c), .int (nI (w 0))]) hc (c_L_isKey (c := c) (b := w 0) (by omega) (by omega)) rfl ⟨by decide, by decide⟩ ⟨rfl, rfl⟩ ⟨by decide, by decide⟩ rfl (Nat.le_of_ble_eq_true rfl) dL_isCutKey_67 (fun r u hp => ?_)
      obtain ⟨rfl, hu⟩ := hp
      rw [hu]
      refine r_if_ne (tgt := 116) hc dL_isCutKey_70 (by decide) (bI_0 _) (fun c_70 => ?_) (fun c_70 => ?_)
      ·
        have c_70 := bnf c_70
        refine r_iload hc dL_isCutKey_116 rfl ?_
        refine r_iload_n hc dL_isCutKey_118 rfl ?_
        refine r_icmp_ne (tgt := 195) hc dL_isCutKey_119 (by decide) (eq_ZN (by omega) (by omega)) (fun c_119 => ?_) (fun c_119 => ?_)
        ·
          exfalso; omega
        ·
          refine r_aload_n hc dL_isCutKey_122 rfl ?_
          refine r_iload_n hc dL_isCutKey_123 rfl ?_
          refine r_iconst (v := nI 0) hc dL_isCutKey_124 rfl ?_
          refine cl_L_23 (As := [.int (nI (v 5)), .int (nI 0)]) hc (qk_0 hG (by omega) (k := v 5) (by omega)) hG.sh rfl ⟨by decide, by decide⟩ ⟨rfl, rfl⟩ ⟨by decide, by decide⟩ rfl (Nat.le_of_ble_eq_true rfl) dL_isCutKey_125 (fun r u hp => ?_)
          obtain ⟨rfl, hG⟩ := hp
          refine r_iload_n hc dL_isCutKey_128 rfl ?_
          refine r_icmp_ne (tgt := 195) hc dL_isCutKey_129 (by decide) (eq_NN (by omega) (by omega)) (fun c_129 => ?_) (fun c_129 => ?_)
          ·
            exfalso; omega
          ·
            refine r_aload_n hc dL_isCutKey_132 rfl ?_
            refine r_iload_n hc dL_isCutKey_133 rfl ?_
            refine r_iconst (v := nI 1) hc dL_isCutKey_134 rfl ?_
            refine cl_L_23 (As := [.int (nI (v 5)), .int (nI 1)]) hc (qk_1 hG (by omega) (k := v 5) (by omega)) hG.sh rfl ⟨by decide, by decide⟩ ⟨rfl, rfl⟩ ⟨by decide, by decide⟩ rfl (Nat.le_of_ble_eq_true rfl) dL_isCutKey_135 (fun r u hp => ?_)
            obtain ⟨rfl, hG⟩ := hp
            refine r_aload_n hc dL_isCutKey_138 rfl ?_
            refine r_bipush (v := nI 15) hc dL_isCutKey_139 rfl ?_
            refine cl_L_14 (As := [.int (nI 15)]) hc (qc_15 hG (by omega)) hG.sh rfl ⟨by decide, by decide⟩ ⟨rfl, rfl⟩ ⟨by decide, by decide⟩ rfl (Nat.le_of_ble_eq_true rfl) dL_isCutKey_141 (fun r u hp => ?_)
            obtain ⟨rfl, hG⟩ := hp
            refine r_iload hc dL_isCutKey_144 rfl ?_
            refine r_isub (v := zI (((w 2 : Nat) : Int) - ((dgt c 3 + (dgt c 2) + (dgt c 1) + (dgt c 0) : Nat) : Int))) hc dL_isCutKey_146 (sb_NN _ _) ?_
            refine r_icmp_ne (tgt := 195) hc dL_isCutKey_147 (by decide) (eq_NZ (by omega) (by omega)) (fun c_147 => ?_) (fun c_147 => ?_)
            ·
              exfalso; omega
            ·
              refine r_aload_n hc dL_isCutKey_150 rfl ?_
              refine r_iload_n hc dL_isCutKey_151 rfl ?_
              refine r_iconst (v := nI 2) hc dL_isCutKey_152 rfl ?_
              refine cl_L_23 (As := [.int (nI (v 5)), .int (nI 2)]) hc (qk_2 hG (by omega) (k := v 5) (by omega)) hG.sh rfl ⟨by decide, by decide⟩ ⟨rfl, rfl⟩ ⟨by decide, by decide⟩ rfl (Nat.le_of_ble_eq_true rfl) dL_isCutKey_153 (fun r u hp => ?_)
              obtain ⟨rfl, hG⟩ := hp
              refine r_iload_n hc dL_isCutKey_156 rfl ?_
              refine r_icmp_ne (tgt := 195) hc dL_isCutKey_157 (by decide) (eq_NN (by omega) (by omega)) (fun c_157 => ?_) (fun c_157 => ?_)
              ·
                exfalso; omega
              ·
                refine r_aload_n hc dL_isCutKey_160 rfl ?_
                refine r_bipush (v := nI 7) hc dL_isCutKey_161 rfl ?_
                refine cl_L_14 (As := [.int (nI 7)]) hc (qc_7 hG (by omega)) hG.sh rfl ⟨by decide, by decide⟩ ⟨rfl, rfl⟩ ⟨by decide, by decide⟩ rfl (Nat.le_of_ble_eq_true rfl) dL_isCutKey_163 (fun r u hp => ?_)
                obtain ⟨rfl, hG⟩ := hp
                refine r_iload hc dL_isCutKey_166 rfl ?_
                refine r_iload hc dL_isCutKey_168 rfl ?_
                refine r_iadd (v := nI (v 7 + (dgt c 3 + (dgt c 2) + (dgt c 1) + (dgt c 0)))) hc dL_isCutKey_170 (ad_NN _ _) ?_
                refine r_icmp_ne (tgt := 195) hc dL_isCutKey_171 (by decide) (eq_NN (by omega) (by omega)) (fun c_171 => ?_) (fun c_171 => ?_)
                ·
                  exfalso; omega
                ·
                  refine r_aload_n hc dL_isCutKey_174 rfl ?_
                  refine r_iconst (v := nI 4) hc dL_isCutKey_175 rfl ?_
                  refine cl_L_14 (As := [.int (nI 4)]) hc (qc_4 hG (by omega)) hG.sh rfl ⟨by decide, by decide⟩ ⟨rfl, rfl⟩ ⟨by decide, by decide⟩ rfl (Nat.le_of_ble_eq_true rfl) dL_isCutKey_176 (fun r u hp => ?_)
                  obtain ⟨rfl, hG⟩ := hp
                  refine r_iload hc dL_isCutKey_179 rfl ?_
                  refine r_aload_n hc dL_isCutKey_181 rfl ?_
                  refine r_bipush (v := nI 15) hc dL_isCutKey_182 rfl ?_
                  refine cl_L_14 (As := [.int (nI 15)]) hc (qc_15 hG (by omega)) hG.sh rfl ⟨by decide, by decide⟩ ⟨rfl, rfl⟩ ⟨by decide, by decide⟩ rfl (Nat.le_of_ble_eq_true rfl) dL_isCutKey_184 (fun r u hp => ?_)
                  obtain ⟨rfl, hG⟩ := hp
                  refine r_iadd (v := nI (v 6 + (w 2))) hc dL_isCutKey_187 (ad_NN _ _) ?_
                  refine r_icmp_ne (tgt := 195) hc dL_isCutKey_188 (by decide) (eq_NN (by omega) (by omega)) (fun c_188 => ?_) (fun c_188 => ?_)
                  ·
                    exfalso; omega
                  ·
                    refine r_iconst (v := nI 1) hc dL_isCutKey_191 rfl ?_
                    refine r_goto (tgt := 196) hc dL_isCutKey_192 (by decide) ?_
                    exact hR _ _ ⟨rfl, w, hG, hL2, by omega⟩ rfl _ _ dL_isCutKey_196
      ·
        exact absurd c_70 (by rw [w0, hck]; decide)
set_option maxRecDepth 100000 in
set_option maxHeartbeats 4000000 in
theorem c_L_isMelted {Ω : OmT} {z : Nat} {sh : Nat → Option Kd} {P : Nat} {v : Nat → Nat} {S : StT} (hG : GS z sh P v S) (hL : Led v) (hB : v 6 ≤ 800000000) {k : Nat} (hk0 : k ≤ v 5) : CtI Ω yL_isMelted cL_isMelted 8 .boolean rm_L_isMelted [.ref P, .int (nI k)] S (fun r u => r = nI 1 ∧ ∃ w, GS z sh P w u ∧ Led w ∧ w 6 ≤ v 6 + 100) := by
  have hn := hG.nums
  have hL1 := hL.1
  refine CtI.enter (by decide) (Nat.le_of_ble_eq_true rfl) (fun Φ hc hR => ?_)
  show Vw Ω Φ S (0, 0) 0 [(0, .ref P), (1, .int (nI k))] []
  refine r_iload_n hc dL_isMelted_0 rfl ?_
  refine r_aload_n hc dL_isMelted_1 rfl ?_
  refine r_iconst (v := nI 3) hc dL_isMelted_2 rfl ?_
  refine cl_L_14 (As := [.int (nI 3)]) hc (qc_3 hG (by omega)) hG.sh rfl ⟨by decide, by decide⟩ ⟨rfl, rfl⟩ ⟨by decide, by decide⟩ rfl (Nat.le_of_ble_eq_true rfl) dL_isMelted_3 (fun r u hp => ?_)
  obtain ⟨rfl, hG⟩ := hp
  refine r_icmp_lt (tgt := 24) hc dL_isMelted_6 (by decide) (lt_NN (by omega) (by omega)) (fun c_6 => ?_) (fun c_6 => ?_)
  ·
    have hkr := hG.key (k := k) (by omega)
    have hls := lossW_le (w := keyWt v k) (l := v 1) (by omega) (by omega)
    refine r_aload_n hc dL_isMelted_24 rfl ?_
    refine r_iload_n hc dL_isMelted_25 rfl ?_
    refine r_iconst (v := nI 2) hc dL_isMelted_26 rfl ?_
    refine cl_L_23 (As := [.int (nI k), .int (nI 2)]) hc (qk_2 hG (by omega) (k := k) (by omega)) hG.sh rfl ⟨by decide, by decide⟩ ⟨rfl, rfl⟩ ⟨by decide, by decide⟩ rfl (Nat.le_of_ble_eq_true rfl) dL_isMelted_27 (fun r u hp => ?_)
    obtain ⟨rfl, hG⟩ := hp
    refine r_bipush (v := nI 9) hc dL_isMelted_30 rfl ?_
    refine r_icmp_eq (tgt := 39) hc dL_isMelted_32 (by decide) (eq_NN (by omega) (by omega)) (fun c_32 => ?_) (fun c_32 => ?_)
    ·
      refine r_iconst (v := nI 0) hc dL_isMelted_39 rfl ?_
      refine r_istore_n (ls' := [(2, .int (nI 0)), (0, .ref P), (1, .int (nI k))]) hc dL_isMelted_40 (by decide) rfl ?_
      refine r_aload_n hc dL_isMelted_41 rfl ?_
      refine r_bipush (v := nI 7) hc dL_isMelted_42 rfl ?_
      refine cl_L_14 (As := [.int (nI 7)]) hc (qc_7 hG (by omega)) hG.sh rfl ⟨by decide, by decide⟩ ⟨rfl, rfl⟩ ⟨by decide, by decide⟩ rfl (Nat.le_of_ble_eq_true rfl) dL_isMelted_44 (fun r u hp => ?_)
      obtain ⟨rfl, hG⟩ := hp
      refine r_istore_n (ls' := [(3, .int (nI (v 7))), (2, .int (nI 0)), (0, .ref P), (1, .int (nI k))]) hc dL_isMelted_47 (by decide) rfl ?_
      refine r_aload_n hc dL_isMelted_48 rfl ?_
      refine r_bipush (v := nI 8) hc dL_isMelted_49 rfl ?_
      refine cl_L_14 (As := [.int (nI 8)]) hc (qc_8 hG (by omega)) hG.sh rfl ⟨by decide, by decide⟩ ⟨rfl, rfl⟩ ⟨by decide, by decide⟩ rfl (Nat.le_of_ble_eq_true rfl) dL_isMelted_51 (fun r u hp => ?_)
      obtain ⟨rfl, hG⟩ := hp
      refine r_istore (ls' := [(4, .int (nI (v 8))), (3, .int (nI (v 7))), (2, .int (nI 0)), (0, .ref P), (1, .int (nI k))]) hc dL_isMelted_54 (by decide) rfl ?_
      refine r_aload_n hc dL_isMelted_56 rfl ?_
      refine r_iload_n hc dL_isMelted_57 rfl ?_
      refine r_iconst (v := nI 1) hc dL_isMelted_58 rfl ?_
      refine cl_L_23 (As := [.int (nI k), .int (nI 1)]) hc (qk_1 hG (by omega) (k := k) (by omega)) hG.sh rfl ⟨by decide, by decide⟩ ⟨rfl, rfl⟩ ⟨by decide, by decide⟩ rfl (Nat.le_of_ble_eq_true rfl) dL_isMelted_59 (fun r u hp => ?_)
      obtain ⟨rfl, hG⟩ := hp
      refine r_istore (ls' := [(5, .int (nI (keyWt v k))), (4, .int (nI (v 8))), (3, .int (nI (v 7))), (2, .int (nI 0)), (0, .ref P), (1, .int (nI k))]) hc dL_isMelted_62 (by decide) rfl ?_
      refine r_aload_n hc dL_isMelted_64 rfl ?_
      refine r_iload hc dL_isMelted_65 rfl ?_
      refine cl_L_48 (As := [.ref P, .int (nI (keyWt v k))]) hc (c_L_loss hG hL hB (g := keyWt v k) (by omega)) rfl ⟨by decide, by decide⟩ ⟨rfl, rfl⟩ ⟨by decide, by decide⟩ rfl (Nat.le_of_ble_eq_true rfl) dL_isMelted_67 (fun r u hp => ?_)
      obtain ⟨rfl, hG⟩ := hp
      refine r_istore (ls' := [(6, .int (nI (lossW (keyWt v k) (v 1)))), (5, .int (nI (keyWt v k))), (4, .int (nI (v 8))), (3, .int (nI (v 7))), (2, .int (nI 0)), (0, .ref P), (1, .int (nI k))]) hc dL_isMelted_70 (by decide) rfl ?_
      refine r_aload_n hc dL_isMelted_72 rfl ?_
      refine r_iload_n hc dL_isMelted_73 rfl ?_
      refine cl_L_58 (As := [.int (nI k)]) hc (m_melt hG (by omega) (by omega)) hG.sh rfl ⟨by decide, by decide⟩ ⟨rfl, rfl⟩ ⟨by decide, by decide⟩ rfl (Nat.le_of_ble_eq_true rfl) dL_isMelted_74 (fun r u hp => ?_)
      obtain ⟨⟨y, w⟩, rfl, hG0, hX⟩ := hp
      have hT := t_melt hG.ok hL (q := k) hX
      dsimp only at hT
      have hG2 : GS z sh P w u := hG0
      obtain ⟨hL2, e6, hT⟩ := hT
      rcases hT with ⟨hk, hy, hw⟩ | ⟨hk, h9, hy, hw⟩ | ⟨hk, h9, hy, w7, w8, w9, w5⟩
      ·
        exfalso; omega
      ·
        have hL21 := hL2.1
        subst hy
        rw [hw] at hG2 hL2 e6 hL21
        have hG := hG2
        refine r_istore (ls' := [(7, .int (zI (-5))), (6, .int (nI (lossW (keyWt v k) (v 1)))), (5, .int (nI (keyWt v k))), (4, .int (nI (v 8))), (3, .int (nI (v 7))), (2, .int (nI 0)), (0, .ref P), (1, .int (nI k))]) hc dL_isMelted_77 (by decide) rfl ?_
        refine r_iload_n hc dL_isMelted_79 rfl ?_
        refine r_if_eq (tgt := 137) hc dL_isMelted_80 (by decide) (e0_N (by omega)) (fun c_80 => ?_) (fun c_80 => ?_)
        ·
          refine r_iload hc dL_isMelted_137 rfl ?_
          refine r_bipush (v := zI (-5)) hc dL_isMelted_139 rfl ?_
          refine r_icmp_ne (tgt := 158) hc dL_isMelted_141 (by decide) (eq_ZZ (by omega) (by omega)) (fun c_141 => ?_) (fun c_141 => ?_)
          ·
            exfalso; omega
          ·
            refine r_aload_n hc dL_isMelted_144 rfl ?_
            refine r_bipush (v := nI 7) hc dL_isMelted_145 rfl ?_
            refine cl_L_14 (As := [.int (nI 7)]) hc (qc_7 hG (by omega)) hG.sh rfl ⟨by decide, by decide⟩ ⟨rfl, rfl⟩ ⟨by decide, by decide⟩ rfl (Nat.le_of_ble_eq_true rfl) dL_isMelted_147 (fun r u hp => ?_)
            obtain ⟨rfl, hG⟩ := hp
            refine r_iload_n hc dL_isMelted_150 rfl ?_
            refine r_icmp_ne (tgt := 158) hc dL_isMelted_151 (by decide) (eq_NN (by omega) (by omega)) (fun c_151 => ?_) (fun c_151 => ?_)
            ·
              exfalso; omega
            ·
              refine r_iconst (v := nI 1) hc dL_isMelted_154 rfl ?_
              refine r_goto (tgt := 159) hc dL_isMelted_155 (by decide) ?_
              exact hR _ _ ⟨rfl, v, hG, hL2, by omega⟩ rfl _ _ dL_isMelted_159
        ·
          exfalso; omega
      ·
        exfalso; omega
    ·
      refine r_iconst (v := nI 1) hc dL_isMelted_35 rfl ?_
      refine r_goto (tgt := 40) hc dL_isMelted_36 (by decide) ?_
      refine r_istore_n (ls' := [(2, .int (nI 1)), (0, .ref P), (1, .int (nI k))]) hc dL_isMelted_40 (by decide) rfl ?_
      refine r_aload_n hc dL_isMelted_41 rfl ?_
      refine r_bipush (v := nI 7) hc dL_isMelted_42 rfl ?_
      refine cl_L_14 (As := [.int (nI 7)]) hc (qc_7 hG (by omega)) hG.sh rfl ⟨by decide, by decide⟩ ⟨rfl, rfl⟩ ⟨by decide, by decide⟩ rfl (Nat.le_of_ble_eq_true rfl) dL_isMelted_44 (fun r u hp => ?_)
      obtain ⟨rfl, hG⟩ := hp
      refine r_istore_n (ls' := [(3, .int (nI (v 7))), (2, .int (nI 1)), (0, .ref P), (1, .int (nI k))]) hc dL_isMelted_47 (by decide) rfl ?_
      refine r_aload_n hc dL_isMelted_48 rfl ?_
      refine r_bipush (v := nI 8) hc dL_isMelted_49 rfl ?_
      refine cl_L_14 (As := [.int (nI 8)]) hc (qc_8 hG (by omega)) hG.sh rfl ⟨by decide, by decide⟩ ⟨rfl, rfl⟩ ⟨by decide, by decide⟩ rfl (Nat.le_of_ble_eq_true rfl) dL_isMelted_51 (fun r u hp => ?_)
      obtain ⟨rfl, hG⟩ := hp
      refine r_istore (ls' := [(4, .int (nI (v 8))), (3, .int (nI (v 7))), (2, .int (nI 1)), (0, .ref P), (1, .int (nI k))]) hc dL_isMelted_54 (by decide) rfl ?_
      refine r_aload_n hc dL_isMelted_56 rfl ?_
      refine r_iload_n hc dL_isMelted_57 rfl ?_
      refine r_iconst (v := nI 1) hc dL_isMelted_58 rfl ?_
      refine cl_L_23 (As := [.int (nI k), .int (nI 1)]) hc (qk_1 hG (by omega) (k := k) (by omega)) hG.sh rfl ⟨by decide, by decide⟩ ⟨rfl, rfl⟩ ⟨by decide, by decide⟩ rfl (Nat.le_of_ble_eq_true rfl) dL_isMelted_59 (fun r u hp => ?_)
      obtain ⟨rfl, hG⟩ := hp
      refine r_istore (ls' := [(5, .int (nI (keyWt v k))), (4, .int (nI (v 8))), (3, .int (nI (v 7))), (2, .int (nI 1)), (0, .ref P), (1, .int (nI k))]) hc dL_isMelted_62 (by decide) rfl ?_
      refine r_aload_n hc dL_isMelted_64 rfl ?_
      refine r_iload hc dL_isMelted_65 rfl ?_
      refine cl_L_48 (As := [.ref P, .int (nI (keyWt v k))]) hc (c_L_loss hG hL hB (g := keyWt v k) (by omega)) rfl ⟨by decide, by decide⟩ ⟨rfl, rfl⟩ ⟨by decide, by decide⟩ rfl (Nat.le_of_ble_eq_true rfl) dL_isMelted_67 (fun r u hp => ?_)
      obtain ⟨rfl, hG⟩ := hp
      refine r_istore (ls' := [(6, .int (nI (lossW (keyWt v k) (v 1)))), (5, .int (nI (keyWt v k))), (4, .int (nI (v 8))), (3, .int (nI (v 7))), (2, .int (nI 1)), (0, .ref P), (1, .int (nI k))]) hc dL_isMelted_70 (by decide) rfl ?_
      refine r_aload_n hc dL_isMelted_72 rfl ?_
      refine r_iload_n hc dL_isMelted_73 rfl ?_
      refine cl_L_58 (As := [.int (nI k)]) hc (m_melt hG (by omega) (by omega)) hG.sh rfl ⟨by decide, by decide⟩ ⟨rfl, rfl⟩ ⟨by decide, by decide⟩ rfl (Nat.le_of_ble_eq_true rfl) dL_isMelted_74 (fun r u hp => ?_)
      obtain ⟨⟨y, w⟩, rfl, hG0, hX⟩ := hp
      have hT := t_melt hG.ok hL (q := k) hX
      dsimp only at hT
      have hG2 : GS z sh P w u := hG0
      obtain ⟨hL2, e6, hT⟩ := hT
      rcases hT with ⟨hk, hy, hw⟩ | ⟨hk, h9, hy, hw⟩ | ⟨hk, h9, hy, w7, w8, w9, w5⟩
      ·
        exfalso; omega
      ·
        exfalso; omega
      ·
        have hL21 := hL2.1
        subst hy
        have hn2 := hG2.nums
        have hG := hG2
        have hdo0 : doorsOf w k = 0 := by rw [doorsOf_eq]; exact if_pos w9
        refine r_istore (ls' := [(7, .int (zI (((w 7 : Nat) : Int)))), (6, .int (nI (lossW (keyWt v k) (v 1)))), (5, .int (nI (keyWt v k))), (4, .int (nI (v 8))), (3, .int (nI (v 7))), (2, .int (nI 1)), (0, .ref P), (1, .int (nI k))]) hc dL_isMelted_77 (by decide) rfl ?_
        refine r_iload_n hc dL_isMelted_79 rfl ?_
        refine r_if_eq (tgt := 137) hc dL_isMelted_80 (by decide) (e0_N (by omega)) (fun c_80 => ?_) (fun c_80 => ?_)
        ·
          exfalso; omega
        ·
          refine r_iload hc dL_isMelted_83 rfl ?_
          refine r_iload_n hc dL_isMelted_85 rfl ?_
          refine r_iload hc dL_isMelted_86 rfl ?_
          refine r_iadd (v := nI (v 7 + (keyWt v k))) hc dL_isMelted_88 (ad_NN _ _) ?_
          refine r_iload hc dL_isMelted_89 rfl ?_
          refine r_isub (v := zI (((v 7 + (keyWt v k) : Nat) : Int) - ((lossW (keyWt v k) (v 1) : Nat) : Int))) hc dL_isMelted_91 (sb_NN _ _) ?_
          refine r_icmp_ne (tgt := 133) hc dL_isMelted_92 (by decide) (eq_ZZ (by omega) (by omega)) (fun c_92 => ?_) (fun c_92 => ?_)
          ·
            exfalso; omega
          ·
            refine r_aload_n hc dL_isMelted_95 rfl ?_
            refine r_bipush (v := nI 8) hc dL_isMelted_96 rfl ?_
            refine cl_L_14 (As := [.int (nI 8)]) hc (qc_8 hG (by omega)) hG.sh rfl ⟨by decide, by decide⟩ ⟨rfl, rfl⟩ ⟨by decide, by decide⟩ rfl (Nat.le_of_ble_eq_true rfl) dL_isMelted_98 (fun r u hp => ?_)
            obtain ⟨rfl, hG⟩ := hp
            refine r_iload hc dL_isMelted_101 rfl ?_
            refine r_iload hc dL_isMelted_103 rfl ?_
            refine r_iadd (v := nI (v 8 + (lossW (keyWt v k) (v 1)))) hc dL_isMelted_105 (ad_NN _ _) ?_
            refine r_icmp_ne (tgt := 133) hc dL_isMelted_106 (by decide) (eq_NN (by omega) (by omega)) (fun c_106 => ?_) (fun c_106 => ?_)
            ·
              exfalso; omega
            ·
              refine r_aload_n hc dL_isMelted_109 rfl ?_
              refine r_iload_n hc dL_isMelted_110 rfl ?_
              refine r_iconst (v := nI 2) hc dL_isMelted_111 rfl ?_
              refine cl_L_23 (As := [.int (nI k), .int (nI 2)]) hc (qk_2 hG (by omega) (k := k) (by omega)) hG.sh rfl ⟨by decide, by decide⟩ ⟨rfl, rfl⟩ ⟨by decide, by decide⟩ rfl (Nat.le_of_ble_eq_true rfl) dL_isMelted_112 (fun r u hp => ?_)
              obtain ⟨rfl, hG⟩ := hp
              refine r_bipush (v := nI 9) hc dL_isMelted_115 rfl ?_
              refine r_icmp_ne (tgt := 133) hc dL_isMelted_117 (by decide) (eq_NN (by omega) (by omega)) (fun c_117 => ?_) (fun c_117 => ?_)
              ·
                exfalso; omega
              ·
                refine r_aload_n hc dL_isMelted_120 rfl ?_
                refine r_iload_n hc dL_isMelted_121 rfl ?_
                refine r_iconst (v := nI 3) hc dL_isMelted_122 rfl ?_
                refine cl_L_23 (As := [.int (nI k), .int (nI 3)]) hc (qk_3 hG (by omega) (k := k) (by omega)) hG.sh rfl ⟨by decide, by decide⟩ ⟨rfl, rfl⟩ ⟨by decide, by decide⟩ rfl (Nat.le_of_ble_eq_true rfl) dL_isMelted_123 (fun r u hp => ?_)
                obtain ⟨rfl, hG⟩ := hp
                refine r_if_ne (tgt := 133) hc dL_isMelted_126 (by decide) (e0_N (by omega)) (fun c_126 => ?_) (fun c_126 => ?_)
                ·
                  exfalso; omega
                ·
                  refine r_iconst (v := nI 1) hc dL_isMelted_129 rfl ?_
                  refine r_goto (tgt := 159) hc dL_isMelted_130 (by decide) ?_
                  exact hR _ _ ⟨rfl, w, hG, hL2, by omega⟩ rfl _ _ dL_isMelted_159
  ·
    refine r_aload_n hc dL_isMelted_9 rfl ?_
    refine r_iload_n hc dL_isMelted_10 rfl ?_
    refine cl_L_58 (As := [.int (nI k)]) hc (m_melt hG (by omega) (by omega)) hG.sh rfl ⟨by decide, by decide⟩ ⟨rfl, rfl⟩ ⟨by decide, by decide⟩ rfl (Nat.le_of_ble_eq_true rfl) dL_isMelted_11 (fun r u hp => ?_)
    obtain ⟨⟨y, w⟩, rfl, hG0, hX⟩ := hp
    have hT := t_melt hG.ok hL (q := k) hX
    dsimp only at hT
    have hG2 : GS z sh P w u := hG0
    obtain ⟨hL2, e6, hT⟩ := hT
    rcases hT with ⟨hk, hy, hw⟩ | ⟨hk, h9, hy, hw⟩ | ⟨hk, h9, hy, w7, w8, w9, w5⟩
    ·
      have hL21 := hL2.1
      subst hy
      rw [hw] at hG2 hL2 e6 hL21
      have hG := hG2
      refine r_iconst (v := zI (-1)) hc dL_isMelted_14 rfl ?_
      refine r_icmp_ne (tgt := 22) hc dL_isMelted_15 (by decide) (eq_ZZ (by omega) (by omega)) (fun c_15 => ?_) (fun c_15 => ?_)
      ·
        exfalso; omega
      ·
        refine r_iconst (v := nI 1) hc dL_isMelted_18 rfl ?_
        refine r_goto (tgt := 23) hc dL_isMelted_19 (by decide) ?_
        exact hR _ _ ⟨rfl, v, hG, hL2, by omega⟩ rfl _ _ dL_isMelted_23
    ·
      exfalso; omega
    ·
      exfalso; omega
set_option maxRecDepth 100000 in
set_option maxHeartbeats 4000000 in
theorem c_L_isTaken {Ω : OmT} {z : Nat} {sh : Nat → Option Kd} {P : Nat} {v : Nat → Nat} {S : StT} (hG : GS z sh P v S) (hL : Led v) (hB : v 6 ≤ 800000000) {k : Nat} (hk0 : k ≤ v 5) : CtI Ω yL_isTaken cL_isTaken 5 .boolean rm_L_isTaken [.ref P, .int (nI k)] S (fun r u => r = nI 1 ∧ ∃ w, GS z sh P w u ∧ Led w ∧ w 6 ≤ v 6 + 100) := by
  have hn := hG.nums
  have hL1 := hL.1
  refine CtI.enter (by decide) (Nat.le_of_ble_eq_true rfl) (fun Φ hc hR => ?_)
  show Vw Ω Φ S (0, 0) 0 [(0, .ref P), (1, .int (nI k))] []
  refine r_aload_n hc dL_isTaken_0 rfl ?_
  refine r_iconst (v := nI 1) hc dL_isTaken_1 rfl ?_
  refine cl_L_14 (As := [.int (nI 1)]) hc (qc_1 hG (by omega)) hG.sh rfl ⟨by decide, by decide⟩ ⟨rfl, rfl⟩ ⟨by decide, by decide⟩ rfl (Nat.le_of_ble_eq_true rfl) dL_isTaken_2 (fun r u hp => ?_)
  obtain ⟨rfl, hG⟩ := hp
  refine r_istore_n (ls' := [(2, .int (nI (keysAt v 8))), (0, .ref P), (1, .int (nI k))]) hc dL_isTaken_5 (by decide) rfl ?_
  refine r_iload_n hc dL_isTaken_6 rfl ?_
  refine r_aload_n hc dL_isTaken_7 rfl ?_
  refine r_iconst (v := nI 3) hc dL_isTaken_8 rfl ?_
  refine cl_L_14 (As := [.int (nI 3)]) hc (qc_3 hG (by omega)) hG.sh rfl ⟨by decide, by decide⟩ ⟨rfl, rfl⟩ ⟨by decide, by decide⟩ rfl (Nat.le_of_ble_eq_true rfl) dL_isTaken_9 (fun r u hp => ?_)
  obtain ⟨rfl, hG⟩ := hp
  refine r_icmp_ge (tgt := 33) hc dL_isTaken_12 (by decide) (le_NN (by omega) (by omega)) (fun c_12 => ?_) (fun c_12 => ?_)
  ·
    refine r_iconst (v := nI 0) hc dL_isTaken_33 rfl ?_
    refine r_istore_n (ls' := [(3, .int (nI 0)), (2, .int (nI (keysAt v 8))), (0, .ref P), (1, .int (nI k))]) hc dL_isTaken_34 (by decide) rfl ?_
    refine r_aload_n hc dL_isTaken_35 rfl ?_
    refine r_iload_n hc dL_isTaken_36 rfl ?_
    refine cl_L_61 (As := [.int (nI k)]) hc (m_take hG (by omega) (by omega)) hG.sh rfl ⟨by decide, by decide⟩ ⟨rfl, rfl⟩ ⟨by decide, by decide⟩ rfl (Nat.le_of_ble_eq_true rfl) dL_isTaken_37 (fun r u hp => ?_)
    obtain ⟨⟨y, w⟩, rfl, hG0, hX⟩ := hp
    have hT := t_move hG.ok hL (q := k) (a := v 3) (b := 8) (by omega) (by omega) hX
    dsimp only at hT
    have hG2 : GS z sh P w u := hG0
    obtain ⟨hL2, e6, hT⟩ := hT
    rcases hT with ⟨hk, hy, hw⟩ | ⟨hk, h9, hy, hw⟩ | ⟨hk, h9, hy, w2, w5, w3, hbt⟩
    ·
      have hL21 := hL2.1
      subst hy
      rw [hw] at hG2 hL2 e6 hL21
      have hG := hG2
      refine r_istore (ls' := [(4, .int (zI (-1))), (3, .int (nI 0)), (2, .int (nI (keysAt v 8))), (0, .ref P), (1, .int (nI k))]) hc dL_isTaken_40 (by decide) rfl ?_
      refine r_iload_n hc dL_isTaken_42 rfl ?_
      refine r_if_eq (tgt := 75) hc dL_isTaken_43 (by decide) (e0_N (by omega)) (fun c_43 => ?_) (fun c_43 => ?_)
      ·
        refine r_iload hc dL_isTaken_75 rfl ?_
        refine r_iload_n hc dL_isTaken_77 rfl ?_
        refine r_aload_n hc dL_isTaken_78 rfl ?_
        refine r_iconst (v := nI 3) hc dL_isTaken_79 rfl ?_
        refine cl_L_14 (As := [.int (nI 3)]) hc (qc_3 hG (by omega)) hG.sh rfl ⟨by decide, by decide⟩ ⟨rfl, rfl⟩ ⟨by decide, by decide⟩ rfl (Nat.le_of_ble_eq_true rfl) dL_isTaken_80 (fun r u hp => ?_)
        obtain ⟨rfl, hG⟩ := hp
        refine r_icmp_ge (tgt := 91) hc dL_isTaken_83 (by decide) (le_NN (by omega) (by omega)) (fun c_83 => ?_) (fun c_83 => ?_)
        ·
          refine r_iconst (v := zI (-1)) hc dL_isTaken_91 rfl ?_
          refine r_icmp_ne (tgt := 108) hc dL_isTaken_92 (by decide) (eq_ZZ (by omega) (by omega)) (fun c_92 => ?_) (fun c_92 => ?_)
          ·
            exfalso; omega
          ·
            refine r_aload_n hc dL_isTaken_95 rfl ?_
            refine r_iconst (v := nI 1) hc dL_isTaken_96 rfl ?_
            refine cl_L_14 (As := [.int (nI 1)]) hc (qc_1 hG (by omega)) hG.sh rfl ⟨by decide, by decide⟩ ⟨rfl, rfl⟩ ⟨by decide, by decide⟩ rfl (Nat.le_of_ble_eq_true rfl) dL_isTaken_97 (fun r u hp => ?_)
            obtain ⟨rfl, hG⟩ := hp
            refine r_iload_n hc dL_isTaken_100 rfl ?_
            refine r_icmp_ne (tgt := 108) hc dL_isTaken_101 (by decide) (eq_NN (by omega) (by omega)) (fun c_101 => ?_) (fun c_101 => ?_)
            ·
              exfalso; omega
            ·
              refine r_iconst (v := nI 1) hc dL_isTaken_104 rfl ?_
              refine r_goto (tgt := 109) hc dL_isTaken_105 (by decide) ?_
              exact hR _ _ ⟨rfl, v, hG, hL2, by omega⟩ rfl _ _ dL_isTaken_109
        ·
          exfalso; omega
      ·
        exfalso; omega
    ·
      have hL21 := hL2.1
      subst hy
      rw [hw] at hG2 hL2 e6 hL21
      have hG := hG2
      refine r_istore (ls' := [(4, .int (zI (-5))), (3, .int (nI 0)), (2, .int (nI (keysAt v 8))), (0, .ref P), (1, .int (nI k))]) hc dL_isTaken_40 (by decide) rfl ?_
      refine r_iload_n hc dL_isTaken_42 rfl ?_
      refine r_if_eq (tgt := 75) hc dL_isTaken_43 (by decide) (e0_N (by omega)) (fun c_43 => ?_) (fun c_43 => ?_)
      ·
        refine r_iload hc dL_isTaken_75 rfl ?_
        refine r_iload_n hc dL_isTaken_77 rfl ?_
        refine r_aload_n hc dL_isTaken_78 rfl ?_
        refine r_iconst (v := nI 3) hc dL_isTaken_79 rfl ?_
        refine cl_L_14 (As := [.int (nI 3)]) hc (qc_3 hG (by omega)) hG.sh rfl ⟨by decide, by decide⟩ ⟨rfl, rfl⟩ ⟨by decide, by decide⟩ rfl (Nat.le_of_ble_eq_true rfl) dL_isTaken_80 (fun r u hp => ?_)
        obtain ⟨rfl, hG⟩ := hp
        refine r_icmp_ge (tgt := 91) hc dL_isTaken_83 (by decide) (le_NN (by omega) (by omega)) (fun c_83 => ?_) (fun c_83 => ?_)
        ·
          exfalso; omega
        ·
          refine r_bipush (v := zI (-5)) hc dL_isTaken_86 rfl ?_
          refine r_goto (tgt := 92) hc dL_isTaken_88 (by decide) ?_
          refine r_icmp_ne (tgt := 108) hc dL_isTaken_92 (by decide) (eq_ZZ (by omega) (by omega)) (fun c_92 => ?_) (fun c_92 => ?_)
          ·
            exfalso; omega
          ·
            refine r_aload_n hc dL_isTaken_95 rfl ?_
            refine r_iconst (v := nI 1) hc dL_isTaken_96 rfl ?_
            refine cl_L_14 (As := [.int (nI 1)]) hc (qc_1 hG (by omega)) hG.sh rfl ⟨by decide, by decide⟩ ⟨rfl, rfl⟩ ⟨by decide, by decide⟩ rfl (Nat.le_of_ble_eq_true rfl) dL_isTaken_97 (fun r u hp => ?_)
            obtain ⟨rfl, hG⟩ := hp
            refine r_iload_n hc dL_isTaken_100 rfl ?_
            refine r_icmp_ne (tgt := 108) hc dL_isTaken_101 (by decide) (eq_NN (by omega) (by omega)) (fun c_101 => ?_) (fun c_101 => ?_)
            ·
              exfalso; omega
            ·
              refine r_iconst (v := nI 1) hc dL_isTaken_104 rfl ?_
              refine r_goto (tgt := 109) hc dL_isTaken_105 (by decide) ?_
              exact hR _ _ ⟨rfl, v, hG, hL2, by omega⟩ rfl _ _ dL_isTaken_109
      ·
        exfalso; omega
    ·
      exfalso; omega
  ·
    have hkr := hG.key (k := k) (by omega)
    refine r_aload_n hc dL_isTaken_15 rfl ?_
    refine r_iload_n hc dL_isTaken_16 rfl ?_
    refine r_iconst (v := nI 2) hc dL_isTaken_17 rfl ?_
    refine cl_L_23 (As := [.int (nI k), .int (nI 2)]) hc (qk_2 hG (by omega) (k := k) (by omega)) hG.sh rfl ⟨by decide, by decide⟩ ⟨rfl, rfl⟩ ⟨by decide, by decide⟩ rfl (Nat.le_of_ble_eq_true rfl) dL_isTaken_18 (fun r u hp => ?_)
    obtain ⟨rfl, hG⟩ := hp
    refine r_aload_n hc dL_isTaken_21 rfl ?_
    refine r_iconst (v := nI 0) hc dL_isTaken_22 rfl ?_
    refine cl_L_14 (As := [.int (nI 0)]) hc (qc_0 hG (by omega)) hG.sh rfl ⟨by decide, by decide⟩ ⟨rfl, rfl⟩ ⟨by decide, by decide⟩ rfl (Nat.le_of_ble_eq_true rfl) dL_isTaken_23 (fun r u hp => ?_)
    obtain ⟨rfl, hG⟩ := hp
    refine r_icmp_ne (tgt := 33) hc dL_isTaken_26 (by decide) (eq_NN (by omega) (by omega)) (fun c_26 => ?_) (fun c_26 => ?_)
    ·
      refine r_iconst (v := nI 0) hc dL_isTaken_33 rfl ?_
      refine r_istore_n (ls' := [(3, .int (nI 0)), (2, .int (nI (keysAt v 8))), (0, .ref P), (1, .int (nI k))]) hc dL_isTaken_34 (by decide) rfl ?_
      refine r_aload_n hc dL_isTaken_35 rfl ?_
      refine r_iload_n hc dL_isTaken_36 rfl ?_
      refine cl_L_61 (As := [.int (nI k)]) hc (m_take hG (by omega) (by omega)) hG.sh rfl ⟨by decide, by decide⟩ ⟨rfl, rfl⟩ ⟨by decide, by decide⟩ rfl (Nat.le_of_ble_eq_true rfl) dL_isTaken_37 (fun r u hp => ?_)
      obtain ⟨⟨y, w⟩, rfl, hG0, hX⟩ := hp
      have hT := t_move hG.ok hL (q := k) (a := v 3) (b := 8) (by omega) (by omega) hX
      dsimp only at hT
      have hG2 : GS z sh P w u := hG0
      obtain ⟨hL2, e6, hT⟩ := hT
      rcases hT with ⟨hk, hy, hw⟩ | ⟨hk, h9, hy, hw⟩ | ⟨hk, h9, hy, w2, w5, w3, hbt⟩
      ·
        have hL21 := hL2.1
        subst hy
        rw [hw] at hG2 hL2 e6 hL21
        have hG := hG2
        refine r_istore (ls' := [(4, .int (zI (-1))), (3, .int (nI 0)), (2, .int (nI (keysAt v 8))), (0, .ref P), (1, .int (nI k))]) hc dL_isTaken_40 (by decide) rfl ?_
        refine r_iload_n hc dL_isTaken_42 rfl ?_
        refine r_if_eq (tgt := 75) hc dL_isTaken_43 (by decide) (e0_N (by omega)) (fun c_43 => ?_) (fun c_43 => ?_)
        ·
          refine r_iload hc dL_isTaken_75 rfl ?_
          refine r_iload_n hc dL_isTaken_77 rfl ?_
          refine r_aload_n hc dL_isTaken_78 rfl ?_
          refine r_iconst (v := nI 3) hc dL_isTaken_79 rfl ?_
          refine cl_L_14 (As := [.int (nI 3)]) hc (qc_3 hG (by omega)) hG.sh rfl ⟨by decide, by decide⟩ ⟨rfl, rfl⟩ ⟨by decide, by decide⟩ rfl (Nat.le_of_ble_eq_true rfl) dL_isTaken_80 (fun r u hp => ?_)
          obtain ⟨rfl, hG⟩ := hp
          refine r_icmp_ge (tgt := 91) hc dL_isTaken_83 (by decide) (le_NN (by omega) (by omega)) (fun c_83 => ?_) (fun c_83 => ?_)
          ·
            refine r_iconst (v := zI (-1)) hc dL_isTaken_91 rfl ?_
            refine r_icmp_ne (tgt := 108) hc dL_isTaken_92 (by decide) (eq_ZZ (by omega) (by omega)) (fun c_92 => ?_) (fun c_92 => ?_)
            ·
              exfalso; omega
            ·
              refine r_aload_n hc dL_isTaken_95 rfl ?_
              refine r_iconst (v := nI 1) hc dL_isTaken_96 rfl ?_
              refine cl_L_14 (As := [.int (nI 1)]) hc (qc_1 hG (by omega)) hG.sh rfl ⟨by decide, by decide⟩ ⟨rfl, rfl⟩ ⟨by decide, by decide⟩ rfl (Nat.le_of_ble_eq_true rfl) dL_isTaken_97 (fun r u hp => ?_)
              obtain ⟨rfl, hG⟩ := hp
              refine r_iload_n hc dL_isTaken_100 rfl ?_
              refine r_icmp_ne (tgt := 108) hc dL_isTaken_101 (by decide) (eq_NN (by omega) (by omega)) (fun c_101 => ?_) (fun c_101 => ?_)
              ·
                exfalso; omega
              ·
                refine r_iconst (v := nI 1) hc dL_isTaken_104 rfl ?_
                refine r_goto (tgt := 109) hc dL_isTaken_105 (by decide) ?_
                exact hR _ _ ⟨rfl, v, hG, hL2, by omega⟩ rfl _ _ dL_isTaken_109
          ·
            exfalso; omega
        ·
          exfalso; omega
      ·
        have hL21 := hL2.1
        subst hy
        rw [hw] at hG2 hL2 e6 hL21
        have hG := hG2
        refine r_istore (ls' := [(4, .int (zI (-5))), (3, .int (nI 0)), (2, .int (nI (keysAt v 8))), (0, .ref P), (1, .int (nI k))]) hc dL_isTaken_40 (by decide) rfl ?_
        refine r_iload_n hc dL_isTaken_42 rfl ?_
        refine r_if_eq (tgt := 75) hc dL_isTaken_43 (by decide) (e0_N (by omega)) (fun c_43 => ?_) (fun c_43 => ?_)
        ·
          refine r_iload hc dL_isTaken_75 rfl ?_
          refine r_iload_n hc dL_isTaken_77 rfl ?_
          refine r_aload_n hc dL_isTaken_78 rfl ?_
          refine r_iconst (v := nI 3) hc dL_isTaken_79 rfl ?_
          refine cl_L_14 (As := [.int (nI 3)]) hc (qc_3 hG (by omega)) hG.sh rfl ⟨by decide, by decide⟩ ⟨rfl, rfl⟩ ⟨by decide, by decide⟩ rfl (Nat.le_of_ble_eq_true rfl) dL_isTaken_80 (fun r u hp => ?_)
          obtain ⟨rfl, hG⟩ := hp
          refine r_icmp_ge (tgt := 91) hc dL_isTaken_83 (by decide) (le_NN (by omega) (by omega)) (fun c_83 => ?_) (fun c_83 => ?_)
          ·
            exfalso; omega
          ·
            refine r_bipush (v := zI (-5)) hc dL_isTaken_86 rfl ?_
            refine r_goto (tgt := 92) hc dL_isTaken_88 (by decide) ?_
            refine r_icmp_ne (tgt := 108) hc dL_isTaken_92 (by decide) (eq_ZZ (by omega) (by omega)) (fun c_92 => ?_) (fun c_92 => ?_)
            ·
              exfalso; omega
            ·
              refine r_aload_n hc dL_isTaken_95 rfl ?_
              refine r_iconst (v := nI 1) hc dL_isTaken_96 rfl ?_
              refine cl_L_14 (As := [.int (nI 1)]) hc (qc_1 hG (by omega)) hG.sh rfl ⟨by decide, by decide⟩ ⟨rfl, rfl⟩ ⟨by decide, by decide⟩ rfl (Nat.le_of_ble_eq_true rfl) dL_isTaken_97 (fun r u hp => ?_)
              obtain ⟨rfl, hG⟩ := hp
              refine r_iload_n hc dL_isTaken_100 rfl ?_
              refine r_icmp_ne (tgt := 108) hc dL_isTaken_101 (by decide) (eq_NN (by omega) (by omega)) (fun c_101 => ?_) (fun c_101 => ?_)
              ·
                exfalso; omega
              ·
                refine r_iconst (v := nI 1) hc dL_isTaken_104 rfl ?_
                refine r_goto (tgt := 109) hc dL_isTaken_105 (by decide) ?_
                exact hR _ _ ⟨rfl, v, hG, hL2, by omega⟩ rfl _ _ dL_isTaken_109
        ·
          exfalso; omega
      ·
        exfalso; omega
    ·
      refine r_iconst (v := nI 1) hc dL_isTaken_29 rfl ?_
      refine r_goto (tgt := 34) hc dL_isTaken_30 (by decide) ?_
      refine r_istore_n (ls' := [(3, .int (nI 1)), (2, .int (nI (keysAt v 8))), (0, .ref P), (1, .int (nI k))]) hc dL_isTaken_34 (by decide) rfl ?_
      refine r_aload_n hc dL_isTaken_35 rfl ?_
      refine r_iload_n hc dL_isTaken_36 rfl ?_
      refine cl_L_61 (As := [.int (nI k)]) hc (m_take hG (by omega) (by omega)) hG.sh rfl ⟨by decide, by decide⟩ ⟨rfl, rfl⟩ ⟨by decide, by decide⟩ rfl (Nat.le_of_ble_eq_true rfl) dL_isTaken_37 (fun r u hp => ?_)
      obtain ⟨⟨y, w⟩, rfl, hG0, hX⟩ := hp
      have hT := t_move hG.ok hL (q := k) (a := v 3) (b := 8) (by omega) (by omega) hX
      dsimp only at hT
      have hG2 : GS z sh P w u := hG0
      obtain ⟨hL2, e6, hT⟩ := hT
      rcases hT with ⟨hk, hy, hw⟩ | ⟨hk, h9, hy, hw⟩ | ⟨hk, h9, hy, w2, w5, w3, hbt⟩
      ·
        exfalso; omega
      ·
        exfalso; omega
      ·
        have hL21 := hL2.1
        subst hy
        have hn2 := hG2.nums
        have hG := hG2
        have hor := take_or hbt
        refine r_istore (ls' := [(4, .int (zI (((keysAt w 8 : Nat) : Int)))), (3, .int (nI 1)), (2, .int (nI (keysAt v 8))), (0, .ref P), (1, .int (nI k))]) hc dL_isTaken_40 (by decide) rfl ?_
        refine r_iload_n hc dL_isTaken_42 rfl ?_
        refine r_if_eq (tgt := 75) hc dL_isTaken_43 (by decide) (e0_N (by omega)) (fun c_43 => ?_) (fun c_43 => ?_)
        ·
          exfalso; omega
        ·
          refine r_iload hc dL_isTaken_46 rfl ?_
          refine r_iload_n hc dL_isTaken_48 rfl ?_
          refine r_iconst (v := nI 1) hc dL_isTaken_49 rfl ?_
          refine r_iload_n hc dL_isTaken_50 rfl ?_
          refine r_ishl (v := nI (2 ^ k)) hc dL_isTaken_51 (sl_1 _ (by omega)) ?_
          refine r_ior (v := nI ((keysAt v 8) ||| (2 ^ k))) hc dL_isTaken_52 (or_NN _ _) ?_
          refine r_icmp_ne (tgt := 71) hc dL_isTaken_53 (by decide) (eq_ZN (by omega) (by omega)) (fun c_53 => ?_) (fun c_53 => ?_)
          ·
            exfalso; omega
          ·
            refine r_aload_n hc dL_isTaken_56 rfl ?_
            refine r_iload_n hc dL_isTaken_57 rfl ?_
            refine r_iconst (v := nI 2) hc dL_isTaken_58 rfl ?_
            refine cl_L_23 (As := [.int (nI k), .int (nI 2)]) hc (qk_2 hG (by omega) (k := k) (by omega)) hG.sh rfl ⟨by decide, by decide⟩ ⟨rfl, rfl⟩ ⟨by decide, by decide⟩ rfl (Nat.le_of_ble_eq_true rfl) dL_isTaken_59 (fun r u hp => ?_)
            obtain ⟨rfl, hG⟩ := hp
            refine r_bipush (v := nI 8) hc dL_isTaken_62 rfl ?_
            refine r_icmp_ne (tgt := 71) hc dL_isTaken_64 (by decide) (eq_NN (by omega) (by omega)) (fun c_64 => ?_) (fun c_64 => ?_)
            ·
              exfalso; omega
            ·
              refine r_iconst (v := nI 1) hc dL_isTaken_67 rfl ?_
              refine r_goto (tgt := 109) hc dL_isTaken_68 (by decide) ?_
              exact hR _ _ ⟨rfl, w, hG, hL2, by omega⟩ rfl _ _ dL_isTaken_109
set_option maxRecDepth 100000 in
set_option maxHeartbeats 4000000 in
theorem c_L_isPut {Ω : OmT} {z : Nat} {sh : Nat → Option Kd} {P : Nat} {v : Nat → Nat} {S : StT} (hG : GS z sh P v S) (hL : Led v) (hB : v 6 ≤ 800000000) {k : Nat} (hk0 : k ≤ v 5) : CtI Ω yL_isPut cL_isPut 5 .boolean rm_L_isPut [.ref P, .int (nI k)] S (fun r u => r = nI 1 ∧ ∃ w, GS z sh P w u ∧ Led w ∧ w 6 ≤ v 6 + 100) := by
  have hn := hG.nums
  have hL1 := hL.1
  refine CtI.enter (by decide) (Nat.le_of_ble_eq_true rfl) (fun Φ hc hR => ?_)
  show Vw Ω Φ S (0, 0) 0 [(0, .ref P), (1, .int (nI k))] []
  refine r_aload_n hc dL_isPut_0 rfl ?_
  refine r_iconst (v := nI 1) hc dL_isPut_1 rfl ?_
  refine cl_L_14 (As := [.int (nI 1)]) hc (qc_1 hG (by omega)) hG.sh rfl ⟨by decide, by decide⟩ ⟨rfl, rfl⟩ ⟨by decide, by decide⟩ rfl (Nat.le_of_ble_eq_true rfl) dL_isPut_2 (fun r u hp => ?_)
  obtain ⟨rfl, hG⟩ := hp
  refine r_istore_n (ls' := [(2, .int (nI (keysAt v 8))), (0, .ref P), (1, .int (nI k))]) hc dL_isPut_5 (by decide) rfl ?_
  refine r_iload_n hc dL_isPut_6 rfl ?_
  refine r_aload_n hc dL_isPut_7 rfl ?_
  refine r_iconst (v := nI 3) hc dL_isPut_8 rfl ?_
  refine cl_L_14 (As := [.int (nI 3)]) hc (qc_3 hG (by omega)) hG.sh rfl ⟨by decide, by decide⟩ ⟨rfl, rfl⟩ ⟨by decide, by decide⟩ rfl (Nat.le_of_ble_eq_true rfl) dL_isPut_9 (fun r u hp => ?_)
  obtain ⟨rfl, hG⟩ := hp
  refine r_icmp_ge (tgt := 27) hc dL_isPut_12 (by decide) (le_NN (by omega) (by omega)) (fun c_12 => ?_) (fun c_12 => ?_)
  ·
    refine r_iconst (v := nI 0) hc dL_isPut_27 rfl ?_
    refine r_istore_n (ls' := [(3, .int (nI 0)), (2, .int (nI (keysAt v 8))), (0, .ref P), (1, .int (nI k))]) hc dL_isPut_28 (by decide) rfl ?_
    refine r_aload_n hc dL_isPut_29 rfl ?_
    refine r_iload_n hc dL_isPut_30 rfl ?_
    refine cl_L_64 (As := [.int (nI k)]) hc (m_putDown hG (by omega) (by omega)) hG.sh rfl ⟨by decide, by decide⟩ ⟨rfl, rfl⟩ ⟨by decide, by decide⟩ rfl (Nat.le_of_ble_eq_true rfl) dL_isPut_31 (fun r u hp => ?_)
    obtain ⟨⟨y, w⟩, rfl, hG0, hX⟩ := hp
    have hT := t_move hG.ok hL (q := k) (a := 8) (b := v 3) (by omega) (by omega) hX
    dsimp only at hT
    have hG2 : GS z sh P w u := hG0
    obtain ⟨hL2, e6, hT⟩ := hT
    rcases hT with ⟨hk, hy, hw⟩ | ⟨hk, h9, hy, hw⟩ | ⟨hk, h9, hy, w2, w5, w3, hbt⟩
    ·
      have hL21 := hL2.1
      subst hy
      rw [hw] at hG2 hL2 e6 hL21
      have hG := hG2
      refine r_istore (ls' := [(4, .int (zI (-1))), (3, .int (nI 0)), (2, .int (nI (keysAt v 8))), (0, .ref P), (1, .int (nI k))]) hc dL_isPut_34 (by decide) rfl ?_
      refine r_iload_n hc dL_isPut_36 rfl ?_
      refine r_if_eq (tgt := 74) hc dL_isPut_37 (by decide) (e0_N (by omega)) (fun c_37 => ?_) (fun c_37 => ?_)
      ·
        refine r_iload hc dL_isPut_74 rfl ?_
        refine r_iload_n hc dL_isPut_76 rfl ?_
        refine r_aload_n hc dL_isPut_77 rfl ?_
        refine r_iconst (v := nI 3) hc dL_isPut_78 rfl ?_
        refine cl_L_14 (As := [.int (nI 3)]) hc (qc_3 hG (by omega)) hG.sh rfl ⟨by decide, by decide⟩ ⟨rfl, rfl⟩ ⟨by decide, by decide⟩ rfl (Nat.le_of_ble_eq_true rfl) dL_isPut_79 (fun r u hp => ?_)
        obtain ⟨rfl, hG⟩ := hp
        refine r_icmp_ge (tgt := 90) hc dL_isPut_82 (by decide) (le_NN (by omega) (by omega)) (fun c_82 => ?_) (fun c_82 => ?_)
        ·
          refine r_iconst (v := zI (-1)) hc dL_isPut_90 rfl ?_
          refine r_icmp_ne (tgt := 107) hc dL_isPut_91 (by decide) (eq_ZZ (by omega) (by omega)) (fun c_91 => ?_) (fun c_91 => ?_)
          ·
            exfalso; omega
          ·
            refine r_aload_n hc dL_isPut_94 rfl ?_
            refine r_iconst (v := nI 1) hc dL_isPut_95 rfl ?_
            refine cl_L_14 (As := [.int (nI 1)]) hc (qc_1 hG (by omega)) hG.sh rfl ⟨by decide, by decide⟩ ⟨rfl, rfl⟩ ⟨by decide, by decide⟩ rfl (Nat.le_of_ble_eq_true rfl) dL_isPut_96 (fun r u hp => ?_)
            obtain ⟨rfl, hG⟩ := hp
            refine r_iload_n hc dL_isPut_99 rfl ?_
            refine r_icmp_ne (tgt := 107) hc dL_isPut_100 (by decide) (eq_NN (by omega) (by omega)) (fun c_100 => ?_) (fun c_100 => ?_)
            ·
              exfalso; omega
            ·
              refine r_iconst (v := nI 1) hc dL_isPut_103 rfl ?_
              refine r_goto (tgt := 108) hc dL_isPut_104 (by decide) ?_
              exact hR _ _ ⟨rfl, v, hG, hL2, by omega⟩ rfl _ _ dL_isPut_108
        ·
          exfalso; omega
      ·
        exfalso; omega
    ·
      have hL21 := hL2.1
      subst hy
      rw [hw] at hG2 hL2 e6 hL21
      have hG := hG2
      refine r_istore (ls' := [(4, .int (zI (-5))), (3, .int (nI 0)), (2, .int (nI (keysAt v 8))), (0, .ref P), (1, .int (nI k))]) hc dL_isPut_34 (by decide) rfl ?_
      refine r_iload_n hc dL_isPut_36 rfl ?_
      refine r_if_eq (tgt := 74) hc dL_isPut_37 (by decide) (e0_N (by omega)) (fun c_37 => ?_) (fun c_37 => ?_)
      ·
        refine r_iload hc dL_isPut_74 rfl ?_
        refine r_iload_n hc dL_isPut_76 rfl ?_
        refine r_aload_n hc dL_isPut_77 rfl ?_
        refine r_iconst (v := nI 3) hc dL_isPut_78 rfl ?_
        refine cl_L_14 (As := [.int (nI 3)]) hc (qc_3 hG (by omega)) hG.sh rfl ⟨by decide, by decide⟩ ⟨rfl, rfl⟩ ⟨by decide, by decide⟩ rfl (Nat.le_of_ble_eq_true rfl) dL_isPut_79 (fun r u hp => ?_)
        obtain ⟨rfl, hG⟩ := hp
        refine r_icmp_ge (tgt := 90) hc dL_isPut_82 (by decide) (le_NN (by omega) (by omega)) (fun c_82 => ?_) (fun c_82 => ?_)
        ·
          exfalso; omega
        ·
          refine r_bipush (v := zI (-5)) hc dL_isPut_85 rfl ?_
          refine r_goto (tgt := 91) hc dL_isPut_87 (by decide) ?_
          refine r_icmp_ne (tgt := 107) hc dL_isPut_91 (by decide) (eq_ZZ (by omega) (by omega)) (fun c_91 => ?_) (fun c_91 => ?_)
          ·
            exfalso; omega
          ·
            refine r_aload_n hc dL_isPut_94 rfl ?_
            refine r_iconst (v := nI 1) hc dL_isPut_95 rfl ?_
            refine cl_L_14 (As := [.int (nI 1)]) hc (qc_1 hG (by omega)) hG.sh rfl ⟨by decide, by decide⟩ ⟨rfl, rfl⟩ ⟨by decide, by decide⟩ rfl (Nat.le_of_ble_eq_true rfl) dL_isPut_96 (fun r u hp => ?_)
            obtain ⟨rfl, hG⟩ := hp
            refine r_iload_n hc dL_isPut_99 rfl ?_
            refine r_icmp_ne (tgt := 107) hc dL_isPut_100 (by decide) (eq_NN (by omega) (by omega)) (fun c_100 => ?_) (fun c_100 => ?_)
            ·
              exfalso; omega
            ·
              refine r_iconst (v := nI 1) hc dL_isPut_103 rfl ?_
              refine r_goto (tgt := 108) hc dL_isPut_104 (by decide) ?_
              exact hR _ _ ⟨rfl, v, hG, hL2, by omega⟩ rfl _ _ dL_isPut_108
      ·
        exfalso; omega
    ·
      exfalso; omega
  ·
    have hkr := hG.key (k := k) (by omega)
    refine r_iload_n hc dL_isPut_15 rfl ?_
    refine r_iload_n hc dL_isPut_16 rfl ?_
    refine cl_L_36 (As := [.int (nI (keysAt v 8)), .int (nI k)]) hc (c_L_has (x := keysAt v 8) (k := k) (by omega) (by omega)) rfl ⟨by decide, by decide⟩ ⟨rfl, rfl⟩ ⟨by decide, by decide⟩ rfl (Nat.le_of_ble_eq_true rfl) dL_isPut_17 (fun r u hp => ?_)
    obtain ⟨rfl, hu⟩ := hp
    rw [hu]
    refine r_if_eq (tgt := 27) hc dL_isPut_20 (by decide) (bI_0 _) (fun c_20 => ?_) (fun c_20 => ?_)
    ·
      rw [keysAt_test, decide_eq_true (show k < v 5 by omega), Bool.true_and] at c_20
      have h8 := of_decide_eq_false c_20
      refine r_iconst (v := nI 0) hc dL_isPut_27 rfl ?_
      refine r_istore_n (ls' := [(3, .int (nI 0)), (2, .int (nI (keysAt v 8))), (0, .ref P), (1, .int (nI k))]) hc dL_isPut_28 (by decide) rfl ?_
      refine r_aload_n hc dL_isPut_29 rfl ?_
      refine r_iload_n hc dL_isPut_30 rfl ?_
      refine cl_L_64 (As := [.int (nI k)]) hc (m_putDown hG (by omega) (by omega)) hG.sh rfl ⟨by decide, by decide⟩ ⟨rfl, rfl⟩ ⟨by decide, by decide⟩ rfl (Nat.le_of_ble_eq_true rfl) dL_isPut_31 (fun r u hp => ?_)
      obtain ⟨⟨y, w⟩, rfl, hG0, hX⟩ := hp
      have hT := t_move hG.ok hL (q := k) (a := 8) (b := v 3) (by omega) (by omega) hX
      dsimp only at hT
      have hG2 : GS z sh P w u := hG0
      obtain ⟨hL2, e6, hT⟩ := hT
      rcases hT with ⟨hk, hy, hw⟩ | ⟨hk, h9, hy, hw⟩ | ⟨hk, h9, hy, w2, w5, w3, hbt⟩
      ·
        have hL21 := hL2.1
        subst hy
        rw [hw] at hG2 hL2 e6 hL21
        have hG := hG2
        refine r_istore (ls' := [(4, .int (zI (-1))), (3, .int (nI 0)), (2, .int (nI (keysAt v 8))), (0, .ref P), (1, .int (nI k))]) hc dL_isPut_34 (by decide) rfl ?_
        refine r_iload_n hc dL_isPut_36 rfl ?_
        refine r_if_eq (tgt := 74) hc dL_isPut_37 (by decide) (e0_N (by omega)) (fun c_37 => ?_) (fun c_37 => ?_)
        ·
          refine r_iload hc dL_isPut_74 rfl ?_
          refine r_iload_n hc dL_isPut_76 rfl ?_
          refine r_aload_n hc dL_isPut_77 rfl ?_
          refine r_iconst (v := nI 3) hc dL_isPut_78 rfl ?_
          refine cl_L_14 (As := [.int (nI 3)]) hc (qc_3 hG (by omega)) hG.sh rfl ⟨by decide, by decide⟩ ⟨rfl, rfl⟩ ⟨by decide, by decide⟩ rfl (Nat.le_of_ble_eq_true rfl) dL_isPut_79 (fun r u hp => ?_)
          obtain ⟨rfl, hG⟩ := hp
          refine r_icmp_ge (tgt := 90) hc dL_isPut_82 (by decide) (le_NN (by omega) (by omega)) (fun c_82 => ?_) (fun c_82 => ?_)
          ·
            refine r_iconst (v := zI (-1)) hc dL_isPut_90 rfl ?_
            refine r_icmp_ne (tgt := 107) hc dL_isPut_91 (by decide) (eq_ZZ (by omega) (by omega)) (fun c_91 => ?_) (fun c_91 => ?_)
            ·
              exfalso; omega
            ·
              refine r_aload_n hc dL_isPut_94 rfl ?_
              refine r_iconst (v := nI 1) hc dL_isPut_95 rfl ?_
              refine cl_L_14 (As := [.int (nI 1)]) hc (qc_1 hG (by omega)) hG.sh rfl ⟨by decide, by decide⟩ ⟨rfl, rfl⟩ ⟨by decide, by decide⟩ rfl (Nat.le_of_ble_eq_true rfl) dL_isPut_96 (fun r u hp => ?_)
              obtain ⟨rfl, hG⟩ := hp
              refine r_iload_n hc dL_isPut_99 rfl ?_
              refine r_icmp_ne (tgt := 107) hc dL_isPut_100 (by decide) (eq_NN (by omega) (by omega)) (fun c_100 => ?_) (fun c_100 => ?_)
              ·
                exfalso; omega
              ·
                refine r_iconst (v := nI 1) hc dL_isPut_103 rfl ?_
                refine r_goto (tgt := 108) hc dL_isPut_104 (by decide) ?_
                exact hR _ _ ⟨rfl, v, hG, hL2, by omega⟩ rfl _ _ dL_isPut_108
          ·
            exfalso; omega
        ·
          exfalso; omega
      ·
        have hL21 := hL2.1
        subst hy
        rw [hw] at hG2 hL2 e6 hL21
        have hG := hG2
        refine r_istore (ls' := [(4, .int (zI (-5))), (3, .int (nI 0)), (2, .int (nI (keysAt v 8))), (0, .ref P), (1, .int (nI k))]) hc dL_isPut_34 (by decide) rfl ?_
        refine r_iload_n hc dL_isPut_36 rfl ?_
        refine r_if_eq (tgt := 74) hc dL_isPut_37 (by decide) (e0_N (by omega)) (fun c_37 => ?_) (fun c_37 => ?_)
        ·
          refine r_iload hc dL_isPut_74 rfl ?_
          refine r_iload_n hc dL_isPut_76 rfl ?_
          refine r_aload_n hc dL_isPut_77 rfl ?_
          refine r_iconst (v := nI 3) hc dL_isPut_78 rfl ?_
          refine cl_L_14 (As := [.int (nI 3)]) hc (qc_3 hG (by omega)) hG.sh rfl ⟨by decide, by decide⟩ ⟨rfl, rfl⟩ ⟨by decide, by decide⟩ rfl (Nat.le_of_ble_eq_true rfl) dL_isPut_79 (fun r u hp => ?_)
          obtain ⟨rfl, hG⟩ := hp
          refine r_icmp_ge (tgt := 90) hc dL_isPut_82 (by decide) (le_NN (by omega) (by omega)) (fun c_82 => ?_) (fun c_82 => ?_)
          ·
            exfalso; omega
          ·
            refine r_bipush (v := zI (-5)) hc dL_isPut_85 rfl ?_
            refine r_goto (tgt := 91) hc dL_isPut_87 (by decide) ?_
            refine r_icmp_ne (tgt := 107) hc dL_isPut_91 (by decide) (eq_ZZ (by omega) (by omega)) (fun c_91 => ?_) (fun c_91 => ?_)
            ·
              exfalso; omega
            ·
              refine r_aload_n hc dL_isPut_94 rfl ?_
              refine r_iconst (v := nI 1) hc dL_isPut_95 rfl ?_
              refine cl_L_14 (As := [.int (nI 1)]) hc (qc_1 hG (by omega)) hG.sh rfl ⟨by decide, by decide⟩ ⟨rfl, rfl⟩ ⟨by decide, by decide⟩ rfl (Nat.le_of_ble_eq_true rfl) dL_isPut_96 (fun r u hp => ?_)
              obtain ⟨rfl, hG⟩ := hp
              refine r_iload_n hc dL_isPut_99 rfl ?_
              refine r_icmp_ne (tgt := 107) hc dL_isPut_100 (by decide) (eq_NN (by omega) (by omega)) (fun c_100 => ?_) (fun c_100 => ?_)
              ·
                exfalso; omega
              ·
                refine r_iconst (v := nI 1) hc dL_isPut_103 rfl ?_
                refine r_goto (tgt := 108) hc dL_isPut_104 (by decide) ?_
                exact hR _ _ ⟨rfl, v, hG, hL2, by omega⟩ rfl _ _ dL_isPut_108
        ·
          exfalso; omega
      ·
        exfalso; omega
    ·
      have c_20 := bnf c_20
      rw [keysAt_test, decide_eq_true (show k < v 5 by omega), Bool.true_and] at c_20
      have h8 := of_decide_eq_true c_20
      refine r_iconst (v := nI 1) hc dL_isPut_23 rfl ?_
      refine r_goto (tgt := 28) hc dL_isPut_24 (by decide) ?_
      refine r_istore_n (ls' := [(3, .int (nI 1)), (2, .int (nI (keysAt v 8))), (0, .ref P), (1, .int (nI k))]) hc dL_isPut_28 (by decide) rfl ?_
      refine r_aload_n hc dL_isPut_29 rfl ?_
      refine r_iload_n hc dL_isPut_30 rfl ?_
      refine cl_L_64 (As := [.int (nI k)]) hc (m_putDown hG (by omega) (by omega)) hG.sh rfl ⟨by decide, by decide⟩ ⟨rfl, rfl⟩ ⟨by decide, by decide⟩ rfl (Nat.le_of_ble_eq_true rfl) dL_isPut_31 (fun r u hp => ?_)
      obtain ⟨⟨y, w⟩, rfl, hG0, hX⟩ := hp
      have hT := t_move hG.ok hL (q := k) (a := 8) (b := v 3) (by omega) (by omega) hX
      dsimp only at hT
      have hG2 : GS z sh P w u := hG0
      obtain ⟨hL2, e6, hT⟩ := hT
      rcases hT with ⟨hk, hy, hw⟩ | ⟨hk, h9, hy, hw⟩ | ⟨hk, h9, hy, w2, w5, w3, hbt⟩
      ·
        exfalso; omega
      ·
        exfalso; omega
      ·
        have hL21 := hL2.1
        subst hy
        have hn2 := hG2.nums
        have hG := hG2
        refine r_istore (ls' := [(4, .int (zI (((keysAt w 8 : Nat) : Int)))), (3, .int (nI 1)), (2, .int (nI (keysAt v 8))), (0, .ref P), (1, .int (nI k))]) hc dL_isPut_34 (by decide) rfl ?_
        refine r_iload_n hc dL_isPut_36 rfl ?_
        refine r_if_eq (tgt := 74) hc dL_isPut_37 (by decide) (e0_N (by omega)) (fun c_37 => ?_) (fun c_37 => ?_)
        ·
          exfalso; omega
        ·
          refine r_iload hc dL_isPut_40 rfl ?_
          refine r_iload_n hc dL_isPut_42 rfl ?_
          refine r_iconst (v := nI 1) hc dL_isPut_43 rfl ?_
          refine r_iload_n hc dL_isPut_44 rfl ?_
          refine r_ishl (v := nI (2 ^ k)) hc dL_isPut_45 (sl_1 _ (by omega)) ?_
          refine r_iconst (v := zI (-1)) hc dL_isPut_46 rfl ?_
          refine r_ixor (v := (nI (2 ^ k) ^^^ zI (-1))) hc dL_isPut_47 rfl ?_
          refine r_iand (v := nI (keysAt w 8)) hc dL_isPut_48 (put_and (v := v) (w := w) (by omega) (by omega) hbt) ?_
          refine r_icmp_ne (tgt := 70) hc dL_isPut_49 (by decide) (eq_ZN (by omega) (by omega)) (fun c_49 => ?_) (fun c_49 => ?_)
          ·
            exfalso; omega
          ·
            refine r_aload_n hc dL_isPut_52 rfl ?_
            refine r_iload_n hc dL_isPut_53 rfl ?_
            refine r_iconst (v := nI 2) hc dL_isPut_54 rfl ?_
            refine cl_L_23 (As := [.int (nI k), .int (nI 2)]) hc (qk_2 hG (by omega) (k := k) (by omega)) hG.sh rfl ⟨by decide, by decide⟩ ⟨rfl, rfl⟩ ⟨by decide, by decide⟩ rfl (Nat.le_of_ble_eq_true rfl) dL_isPut_55 (fun r u hp => ?_)
            obtain ⟨rfl, hG⟩ := hp
            refine r_aload_n hc dL_isPut_58 rfl ?_
            refine r_iconst (v := nI 0) hc dL_isPut_59 rfl ?_
            refine cl_L_14 (As := [.int (nI 0)]) hc (qc_0 hG (by omega)) hG.sh rfl ⟨by decide, by decide⟩ ⟨rfl, rfl⟩ ⟨by decide, by decide⟩ rfl (Nat.le_of_ble_eq_true rfl) dL_isPut_60 (fun r u hp => ?_)
            obtain ⟨rfl, hG⟩ := hp
            refine r_icmp_ne (tgt := 70) hc dL_isPut_63 (by decide) (eq_NN (by omega) (by omega)) (fun c_63 => ?_) (fun c_63 => ?_)
            ·
              exfalso; omega
            ·
              refine r_iconst (v := nI 1) hc dL_isPut_66 rfl ?_
              refine r_goto (tgt := 108) hc dL_isPut_67 (by decide) ?_
              exact hR _ _ ⟨rfl, w, hG, hL2, by omega⟩ rfl _ _ dL_isPut_108
set_option maxRecDepth 100000 in
set_option maxHeartbeats 4000000 in
theorem c_L_isGone {Ω : OmT} {z : Nat} {sh : Nat → Option Kd} {P : Nat} {v : Nat → Nat} {S : StT} (hG : GS z sh P v S) (hL : Led v) (hB : v 6 ≤ 800000000) {d : Nat} (hd0 : d ≤ v 4) : CtI Ω yL_isGone cL_isGone 9 .boolean rm_L_isGone [.ref P, .int (nI d)] S (fun r u => r = nI 1 ∧ ∃ w, GS z sh P w u ∧ Led w ∧ w 6 ≤ v 6 + 100) := by
  have hn := hG.nums
  have hL1 := hL.1
  refine CtI.enter (by decide) (Nat.le_of_ble_eq_true rfl) (fun Φ hc hR => ?_)
  show Vw Ω Φ S (0, 0) 0 [(0, .ref P), (1, .int (nI d))] []
  refine r_iload_n hc dL_isGone_0 rfl ?_
  refine r_aload_n hc dL_isGone_1 rfl ?_
  refine r_iconst (v := nI 2) hc dL_isGone_2 rfl ?_
  refine cl_L_14 (As := [.int (nI 2)]) hc (qc_2 hG (by omega)) hG.sh rfl ⟨by decide, by decide⟩ ⟨rfl, rfl⟩ ⟨by decide, by decide⟩ rfl (Nat.le_of_ble_eq_true rfl) dL_isGone_3 (fun r u hp => ?_)
  obtain ⟨rfl, hG⟩ := hp
  refine r_icmp_lt (tgt := 24) hc dL_isGone_6 (by decide) (lt_NN (by omega) (by omega)) (fun c_6 => ?_) (fun c_6 => ?_)
  ·
    have hdr := hG.door (d := d) (by omega)
    refine r_aload_n hc dL_isGone_24 rfl ?_
    refine r_iconst (v := nI 0) hc dL_isGone_25 rfl ?_
    refine cl_L_14 (As := [.int (nI 0)]) hc (qc_0 hG (by omega)) hG.sh rfl ⟨by decide, by decide⟩ ⟨rfl, rfl⟩ ⟨by decide, by decide⟩ rfl (Nat.le_of_ble_eq_true rfl) dL_isGone_26 (fun r u hp => ?_)
    obtain ⟨rfl, hG⟩ := hp
    refine r_istore_n (ls' := [(2, .int (nI (v 3))), (0, .ref P), (1, .int (nI d))]) hc dL_isGone_29 (by decide) rfl ?_
    refine r_aload_n hc dL_isGone_30 rfl ?_
    refine r_bipush (v := nI 10) hc dL_isGone_31 rfl ?_
    refine cl_L_14 (As := [.int (nI 10)]) hc (qc_10 hG (by omega)) hG.sh rfl ⟨by decide, by decide⟩ ⟨rfl, rfl⟩ ⟨by decide, by decide⟩ rfl (Nat.le_of_ble_eq_true rfl) dL_isGone_33 (fun r u hp => ?_)
    obtain ⟨rfl, hG⟩ := hp
    refine r_istore_n (ls' := [(3, .int (nI (v 10))), (2, .int (nI (v 3))), (0, .ref P), (1, .int (nI d))]) hc dL_isGone_36 (by decide) rfl ?_
    refine r_aload_n hc dL_isGone_37 rfl ?_
    refine r_iload_n hc dL_isGone_38 rfl ?_
    refine r_iconst (v := nI 0) hc dL_isGone_39 rfl ?_
    refine cl_L_20 (As := [.int (nI d), .int (nI 0)]) hc (qd_0 hG (by omega) (d := d) (by omega)) hG.sh rfl ⟨by decide, by decide⟩ ⟨rfl, rfl⟩ ⟨by decide, by decide⟩ rfl (Nat.le_of_ble_eq_true rfl) dL_isGone_40 (fun r u hp => ?_)
    obtain ⟨rfl, hG⟩ := hp
    refine r_iload_n hc dL_isGone_43 rfl ?_
    refine r_icmp_eq (tgt := 57) hc dL_isGone_44 (by decide) (eq_NN (by omega) (by omega)) (fun c_44 => ?_) (fun c_44 => ?_)
    ·
      refine r_iconst (v := nI 1) hc dL_isGone_57 rfl ?_
      refine r_goto (tgt := 62) hc dL_isGone_58 (by decide) ?_
      refine r_istore (ls' := [(4, .int (nI 1)), (3, .int (nI (v 10))), (2, .int (nI (v 3))), (0, .ref P), (1, .int (nI d))]) hc dL_isGone_62 (by decide) rfl ?_
      refine r_iload hc dL_isGone_64 rfl ?_
      refine r_if_eq (tgt := 89) hc dL_isGone_66 (by decide) (e0_N (by omega)) (fun c_66 => ?_) (fun c_66 => ?_)
      ·
        exfalso; omega
      ·
        refine r_aload_n hc dL_isGone_69 rfl ?_
        refine r_iconst (v := nI 1) hc dL_isGone_70 rfl ?_
        refine cl_L_14 (As := [.int (nI 1)]) hc (qc_1 hG (by omega)) hG.sh rfl ⟨by decide, by decide⟩ ⟨rfl, rfl⟩ ⟨by decide, by decide⟩ rfl (Nat.le_of_ble_eq_true rfl) dL_isGone_71 (fun r u hp => ?_)
        obtain ⟨rfl, hG⟩ := hp
        refine r_aload_n hc dL_isGone_74 rfl ?_
        refine r_iload_n hc dL_isGone_75 rfl ?_
        refine r_bipush (v := nI 6) hc dL_isGone_76 rfl ?_
        refine cl_L_20 (As := [.int (nI d), .int (nI 6)]) hc (qd_6 hG (by omega) (d := d) (by omega)) hG.sh rfl ⟨by decide, by decide⟩ ⟨rfl, rfl⟩ ⟨by decide, by decide⟩ rfl (Nat.le_of_ble_eq_true rfl) dL_isGone_78 (fun r u hp => ?_)
        obtain ⟨rfl, hG⟩ := hp
        refine r_iand (v := nI ((keysAt v 8) &&& (keysFor v d))) hc dL_isGone_81 (an_NN _ _) ?_
        refine r_if_eq (tgt := 89) hc dL_isGone_82 (by decide) (e0_N (Nat.lt_of_le_of_lt Nat.and_le_left (by omega))) (fun c_82 => ?_) (fun c_82 => ?_)
        ·
          refine r_iconst (v := nI 0) hc dL_isGone_89 rfl ?_
          refine r_istore (ls' := [(5, .int (nI 0)), (4, .int (nI 1)), (3, .int (nI (v 10))), (2, .int (nI (v 3))), (0, .ref P), (1, .int (nI d))]) hc dL_isGone_90 (by decide) rfl ?_
          refine r_aload_n hc dL_isGone_92 rfl ?_
          refine r_iload_n hc dL_isGone_93 rfl ?_
          refine r_iconst (v := nI 0) hc dL_isGone_94 rfl ?_
          refine cl_L_20 (As := [.int (nI d), .int (nI 0)]) hc (qd_0 hG (by omega) (d := d) (by omega)) hG.sh rfl ⟨by decide, by decide⟩ ⟨rfl, rfl⟩ ⟨by decide, by decide⟩ rfl (Nat.le_of_ble_eq_true rfl) dL_isGone_95 (fun r u hp => ?_)
          obtain ⟨rfl, hG⟩ := hp
          refine r_aload_n hc dL_isGone_98 rfl ?_
          refine r_iload_n hc dL_isGone_99 rfl ?_
          refine r_iconst (v := nI 1) hc dL_isGone_100 rfl ?_
          refine cl_L_20 (As := [.int (nI d), .int (nI 1)]) hc (qd_1 hG (by omega) (d := d) (by omega)) hG.sh rfl ⟨by decide, by decide⟩ ⟨rfl, rfl⟩ ⟨by decide, by decide⟩ rfl (Nat.le_of_ble_eq_true rfl) dL_isGone_101 (fun r u hp => ?_)
          obtain ⟨rfl, hG⟩ := hp
          refine r_iadd (v := nI (v (20 + 6 * d) + (v (20 + 6 * d + 1)))) hc dL_isGone_104 (ad_NN _ _) ?_
          refine r_iload_n hc dL_isGone_105 rfl ?_
          refine r_isub (v := zI ((((v (20 + 6 * d) + v (20 + 6 * d + 1)) : Nat) : Int) - ((v 3 : Nat) : Int))) hc dL_isGone_106 (sb_NN _ _) ?_
          refine r_istore (ls' := [(6, .int (zI ((((v (20 + 6 * d) + v (20 + 6 * d + 1)) : Nat) : Int) - ((v 3 : Nat) : Int)))), (5, .int (nI 0)), (4, .int (nI 1)), (3, .int (nI (v 10))), (2, .int (nI (v 3))), (0, .ref P), (1, .int (nI d))]) hc dL_isGone_107 (by decide) rfl ?_
          refine r_iload hc dL_isGone_109 rfl ?_
          refine r_if_eq (tgt := 136) hc dL_isGone_111 (by decide) (e0_N (by omega)) (fun c_111 => ?_) (fun c_111 => ?_)
          ·
            refine r_iconst (v := nI 1) hc dL_isGone_136 rfl ?_
            refine r_goto (tgt := 141) hc dL_isGone_137 (by decide) ?_
            refine r_istore (ls' := [(7, .int (nI 1)), (6, .int (zI ((((v (20 + 6 * d) + v (20 + 6 * d + 1)) : Nat) : Int) - ((v 3 : Nat) : Int)))), (5, .int (nI 0)), (4, .int (nI 1)), (3, .int (nI (v 10))), (2, .int (nI (v 3))), (0, .ref P), (1, .int (nI d))]) hc dL_isGone_141 (by decide) rfl ?_
            refine r_aload_n hc dL_isGone_143 rfl ?_
            refine r_iload_n hc dL_isGone_144 rfl ?_
            refine cl_L_67 (As := [.int (nI d)]) hc (m_go hG (by omega) (by omega)) hG.sh rfl ⟨by decide, by decide⟩ ⟨rfl, rfl⟩ ⟨by decide, by decide⟩ rfl (Nat.le_of_ble_eq_true rfl) dL_isGone_145 (fun r u hp => ?_)
            obtain ⟨⟨y, w⟩, rfl, hG0, hX⟩ := hp
            have hT := t_go hG.ok hL (d := d) hX
            dsimp only at hT
            have hG2 : GS z sh P w u := hG0
            obtain ⟨hL2, e6, hT⟩ := hT
            rcases hT with ⟨hd, hy, hw⟩ | ⟨hd, hno, hy, hw⟩ | ⟨hd, hor, hks, hy, w3, w10⟩
            ·
              exfalso; omega
            ·
              have hL21 := hL2.1
              subst hy
              rw [hw] at hG2 hL2 e6 hL21
              have hG := hG2
              refine r_istore (ls' := [(8, .int (zI (-5))), (7, .int (nI 1)), (6, .int (zI ((((v (20 + 6 * d) + v (20 + 6 * d + 1)) : Nat) : Int) - ((v 3 : Nat) : Int)))), (5, .int (nI 0)), (4, .int (nI 1)), (3, .int (nI (v 10))), (2, .int (nI (v 3))), (0, .ref P), (1, .int (nI d))]) hc dL_isGone_148 (by decide) rfl ?_
              refine r_iload hc dL_isGone_150 rfl ?_
              refine r_if_eq (tgt := 212) hc dL_isGone_152 (by decide) (e0_N (by omega)) (fun c_152 => ?_) (fun c_152 => ?_)
              ·
                exfalso; omega
              ·
                refine r_iload hc dL_isGone_155 rfl ?_
                refine r_if_eq (tgt := 192) hc dL_isGone_157 (by decide) (e0_N (by omega)) (fun c_157 => ?_) (fun c_157 => ?_)
                ·
                  refine r_iload hc dL_isGone_192 rfl ?_
                  refine r_bipush (v := zI (-5)) hc dL_isGone_194 rfl ?_
                  refine r_icmp_ne (tgt := 212) hc dL_isGone_196 (by decide) (eq_ZZ (by omega) (by omega)) (fun c_196 => ?_) (fun c_196 => ?_)
                  ·
                    exfalso; omega
                  ·
                    refine r_aload_n hc dL_isGone_199 rfl ?_
                    refine r_iconst (v := nI 0) hc dL_isGone_200 rfl ?_
                    refine cl_L_14 (As := [.int (nI 0)]) hc (qc_0 hG (by omega)) hG.sh rfl ⟨by decide, by decide⟩ ⟨rfl, rfl⟩ ⟨by decide, by decide⟩ rfl (Nat.le_of_ble_eq_true rfl) dL_isGone_201 (fun r u hp => ?_)
                    obtain ⟨rfl, hG⟩ := hp
                    refine r_iload_n hc dL_isGone_204 rfl ?_
                    refine r_icmp_ne (tgt := 212) hc dL_isGone_205 (by decide) (eq_NN (by omega) (by omega)) (fun c_205 => ?_) (fun c_205 => ?_)
                    ·
                      exfalso; omega
                    ·
                      refine r_iconst (v := nI 1) hc dL_isGone_208 rfl ?_
                      refine r_goto (tgt := 213) hc dL_isGone_209 (by decide) ?_
                      exact hR _ _ ⟨rfl, v, hG, hL2, by omega⟩ rfl _ _ dL_isGone_213
                ·
                  exfalso; omega
            ·
              exfalso; omega
          ·
            exfalso; omega
        ·
          refine r_iconst (v := nI 1) hc dL_isGone_85 rfl ?_
          refine r_goto (tgt := 90) hc dL_isGone_86 (by decide) ?_
          refine r_istore (ls' := [(5, .int (nI 1)), (4, .int (nI 1)), (3, .int (nI (v 10))), (2, .int (nI (v 3))), (0, .ref P), (1, .int (nI d))]) hc dL_isGone_90 (by decide) rfl ?_
          refine r_aload_n hc dL_isGone_92 rfl ?_
          refine r_iload_n hc dL_isGone_93 rfl ?_
          refine r_iconst (v := nI 0) hc dL_isGone_94 rfl ?_
          refine cl_L_20 (As := [.int (nI d), .int (nI 0)]) hc (qd_0 hG (by omega) (d := d) (by omega)) hG.sh rfl ⟨by decide, by decide⟩ ⟨rfl, rfl⟩ ⟨by decide, by decide⟩ rfl (Nat.le_of_ble_eq_true rfl) dL_isGone_95 (fun r u hp => ?_)
          obtain ⟨rfl, hG⟩ := hp
          refine r_aload_n hc dL_isGone_98 rfl ?_
          refine r_iload_n hc dL_isGone_99 rfl ?_
          refine r_iconst (v := nI 1) hc dL_isGone_100 rfl ?_
          refine cl_L_20 (As := [.int (nI d), .int (nI 1)]) hc (qd_1 hG (by omega) (d := d) (by omega)) hG.sh rfl ⟨by decide, by decide⟩ ⟨rfl, rfl⟩ ⟨by decide, by decide⟩ rfl (Nat.le_of_ble_eq_true rfl) dL_isGone_101 (fun r u hp => ?_)
          obtain ⟨rfl, hG⟩ := hp
          refine r_iadd (v := nI (v (20 + 6 * d) + (v (20 + 6 * d + 1)))) hc dL_isGone_104 (ad_NN _ _) ?_
          refine r_iload_n hc dL_isGone_105 rfl ?_
          obtain ⟨t, ht⟩ : ∃ t, t + v 3 = v (20 + 6 * d) + v (20 + 6 * d + 1) := ⟨v (20 + 6 * d) + v (20 + 6 * d + 1) - v 3, by omega⟩
          have hrm : v (20 + 6 * d) = v 3 ∨ v (20 + 6 * d + 1) = v 3 := by omega
          have htr := t_reach hG.ok (by omega) hrm c_82 ht
          have hdt := t_doorsTo hG.ok hL (by omega) hrm c_82 ht
          have hsr := sReach_lt hG.ok
          refine r_isub (v := nI t) hc dL_isGone_106 (by rw [sb_NN]; exact zn (by omega)) ?_
          refine r_istore (ls' := [(6, .int (nI t)), (5, .int (nI 1)), (4, .int (nI 1)), (3, .int (nI (v 10))), (2, .int (nI (v 3))), (0, .ref P), (1, .int (nI d))]) hc dL_isGone_107 (by decide) rfl ?_
          refine r_iload hc dL_isGone_109 rfl ?_
          refine r_if_eq (tgt := 136) hc dL_isGone_111 (by decide) (e0_N (by omega)) (fun c_111 => ?_) (fun c_111 => ?_)
          ·
            exfalso; omega
          ·
            refine r_aload_n hc dL_isGone_114 rfl ?_
            refine cl_L_70 (As := []) hc (qr hG (by omega)) hG.sh rfl ⟨by decide, by decide⟩ ⟨rfl, rfl⟩ ⟨by decide, by decide⟩ rfl (Nat.le_of_ble_eq_true rfl) dL_isGone_115 (fun r u hp => ?_)
            obtain ⟨rfl, hG⟩ := hp
            refine r_iload hc dL_isGone_118 rfl ?_
            refine cl_L_36 (As := [.int (nI (sReach v)), .int (nI t)]) hc (c_L_has (x := sReach v) (k := t) (by omega) (by omega)) rfl ⟨by decide, by decide⟩ ⟨rfl, rfl⟩ ⟨by decide, by decide⟩ rfl (Nat.le_of_ble_eq_true rfl) dL_isGone_120 (fun r u hp => ?_)
            obtain ⟨rfl, hu⟩ := hp
            rw [hu]
            refine r_if_eq (tgt := 140) hc dL_isGone_123 (by decide) (bI_0 _) (fun c_123 => ?_) (fun c_123 => ?_)
            ·
              exact absurd c_123 (by rw [htr]; decide)
            ·
              have c_123 := bnf c_123
              refine r_aload_n hc dL_isGone_126 rfl ?_
              refine r_iload hc dL_isGone_127 rfl ?_
              refine cl_L_74 (As := [.int (nI t)]) hc (qdt hG (by omega) (t := t) (by omega)) hG.sh rfl ⟨by decide, by decide⟩ ⟨rfl, rfl⟩ ⟨by decide, by decide⟩ rfl (Nat.le_of_ble_eq_true rfl) dL_isGone_129 (fun r u hp => ?_)
              obtain ⟨rfl, hG⟩ := hp
              rw [hdt, show zI 1 = nI 1 from rfl]
              refine r_iconst (v := nI 1) hc dL_isGone_132 rfl ?_
              refine r_icmp_ne (tgt := 140) hc dL_isGone_133 (by decide) (eq_NN (by omega) (by omega)) (fun c_133 => ?_) (fun c_133 => ?_)
              ·
                exfalso; omega
              ·
                refine r_iconst (v := nI 1) hc dL_isGone_136 rfl ?_
                refine r_goto (tgt := 141) hc dL_isGone_137 (by decide) ?_
                refine r_istore (ls' := [(7, .int (nI 1)), (6, .int (nI t)), (5, .int (nI 1)), (4, .int (nI 1)), (3, .int (nI (v 10))), (2, .int (nI (v 3))), (0, .ref P), (1, .int (nI d))]) hc dL_isGone_141 (by decide) rfl ?_
                refine r_aload_n hc dL_isGone_143 rfl ?_
                refine r_iload_n hc dL_isGone_144 rfl ?_
                refine cl_L_67 (As := [.int (nI d)]) hc (m_go hG (by omega) (by omega)) hG.sh rfl ⟨by decide, by decide⟩ ⟨rfl, rfl⟩ ⟨by decide, by decide⟩ rfl (Nat.le_of_ble_eq_true rfl) dL_isGone_145 (fun r u hp => ?_)
                obtain ⟨⟨y, w⟩, rfl, hG0, hX⟩ := hp
                have hT := t_go hG.ok hL (d := d) hX
                dsimp only at hT
                have hG2 : GS z sh P w u := hG0
                obtain ⟨hL2, e6, hT⟩ := hT
                rcases hT with ⟨hd, hy, hw⟩ | ⟨hd, hno, hy, hw⟩ | ⟨hd, hor, hks, hy, w3, w10⟩
                ·
                  exfalso; omega
                ·
                  exfalso; omega
                ·
                  have hL21 := hL2.1
                  subst hy
                  have hn2 := hG2.nums
                  have hG := hG2
                  refine r_istore (ls' := [(8, .int (zI (((w 3 : Nat) : Int)))), (7, .int (nI 1)), (6, .int (nI t)), (5, .int (nI 1)), (4, .int (nI 1)), (3, .int (nI (v 10))), (2, .int (nI (v 3))), (0, .ref P), (1, .int (nI d))]) hc dL_isGone_148 (by decide) rfl ?_
                  refine r_iload hc dL_isGone_150 rfl ?_
                  refine r_if_eq (tgt := 212) hc dL_isGone_152 (by decide) (e0_N (by omega)) (fun c_152 => ?_) (fun c_152 => ?_)
                  ·
                    exfalso; omega
                  ·
                    refine r_iload hc dL_isGone_155 rfl ?_
                    refine r_if_eq (tgt := 192) hc dL_isGone_157 (by decide) (e0_N (by omega)) (fun c_157 => ?_) (fun c_157 => ?_)
                    ·
                      exfalso; omega
                    ·
                      refine r_iload hc dL_isGone_160 rfl ?_
                      refine r_iload hc dL_isGone_162 rfl ?_
                      refine r_icmp_ne (tgt := 212) hc dL_isGone_164 (by decide) (eq_ZN (by omega) (by omega)) (fun c_164 => ?_) (fun c_164 => ?_)
                      ·
                        exfalso; omega
                      ·
                        refine r_aload_n hc dL_isGone_167 rfl ?_
                        refine r_iconst (v := nI 0) hc dL_isGone_168 rfl ?_
                        refine cl_L_14 (As := [.int (nI 0)]) hc (qc_0 hG (by omega)) hG.sh rfl ⟨by decide, by decide⟩ ⟨rfl, rfl⟩ ⟨by decide, by decide⟩ rfl (Nat.le_of_ble_eq_true rfl) dL_isGone_169 (fun r u hp => ?_)
                        obtain ⟨rfl, hG⟩ := hp
                        refine r_iload hc dL_isGone_172 rfl ?_
                        refine r_icmp_ne (tgt := 212) hc dL_isGone_174 (by decide) (eq_NN (by omega) (by omega)) (fun c_174 => ?_) (fun c_174 => ?_)
                        ·
                          exfalso; omega
                        ·
                          refine r_aload_n hc dL_isGone_177 rfl ?_
                          refine r_bipush (v := nI 10) hc dL_isGone_178 rfl ?_
                          refine cl_L_14 (As := [.int (nI 10)]) hc (qc_10 hG (by omega)) hG.sh rfl ⟨by decide, by decide⟩ ⟨rfl, rfl⟩ ⟨by decide, by decide⟩ rfl (Nat.le_of_ble_eq_true rfl) dL_isGone_180 (fun r u hp => ?_)
                          obtain ⟨rfl, hG⟩ := hp
                          refine r_iload_n hc dL_isGone_183 rfl ?_
                          refine r_iconst (v := nI 1) hc dL_isGone_184 rfl ?_
                          refine r_iadd (v := nI (v 10 + 1)) hc dL_isGone_185 (ad_NN _ _) ?_
                          refine r_icmp_ne (tgt := 212) hc dL_isGone_186 (by decide) (iff_of_true (by rw [w10]) (rfl : (0 : Nat) = 0)) (fun c_186 => ?_) (fun c_186 => ?_)
                          ·
                            exfalso; omega
                          ·
                            refine r_goto (tgt := 208) hc dL_isGone_189 (by decide) ?_
                            refine r_iconst (v := nI 1) hc dL_isGone_208 rfl ?_
                            refine r_goto (tgt := 213) hc dL_isGone_209 (by decide) ?_
                            exact hR _ _ ⟨rfl, w, hG, hL2, by omega⟩ rfl _ _ dL_isGone_213
    ·
      refine r_aload_n hc dL_isGone_47 rfl ?_
      refine r_iload_n hc dL_isGone_48 rfl ?_
      refine r_iconst (v := nI 1) hc dL_isGone_49 rfl ?_
      refine cl_L_20 (As := [.int (nI d), .int (nI 1)]) hc (qd_1 hG (by omega) (d := d) (by omega)) hG.sh rfl ⟨by decide, by decide⟩ ⟨rfl, rfl⟩ ⟨by decide, by decide⟩ rfl (Nat.le_of_ble_eq_true rfl) dL_isGone_50 (fun r u hp => ?_)
      obtain ⟨rfl, hG⟩ := hp
      refine r_iload_n hc dL_isGone_53 rfl ?_
      refine r_icmp_ne (tgt := 61) hc dL_isGone_54 (by decide) (eq_NN (by omega) (by omega)) (fun c_54 => ?_) (fun c_54 => ?_)
      ·
        refine r_iconst (v := nI 0) hc dL_isGone_61 rfl ?_
        refine r_istore (ls' := [(4, .int (nI 0)), (3, .int (nI (v 10))), (2, .int (nI (v 3))), (0, .ref P), (1, .int (nI d))]) hc dL_isGone_62 (by decide) rfl ?_
        refine r_iload hc dL_isGone_64 rfl ?_
        refine r_if_eq (tgt := 89) hc dL_isGone_66 (by decide) (e0_N (by omega)) (fun c_66 => ?_) (fun c_66 => ?_)
        ·
          refine r_iconst (v := nI 0) hc dL_isGone_89 rfl ?_
          refine r_istore (ls' := [(5, .int (nI 0)), (4, .int (nI 0)), (3, .int (nI (v 10))), (2, .int (nI (v 3))), (0, .ref P), (1, .int (nI d))]) hc dL_isGone_90 (by decide) rfl ?_
          refine r_aload_n hc dL_isGone_92 rfl ?_
          refine r_iload_n hc dL_isGone_93 rfl ?_
          refine r_iconst (v := nI 0) hc dL_isGone_94 rfl ?_
          refine cl_L_20 (As := [.int (nI d), .int (nI 0)]) hc (qd_0 hG (by omega) (d := d) (by omega)) hG.sh rfl ⟨by decide, by decide⟩ ⟨rfl, rfl⟩ ⟨by decide, by decide⟩ rfl (Nat.le_of_ble_eq_true rfl) dL_isGone_95 (fun r u hp => ?_)
          obtain ⟨rfl, hG⟩ := hp
          refine r_aload_n hc dL_isGone_98 rfl ?_
          refine r_iload_n hc dL_isGone_99 rfl ?_
          refine r_iconst (v := nI 1) hc dL_isGone_100 rfl ?_
          refine cl_L_20 (As := [.int (nI d), .int (nI 1)]) hc (qd_1 hG (by omega) (d := d) (by omega)) hG.sh rfl ⟨by decide, by decide⟩ ⟨rfl, rfl⟩ ⟨by decide, by decide⟩ rfl (Nat.le_of_ble_eq_true rfl) dL_isGone_101 (fun r u hp => ?_)
          obtain ⟨rfl, hG⟩ := hp
          refine r_iadd (v := nI (v (20 + 6 * d) + (v (20 + 6 * d + 1)))) hc dL_isGone_104 (ad_NN _ _) ?_
          refine r_iload_n hc dL_isGone_105 rfl ?_
          refine r_isub (v := zI ((((v (20 + 6 * d) + v (20 + 6 * d + 1)) : Nat) : Int) - ((v 3 : Nat) : Int))) hc dL_isGone_106 (sb_NN _ _) ?_
          refine r_istore (ls' := [(6, .int (zI ((((v (20 + 6 * d) + v (20 + 6 * d + 1)) : Nat) : Int) - ((v 3 : Nat) : Int)))), (5, .int (nI 0)), (4, .int (nI 0)), (3, .int (nI (v 10))), (2, .int (nI (v 3))), (0, .ref P), (1, .int (nI d))]) hc dL_isGone_107 (by decide) rfl ?_
          refine r_iload hc dL_isGone_109 rfl ?_
          refine r_if_eq (tgt := 136) hc dL_isGone_111 (by decide) (e0_N (by omega)) (fun c_111 => ?_) (fun c_111 => ?_)
          ·
            refine r_iconst (v := nI 1) hc dL_isGone_136 rfl ?_
            refine r_goto (tgt := 141) hc dL_isGone_137 (by decide) ?_
            refine r_istore (ls' := [(7, .int (nI 1)), (6, .int (zI ((((v (20 + 6 * d) + v (20 + 6 * d + 1)) : Nat) : Int) - ((v 3 : Nat) : Int)))), (5, .int (nI 0)), (4, .int (nI 0)), (3, .int (nI (v 10))), (2, .int (nI (v 3))), (0, .ref P), (1, .int (nI d))]) hc dL_isGone_141 (by decide) rfl ?_
            refine r_aload_n hc dL_isGone_143 rfl ?_
            refine r_iload_n hc dL_isGone_144 rfl ?_
            refine cl_L_67 (As := [.int (nI d)]) hc (m_go hG (by omega) (by omega)) hG.sh rfl ⟨by decide, by decide⟩ ⟨rfl, rfl⟩ ⟨by decide, by decide⟩ rfl (Nat.le_of_ble_eq_true rfl) dL_isGone_145 (fun r u hp => ?_)
            obtain ⟨⟨y, w⟩, rfl, hG0, hX⟩ := hp
            have hT := t_go hG.ok hL (d := d) hX
            dsimp only at hT
            have hG2 : GS z sh P w u := hG0
            obtain ⟨hL2, e6, hT⟩ := hT
            rcases hT with ⟨hd, hy, hw⟩ | ⟨hd, hno, hy, hw⟩ | ⟨hd, hor, hks, hy, w3, w10⟩
            ·
              exfalso; omega
            ·
              have hL21 := hL2.1
              subst hy
              rw [hw] at hG2 hL2 e6 hL21
              have hG := hG2
              refine r_istore (ls' := [(8, .int (zI (-5))), (7, .int (nI 1)), (6, .int (zI ((((v (20 + 6 * d) + v (20 + 6 * d + 1)) : Nat) : Int) - ((v 3 : Nat) : Int)))), (5, .int (nI 0)), (4, .int (nI 0)), (3, .int (nI (v 10))), (2, .int (nI (v 3))), (0, .ref P), (1, .int (nI d))]) hc dL_isGone_148 (by decide) rfl ?_
              refine r_iload hc dL_isGone_150 rfl ?_
              refine r_if_eq (tgt := 212) hc dL_isGone_152 (by decide) (e0_N (by omega)) (fun c_152 => ?_) (fun c_152 => ?_)
              ·
                exfalso; omega
              ·
                refine r_iload hc dL_isGone_155 rfl ?_
                refine r_if_eq (tgt := 192) hc dL_isGone_157 (by decide) (e0_N (by omega)) (fun c_157 => ?_) (fun c_157 => ?_)
                ·
                  refine r_iload hc dL_isGone_192 rfl ?_
                  refine r_bipush (v := zI (-5)) hc dL_isGone_194 rfl ?_
                  refine r_icmp_ne (tgt := 212) hc dL_isGone_196 (by decide) (eq_ZZ (by omega) (by omega)) (fun c_196 => ?_) (fun c_196 => ?_)
                  ·
                    exfalso; omega
                  ·
                    refine r_aload_n hc dL_isGone_199 rfl ?_
                    refine r_iconst (v := nI 0) hc dL_isGone_200 rfl ?_
                    refine cl_L_14 (As := [.int (nI 0)]) hc (qc_0 hG (by omega)) hG.sh rfl ⟨by decide, by decide⟩ ⟨rfl, rfl⟩ ⟨by decide, by decide⟩ rfl (Nat.le_of_ble_eq_true rfl) dL_isGone_201 (fun r u hp => ?_)
                    obtain ⟨rfl, hG⟩ := hp
                    refine r_iload_n hc dL_isGone_204 rfl ?_
                    refine r_icmp_ne (tgt := 212) hc dL_isGone_205 (by decide) (eq_NN (by omega) (by omega)) (fun c_205 => ?_) (fun c_205 => ?_)
                    ·
                      exfalso; omega
                    ·
                      refine r_iconst (v := nI 1) hc dL_isGone_208 rfl ?_
                      refine r_goto (tgt := 213) hc dL_isGone_209 (by decide) ?_
                      exact hR _ _ ⟨rfl, v, hG, hL2, by omega⟩ rfl _ _ dL_isGone_213
                ·
                  exfalso; omega
            ·
              exfalso; omega
          ·
            exfalso; omega
        ·
          exfalso; omega
      ·
        refine r_iconst (v := nI 1) hc dL_isGone_57 rfl ?_
        refine r_goto (tgt := 62) hc dL_isGone_58 (by decide) ?_
        refine r_istore (ls' := [(4, .int (nI 1)), (3, .int (nI (v 10))), (2, .int (nI (v 3))), (0, .ref P), (1, .int (nI d))]) hc dL_isGone_62 (by decide) rfl ?_
        refine r_iload hc dL_isGone_64 rfl ?_
        refine r_if_eq (tgt := 89) hc dL_isGone_66 (by decide) (e0_N (by omega)) (fun c_66 => ?_) (fun c_66 => ?_)
        ·
          exfalso; omega
        ·
          refine r_aload_n hc dL_isGone_69 rfl ?_
          refine r_iconst (v := nI 1) hc dL_isGone_70 rfl ?_
          refine cl_L_14 (As := [.int (nI 1)]) hc (qc_1 hG (by omega)) hG.sh rfl ⟨by decide, by decide⟩ ⟨rfl, rfl⟩ ⟨by decide, by decide⟩ rfl (Nat.le_of_ble_eq_true rfl) dL_isGone_71 (fun r u hp => ?_)
          obtain ⟨rfl, hG⟩ := hp
          refine r_aload_n hc dL_isGone_74 rfl ?_
          refine r_iload_n hc dL_isGone_75 rfl ?_
          refine r_bipush (v := nI 6) hc dL_isGone_76 rfl ?_
          refine cl_L_20 (As := [.int (nI d), .int (nI 6)]) hc (qd_6 hG (by omega) (d := d) (by omega)) hG.sh rfl ⟨by decide, by decide⟩ ⟨rfl, rfl⟩ ⟨by decide, by decide⟩ rfl (Nat.le_of_ble_eq_true rfl) dL_isGone_78 (fun r u hp => ?_)
          obtain ⟨rfl, hG⟩ := hp
          refine r_iand (v := nI ((keysAt v 8) &&& (keysFor v d))) hc dL_isGone_81 (an_NN _ _) ?_
          refine r_if_eq (tgt := 89) hc dL_isGone_82 (by decide) (e0_N (Nat.lt_of_le_of_lt Nat.and_le_left (by omega))) (fun c_82 => ?_) (fun c_82 => ?_)
          ·
            refine r_iconst (v := nI 0) hc dL_isGone_89 rfl ?_
            refine r_istore (ls' := [(5, .int (nI 0)), (4, .int (nI 1)), (3, .int (nI (v 10))), (2, .int (nI (v 3))), (0, .ref P), (1, .int (nI d))]) hc dL_isGone_90 (by decide) rfl ?_
            refine r_aload_n hc dL_isGone_92 rfl ?_
            refine r_iload_n hc dL_isGone_93 rfl ?_
            refine r_iconst (v := nI 0) hc dL_isGone_94 rfl ?_
            refine cl_L_20 (As := [.int (nI d), .int (nI 0)]) hc (qd_0 hG (by omega) (d := d) (by omega)) hG.sh rfl ⟨by decide, by decide⟩ ⟨rfl, rfl⟩ ⟨by decide, by decide⟩ rfl (Nat.le_of_ble_eq_true rfl) dL_isGone_95 (fun r u hp => ?_)
            obtain ⟨rfl, hG⟩ := hp
            refine r_aload_n hc dL_isGone_98 rfl ?_
            refine r_iload_n hc dL_isGone_99 rfl ?_
            refine r_iconst (v := nI 1) hc dL_isGone_100 rfl ?_
            refine cl_L_20 (As := [.int (nI d), .int (nI 1)]) hc (qd_1 hG (by omega) (d := d) (by omega)) hG.sh rfl ⟨by decide, by decide⟩ ⟨rfl, rfl⟩ ⟨by decide, by decide⟩ rfl (Nat.le_of_ble_eq_true rfl) dL_isGone_101 (fun r u hp => ?_)
            obtain ⟨rfl, hG⟩ := hp
            refine r_iadd (v := nI (v (20 + 6 * d) + (v (20 + 6 * d + 1)))) hc dL_isGone_104 (ad_NN _ _) ?_
            refine r_iload_n hc dL_isGone_105 rfl ?_
            refine r_isub (v := zI ((((v (20 + 6 * d) + v (20 + 6 * d + 1)) : Nat) : Int) - ((v 3 : Nat) : Int))) hc dL_isGone_106 (sb_NN _ _) ?_
            refine r_istore (ls' := [(6, .int (zI ((((v (20 + 6 * d) + v (20 + 6 * d + 1)) : Nat) : Int) - ((v 3 : Nat) : Int)))), (5, .int (nI 0)), (4, .int (nI 1)), (3, .int (nI (v 10))), (2, .int (nI (v 3))), (0, .ref P), (1, .int (nI d))]) hc dL_isGone_107 (by decide) rfl ?_
            refine r_iload hc dL_isGone_109 rfl ?_
            refine r_if_eq (tgt := 136) hc dL_isGone_111 (by decide) (e0_N (by omega)) (fun c_111 => ?_) (fun c_111 => ?_)
            ·
              refine r_iconst (v := nI 1) hc dL_isGone_136 rfl ?_
              refine r_goto (tgt := 141) hc dL_isGone_137 (by decide) ?_
              refine r_istore (ls' := [(7, .int (nI 1)), (6, .int (zI ((((v (20 + 6 * d) + v (20 + 6 * d + 1)) : Nat) : Int) - ((v 3 : Nat) : Int)))), (5, .int (nI 0)), (4, .int (nI 1)), (3, .int (nI (v 10))), (2, .int (nI (v 3))), (0, .ref P), (1, .int (nI d))]) hc dL_isGone_141 (by decide) rfl ?_
              refine r_aload_n hc dL_isGone_143 rfl ?_
              refine r_iload_n hc dL_isGone_144 rfl ?_
              refine cl_L_67 (As := [.int (nI d)]) hc (m_go hG (by omega) (by omega)) hG.sh rfl ⟨by decide, by decide⟩ ⟨rfl, rfl⟩ ⟨by decide, by decide⟩ rfl (Nat.le_of_ble_eq_true rfl) dL_isGone_145 (fun r u hp => ?_)
              obtain ⟨⟨y, w⟩, rfl, hG0, hX⟩ := hp
              have hT := t_go hG.ok hL (d := d) hX
              dsimp only at hT
              have hG2 : GS z sh P w u := hG0
              obtain ⟨hL2, e6, hT⟩ := hT
              rcases hT with ⟨hd, hy, hw⟩ | ⟨hd, hno, hy, hw⟩ | ⟨hd, hor, hks, hy, w3, w10⟩
              ·
                exfalso; omega
              ·
                have hL21 := hL2.1
                subst hy
                rw [hw] at hG2 hL2 e6 hL21
                have hG := hG2
                refine r_istore (ls' := [(8, .int (zI (-5))), (7, .int (nI 1)), (6, .int (zI ((((v (20 + 6 * d) + v (20 + 6 * d + 1)) : Nat) : Int) - ((v 3 : Nat) : Int)))), (5, .int (nI 0)), (4, .int (nI 1)), (3, .int (nI (v 10))), (2, .int (nI (v 3))), (0, .ref P), (1, .int (nI d))]) hc dL_isGone_148 (by decide) rfl ?_
                refine r_iload hc dL_isGone_150 rfl ?_
                refine r_if_eq (tgt := 212) hc dL_isGone_152 (by decide) (e0_N (by omega)) (fun c_152 => ?_) (fun c_152 => ?_)
                ·
                  exfalso; omega
                ·
                  refine r_iload hc dL_isGone_155 rfl ?_
                  refine r_if_eq (tgt := 192) hc dL_isGone_157 (by decide) (e0_N (by omega)) (fun c_157 => ?_) (fun c_157 => ?_)
                  ·
                    refine r_iload hc dL_isGone_192 rfl ?_
                    refine r_bipush (v := zI (-5)) hc dL_isGone_194 rfl ?_
                    refine r_icmp_ne (tgt := 212) hc dL_isGone_196 (by decide) (eq_ZZ (by omega) (by omega)) (fun c_196 => ?_) (fun c_196 => ?_)
                    ·
                      exfalso; omega
                    ·
                      refine r_aload_n hc dL_isGone_199 rfl ?_
                      refine r_iconst (v := nI 0) hc dL_isGone_200 rfl ?_
                      refine cl_L_14 (As := [.int (nI 0)]) hc (qc_0 hG (by omega)) hG.sh rfl ⟨by decide, by decide⟩ ⟨rfl, rfl⟩ ⟨by decide, by decide⟩ rfl (Nat.le_of_ble_eq_true rfl) dL_isGone_201 (fun r u hp => ?_)
                      obtain ⟨rfl, hG⟩ := hp
                      refine r_iload_n hc dL_isGone_204 rfl ?_
                      refine r_icmp_ne (tgt := 212) hc dL_isGone_205 (by decide) (eq_NN (by omega) (by omega)) (fun c_205 => ?_) (fun c_205 => ?_)
                      ·
                        exfalso; omega
                      ·
                        refine r_iconst (v := nI 1) hc dL_isGone_208 rfl ?_
                        refine r_goto (tgt := 213) hc dL_isGone_209 (by decide) ?_
                        exact hR _ _ ⟨rfl, v, hG, hL2, by omega⟩ rfl _ _ dL_isGone_213
                  ·
                    exfalso; omega
              ·
                exfalso; omega
            ·
              exfalso; omega
          ·
            refine r_iconst (v := nI 1) hc dL_isGone_85 rfl ?_
            refine r_goto (tgt := 90) hc dL_isGone_86 (by decide) ?_
            refine r_istore (ls' := [(5, .int (nI 1)), (4, .int (nI 1)), (3, .int (nI (v 10))), (2, .int (nI (v 3))), (0, .ref P), (1, .int (nI d))]) hc dL_isGone_90 (by decide) rfl ?_
            refine r_aload_n hc dL_isGone_92 rfl ?_
            refine r_iload_n hc dL_isGone_93 rfl ?_
            refine r_iconst (v := nI 0) hc dL_isGone_94 rfl ?_
            refine cl_L_20 (As := [.int (nI d), .int (nI 0)]) hc (qd_0 hG (by omega) (d := d) (by omega)) hG.sh rfl ⟨by decide, by decide⟩ ⟨rfl, rfl⟩ ⟨by decide, by decide⟩ rfl (Nat.le_of_ble_eq_true rfl) dL_isGone_95 (fun r u hp => ?_)
            obtain ⟨rfl, hG⟩ := hp
            refine r_aload_n hc dL_isGone_98 rfl ?_
            refine r_iload_n hc dL_isGone_99 rfl ?_
            refine r_iconst (v := nI 1) hc dL_isGone_100 rfl ?_
            refine cl_L_20 (As := [.int (nI d), .int (nI 1)]) hc (qd_1 hG (by omega) (d := d) (by omega)) hG.sh rfl ⟨by decide, by decide⟩ ⟨rfl, rfl⟩ ⟨by decide, by decide⟩ rfl (Nat.le_of_ble_eq_true rfl) dL_isGone_101 (fun r u hp => ?_)
            obtain ⟨rfl, hG⟩ := hp
            refine r_iadd (v := nI (v (20 + 6 * d) + (v (20 + 6 * d + 1)))) hc dL_isGone_104 (ad_NN _ _) ?_
            refine r_iload_n hc dL_isGone_105 rfl ?_
            obtain ⟨t, ht⟩ : ∃ t, t + v 3 = v (20 + 6 * d) + v (20 + 6 * d + 1) := ⟨v (20 + 6 * d) + v (20 + 6 * d + 1) - v 3, by omega⟩
            have hrm : v (20 + 6 * d) = v 3 ∨ v (20 + 6 * d + 1) = v 3 := by omega
            have htr := t_reach hG.ok (by omega) hrm c_82 ht
            have hdt := t_doorsTo hG.ok hL (by omega) hrm c_82 ht
            have hsr := sReach_lt hG.ok
            refine r_isub (v := nI t) hc dL_isGone_106 (by rw [sb_NN]; exact zn (by omega)) ?_
            refine r_istore (ls' := [(6, .int (nI t)), (5, .int (nI 1)), (4, .int (nI 1)), (3, .int (nI (v 10))), (2, .int (nI (v 3))), (0, .ref P), (1, .int (nI d))]) hc dL_isGone_107 (by decide) rfl ?_
            refine r_iload hc dL_isGone_109 rfl ?_
            refine r_if_eq (tgt := 136) hc dL_isGone_111 (by decide) (e0_N (by omega)) (fun c_111 => ?_) (fun c_111 => ?_)
            ·
              exfalso; omega
            ·
              refine r_aload_n hc dL_isGone_114 rfl ?_
              refine cl_L_70 (As := []) hc (qr hG (by omega)) hG.sh rfl ⟨by decide, by decide⟩ ⟨rfl, rfl⟩ ⟨by decide, by decide⟩ rfl (Nat.le_of_ble_eq_true rfl) dL_isGone_115 (fun r u hp => ?_)
              obtain ⟨rfl, hG⟩ := hp
              refine r_iload hc dL_isGone_118 rfl ?_
              refine cl_L_36 (As := [.int (nI (sReach v)), .int (nI t)]) hc (c_L_has (x := sReach v) (k := t) (by omega) (by omega)) rfl ⟨by decide, by decide⟩ ⟨rfl, rfl⟩ ⟨by decide, by decide⟩ rfl (Nat.le_of_ble_eq_true rfl) dL_isGone_120 (fun r u hp => ?_)
              obtain ⟨rfl, hu⟩ := hp
              rw [hu]
              refine r_if_eq (tgt := 140) hc dL_isGone_123 (by decide) (bI_0 _) (fun c_123 => ?_) (fun c_123 => ?_)
              ·
                exact absurd c_123 (by rw [htr]; decide)
              ·
                have c_123 := bnf c_123
                refine r_aload_n hc dL_isGone_126 rfl ?_
                refine r_iload hc dL_isGone_127 rfl ?_
                refine cl_L_74 (As := [.int (nI t)]) hc (qdt hG (by omega) (t := t) (by omega)) hG.sh rfl ⟨by decide, by decide⟩ ⟨rfl, rfl⟩ ⟨by decide, by decide⟩ rfl (Nat.le_of_ble_eq_true rfl) dL_isGone_129 (fun r u hp => ?_)
                obtain ⟨rfl, hG⟩ := hp
                rw [hdt, show zI 1 = nI 1 from rfl]
                refine r_iconst (v := nI 1) hc dL_isGone_132 rfl ?_
                refine r_icmp_ne (tgt := 140) hc dL_isGone_133 (by decide) (eq_NN (by omega) (by omega)) (fun c_133 => ?_) (fun c_133 => ?_)
                ·
                  exfalso; omega
                ·
                  refine r_iconst (v := nI 1) hc dL_isGone_136 rfl ?_
                  refine r_goto (tgt := 141) hc dL_isGone_137 (by decide) ?_
                  refine r_istore (ls' := [(7, .int (nI 1)), (6, .int (nI t)), (5, .int (nI 1)), (4, .int (nI 1)), (3, .int (nI (v 10))), (2, .int (nI (v 3))), (0, .ref P), (1, .int (nI d))]) hc dL_isGone_141 (by decide) rfl ?_
                  refine r_aload_n hc dL_isGone_143 rfl ?_
                  refine r_iload_n hc dL_isGone_144 rfl ?_
                  refine cl_L_67 (As := [.int (nI d)]) hc (m_go hG (by omega) (by omega)) hG.sh rfl ⟨by decide, by decide⟩ ⟨rfl, rfl⟩ ⟨by decide, by decide⟩ rfl (Nat.le_of_ble_eq_true rfl) dL_isGone_145 (fun r u hp => ?_)
                  obtain ⟨⟨y, w⟩, rfl, hG0, hX⟩ := hp
                  have hT := t_go hG.ok hL (d := d) hX
                  dsimp only at hT
                  have hG2 : GS z sh P w u := hG0
                  obtain ⟨hL2, e6, hT⟩ := hT
                  rcases hT with ⟨hd, hy, hw⟩ | ⟨hd, hno, hy, hw⟩ | ⟨hd, hor, hks, hy, w3, w10⟩
                  ·
                    exfalso; omega
                  ·
                    exfalso; omega
                  ·
                    have hL21 := hL2.1
                    subst hy
                    have hn2 := hG2.nums
                    have hG := hG2
                    refine r_istore (ls' := [(8, .int (zI (((w 3 : Nat) : Int)))), (7, .int (nI 1)), (6, .int (nI t)), (5, .int (nI 1)), (4, .int (nI 1)), (3, .int (nI (v 10))), (2, .int (nI (v 3))), (0, .ref P), (1, .int (nI d))]) hc dL_isGone_148 (by decide) rfl ?_
                    refine r_iload hc dL_isGone_150 rfl ?_
                    refine r_if_eq (tgt := 212) hc dL_isGone_152 (by decide) (e0_N (by omega)) (fun c_152 => ?_) (fun c_152 => ?_)
                    ·
                      exfalso; omega
                    ·
                      refine r_iload hc dL_isGone_155 rfl ?_
                      refine r_if_eq (tgt := 192) hc dL_isGone_157 (by decide) (e0_N (by omega)) (fun c_157 => ?_) (fun c_157 => ?_)
                      ·
                        exfalso; omega
                      ·
                        refine r_iload hc dL_isGone_160 rfl ?_
                        refine r_iload hc dL_isGone_162 rfl ?_
                        refine r_icmp_ne (tgt := 212) hc dL_isGone_164 (by decide) (eq_ZN (by omega) (by omega)) (fun c_164 => ?_) (fun c_164 => ?_)
                        ·
                          exfalso; omega
                        ·
                          refine r_aload_n hc dL_isGone_167 rfl ?_
                          refine r_iconst (v := nI 0) hc dL_isGone_168 rfl ?_
                          refine cl_L_14 (As := [.int (nI 0)]) hc (qc_0 hG (by omega)) hG.sh rfl ⟨by decide, by decide⟩ ⟨rfl, rfl⟩ ⟨by decide, by decide⟩ rfl (Nat.le_of_ble_eq_true rfl) dL_isGone_169 (fun r u hp => ?_)
                          obtain ⟨rfl, hG⟩ := hp
                          refine r_iload hc dL_isGone_172 rfl ?_
                          refine r_icmp_ne (tgt := 212) hc dL_isGone_174 (by decide) (eq_NN (by omega) (by omega)) (fun c_174 => ?_) (fun c_174 => ?_)
                          ·
                            exfalso; omega
                          ·
                            refine r_aload_n hc dL_isGone_177 rfl ?_
                            refine r_bipush (v := nI 10) hc dL_isGone_178 rfl ?_
                            refine cl_L_14 (As := [.int (nI 10)]) hc (qc_10 hG (by omega)) hG.sh rfl ⟨by decide, by decide⟩ ⟨rfl, rfl⟩ ⟨by decide, by decide⟩ rfl (Nat.le_of_ble_eq_true rfl) dL_isGone_180 (fun r u hp => ?_)
                            obtain ⟨rfl, hG⟩ := hp
                            refine r_iload_n hc dL_isGone_183 rfl ?_
                            refine r_iconst (v := nI 1) hc dL_isGone_184 rfl ?_
                            refine r_iadd (v := nI (v 10 + 1)) hc dL_isGone_185 (ad_NN _ _) ?_
                            refine r_icmp_ne (tgt := 212) hc dL_isGone_186 (by decide) (iff_of_true (by rw [w10]) (rfl : (0 : Nat) = 0)) (fun c_186 => ?_) (fun c_186 => ?_)
                            ·
                              exfalso; omega
                            ·
                              refine r_goto (tgt := 208) hc dL_isGone_189 (by decide) ?_
                              refine r_iconst (v := nI 1) hc dL_isGone_208 rfl ?_
                              refine r_goto (tgt := 213) hc dL_isGone_209 (by decide) ?_
                              exact hR _ _ ⟨rfl, w, hG, hL2, by omega⟩ rfl _ _ dL_isGone_213
  ·
    refine r_aload_n hc dL_isGone_9 rfl ?_
    refine r_iload_n hc dL_isGone_10 rfl ?_
    refine cl_L_67 (As := [.int (nI d)]) hc (m_go hG (by omega) (by omega)) hG.sh rfl ⟨by decide, by decide⟩ ⟨rfl, rfl⟩ ⟨by decide, by decide⟩ rfl (Nat.le_of_ble_eq_true rfl) dL_isGone_11 (fun r u hp => ?_)
    obtain ⟨⟨y, w⟩, rfl, hG0, hX⟩ := hp
    have hT := t_go hG.ok hL (d := d) hX
    dsimp only at hT
    have hG2 : GS z sh P w u := hG0
    obtain ⟨hL2, e6, hT⟩ := hT
    rcases hT with ⟨hd, hy, hw⟩ | ⟨hd, hno, hy, hw⟩ | ⟨hd, hor, hks, hy, w3, w10⟩
    ·
      have hL21 := hL2.1
      subst hy
      rw [hw] at hG2 hL2 e6 hL21
      have hG := hG2
      refine r_iconst (v := zI (-1)) hc dL_isGone_14 rfl ?_
      refine r_icmp_ne (tgt := 22) hc dL_isGone_15 (by decide) (eq_ZZ (by omega) (by omega)) (fun c_15 => ?_) (fun c_15 => ?_)
      ·
        exfalso; omega
      ·
        refine r_iconst (v := nI 1) hc dL_isGone_18 rfl ?_
        refine r_goto (tgt := 23) hc dL_isGone_19 (by decide) ?_
        exact hR _ _ ⟨rfl, v, hG, hL2, by omega⟩ rfl _ _ dL_isGone_23
    ·
      exfalso; omega
    ·
      exfalso; omega
set_option maxRecDepth 100000 in
set_option maxHeartbeats 4000000 in
theorem c_L_isPlanned {Ω : OmT} {z : Nat} {sh : Nat → Option Kd} {P : Nat} {v : Nat → Nat} {S : StT} (hG : GS z sh P v S) (hL : Led v) (hB : v 6 ≤ 800000000) {d f s : Nat} (hd0 : d ≤ v 4) (hf : f < 10000) (hs : s < 10000) : CtI Ω yL_isPlanned cL_isPlanned 8 .boolean rm_L_isPlanned [.ref P, .int (nI d), .int (nI f), .int (nI s)] S (fun r u => r = nI 1 ∧ ∃ w, GS z sh P w u ∧ Led w ∧ w 6 ≤ v 6 + 100) := by
  have hn := hG.nums
  have hL1 := hL.1
  have hpr := plcF_rng v d (v 9)
  have hpe : plcO v d = plcF v d (v 9) := rfl
  refine CtI.enter (by decide) (Nat.le_of_ble_eq_true rfl) (fun Φ hc hR => ?_)
  show Vw Ω Φ S (0, 0) 0 [(0, .ref P), (1, .int (nI d)), (2, .int (nI f)), (3, .int (nI s))] []
  refine r_aload_n hc dL_isPlanned_0 rfl ?_
  refine r_bipush (v := nI 9) hc dL_isPlanned_1 rfl ?_
  refine cl_L_14 (As := [.int (nI 9)]) hc (qc_9 hG (by omega)) hG.sh rfl ⟨by decide, by decide⟩ ⟨rfl, rfl⟩ ⟨by decide, by decide⟩ rfl (Nat.le_of_ble_eq_true rfl) dL_isPlanned_3 (fun r u hp => ?_)
  obtain ⟨rfl, hG⟩ := hp
  refine r_istore (ls' := [(4, .int (nI (v 9))), (0, .ref P), (1, .int (nI d)), (2, .int (nI f)), (3, .int (nI s))]) hc dL_isPlanned_6 (by decide) rfl ?_
  refine r_iload_n hc dL_isPlanned_8 rfl ?_
  refine r_aload_n hc dL_isPlanned_9 rfl ?_
  refine r_iconst (v := nI 2) hc dL_isPlanned_10 rfl ?_
  refine cl_L_14 (As := [.int (nI 2)]) hc (qc_2 hG (by omega)) hG.sh rfl ⟨by decide, by decide⟩ ⟨rfl, rfl⟩ ⟨by decide, by decide⟩ rfl (Nat.le_of_ble_eq_true rfl) dL_isPlanned_11 (fun r u hp => ?_)
  obtain ⟨rfl, hG⟩ := hp
  refine r_icmp_ge (tgt := 21) hc dL_isPlanned_14 (by decide) (le_NN (by omega) (by omega)) (fun c_14 => ?_) (fun c_14 => ?_)
  ·
    refine r_iconst (v := nI 0) hc dL_isPlanned_21 rfl ?_
    refine r_istore (ls' := [(5, .int (nI 0)), (4, .int (nI (v 9))), (0, .ref P), (1, .int (nI d)), (2, .int (nI f)), (3, .int (nI s))]) hc dL_isPlanned_22 (by decide) rfl ?_
    refine r_iload hc dL_isPlanned_24 rfl ?_
    refine r_if_eq (tgt := 39) hc dL_isPlanned_26 (by decide) (e0_N (by omega)) (fun c_26 => ?_) (fun c_26 => ?_)
    ·
      refine r_bipush (v := zI (-6)) hc dL_isPlanned_39 rfl ?_
      refine r_istore (ls' := [(6, .int (zI (-6))), (5, .int (nI 0)), (4, .int (nI (v 9))), (0, .ref P), (1, .int (nI d)), (2, .int (nI f)), (3, .int (nI s))]) hc dL_isPlanned_41 (by decide) rfl ?_
      refine r_aload_n hc dL_isPlanned_43 rfl ?_
      refine r_iload_n hc dL_isPlanned_44 rfl ?_
      refine r_iload_n hc dL_isPlanned_45 rfl ?_
      refine r_iload_n hc dL_isPlanned_46 rfl ?_
      refine cl_L_77 (As := [.int (nI d), .int (nI f), .int (nI s)]) hc (m_plan hG (by omega) (by omega) (by omega) (by omega)) hG.sh rfl ⟨by decide, by decide⟩ ⟨rfl, rfl⟩ ⟨by decide, by decide⟩ rfl (Nat.le_of_ble_eq_true rfl) dL_isPlanned_47 (fun r u hp => ?_)
      obtain ⟨⟨y, w⟩, rfl, hG0, hX⟩ := hp
      have hT := t_plan hG.ok hL (d := d) hf hs hX
      dsimp only at hT
      have hG2 : GS z sh P w u := hG0
      obtain ⟨hL2, e6, hT⟩ := hT
      rcases hT with ⟨hd, hy, hw⟩ | ⟨hd, h9, hy, hw⟩ | ⟨hd, h9, hpl, hy, hw⟩ | ⟨hd, h9, hpl, hy, w9, wpl, w4⟩
      ·
        have hL21 := hL2.1
        subst hy
        rw [hw] at hG2 hL2 e6 hL21
        have hG := hG2
        refine r_istore (ls' := [(7, .int (zI (-1))), (6, .int (zI (-6))), (5, .int (nI 0)), (4, .int (nI (v 9))), (0, .ref P), (1, .int (nI d)), (2, .int (nI f)), (3, .int (nI s))]) hc dL_isPlanned_50 (by decide) rfl ?_
        refine r_iload hc dL_isPlanned_52 rfl ?_
        refine r_if_eq (tgt := 69) hc dL_isPlanned_54 (by decide) (e0_N (by omega)) (fun c_54 => ?_) (fun c_54 => ?_)
        ·
          refine r_iload hc dL_isPlanned_69 rfl ?_
          refine r_iload hc dL_isPlanned_71 rfl ?_
          refine r_if_ne (tgt := 80) hc dL_isPlanned_73 (by decide) (e0_N (by omega)) (fun c_73 => ?_) (fun c_73 => ?_)
          ·
            exfalso; omega
          ·
            refine r_iconst (v := zI (-1)) hc dL_isPlanned_76 rfl ?_
            refine r_goto (tgt := 94) hc dL_isPlanned_77 (by decide) ?_
            refine r_icmp_ne (tgt := 112) hc dL_isPlanned_94 (by decide) (eq_ZZ (by omega) (by omega)) (fun c_94 => ?_) (fun c_94 => ?_)
            ·
              exfalso; omega
            ·
              refine r_aload_n hc dL_isPlanned_97 rfl ?_
              refine r_bipush (v := nI 9) hc dL_isPlanned_98 rfl ?_
              refine cl_L_14 (As := [.int (nI 9)]) hc (qc_9 hG (by omega)) hG.sh rfl ⟨by decide, by decide⟩ ⟨rfl, rfl⟩ ⟨by decide, by decide⟩ rfl (Nat.le_of_ble_eq_true rfl) dL_isPlanned_100 (fun r u hp => ?_)
              obtain ⟨rfl, hG⟩ := hp
              refine r_iload hc dL_isPlanned_103 rfl ?_
              refine r_icmp_ne (tgt := 112) hc dL_isPlanned_105 (by decide) (eq_NN (by omega) (by omega)) (fun c_105 => ?_) (fun c_105 => ?_)
              ·
                exfalso; omega
              ·
                refine r_iconst (v := nI 1) hc dL_isPlanned_108 rfl ?_
                refine r_goto (tgt := 113) hc dL_isPlanned_109 (by decide) ?_
                exact hR _ _ ⟨rfl, v, hG, hL2, by omega⟩ rfl _ _ dL_isPlanned_113
        ·
          exfalso; omega
      ·
        exfalso; omega
      ·
        exfalso; omega
      ·
        exfalso; omega
    ·
      exfalso; omega
  ·
    refine r_iconst (v := nI 1) hc dL_isPlanned_17 rfl ?_
    refine r_goto (tgt := 22) hc dL_isPlanned_18 (by decide) ?_
    refine r_istore (ls' := [(5, .int (nI 1)), (4, .int (nI (v 9))), (0, .ref P), (1, .int (nI d)), (2, .int (nI f)), (3, .int (nI s))]) hc dL_isPlanned_22 (by decide) rfl ?_
    refine r_iload hc dL_isPlanned_24 rfl ?_
    refine r_if_eq (tgt := 39) hc dL_isPlanned_26 (by decide) (e0_N (by omega)) (fun c_26 => ?_) (fun c_26 => ?_)
    ·
      exfalso; omega
    ·
      refine r_aload_n hc dL_isPlanned_29 rfl ?_
      refine r_iload_n hc dL_isPlanned_30 rfl ?_
      refine r_bipush (v := nI 7) hc dL_isPlanned_31 rfl ?_
      refine cl_L_20 (As := [.int (nI d), .int (nI 7)]) hc (qd_7 hG (by omega) (d := d) (by omega)) hG.sh rfl ⟨by decide, by decide⟩ ⟨rfl, rfl⟩ ⟨by decide, by decide⟩ rfl (Nat.le_of_ble_eq_true rfl) dL_isPlanned_33 (fun r u hp => ?_)
      obtain ⟨rfl, hG⟩ := hp
      refine r_goto (tgt := 41) hc dL_isPlanned_36 (by decide) ?_
      refine r_istore (ls' := [(6, .int (zI (plcO v d))), (5, .int (nI 1)), (4, .int (nI (v 9))), (0, .ref P), (1, .int (nI d)), (2, .int (nI f)), (3, .int (nI s))]) hc dL_isPlanned_41 (by decide) rfl ?_
      refine r_aload_n hc dL_isPlanned_43 rfl ?_
      refine r_iload_n hc dL_isPlanned_44 rfl ?_
      refine r_iload_n hc dL_isPlanned_45 rfl ?_
      refine r_iload_n hc dL_isPlanned_46 rfl ?_
      refine cl_L_77 (As := [.int (nI d), .int (nI f), .int (nI s)]) hc (m_plan hG (by omega) (by omega) (by omega) (by omega)) hG.sh rfl ⟨by decide, by decide⟩ ⟨rfl, rfl⟩ ⟨by decide, by decide⟩ rfl (Nat.le_of_ble_eq_true rfl) dL_isPlanned_47 (fun r u hp => ?_)
      obtain ⟨⟨y, w⟩, rfl, hG0, hX⟩ := hp
      have hT := t_plan hG.ok hL (d := d) hf hs hX
      dsimp only at hT
      have hG2 : GS z sh P w u := hG0
      obtain ⟨hL2, e6, hT⟩ := hT
      rcases hT with ⟨hd, hy, hw⟩ | ⟨hd, h9, hy, hw⟩ | ⟨hd, h9, hpl, hy, hw⟩ | ⟨hd, h9, hpl, hy, w9, wpl, w4⟩
      ·
        exfalso; omega
      ·
        have hL21 := hL2.1
        subst hy
        rw [hw] at hG2 hL2 e6 hL21
        have hG := hG2
        refine r_istore (ls' := [(7, .int (zI (-4))), (6, .int (zI (plcO v d))), (5, .int (nI 1)), (4, .int (nI (v 9))), (0, .ref P), (1, .int (nI d)), (2, .int (nI f)), (3, .int (nI s))]) hc dL_isPlanned_50 (by decide) rfl ?_
        refine r_iload hc dL_isPlanned_52 rfl ?_
        refine r_if_eq (tgt := 69) hc dL_isPlanned_54 (by decide) (e0_N (by omega)) (fun c_54 => ?_) (fun c_54 => ?_)
        ·
          exfalso; omega
        ·
          refine r_iload hc dL_isPlanned_57 rfl ?_
          refine r_bipush (v := nI 6) hc dL_isPlanned_59 rfl ?_
          refine r_icmp_eq (tgt := 69) hc dL_isPlanned_61 (by decide) (eq_NN (by omega) (by omega)) (fun c_61 => ?_) (fun c_61 => ?_)
          ·
            refine r_iload hc dL_isPlanned_69 rfl ?_
            refine r_iload hc dL_isPlanned_71 rfl ?_
            refine r_if_ne (tgt := 80) hc dL_isPlanned_73 (by decide) (e0_N (by omega)) (fun c_73 => ?_) (fun c_73 => ?_)
            ·
              refine r_iload hc dL_isPlanned_80 rfl ?_
              refine r_bipush (v := nI 6) hc dL_isPlanned_82 rfl ?_
              refine r_icmp_ne (tgt := 92) hc dL_isPlanned_84 (by decide) (eq_NN (by omega) (by omega)) (fun c_84 => ?_) (fun c_84 => ?_)
              ·
                exfalso; omega
              ·
                refine r_bipush (v := zI (-4)) hc dL_isPlanned_87 rfl ?_
                refine r_goto (tgt := 94) hc dL_isPlanned_89 (by decide) ?_
                refine r_icmp_ne (tgt := 112) hc dL_isPlanned_94 (by decide) (eq_ZZ (by omega) (by omega)) (fun c_94 => ?_) (fun c_94 => ?_)
                ·
                  exfalso; omega
                ·
                  refine r_aload_n hc dL_isPlanned_97 rfl ?_
                  refine r_bipush (v := nI 9) hc dL_isPlanned_98 rfl ?_
                  refine cl_L_14 (As := [.int (nI 9)]) hc (qc_9 hG (by omega)) hG.sh rfl ⟨by decide, by decide⟩ ⟨rfl, rfl⟩ ⟨by decide, by decide⟩ rfl (Nat.le_of_ble_eq_true rfl) dL_isPlanned_100 (fun r u hp => ?_)
                  obtain ⟨rfl, hG⟩ := hp
                  refine r_iload hc dL_isPlanned_103 rfl ?_
                  refine r_icmp_ne (tgt := 112) hc dL_isPlanned_105 (by decide) (eq_NN (by omega) (by omega)) (fun c_105 => ?_) (fun c_105 => ?_)
                  ·
                    exfalso; omega
                  ·
                    refine r_iconst (v := nI 1) hc dL_isPlanned_108 rfl ?_
                    refine r_goto (tgt := 113) hc dL_isPlanned_109 (by decide) ?_
                    exact hR _ _ ⟨rfl, v, hG, hL2, by omega⟩ rfl _ _ dL_isPlanned_113
            ·
              exfalso; omega
          ·
            exfalso; omega
      ·
        have hL21 := hL2.1
        subst hy
        rw [hw] at hG2 hL2 e6 hL21
        have hG := hG2
        refine r_istore (ls' := [(7, .int (zI (-5))), (6, .int (zI (plcO v d))), (5, .int (nI 1)), (4, .int (nI (v 9))), (0, .ref P), (1, .int (nI d)), (2, .int (nI f)), (3, .int (nI s))]) hc dL_isPlanned_50 (by decide) rfl ?_
        refine r_iload hc dL_isPlanned_52 rfl ?_
        refine r_if_eq (tgt := 69) hc dL_isPlanned_54 (by decide) (e0_N (by omega)) (fun c_54 => ?_) (fun c_54 => ?_)
        ·
          exfalso; omega
        ·
          refine r_iload hc dL_isPlanned_57 rfl ?_
          refine r_bipush (v := nI 6) hc dL_isPlanned_59 rfl ?_
          refine r_icmp_eq (tgt := 69) hc dL_isPlanned_61 (by decide) (eq_NN (by omega) (by omega)) (fun c_61 => ?_) (fun c_61 => ?_)
          ·
            exfalso; omega
          ·
            refine r_iload hc dL_isPlanned_64 rfl ?_
            refine r_if_lt (tgt := 114) hc dL_isPlanned_66 (by decide) (l0_Z (by omega)) (fun c_66 => ?_) (fun c_66 => ?_)
            ·
              exfalso; omega
            ·
              refine r_iload hc dL_isPlanned_69 rfl ?_
              refine r_iload hc dL_isPlanned_71 rfl ?_
              refine r_if_ne (tgt := 80) hc dL_isPlanned_73 (by decide) (e0_N (by omega)) (fun c_73 => ?_) (fun c_73 => ?_)
              ·
                refine r_iload hc dL_isPlanned_80 rfl ?_
                refine r_bipush (v := nI 6) hc dL_isPlanned_82 rfl ?_
                refine r_icmp_ne (tgt := 92) hc dL_isPlanned_84 (by decide) (eq_NN (by omega) (by omega)) (fun c_84 => ?_) (fun c_84 => ?_)
                ·
                  refine r_bipush (v := zI (-5)) hc dL_isPlanned_92 rfl ?_
                  refine r_icmp_ne (tgt := 112) hc dL_isPlanned_94 (by decide) (eq_ZZ (by omega) (by omega)) (fun c_94 => ?_) (fun c_94 => ?_)
                  ·
                    exfalso; omega
                  ·
                    refine r_aload_n hc dL_isPlanned_97 rfl ?_
                    refine r_bipush (v := nI 9) hc dL_isPlanned_98 rfl ?_
                    refine cl_L_14 (As := [.int (nI 9)]) hc (qc_9 hG (by omega)) hG.sh rfl ⟨by decide, by decide⟩ ⟨rfl, rfl⟩ ⟨by decide, by decide⟩ rfl (Nat.le_of_ble_eq_true rfl) dL_isPlanned_100 (fun r u hp => ?_)
                    obtain ⟨rfl, hG⟩ := hp
                    refine r_iload hc dL_isPlanned_103 rfl ?_
                    refine r_icmp_ne (tgt := 112) hc dL_isPlanned_105 (by decide) (eq_NN (by omega) (by omega)) (fun c_105 => ?_) (fun c_105 => ?_)
                    ·
                      exfalso; omega
                    ·
                      refine r_iconst (v := nI 1) hc dL_isPlanned_108 rfl ?_
                      refine r_goto (tgt := 113) hc dL_isPlanned_109 (by decide) ?_
                      exact hR _ _ ⟨rfl, v, hG, hL2, by omega⟩ rfl _ _ dL_isPlanned_113
                ·
                  exfalso; omega
              ·
                exfalso; omega
      ·
        have hL21 := hL2.1
        subst hy
        have hn2 := hG2.nums
        have hG := hG2
        refine r_istore (ls' := [(7, .int (zI (((v 9 + 1 : Nat) : Int)))), (6, .int (zI (plcO v d))), (5, .int (nI 1)), (4, .int (nI (v 9))), (0, .ref P), (1, .int (nI d)), (2, .int (nI f)), (3, .int (nI s))]) hc dL_isPlanned_50 (by decide) rfl ?_
        refine r_iload hc dL_isPlanned_52 rfl ?_
        refine r_if_eq (tgt := 69) hc dL_isPlanned_54 (by decide) (e0_N (by omega)) (fun c_54 => ?_) (fun c_54 => ?_)
        ·
          exfalso; omega
        ·
          refine r_iload hc dL_isPlanned_57 rfl ?_
          refine r_bipush (v := nI 6) hc dL_isPlanned_59 rfl ?_
          refine r_icmp_eq (tgt := 69) hc dL_isPlanned_61 (by decide) (eq_NN (by omega) (by omega)) (fun c_61 => ?_) (fun c_61 => ?_)
          ·
            exfalso; omega
          ·
            refine r_iload hc dL_isPlanned_64 rfl ?_
            refine r_if_lt (tgt := 114) hc dL_isPlanned_66 (by decide) (l0_Z (by omega)) (fun c_66 => ?_) (fun c_66 => ?_)
            ·
              refine r_iload hc dL_isPlanned_114 rfl ?_
              refine r_iload hc dL_isPlanned_116 rfl ?_
              refine r_iconst (v := nI 1) hc dL_isPlanned_118 rfl ?_
              refine r_iadd (v := nI (v 9 + 1)) hc dL_isPlanned_119 (ad_NN _ _) ?_
              refine r_icmp_ne (tgt := 152) hc dL_isPlanned_120 (by decide) (eq_ZN (by omega) (by omega)) (fun c_120 => ?_) (fun c_120 => ?_)
              ·
                exfalso; omega
              ·
                refine r_aload_n hc dL_isPlanned_123 rfl ?_
                refine r_iload_n hc dL_isPlanned_124 rfl ?_
                refine r_bipush (v := nI 7) hc dL_isPlanned_125 rfl ?_
                refine cl_L_20 (As := [.int (nI d), .int (nI 7)]) hc (qd_7 hG (by omega) (d := d) (by omega)) hG.sh rfl ⟨by decide, by decide⟩ ⟨rfl, rfl⟩ ⟨by decide, by decide⟩ rfl (Nat.le_of_ble_eq_true rfl) dL_isPlanned_127 (fun r u hp => ?_)
                obtain ⟨rfl, hG⟩ := hp
                refine r_iload hc dL_isPlanned_130 rfl ?_
                refine r_icmp_ne (tgt := 152) hc dL_isPlanned_132 (by decide) (eq_ZN (by omega) (by omega)) (fun c_132 => ?_) (fun c_132 => ?_)
                ·
                  exfalso; omega
                ·
                  refine r_aload_n hc dL_isPlanned_135 rfl ?_
                  refine r_bipush (v := nI 9) hc dL_isPlanned_136 rfl ?_
                  refine cl_L_14 (As := [.int (nI 9)]) hc (qc_9 hG (by omega)) hG.sh rfl ⟨by decide, by decide⟩ ⟨rfl, rfl⟩ ⟨by decide, by decide⟩ rfl (Nat.le_of_ble_eq_true rfl) dL_isPlanned_138 (fun r u hp => ?_)
                  obtain ⟨rfl, hG⟩ := hp
                  refine r_iload hc dL_isPlanned_141 rfl ?_
                  refine r_iconst (v := nI 1) hc dL_isPlanned_143 rfl ?_
                  refine r_iadd (v := nI (v 9 + 1)) hc dL_isPlanned_144 (ad_NN _ _) ?_
                  refine r_icmp_ne (tgt := 152) hc dL_isPlanned_145 (by decide) (eq_NN (by omega) (by omega)) (fun c_145 => ?_) (fun c_145 => ?_)
                  ·
                    exfalso; omega
                  ·
                    refine r_iconst (v := nI 1) hc dL_isPlanned_148 rfl ?_
                    refine r_goto (tgt := 153) hc dL_isPlanned_149 (by decide) ?_
                    exact hR _ _ ⟨rfl, w, hG, hL2, by omega⟩ rfl _ _ dL_isPlanned_153
            ·
              exfalso; omega
theorem sPO_rng {v : Nat → Nat} (h9 : v 9 ≤ 6) (t : Int) : -6 ≤ sPlanOrder v t ∧ sPlanOrder v t < 7 := by
  unfold sPlanOrder
  split
  · split
    · unfold lnF
      rcases ffF_val (lnP v (dnF v t.toNat)) (v 9) with e | ⟨e1, e2, _⟩ <;> omega
    · omega
  · omega
set_option maxRecDepth 100000 in
set_option maxHeartbeats 4000000 in
theorem c_L_isCarried {Ω : OmT} {z : Nat} {sh : Nat → Option Kd} {P : Nat} {v : Nat → Nat} {S : StT} (hG : GS z sh P v S) (hL : Led v) (hB : v 6 ≤ 800000000)  : CtI Ω yL_isCarried cL_isCarried 10 .boolean rm_L_isCarried [.ref P] S (fun r u => r = nI 1 ∧ ∃ w, GS z sh P w u ∧ Led w ∧ w 6 ≤ v 6 + 100) := by
  have hn := hG.nums
  have hL1 := hL.1
  have h9 : v 9 ≤ 6 := by omega
  have hoc : oC v (v 9) 0 < 100000 := Nat.lt_of_le_of_lt (Nat.le_trans (oC_le v h9 (v 9) 0) (Nat.pow_le_pow_right (by decide) h9)) (by decide)
  have hmc := mC_le v (v 9) 0
  have hT1 := t_lacks hG.ok
  have hTl := t_last hG.ok
  have hr0 := sPO_rng h9 ((0 : Nat) : Int)
  have hr1 := sPO_rng h9 ((v 9 - 1 : Nat) : Int)
  have hT0 : v 9 = 0 → oC v (v 9) 0 = 1 ∧ sLast v = -6 := hTl.2.2.1
  have hT2 : 0 < v 9 → (oC v (v 9) 0 = 0 ↔ sPlanOrder v ((0 : Nat) : Int) < 0) := t_first
  have hT3 : ¬ v 9 = 0 → (0 ≤ sLast v → sLast v = sPlanOrder v ((v 9 - 1 : Nat) : Int)) ∧ (oC v (v 9) 0 = 1 → sLast v = sPlanOrder v ((v 9 - 1 : Nat) : Int)) := fun h => by
    have a1 := hTl.1
    have a2 := hTl.2.1
    rw [if_neg h] at a1 a2
    exact ⟨a1, a2 (by omega)⟩
  have hT5 := hTl.2.2.2
  refine CtI.enter (by decide) (Nat.le_of_ble_eq_true rfl) (fun Φ hc hR => ?_)
  show Vw Ω Φ S (0, 0) 0 [(0, .ref P)] []
  refine r_aload_n hc dL_isCarried_0 rfl ?_
  refine r_bipush (v := nI 9) hc dL_isCarried_1 rfl ?_
  refine cl_L_14 (As := [.int (nI 9)]) hc (qc_9 hG (by omega)) hG.sh rfl ⟨by decide, by decide⟩ ⟨rfl, rfl⟩ ⟨by decide, by decide⟩ rfl (Nat.le_of_ble_eq_true rfl) dL_isCarried_3 (fun r u hp => ?_)
  obtain ⟨rfl, hG⟩ := hp
  refine r_istore_n (ls' := [(1, .int (nI (v 9))), (0, .ref P)]) hc dL_isCarried_6 (by decide) rfl ?_
  refine r_aload_n hc dL_isCarried_7 rfl ?_
  refine r_iconst (v := nI 0) hc dL_isCarried_8 rfl ?_
  refine cl_L_80 (As := [.int (nI 0)]) hc (qp hG (by omega) (t := 0) (by omega)) hG.sh rfl ⟨by decide, by decide⟩ ⟨rfl, rfl⟩ ⟨by decide, by decide⟩ rfl (Nat.le_of_ble_eq_true rfl) dL_isCarried_9 (fun r u hp => ?_)
  obtain ⟨rfl, hG⟩ := hp
  refine r_istore_n (ls' := [(2, .int (zI (sPlanOrder v ((0 : Nat) : Int)))), (1, .int (nI (v 9))), (0, .ref P)]) hc dL_isCarried_12 (by decide) rfl ?_
  refine r_aload_n hc dL_isCarried_13 rfl ?_
  refine cl_L_83 (As := []) hc (qpo hG (by omega)) hG.sh rfl ⟨by decide, by decide⟩ ⟨rfl, rfl⟩ ⟨by decide, by decide⟩ rfl (Nat.le_of_ble_eq_true rfl) dL_isCarried_14 (fun r u hp => ?_)
  obtain ⟨rfl, hG⟩ := hp
  refine r_istore_n (ls' := [(3, .int (nI (oC v (v 9) 0))), (2, .int (zI (sPlanOrder v ((0 : Nat) : Int)))), (1, .int (nI (v 9))), (0, .ref P)]) hc dL_isCarried_17 (by decide) rfl ?_
  refine r_aload_n hc dL_isCarried_18 rfl ?_
  refine cl_L_86 (As := []) hc (qbp hG (by omega)) hG.sh rfl ⟨by decide, by decide⟩ ⟨rfl, rfl⟩ ⟨by decide, by decide⟩ rfl (Nat.le_of_ble_eq_true rfl) dL_isCarried_19 (fun r u hp => ?_)
  obtain ⟨rfl, hG⟩ := hp
  refine r_istore (ls' := [(4, .int (nI (mC v (v 9) 0))), (3, .int (nI (oC v (v 9) 0))), (2, .int (zI (sPlanOrder v ((0 : Nat) : Int)))), (1, .int (nI (v 9))), (0, .ref P)]) hc dL_isCarried_22 (by decide) rfl ?_
  refine r_aload_n hc dL_isCarried_24 rfl ?_
  refine r_iload_n hc dL_isCarried_25 rfl ?_
  refine r_if_ne (tgt := 33) hc dL_isCarried_26 (by decide) (e0_N (by omega)) (fun c_26 => ?_) (fun c_26 => ?_)
  ·
    have hT6 := hT2 (by omega)
    have hT7 := hT3 c_26
    refine r_iload_n hc dL_isCarried_33 rfl ?_
    refine r_iconst (v := nI 1) hc dL_isCarried_34 rfl ?_
    refine r_isub (v := nI (v 9 - 1)) hc dL_isCarried_35 (sb_N _ _ (by omega)) ?_
    refine cl_L_80 (As := [.int (nI (v 9 - 1))]) hc (qp hG (by omega) (t := v 9 - 1) (by omega)) hG.sh rfl ⟨by decide, by decide⟩ ⟨rfl, rfl⟩ ⟨by decide, by decide⟩ rfl (Nat.le_of_ble_eq_true rfl) dL_isCarried_36 (fun r u hp => ?_)
    obtain ⟨rfl, hG⟩ := hp
    refine r_istore (ls' := [(5, .int (zI (sPlanOrder v ((v 9 - 1 : Nat) : Int)))), (4, .int (nI (mC v (v 9) 0))), (3, .int (nI (oC v (v 9) 0))), (2, .int (zI (sPlanOrder v ((0 : Nat) : Int)))), (1, .int (nI (v 9))), (0, .ref P)]) hc dL_isCarried_39 (by decide) rfl ?_
    refine r_aload_n hc dL_isCarried_41 rfl ?_
    refine cl_L_89 (As := []) hc (q_mustBeLast hG (by omega)) hG.sh rfl ⟨by decide, by decide⟩ ⟨rfl, rfl⟩ ⟨by decide, by decide⟩ rfl (Nat.le_of_ble_eq_true rfl) dL_isCarried_42 (fun r u hp => ?_)
    obtain ⟨rfl, hG⟩ := hp
    refine r_istore (ls' := [(6, .int (zI (sLast v))), (5, .int (zI (sPlanOrder v ((v 9 - 1 : Nat) : Int)))), (4, .int (nI (mC v (v 9) 0))), (3, .int (nI (oC v (v 9) 0))), (2, .int (zI (sPlanOrder v ((0 : Nat) : Int)))), (1, .int (nI (v 9))), (0, .ref P)]) hc dL_isCarried_45 (by decide) rfl ?_
    refine r_aload_n hc dL_isCarried_47 rfl ?_
    refine r_iconst (v := nI 5) hc dL_isCarried_48 rfl ?_
    refine cl_L_14 (As := [.int (nI 5)]) hc (qc_5 hG (by omega)) hG.sh rfl ⟨by decide, by decide⟩ ⟨rfl, rfl⟩ ⟨by decide, by decide⟩ rfl (Nat.le_of_ble_eq_true rfl) dL_isCarried_49 (fun r u hp => ?_)
    obtain ⟨rfl, hG⟩ := hp
    refine r_istore (ls' := [(7, .int (nI (inLk v))), (6, .int (zI (sLast v))), (5, .int (zI (sPlanOrder v ((v 9 - 1 : Nat) : Int)))), (4, .int (nI (mC v (v 9) 0))), (3, .int (nI (oC v (v 9) 0))), (2, .int (zI (sPlanOrder v ((0 : Nat) : Int)))), (1, .int (nI (v 9))), (0, .ref P)]) hc dL_isCarried_52 (by decide) rfl ?_
    refine r_aload_n hc dL_isCarried_54 rfl ?_
    refine r_bipush (v := nI 7) hc dL_isCarried_55 rfl ?_
    refine cl_L_14 (As := [.int (nI 7)]) hc (qc_7 hG (by omega)) hG.sh rfl ⟨by decide, by decide⟩ ⟨rfl, rfl⟩ ⟨by decide, by decide⟩ rfl (Nat.le_of_ble_eq_true rfl) dL_isCarried_57 (fun r u hp => ?_)
    obtain ⟨rfl, hG⟩ := hp
    refine r_istore (ls' := [(8, .int (nI (v 7))), (7, .int (nI (inLk v))), (6, .int (zI (sLast v))), (5, .int (zI (sPlanOrder v ((v 9 - 1 : Nat) : Int)))), (4, .int (nI (mC v (v 9) 0))), (3, .int (nI (oC v (v 9) 0))), (2, .int (zI (sPlanOrder v ((0 : Nat) : Int)))), (1, .int (nI (v 9))), (0, .ref P)]) hc dL_isCarried_60 (by decide) rfl ?_
    refine r_iload_n hc dL_isCarried_62 rfl ?_
    refine r_if_ne (tgt := 70) hc dL_isCarried_63 (by decide) (e0_N (by omega)) (fun c_63 => ?_) (fun c_63 => ?_)
    ·
      refine r_iconst (v := nI 0) hc dL_isCarried_70 rfl ?_
      refine r_iload hc dL_isCarried_71 rfl ?_
      refine r_if_le (tgt := 80) hc dL_isCarried_73 (by decide) (le0_N (by omega)) (fun c_73 => ?_) (fun c_73 => ?_)
      ·
        refine r_iconst (v := nI 0) hc dL_isCarried_80 rfl ?_
        refine r_icmp_ne (tgt := 153) hc dL_isCarried_81 (by decide) (eq_NN (by omega) (by omega)) (fun c_81 => ?_) (fun c_81 => ?_)
        ·
          exfalso; omega
        ·
          refine r_iload_n hc dL_isCarried_84 rfl ?_
          refine r_if_le (tgt := 109) hc dL_isCarried_85 (by decide) (le0_N (by omega)) (fun c_85 => ?_) (fun c_85 => ?_)
          ·
            refine r_iload hc dL_isCarried_109 rfl ?_
            refine r_if_lt (tgt := 121) hc dL_isCarried_111 (by decide) (l0_Z (by omega)) (fun c_111 => ?_) (fun c_111 => ?_)
            ·
              refine r_iload_n hc dL_isCarried_121 rfl ?_
              refine r_iconst (v := nI 1) hc dL_isCarried_122 rfl ?_
              refine r_icmp_ne (tgt := 137) hc dL_isCarried_123 (by decide) (eq_NN (by omega) (by omega)) (fun c_123 => ?_) (fun c_123 => ?_)
              ·
                refine r_iload_n hc dL_isCarried_137 rfl ?_
                refine r_if_ne (tgt := 155) hc dL_isCarried_138 (by decide) (e0_N (by omega)) (fun c_138 => ?_) (fun c_138 => ?_)
                ·
                  refine r_aload_n hc dL_isCarried_155 rfl ?_
                  refine cl_L_92 (As := []) hc (m_carryPlan hG (by omega)) hG.sh rfl ⟨by decide, by decide⟩ ⟨rfl, rfl⟩ ⟨by decide, by decide⟩ rfl (Nat.le_of_ble_eq_true rfl) dL_isCarried_156 (fun r u hp => ?_)
                  obtain ⟨⟨y, w⟩, rfl, hG0, hX⟩ := hp
                  have hT := t_carry hG.ok hL hX
                  dsimp only at hT
                  have hG2 : GS z sh P w u := hG0
                  obtain ⟨hL2, e6, hT⟩ := hT
                  rcases hT with ⟨hno, hy, hw⟩ | ⟨h9, ho, hy, w9⟩
                  ·
                    have hL21 := hL2.1
                    subst hy
                    rw [hw] at hG2 hL2 e6 hL21
                    have hG := hG2
                    refine r_istore (ls' := [(9, .int (zI (-5))), (8, .int (nI (v 7))), (7, .int (nI (inLk v))), (6, .int (zI (sLast v))), (5, .int (zI (sPlanOrder v ((v 9 - 1 : Nat) : Int)))), (4, .int (nI (mC v (v 9) 0))), (3, .int (nI (oC v (v 9) 0))), (2, .int (zI (sPlanOrder v ((0 : Nat) : Int)))), (1, .int (nI (v 9))), (0, .ref P)]) hc dL_isCarried_159 (by decide) rfl ?_
                    refine r_iload_n hc dL_isCarried_161 rfl ?_
                    refine r_if_eq (tgt := 169) hc dL_isCarried_162 (by decide) (e0_N (by omega)) (fun c_162 => ?_) (fun c_162 => ?_)
                    ·
                      exfalso; omega
                    ·
                      refine r_iload_n hc dL_isCarried_165 rfl ?_
                      refine r_if_ne (tgt := 213) hc dL_isCarried_166 (by decide) (e0_N (by omega)) (fun c_166 => ?_) (fun c_166 => ?_)
                      ·
                        exfalso; omega
                      ·
                        exfalso; omega
                  ·
                    have hL21 := hL2.1
                    subst hy
                    have hn2 := hG2.nums
                    have hG := hG2
                    refine r_istore (ls' := [(9, .int (zI (((w 7 : Nat) : Int)))), (8, .int (nI (v 7))), (7, .int (nI (inLk v))), (6, .int (zI (sLast v))), (5, .int (zI (sPlanOrder v ((v 9 - 1 : Nat) : Int)))), (4, .int (nI (mC v (v 9) 0))), (3, .int (nI (oC v (v 9) 0))), (2, .int (zI (sPlanOrder v ((0 : Nat) : Int)))), (1, .int (nI (v 9))), (0, .ref P)]) hc dL_isCarried_159 (by decide) rfl ?_
                    refine r_iload_n hc dL_isCarried_161 rfl ?_
                    refine r_if_eq (tgt := 169) hc dL_isCarried_162 (by decide) (e0_N (by omega)) (fun c_162 => ?_) (fun c_162 => ?_)
                    ·
                      exfalso; omega
                    ·
                      refine r_iload_n hc dL_isCarried_165 rfl ?_
                      refine r_if_ne (tgt := 213) hc dL_isCarried_166 (by decide) (e0_N (by omega)) (fun c_166 => ?_) (fun c_166 => ?_)
                      ·
                        refine r_iload hc dL_isCarried_213 rfl ?_
                        refine r_aload_n hc dL_isCarried_215 rfl ?_
                        refine r_bipush (v := nI 7) hc dL_isCarried_216 rfl ?_
                        refine cl_L_14 (As := [.int (nI 7)]) hc (qc_7 hG (by omega)) hG.sh rfl ⟨by decide, by decide⟩ ⟨rfl, rfl⟩ ⟨by decide, by decide⟩ rfl (Nat.le_of_ble_eq_true rfl) dL_isCarried_218 (fun r u hp => ?_)
                        obtain ⟨rfl, hG⟩ := hp
                        refine r_icmp_ne (tgt := 237) hc dL_isCarried_221 (by decide) (eq_ZN (by omega) (by omega)) (fun c_221 => ?_) (fun c_221 => ?_)
                        ·
                          exfalso; omega
                        ·
                          refine r_aload_n hc dL_isCarried_224 rfl ?_
                          refine r_bipush (v := nI 9) hc dL_isCarried_225 rfl ?_
                          refine cl_L_14 (As := [.int (nI 9)]) hc (qc_9 hG (by omega)) hG.sh rfl ⟨by decide, by decide⟩ ⟨rfl, rfl⟩ ⟨by decide, by decide⟩ rfl (Nat.le_of_ble_eq_true rfl) dL_isCarried_227 (fun r u hp => ?_)
                          obtain ⟨rfl, hG⟩ := hp
                          refine r_if_ne (tgt := 237) hc dL_isCarried_230 (by decide) (e0_N (by omega)) (fun c_230 => ?_) (fun c_230 => ?_)
                          ·
                            exfalso; omega
                          ·
                            refine r_iconst (v := nI 1) hc dL_isCarried_233 rfl ?_
                            refine r_goto (tgt := 238) hc dL_isCarried_234 (by decide) ?_
                            exact hR _ _ ⟨rfl, w, hG, hL2, by omega⟩ rfl _ _ dL_isCarried_238
                      ·
                        exfalso; omega
                ·
                  exfalso; omega
              ·
                refine r_iload_n hc dL_isCarried_126 rfl ?_
                refine r_if_le (tgt := 137) hc dL_isCarried_127 (by decide) (le0_N (by omega)) (fun c_127 => ?_) (fun c_127 => ?_)
                ·
                  exfalso; omega
                ·
                  refine r_iload hc dL_isCarried_130 rfl ?_
                  refine r_iload hc dL_isCarried_132 rfl ?_
                  refine r_icmp_ne (tgt := 153) hc dL_isCarried_134 (by decide) (eq_ZZ (by omega) (by omega)) (fun c_134 => ?_) (fun c_134 => ?_)
                  ·
                    exfalso; omega
                  ·
                    refine r_iload_n hc dL_isCarried_137 rfl ?_
                    refine r_if_ne (tgt := 155) hc dL_isCarried_138 (by decide) (e0_N (by omega)) (fun c_138 => ?_) (fun c_138 => ?_)
                    ·
                      refine r_aload_n hc dL_isCarried_155 rfl ?_
                      refine cl_L_92 (As := []) hc (m_carryPlan hG (by omega)) hG.sh rfl ⟨by decide, by decide⟩ ⟨rfl, rfl⟩ ⟨by decide, by decide⟩ rfl (Nat.le_of_ble_eq_true rfl) dL_isCarried_156 (fun r u hp => ?_)
                      obtain ⟨⟨y, w⟩, rfl, hG0, hX⟩ := hp
                      have hT := t_carry hG.ok hL hX
                      dsimp only at hT
                      have hG2 : GS z sh P w u := hG0
                      obtain ⟨hL2, e6, hT⟩ := hT
                      rcases hT with ⟨hno, hy, hw⟩ | ⟨h9, ho, hy, w9⟩
                      ·
                        have hL21 := hL2.1
                        subst hy
                        rw [hw] at hG2 hL2 e6 hL21
                        have hG := hG2
                        refine r_istore (ls' := [(9, .int (zI (-5))), (8, .int (nI (v 7))), (7, .int (nI (inLk v))), (6, .int (zI (sLast v))), (5, .int (zI (sPlanOrder v ((v 9 - 1 : Nat) : Int)))), (4, .int (nI (mC v (v 9) 0))), (3, .int (nI (oC v (v 9) 0))), (2, .int (zI (sPlanOrder v ((0 : Nat) : Int)))), (1, .int (nI (v 9))), (0, .ref P)]) hc dL_isCarried_159 (by decide) rfl ?_
                        refine r_iload_n hc dL_isCarried_161 rfl ?_
                        refine r_if_eq (tgt := 169) hc dL_isCarried_162 (by decide) (e0_N (by omega)) (fun c_162 => ?_) (fun c_162 => ?_)
                        ·
                          exfalso; omega
                        ·
                          refine r_iload_n hc dL_isCarried_165 rfl ?_
                          refine r_if_ne (tgt := 213) hc dL_isCarried_166 (by decide) (e0_N (by omega)) (fun c_166 => ?_) (fun c_166 => ?_)
                          ·
                            exfalso; omega
                          ·
                            exfalso; omega
                      ·
                        have hL21 := hL2.1
                        subst hy
                        have hn2 := hG2.nums
                        have hG := hG2
                        refine r_istore (ls' := [(9, .int (zI (((w 7 : Nat) : Int)))), (8, .int (nI (v 7))), (7, .int (nI (inLk v))), (6, .int (zI (sLast v))), (5, .int (zI (sPlanOrder v ((v 9 - 1 : Nat) : Int)))), (4, .int (nI (mC v (v 9) 0))), (3, .int (nI (oC v (v 9) 0))), (2, .int (zI (sPlanOrder v ((0 : Nat) : Int)))), (1, .int (nI (v 9))), (0, .ref P)]) hc dL_isCarried_159 (by decide) rfl ?_
                        refine r_iload_n hc dL_isCarried_161 rfl ?_
                        refine r_if_eq (tgt := 169) hc dL_isCarried_162 (by decide) (e0_N (by omega)) (fun c_162 => ?_) (fun c_162 => ?_)
                        ·
                          exfalso; omega
                        ·
                          refine r_iload_n hc dL_isCarried_165 rfl ?_
                          refine r_if_ne (tgt := 213) hc dL_isCarried_166 (by decide) (e0_N (by omega)) (fun c_166 => ?_) (fun c_166 => ?_)
                          ·
                            refine r_iload hc dL_isCarried_213 rfl ?_
                            refine r_aload_n hc dL_isCarried_215 rfl ?_
                            refine r_bipush (v := nI 7) hc dL_isCarried_216 rfl ?_
                            refine cl_L_14 (As := [.int (nI 7)]) hc (qc_7 hG (by omega)) hG.sh rfl ⟨by decide, by decide⟩ ⟨rfl, rfl⟩ ⟨by decide, by decide⟩ rfl (Nat.le_of_ble_eq_true rfl) dL_isCarried_218 (fun r u hp => ?_)
                            obtain ⟨rfl, hG⟩ := hp
                            refine r_icmp_ne (tgt := 237) hc dL_isCarried_221 (by decide) (eq_ZN (by omega) (by omega)) (fun c_221 => ?_) (fun c_221 => ?_)
                            ·
                              exfalso; omega
                            ·
                              refine r_aload_n hc dL_isCarried_224 rfl ?_
                              refine r_bipush (v := nI 9) hc dL_isCarried_225 rfl ?_
                              refine cl_L_14 (As := [.int (nI 9)]) hc (qc_9 hG (by omega)) hG.sh rfl ⟨by decide, by decide⟩ ⟨rfl, rfl⟩ ⟨by decide, by decide⟩ rfl (Nat.le_of_ble_eq_true rfl) dL_isCarried_227 (fun r u hp => ?_)
                              obtain ⟨rfl, hG⟩ := hp
                              refine r_if_ne (tgt := 237) hc dL_isCarried_230 (by decide) (e0_N (by omega)) (fun c_230 => ?_) (fun c_230 => ?_)
                              ·
                                exfalso; omega
                              ·
                                refine r_iconst (v := nI 1) hc dL_isCarried_233 rfl ?_
                                refine r_goto (tgt := 238) hc dL_isCarried_234 (by decide) ?_
                                exact hR _ _ ⟨rfl, w, hG, hL2, by omega⟩ rfl _ _ dL_isCarried_238
                          ·
                            exfalso; omega
                    ·
                      exfalso; omega
            ·
              refine r_iload hc dL_isCarried_114 rfl ?_
              refine r_iload hc dL_isCarried_116 rfl ?_
              refine r_icmp_ne (tgt := 153) hc dL_isCarried_118 (by decide) (eq_ZZ (by omega) (by omega)) (fun c_118 => ?_) (fun c_118 => ?_)
              ·
                exfalso; omega
              ·
                refine r_iload_n hc dL_isCarried_121 rfl ?_
                refine r_iconst (v := nI 1) hc dL_isCarried_122 rfl ?_
                refine r_icmp_ne (tgt := 137) hc dL_isCarried_123 (by decide) (eq_NN (by omega) (by omega)) (fun c_123 => ?_) (fun c_123 => ?_)
                ·
                  refine r_iload_n hc dL_isCarried_137 rfl ?_
                  refine r_if_ne (tgt := 155) hc dL_isCarried_138 (by decide) (e0_N (by omega)) (fun c_138 => ?_) (fun c_138 => ?_)
                  ·
                    refine r_aload_n hc dL_isCarried_155 rfl ?_
                    refine cl_L_92 (As := []) hc (m_carryPlan hG (by omega)) hG.sh rfl ⟨by decide, by decide⟩ ⟨rfl, rfl⟩ ⟨by decide, by decide⟩ rfl (Nat.le_of_ble_eq_true rfl) dL_isCarried_156 (fun r u hp => ?_)
                    obtain ⟨⟨y, w⟩, rfl, hG0, hX⟩ := hp
                    have hT := t_carry hG.ok hL hX
                    dsimp only at hT
                    have hG2 : GS z sh P w u := hG0
                    obtain ⟨hL2, e6, hT⟩ := hT
                    rcases hT with ⟨hno, hy, hw⟩ | ⟨h9, ho, hy, w9⟩
                    ·
                      have hL21 := hL2.1
                      subst hy
                      rw [hw] at hG2 hL2 e6 hL21
                      have hG := hG2
                      refine r_istore (ls' := [(9, .int (zI (-5))), (8, .int (nI (v 7))), (7, .int (nI (inLk v))), (6, .int (zI (sLast v))), (5, .int (zI (sPlanOrder v ((v 9 - 1 : Nat) : Int)))), (4, .int (nI (mC v (v 9) 0))), (3, .int (nI (oC v (v 9) 0))), (2, .int (zI (sPlanOrder v ((0 : Nat) : Int)))), (1, .int (nI (v 9))), (0, .ref P)]) hc dL_isCarried_159 (by decide) rfl ?_
                      refine r_iload_n hc dL_isCarried_161 rfl ?_
                      refine r_if_eq (tgt := 169) hc dL_isCarried_162 (by decide) (e0_N (by omega)) (fun c_162 => ?_) (fun c_162 => ?_)
                      ·
                        exfalso; omega
                      ·
                        refine r_iload_n hc dL_isCarried_165 rfl ?_
                        refine r_if_ne (tgt := 213) hc dL_isCarried_166 (by decide) (e0_N (by omega)) (fun c_166 => ?_) (fun c_166 => ?_)
                        ·
                          exfalso; omega
                        ·
                          exfalso; omega
                    ·
                      have hL21 := hL2.1
                      subst hy
                      have hn2 := hG2.nums
                      have hG := hG2
                      refine r_istore (ls' := [(9, .int (zI (((w 7 : Nat) : Int)))), (8, .int (nI (v 7))), (7, .int (nI (inLk v))), (6, .int (zI (sLast v))), (5, .int (zI (sPlanOrder v ((v 9 - 1 : Nat) : Int)))), (4, .int (nI (mC v (v 9) 0))), (3, .int (nI (oC v (v 9) 0))), (2, .int (zI (sPlanOrder v ((0 : Nat) : Int)))), (1, .int (nI (v 9))), (0, .ref P)]) hc dL_isCarried_159 (by decide) rfl ?_
                      refine r_iload_n hc dL_isCarried_161 rfl ?_
                      refine r_if_eq (tgt := 169) hc dL_isCarried_162 (by decide) (e0_N (by omega)) (fun c_162 => ?_) (fun c_162 => ?_)
                      ·
                        exfalso; omega
                      ·
                        refine r_iload_n hc dL_isCarried_165 rfl ?_
                        refine r_if_ne (tgt := 213) hc dL_isCarried_166 (by decide) (e0_N (by omega)) (fun c_166 => ?_) (fun c_166 => ?_)
                        ·
                          refine r_iload hc dL_isCarried_213 rfl ?_
                          refine r_aload_n hc dL_isCarried_215 rfl ?_
                          refine r_bipush (v := nI 7) hc dL_isCarried_216 rfl ?_
                          refine cl_L_14 (As := [.int (nI 7)]) hc (qc_7 hG (by omega)) hG.sh rfl ⟨by decide, by decide⟩ ⟨rfl, rfl⟩ ⟨by decide, by decide⟩ rfl (Nat.le_of_ble_eq_true rfl) dL_isCarried_218 (fun r u hp => ?_)
                          obtain ⟨rfl, hG⟩ := hp
                          refine r_icmp_ne (tgt := 237) hc dL_isCarried_221 (by decide) (eq_ZN (by omega) (by omega)) (fun c_221 => ?_) (fun c_221 => ?_)
                          ·
                            exfalso; omega
                          ·
                            refine r_aload_n hc dL_isCarried_224 rfl ?_
                            refine r_bipush (v := nI 9) hc dL_isCarried_225 rfl ?_
                            refine cl_L_14 (As := [.int (nI 9)]) hc (qc_9 hG (by omega)) hG.sh rfl ⟨by decide, by decide⟩ ⟨rfl, rfl⟩ ⟨by decide, by decide⟩ rfl (Nat.le_of_ble_eq_true rfl) dL_isCarried_227 (fun r u hp => ?_)
                            obtain ⟨rfl, hG⟩ := hp
                            refine r_if_ne (tgt := 237) hc dL_isCarried_230 (by decide) (e0_N (by omega)) (fun c_230 => ?_) (fun c_230 => ?_)
                            ·
                              exfalso; omega
                            ·
                              refine r_iconst (v := nI 1) hc dL_isCarried_233 rfl ?_
                              refine r_goto (tgt := 238) hc dL_isCarried_234 (by decide) ?_
                              exact hR _ _ ⟨rfl, w, hG, hL2, by omega⟩ rfl _ _ dL_isCarried_238
                        ·
                          exfalso; omega
                  ·
                    exfalso; omega
                ·
                  refine r_iload_n hc dL_isCarried_126 rfl ?_
                  refine r_if_le (tgt := 137) hc dL_isCarried_127 (by decide) (le0_N (by omega)) (fun c_127 => ?_) (fun c_127 => ?_)
                  ·
                    exfalso; omega
                  ·
                    refine r_iload hc dL_isCarried_130 rfl ?_
                    refine r_iload hc dL_isCarried_132 rfl ?_
                    refine r_icmp_ne (tgt := 153) hc dL_isCarried_134 (by decide) (eq_ZZ (by omega) (by omega)) (fun c_134 => ?_) (fun c_134 => ?_)
                    ·
                      exfalso; omega
                    ·
                      refine r_iload_n hc dL_isCarried_137 rfl ?_
                      refine r_if_ne (tgt := 155) hc dL_isCarried_138 (by decide) (e0_N (by omega)) (fun c_138 => ?_) (fun c_138 => ?_)
                      ·
                        refine r_aload_n hc dL_isCarried_155 rfl ?_
                        refine cl_L_92 (As := []) hc (m_carryPlan hG (by omega)) hG.sh rfl ⟨by decide, by decide⟩ ⟨rfl, rfl⟩ ⟨by decide, by decide⟩ rfl (Nat.le_of_ble_eq_true rfl) dL_isCarried_156 (fun r u hp => ?_)
                        obtain ⟨⟨y, w⟩, rfl, hG0, hX⟩ := hp
                        have hT := t_carry hG.ok hL hX
                        dsimp only at hT
                        have hG2 : GS z sh P w u := hG0
                        obtain ⟨hL2, e6, hT⟩ := hT
                        rcases hT with ⟨hno, hy, hw⟩ | ⟨h9, ho, hy, w9⟩
                        ·
                          have hL21 := hL2.1
                          subst hy
                          rw [hw] at hG2 hL2 e6 hL21
                          have hG := hG2
                          refine r_istore (ls' := [(9, .int (zI (-5))), (8, .int (nI (v 7))), (7, .int (nI (inLk v))), (6, .int (zI (sLast v))), (5, .int (zI (sPlanOrder v ((v 9 - 1 : Nat) : Int)))), (4, .int (nI (mC v (v 9) 0))), (3, .int (nI (oC v (v 9) 0))), (2, .int (zI (sPlanOrder v ((0 : Nat) : Int)))), (1, .int (nI (v 9))), (0, .ref P)]) hc dL_isCarried_159 (by decide) rfl ?_
                          refine r_iload_n hc dL_isCarried_161 rfl ?_
                          refine r_if_eq (tgt := 169) hc dL_isCarried_162 (by decide) (e0_N (by omega)) (fun c_162 => ?_) (fun c_162 => ?_)
                          ·
                            exfalso; omega
                          ·
                            refine r_iload_n hc dL_isCarried_165 rfl ?_
                            refine r_if_ne (tgt := 213) hc dL_isCarried_166 (by decide) (e0_N (by omega)) (fun c_166 => ?_) (fun c_166 => ?_)
                            ·
                              exfalso; omega
                            ·
                              exfalso; omega
                        ·
                          have hL21 := hL2.1
                          subst hy
                          have hn2 := hG2.nums
                          have hG := hG2
                          refine r_istore (ls' := [(9, .int (zI (((w 7 : Nat) : Int)))), (8, .int (nI (v 7))), (7, .int (nI (inLk v))), (6, .int (zI (sLast v))), (5, .int (zI (sPlanOrder v ((v 9 - 1 : Nat) : Int)))), (4, .int (nI (mC v (v 9) 0))), (3, .int (nI (oC v (v 9) 0))), (2, .int (zI (sPlanOrder v ((0 : Nat) : Int)))), (1, .int (nI (v 9))), (0, .ref P)]) hc dL_isCarried_159 (by decide) rfl ?_
                          refine r_iload_n hc dL_isCarried_161 rfl ?_
                          refine r_if_eq (tgt := 169) hc dL_isCarried_162 (by decide) (e0_N (by omega)) (fun c_162 => ?_) (fun c_162 => ?_)
                          ·
                            exfalso; omega
                          ·
                            refine r_iload_n hc dL_isCarried_165 rfl ?_
                            refine r_if_ne (tgt := 213) hc dL_isCarried_166 (by decide) (e0_N (by omega)) (fun c_166 => ?_) (fun c_166 => ?_)
                            ·
                              refine r_iload hc dL_isCarried_213 rfl ?_
                              refine r_aload_n hc dL_isCarried_215 rfl ?_
                              refine r_bipush (v := nI 7) hc dL_isCarried_216 rfl ?_
                              refine cl_L_14 (As := [.int (nI 7)]) hc (qc_7 hG (by omega)) hG.sh rfl ⟨by decide, by decide⟩ ⟨rfl, rfl⟩ ⟨by decide, by decide⟩ rfl (Nat.le_of_ble_eq_true rfl) dL_isCarried_218 (fun r u hp => ?_)
                              obtain ⟨rfl, hG⟩ := hp
                              refine r_icmp_ne (tgt := 237) hc dL_isCarried_221 (by decide) (eq_ZN (by omega) (by omega)) (fun c_221 => ?_) (fun c_221 => ?_)
                              ·
                                exfalso; omega
                              ·
                                refine r_aload_n hc dL_isCarried_224 rfl ?_
                                refine r_bipush (v := nI 9) hc dL_isCarried_225 rfl ?_
                                refine cl_L_14 (As := [.int (nI 9)]) hc (qc_9 hG (by omega)) hG.sh rfl ⟨by decide, by decide⟩ ⟨rfl, rfl⟩ ⟨by decide, by decide⟩ rfl (Nat.le_of_ble_eq_true rfl) dL_isCarried_227 (fun r u hp => ?_)
                                obtain ⟨rfl, hG⟩ := hp
                                refine r_if_ne (tgt := 237) hc dL_isCarried_230 (by decide) (e0_N (by omega)) (fun c_230 => ?_) (fun c_230 => ?_)
                                ·
                                  exfalso; omega
                                ·
                                  refine r_iconst (v := nI 1) hc dL_isCarried_233 rfl ?_
                                  refine r_goto (tgt := 238) hc dL_isCarried_234 (by decide) ?_
                                  exact hR _ _ ⟨rfl, w, hG, hL2, by omega⟩ rfl _ _ dL_isCarried_238
                            ·
                              exfalso; omega
                      ·
                        exfalso; omega
          ·
            refine r_iload_n hc dL_isCarried_88 rfl ?_
            refine r_if_ne (tgt := 96) hc dL_isCarried_89 (by decide) (e0_N (by omega)) (fun c_89 => ?_) (fun c_89 => ?_)
            ·
              refine r_iconst (v := nI 0) hc dL_isCarried_96 rfl ?_
              refine r_iload_n hc dL_isCarried_97 rfl ?_
              refine r_if_ge (tgt := 105) hc dL_isCarried_98 (by decide) (ge0_Z (by omega)) (fun c_98 => ?_) (fun c_98 => ?_)
              ·
                refine r_iconst (v := nI 0) hc dL_isCarried_105 rfl ?_
                refine r_icmp_ne (tgt := 153) hc dL_isCarried_106 (by decide) (eq_NN (by omega) (by omega)) (fun c_106 => ?_) (fun c_106 => ?_)
                ·
                  exfalso; omega
                ·
                  refine r_iload hc dL_isCarried_109 rfl ?_
                  refine r_if_lt (tgt := 121) hc dL_isCarried_111 (by decide) (l0_Z (by omega)) (fun c_111 => ?_) (fun c_111 => ?_)
                  ·
                    refine r_iload_n hc dL_isCarried_121 rfl ?_
                    refine r_iconst (v := nI 1) hc dL_isCarried_122 rfl ?_
                    refine r_icmp_ne (tgt := 137) hc dL_isCarried_123 (by decide) (eq_NN (by omega) (by omega)) (fun c_123 => ?_) (fun c_123 => ?_)
                    ·
                      refine r_iload_n hc dL_isCarried_137 rfl ?_
                      refine r_if_ne (tgt := 155) hc dL_isCarried_138 (by decide) (e0_N (by omega)) (fun c_138 => ?_) (fun c_138 => ?_)
                      ·
                        refine r_aload_n hc dL_isCarried_155 rfl ?_
                        refine cl_L_92 (As := []) hc (m_carryPlan hG (by omega)) hG.sh rfl ⟨by decide, by decide⟩ ⟨rfl, rfl⟩ ⟨by decide, by decide⟩ rfl (Nat.le_of_ble_eq_true rfl) dL_isCarried_156 (fun r u hp => ?_)
                        obtain ⟨⟨y, w⟩, rfl, hG0, hX⟩ := hp
                        have hT := t_carry hG.ok hL hX
                        dsimp only at hT
                        have hG2 : GS z sh P w u := hG0
                        obtain ⟨hL2, e6, hT⟩ := hT
                        rcases hT with ⟨hno, hy, hw⟩ | ⟨h9, ho, hy, w9⟩
                        ·
                          have hL21 := hL2.1
                          subst hy
                          rw [hw] at hG2 hL2 e6 hL21
                          have hG := hG2
                          refine r_istore (ls' := [(9, .int (zI (-5))), (8, .int (nI (v 7))), (7, .int (nI (inLk v))), (6, .int (zI (sLast v))), (5, .int (zI (sPlanOrder v ((v 9 - 1 : Nat) : Int)))), (4, .int (nI (mC v (v 9) 0))), (3, .int (nI (oC v (v 9) 0))), (2, .int (zI (sPlanOrder v ((0 : Nat) : Int)))), (1, .int (nI (v 9))), (0, .ref P)]) hc dL_isCarried_159 (by decide) rfl ?_
                          refine r_iload_n hc dL_isCarried_161 rfl ?_
                          refine r_if_eq (tgt := 169) hc dL_isCarried_162 (by decide) (e0_N (by omega)) (fun c_162 => ?_) (fun c_162 => ?_)
                          ·
                            exfalso; omega
                          ·
                            refine r_iload_n hc dL_isCarried_165 rfl ?_
                            refine r_if_ne (tgt := 213) hc dL_isCarried_166 (by decide) (e0_N (by omega)) (fun c_166 => ?_) (fun c_166 => ?_)
                            ·
                              exfalso; omega
                            ·
                              exfalso; omega
                        ·
                          have hL21 := hL2.1
                          subst hy
                          have hn2 := hG2.nums
                          have hG := hG2
                          refine r_istore (ls' := [(9, .int (zI (((w 7 : Nat) : Int)))), (8, .int (nI (v 7))), (7, .int (nI (inLk v))), (6, .int (zI (sLast v))), (5, .int (zI (sPlanOrder v ((v 9 - 1 : Nat) : Int)))), (4, .int (nI (mC v (v 9) 0))), (3, .int (nI (oC v (v 9) 0))), (2, .int (zI (sPlanOrder v ((0 : Nat) : Int)))), (1, .int (nI (v 9))), (0, .ref P)]) hc dL_isCarried_159 (by decide) rfl ?_
                          refine r_iload_n hc dL_isCarried_161 rfl ?_
                          refine r_if_eq (tgt := 169) hc dL_isCarried_162 (by decide) (e0_N (by omega)) (fun c_162 => ?_) (fun c_162 => ?_)
                          ·
                            exfalso; omega
                          ·
                            refine r_iload_n hc dL_isCarried_165 rfl ?_
                            refine r_if_ne (tgt := 213) hc dL_isCarried_166 (by decide) (e0_N (by omega)) (fun c_166 => ?_) (fun c_166 => ?_)
                            ·
                              refine r_iload hc dL_isCarried_213 rfl ?_
                              refine r_aload_n hc dL_isCarried_215 rfl ?_
                              refine r_bipush (v := nI 7) hc dL_isCarried_216 rfl ?_
                              refine cl_L_14 (As := [.int (nI 7)]) hc (qc_7 hG (by omega)) hG.sh rfl ⟨by decide, by decide⟩ ⟨rfl, rfl⟩ ⟨by decide, by decide⟩ rfl (Nat.le_of_ble_eq_true rfl) dL_isCarried_218 (fun r u hp => ?_)
                              obtain ⟨rfl, hG⟩ := hp
                              refine r_icmp_ne (tgt := 237) hc dL_isCarried_221 (by decide) (eq_ZN (by omega) (by omega)) (fun c_221 => ?_) (fun c_221 => ?_)
                              ·
                                exfalso; omega
                              ·
                                refine r_aload_n hc dL_isCarried_224 rfl ?_
                                refine r_bipush (v := nI 9) hc dL_isCarried_225 rfl ?_
                                refine cl_L_14 (As := [.int (nI 9)]) hc (qc_9 hG (by omega)) hG.sh rfl ⟨by decide, by decide⟩ ⟨rfl, rfl⟩ ⟨by decide, by decide⟩ rfl (Nat.le_of_ble_eq_true rfl) dL_isCarried_227 (fun r u hp => ?_)
                                obtain ⟨rfl, hG⟩ := hp
                                refine r_if_ne (tgt := 237) hc dL_isCarried_230 (by decide) (e0_N (by omega)) (fun c_230 => ?_) (fun c_230 => ?_)
                                ·
                                  exfalso; omega
                                ·
                                  refine r_iconst (v := nI 1) hc dL_isCarried_233 rfl ?_
                                  refine r_goto (tgt := 238) hc dL_isCarried_234 (by decide) ?_
                                  exact hR _ _ ⟨rfl, w, hG, hL2, by omega⟩ rfl _ _ dL_isCarried_238
                            ·
                              exfalso; omega
                      ·
                        exfalso; omega
                    ·
                      refine r_iload_n hc dL_isCarried_126 rfl ?_
                      refine r_if_le (tgt := 137) hc dL_isCarried_127 (by decide) (le0_N (by omega)) (fun c_127 => ?_) (fun c_127 => ?_)
                      ·
                        exfalso; omega
                      ·
                        refine r_iload hc dL_isCarried_130 rfl ?_
                        refine r_iload hc dL_isCarried_132 rfl ?_
                        refine r_icmp_ne (tgt := 153) hc dL_isCarried_134 (by decide) (eq_ZZ (by omega) (by omega)) (fun c_134 => ?_) (fun c_134 => ?_)
                        ·
                          exfalso; omega
                        ·
                          refine r_iload_n hc dL_isCarried_137 rfl ?_
                          refine r_if_ne (tgt := 155) hc dL_isCarried_138 (by decide) (e0_N (by omega)) (fun c_138 => ?_) (fun c_138 => ?_)
                          ·
                            refine r_aload_n hc dL_isCarried_155 rfl ?_
                            refine cl_L_92 (As := []) hc (m_carryPlan hG (by omega)) hG.sh rfl ⟨by decide, by decide⟩ ⟨rfl, rfl⟩ ⟨by decide, by decide⟩ rfl (Nat.le_of_ble_eq_true rfl) dL_isCarried_156 (fun r u hp => ?_)
                            obtain ⟨⟨y, w⟩, rfl, hG0, hX⟩ := hp
                            have hT := t_carry hG.ok hL hX
                            dsimp only at hT
                            have hG2 : GS z sh P w u := hG0
                            obtain ⟨hL2, e6, hT⟩ := hT
                            rcases hT with ⟨hno, hy, hw⟩ | ⟨h9, ho, hy, w9⟩
                            ·
                              have hL21 := hL2.1
                              subst hy
                              rw [hw] at hG2 hL2 e6 hL21
                              have hG := hG2
                              refine r_istore (ls' := [(9, .int (zI (-5))), (8, .int (nI (v 7))), (7, .int (nI (inLk v))), (6, .int (zI (sLast v))), (5, .int (zI (sPlanOrder v ((v 9 - 1 : Nat) : Int)))), (4, .int (nI (mC v (v 9) 0))), (3, .int (nI (oC v (v 9) 0))), (2, .int (zI (sPlanOrder v ((0 : Nat) : Int)))), (1, .int (nI (v 9))), (0, .ref P)]) hc dL_isCarried_159 (by decide) rfl ?_
                              refine r_iload_n hc dL_isCarried_161 rfl ?_
                              refine r_if_eq (tgt := 169) hc dL_isCarried_162 (by decide) (e0_N (by omega)) (fun c_162 => ?_) (fun c_162 => ?_)
                              ·
                                exfalso; omega
                              ·
                                refine r_iload_n hc dL_isCarried_165 rfl ?_
                                refine r_if_ne (tgt := 213) hc dL_isCarried_166 (by decide) (e0_N (by omega)) (fun c_166 => ?_) (fun c_166 => ?_)
                                ·
                                  exfalso; omega
                                ·
                                  exfalso; omega
                            ·
                              have hL21 := hL2.1
                              subst hy
                              have hn2 := hG2.nums
                              have hG := hG2
                              refine r_istore (ls' := [(9, .int (zI (((w 7 : Nat) : Int)))), (8, .int (nI (v 7))), (7, .int (nI (inLk v))), (6, .int (zI (sLast v))), (5, .int (zI (sPlanOrder v ((v 9 - 1 : Nat) : Int)))), (4, .int (nI (mC v (v 9) 0))), (3, .int (nI (oC v (v 9) 0))), (2, .int (zI (sPlanOrder v ((0 : Nat) : Int)))), (1, .int (nI (v 9))), (0, .ref P)]) hc dL_isCarried_159 (by decide) rfl ?_
                              refine r_iload_n hc dL_isCarried_161 rfl ?_
                              refine r_if_eq (tgt := 169) hc dL_isCarried_162 (by decide) (e0_N (by omega)) (fun c_162 => ?_) (fun c_162 => ?_)
                              ·
                                exfalso; omega
                              ·
                                refine r_iload_n hc dL_isCarried_165 rfl ?_
                                refine r_if_ne (tgt := 213) hc dL_isCarried_166 (by decide) (e0_N (by omega)) (fun c_166 => ?_) (fun c_166 => ?_)
                                ·
                                  refine r_iload hc dL_isCarried_213 rfl ?_
                                  refine r_aload_n hc dL_isCarried_215 rfl ?_
                                  refine r_bipush (v := nI 7) hc dL_isCarried_216 rfl ?_
                                  refine cl_L_14 (As := [.int (nI 7)]) hc (qc_7 hG (by omega)) hG.sh rfl ⟨by decide, by decide⟩ ⟨rfl, rfl⟩ ⟨by decide, by decide⟩ rfl (Nat.le_of_ble_eq_true rfl) dL_isCarried_218 (fun r u hp => ?_)
                                  obtain ⟨rfl, hG⟩ := hp
                                  refine r_icmp_ne (tgt := 237) hc dL_isCarried_221 (by decide) (eq_ZN (by omega) (by omega)) (fun c_221 => ?_) (fun c_221 => ?_)
                                  ·
                                    exfalso; omega
                                  ·
                                    refine r_aload_n hc dL_isCarried_224 rfl ?_
                                    refine r_bipush (v := nI 9) hc dL_isCarried_225 rfl ?_
                                    refine cl_L_14 (As := [.int (nI 9)]) hc (qc_9 hG (by omega)) hG.sh rfl ⟨by decide, by decide⟩ ⟨rfl, rfl⟩ ⟨by decide, by decide⟩ rfl (Nat.le_of_ble_eq_true rfl) dL_isCarried_227 (fun r u hp => ?_)
                                    obtain ⟨rfl, hG⟩ := hp
                                    refine r_if_ne (tgt := 237) hc dL_isCarried_230 (by decide) (e0_N (by omega)) (fun c_230 => ?_) (fun c_230 => ?_)
                                    ·
                                      exfalso; omega
                                    ·
                                      refine r_iconst (v := nI 1) hc dL_isCarried_233 rfl ?_
                                      refine r_goto (tgt := 238) hc dL_isCarried_234 (by decide) ?_
                                      exact hR _ _ ⟨rfl, w, hG, hL2, by omega⟩ rfl _ _ dL_isCarried_238
                                ·
                                  exfalso; omega
                          ·
                            exfalso; omega
                  ·
                    refine r_iload hc dL_isCarried_114 rfl ?_
                    refine r_iload hc dL_isCarried_116 rfl ?_
                    refine r_icmp_ne (tgt := 153) hc dL_isCarried_118 (by decide) (eq_ZZ (by omega) (by omega)) (fun c_118 => ?_) (fun c_118 => ?_)
                    ·
                      exfalso; omega
                    ·
                      refine r_iload_n hc dL_isCarried_121 rfl ?_
                      refine r_iconst (v := nI 1) hc dL_isCarried_122 rfl ?_
                      refine r_icmp_ne (tgt := 137) hc dL_isCarried_123 (by decide) (eq_NN (by omega) (by omega)) (fun c_123 => ?_) (fun c_123 => ?_)
                      ·
                        refine r_iload_n hc dL_isCarried_137 rfl ?_
                        refine r_if_ne (tgt := 155) hc dL_isCarried_138 (by decide) (e0_N (by omega)) (fun c_138 => ?_) (fun c_138 => ?_)
                        ·
                          refine r_aload_n hc dL_isCarried_155 rfl ?_
                          refine cl_L_92 (As := []) hc (m_carryPlan hG (by omega)) hG.sh rfl ⟨by decide, by decide⟩ ⟨rfl, rfl⟩ ⟨by decide, by decide⟩ rfl (Nat.le_of_ble_eq_true rfl) dL_isCarried_156 (fun r u hp => ?_)
                          obtain ⟨⟨y, w⟩, rfl, hG0, hX⟩ := hp
                          have hT := t_carry hG.ok hL hX
                          dsimp only at hT
                          have hG2 : GS z sh P w u := hG0
                          obtain ⟨hL2, e6, hT⟩ := hT
                          rcases hT with ⟨hno, hy, hw⟩ | ⟨h9, ho, hy, w9⟩
                          ·
                            have hL21 := hL2.1
                            subst hy
                            rw [hw] at hG2 hL2 e6 hL21
                            have hG := hG2
                            refine r_istore (ls' := [(9, .int (zI (-5))), (8, .int (nI (v 7))), (7, .int (nI (inLk v))), (6, .int (zI (sLast v))), (5, .int (zI (sPlanOrder v ((v 9 - 1 : Nat) : Int)))), (4, .int (nI (mC v (v 9) 0))), (3, .int (nI (oC v (v 9) 0))), (2, .int (zI (sPlanOrder v ((0 : Nat) : Int)))), (1, .int (nI (v 9))), (0, .ref P)]) hc dL_isCarried_159 (by decide) rfl ?_
                            refine r_iload_n hc dL_isCarried_161 rfl ?_
                            refine r_if_eq (tgt := 169) hc dL_isCarried_162 (by decide) (e0_N (by omega)) (fun c_162 => ?_) (fun c_162 => ?_)
                            ·
                              exfalso; omega
                            ·
                              refine r_iload_n hc dL_isCarried_165 rfl ?_
                              refine r_if_ne (tgt := 213) hc dL_isCarried_166 (by decide) (e0_N (by omega)) (fun c_166 => ?_) (fun c_166 => ?_)
                              ·
                                exfalso; omega
                              ·
                                exfalso; omega
                          ·
                            have hL21 := hL2.1
                            subst hy
                            have hn2 := hG2.nums
                            have hG := hG2
                            refine r_istore (ls' := [(9, .int (zI (((w 7 : Nat) : Int)))), (8, .int (nI (v 7))), (7, .int (nI (inLk v))), (6, .int (zI (sLast v))), (5, .int (zI (sPlanOrder v ((v 9 - 1 : Nat) : Int)))), (4, .int (nI (mC v (v 9) 0))), (3, .int (nI (oC v (v 9) 0))), (2, .int (zI (sPlanOrder v ((0 : Nat) : Int)))), (1, .int (nI (v 9))), (0, .ref P)]) hc dL_isCarried_159 (by decide) rfl ?_
                            refine r_iload_n hc dL_isCarried_161 rfl ?_
                            refine r_if_eq (tgt := 169) hc dL_isCarried_162 (by decide) (e0_N (by omega)) (fun c_162 => ?_) (fun c_162 => ?_)
                            ·
                              exfalso; omega
                            ·
                              refine r_iload_n hc dL_isCarried_165 rfl ?_
                              refine r_if_ne (tgt := 213) hc dL_isCarried_166 (by decide) (e0_N (by omega)) (fun c_166 => ?_) (fun c_166 => ?_)
                              ·
                                refine r_iload hc dL_isCarried_213 rfl ?_
                                refine r_aload_n hc dL_isCarried_215 rfl ?_
                                refine r_bipush (v := nI 7) hc dL_isCarried_216 rfl ?_
                                refine cl_L_14 (As := [.int (nI 7)]) hc (qc_7 hG (by omega)) hG.sh rfl ⟨by decide, by decide⟩ ⟨rfl, rfl⟩ ⟨by decide, by decide⟩ rfl (Nat.le_of_ble_eq_true rfl) dL_isCarried_218 (fun r u hp => ?_)
                                obtain ⟨rfl, hG⟩ := hp
                                refine r_icmp_ne (tgt := 237) hc dL_isCarried_221 (by decide) (eq_ZN (by omega) (by omega)) (fun c_221 => ?_) (fun c_221 => ?_)
                                ·
                                  exfalso; omega
                                ·
                                  refine r_aload_n hc dL_isCarried_224 rfl ?_
                                  refine r_bipush (v := nI 9) hc dL_isCarried_225 rfl ?_
                                  refine cl_L_14 (As := [.int (nI 9)]) hc (qc_9 hG (by omega)) hG.sh rfl ⟨by decide, by decide⟩ ⟨rfl, rfl⟩ ⟨by decide, by decide⟩ rfl (Nat.le_of_ble_eq_true rfl) dL_isCarried_227 (fun r u hp => ?_)
                                  obtain ⟨rfl, hG⟩ := hp
                                  refine r_if_ne (tgt := 237) hc dL_isCarried_230 (by decide) (e0_N (by omega)) (fun c_230 => ?_) (fun c_230 => ?_)
                                  ·
                                    exfalso; omega
                                  ·
                                    refine r_iconst (v := nI 1) hc dL_isCarried_233 rfl ?_
                                    refine r_goto (tgt := 238) hc dL_isCarried_234 (by decide) ?_
                                    exact hR _ _ ⟨rfl, w, hG, hL2, by omega⟩ rfl _ _ dL_isCarried_238
                              ·
                                exfalso; omega
                        ·
                          exfalso; omega
                      ·
                        refine r_iload_n hc dL_isCarried_126 rfl ?_
                        refine r_if_le (tgt := 137) hc dL_isCarried_127 (by decide) (le0_N (by omega)) (fun c_127 => ?_) (fun c_127 => ?_)
                        ·
                          exfalso; omega
                        ·
                          refine r_iload hc dL_isCarried_130 rfl ?_
                          refine r_iload hc dL_isCarried_132 rfl ?_
                          refine r_icmp_ne (tgt := 153) hc dL_isCarried_134 (by decide) (eq_ZZ (by omega) (by omega)) (fun c_134 => ?_) (fun c_134 => ?_)
                          ·
                            exfalso; omega
                          ·
                            refine r_iload_n hc dL_isCarried_137 rfl ?_
                            refine r_if_ne (tgt := 155) hc dL_isCarried_138 (by decide) (e0_N (by omega)) (fun c_138 => ?_) (fun c_138 => ?_)
                            ·
                              refine r_aload_n hc dL_isCarried_155 rfl ?_
                              refine cl_L_92 (As := []) hc (m_carryPlan hG (by omega)) hG.sh rfl ⟨by decide, by decide⟩ ⟨rfl, rfl⟩ ⟨by decide, by decide⟩ rfl (Nat.le_of_ble_eq_true rfl) dL_isCarried_156 (fun r u hp => ?_)
                              obtain ⟨⟨y, w⟩, rfl, hG0, hX⟩ := hp
                              have hT := t_carry hG.ok hL hX
                              dsimp only at hT
                              have hG2 : GS z sh P w u := hG0
                              obtain ⟨hL2, e6, hT⟩ := hT
                              rcases hT with ⟨hno, hy, hw⟩ | ⟨h9, ho, hy, w9⟩
                              ·
                                have hL21 := hL2.1
                                subst hy
                                rw [hw] at hG2 hL2 e6 hL21
                                have hG := hG2
                                refine r_istore (ls' := [(9, .int (zI (-5))), (8, .int (nI (v 7))), (7, .int (nI (inLk v))), (6, .int (zI (sLast v))), (5, .int (zI (sPlanOrder v ((v 9 - 1 : Nat) : Int)))), (4, .int (nI (mC v (v 9) 0))), (3, .int (nI (oC v (v 9) 0))), (2, .int (zI (sPlanOrder v ((0 : Nat) : Int)))), (1, .int (nI (v 9))), (0, .ref P)]) hc dL_isCarried_159 (by decide) rfl ?_
                                refine r_iload_n hc dL_isCarried_161 rfl ?_
                                refine r_if_eq (tgt := 169) hc dL_isCarried_162 (by decide) (e0_N (by omega)) (fun c_162 => ?_) (fun c_162 => ?_)
                                ·
                                  exfalso; omega
                                ·
                                  refine r_iload_n hc dL_isCarried_165 rfl ?_
                                  refine r_if_ne (tgt := 213) hc dL_isCarried_166 (by decide) (e0_N (by omega)) (fun c_166 => ?_) (fun c_166 => ?_)
                                  ·
                                    exfalso; omega
                                  ·
                                    exfalso; omega
                              ·
                                have hL21 := hL2.1
                                subst hy
                                have hn2 := hG2.nums
                                have hG := hG2
                                refine r_istore (ls' := [(9, .int (zI (((w 7 : Nat) : Int)))), (8, .int (nI (v 7))), (7, .int (nI (inLk v))), (6, .int (zI (sLast v))), (5, .int (zI (sPlanOrder v ((v 9 - 1 : Nat) : Int)))), (4, .int (nI (mC v (v 9) 0))), (3, .int (nI (oC v (v 9) 0))), (2, .int (zI (sPlanOrder v ((0 : Nat) : Int)))), (1, .int (nI (v 9))), (0, .ref P)]) hc dL_isCarried_159 (by decide) rfl ?_
                                refine r_iload_n hc dL_isCarried_161 rfl ?_
                                refine r_if_eq (tgt := 169) hc dL_isCarried_162 (by decide) (e0_N (by omega)) (fun c_162 => ?_) (fun c_162 => ?_)
                                ·
                                  exfalso; omega
                                ·
                                  refine r_iload_n hc dL_isCarried_165 rfl ?_
                                  refine r_if_ne (tgt := 213) hc dL_isCarried_166 (by decide) (e0_N (by omega)) (fun c_166 => ?_) (fun c_166 => ?_)
                                  ·
                                    refine r_iload hc dL_isCarried_213 rfl ?_
                                    refine r_aload_n hc dL_isCarried_215 rfl ?_
                                    refine r_bipush (v := nI 7) hc dL_isCarried_216 rfl ?_
                                    refine cl_L_14 (As := [.int (nI 7)]) hc (qc_7 hG (by omega)) hG.sh rfl ⟨by decide, by decide⟩ ⟨rfl, rfl⟩ ⟨by decide, by decide⟩ rfl (Nat.le_of_ble_eq_true rfl) dL_isCarried_218 (fun r u hp => ?_)
                                    obtain ⟨rfl, hG⟩ := hp
                                    refine r_icmp_ne (tgt := 237) hc dL_isCarried_221 (by decide) (eq_ZN (by omega) (by omega)) (fun c_221 => ?_) (fun c_221 => ?_)
                                    ·
                                      exfalso; omega
                                    ·
                                      refine r_aload_n hc dL_isCarried_224 rfl ?_
                                      refine r_bipush (v := nI 9) hc dL_isCarried_225 rfl ?_
                                      refine cl_L_14 (As := [.int (nI 9)]) hc (qc_9 hG (by omega)) hG.sh rfl ⟨by decide, by decide⟩ ⟨rfl, rfl⟩ ⟨by decide, by decide⟩ rfl (Nat.le_of_ble_eq_true rfl) dL_isCarried_227 (fun r u hp => ?_)
                                      obtain ⟨rfl, hG⟩ := hp
                                      refine r_if_ne (tgt := 237) hc dL_isCarried_230 (by decide) (e0_N (by omega)) (fun c_230 => ?_) (fun c_230 => ?_)
                                      ·
                                        exfalso; omega
                                      ·
                                        refine r_iconst (v := nI 1) hc dL_isCarried_233 rfl ?_
                                        refine r_goto (tgt := 238) hc dL_isCarried_234 (by decide) ?_
                                        exact hR _ _ ⟨rfl, w, hG, hL2, by omega⟩ rfl _ _ dL_isCarried_238
                                  ·
                                    exfalso; omega
                            ·
                              exfalso; omega
              ·
                refine r_iconst (v := nI 1) hc dL_isCarried_101 rfl ?_
                refine r_goto (tgt := 106) hc dL_isCarried_102 (by decide) ?_
                refine r_icmp_ne (tgt := 153) hc dL_isCarried_106 (by decide) (eq_NN (by omega) (by omega)) (fun c_106 => ?_) (fun c_106 => ?_)
                ·
                  exfalso; omega
                ·
                  exfalso; omega
            ·
              refine r_iconst (v := nI 1) hc dL_isCarried_92 rfl ?_
              refine r_goto (tgt := 97) hc dL_isCarried_93 (by decide) ?_
              refine r_iload_n hc dL_isCarried_97 rfl ?_
              refine r_if_ge (tgt := 105) hc dL_isCarried_98 (by decide) (ge0_Z (by omega)) (fun c_98 => ?_) (fun c_98 => ?_)
              ·
                refine r_iconst (v := nI 0) hc dL_isCarried_105 rfl ?_
                refine r_icmp_ne (tgt := 153) hc dL_isCarried_106 (by decide) (eq_NN (by omega) (by omega)) (fun c_106 => ?_) (fun c_106 => ?_)
                ·
                  exfalso; omega
                ·
                  exfalso; omega
              ·
                refine r_iconst (v := nI 1) hc dL_isCarried_101 rfl ?_
                refine r_goto (tgt := 106) hc dL_isCarried_102 (by decide) ?_
                refine r_icmp_ne (tgt := 153) hc dL_isCarried_106 (by decide) (eq_NN (by omega) (by omega)) (fun c_106 => ?_) (fun c_106 => ?_)
                ·
                  exfalso; omega
                ·
                  refine r_iload hc dL_isCarried_109 rfl ?_
                  refine r_if_lt (tgt := 121) hc dL_isCarried_111 (by decide) (l0_Z (by omega)) (fun c_111 => ?_) (fun c_111 => ?_)
                  ·
                    refine r_iload_n hc dL_isCarried_121 rfl ?_
                    refine r_iconst (v := nI 1) hc dL_isCarried_122 rfl ?_
                    refine r_icmp_ne (tgt := 137) hc dL_isCarried_123 (by decide) (eq_NN (by omega) (by omega)) (fun c_123 => ?_) (fun c_123 => ?_)
                    ·
                      refine r_iload_n hc dL_isCarried_137 rfl ?_
                      refine r_if_ne (tgt := 155) hc dL_isCarried_138 (by decide) (e0_N (by omega)) (fun c_138 => ?_) (fun c_138 => ?_)
                      ·
                        refine r_aload_n hc dL_isCarried_155 rfl ?_
                        refine cl_L_92 (As := []) hc (m_carryPlan hG (by omega)) hG.sh rfl ⟨by decide, by decide⟩ ⟨rfl, rfl⟩ ⟨by decide, by decide⟩ rfl (Nat.le_of_ble_eq_true rfl) dL_isCarried_156 (fun r u hp => ?_)
                        obtain ⟨⟨y, w⟩, rfl, hG0, hX⟩ := hp
                        have hT := t_carry hG.ok hL hX
                        dsimp only at hT
                        have hG2 : GS z sh P w u := hG0
                        obtain ⟨hL2, e6, hT⟩ := hT
                        rcases hT with ⟨hno, hy, hw⟩ | ⟨h9, ho, hy, w9⟩
                        ·
                          have hL21 := hL2.1
                          subst hy
                          rw [hw] at hG2 hL2 e6 hL21
                          have hG := hG2
                          refine r_istore (ls' := [(9, .int (zI (-5))), (8, .int (nI (v 7))), (7, .int (nI (inLk v))), (6, .int (zI (sLast v))), (5, .int (zI (sPlanOrder v ((v 9 - 1 : Nat) : Int)))), (4, .int (nI (mC v (v 9) 0))), (3, .int (nI (oC v (v 9) 0))), (2, .int (zI (sPlanOrder v ((0 : Nat) : Int)))), (1, .int (nI (v 9))), (0, .ref P)]) hc dL_isCarried_159 (by decide) rfl ?_
                          refine r_iload_n hc dL_isCarried_161 rfl ?_
                          refine r_if_eq (tgt := 169) hc dL_isCarried_162 (by decide) (e0_N (by omega)) (fun c_162 => ?_) (fun c_162 => ?_)
                          ·
                            exfalso; omega
                          ·
                            refine r_iload_n hc dL_isCarried_165 rfl ?_
                            refine r_if_ne (tgt := 213) hc dL_isCarried_166 (by decide) (e0_N (by omega)) (fun c_166 => ?_) (fun c_166 => ?_)
                            ·
                              exfalso; omega
                            ·
                              exfalso; omega
                        ·
                          have hL21 := hL2.1
                          subst hy
                          have hn2 := hG2.nums
                          have hG := hG2
                          refine r_istore (ls' := [(9, .int (zI (((w 7 : Nat) : Int)))), (8, .int (nI (v 7))), (7, .int (nI (inLk v))), (6, .int (zI (sLast v))), (5, .int (zI (sPlanOrder v ((v 9 - 1 : Nat) : Int)))), (4, .int (nI (mC v (v 9) 0))), (3, .int (nI (oC v (v 9) 0))), (2, .int (zI (sPlanOrder v ((0 : Nat) : Int)))), (1, .int (nI (v 9))), (0, .ref P)]) hc dL_isCarried_159 (by decide) rfl ?_
                          refine r_iload_n hc dL_isCarried_161 rfl ?_
                          refine r_if_eq (tgt := 169) hc dL_isCarried_162 (by decide) (e0_N (by omega)) (fun c_162 => ?_) (fun c_162 => ?_)
                          ·
                            exfalso; omega
                          ·
                            refine r_iload_n hc dL_isCarried_165 rfl ?_
                            refine r_if_ne (tgt := 213) hc dL_isCarried_166 (by decide) (e0_N (by omega)) (fun c_166 => ?_) (fun c_166 => ?_)
                            ·
                              refine r_iload hc dL_isCarried_213 rfl ?_
                              refine r_aload_n hc dL_isCarried_215 rfl ?_
                              refine r_bipush (v := nI 7) hc dL_isCarried_216 rfl ?_
                              refine cl_L_14 (As := [.int (nI 7)]) hc (qc_7 hG (by omega)) hG.sh rfl ⟨by decide, by decide⟩ ⟨rfl, rfl⟩ ⟨by decide, by decide⟩ rfl (Nat.le_of_ble_eq_true rfl) dL_isCarried_218 (fun r u hp => ?_)
                              obtain ⟨rfl, hG⟩ := hp
                              refine r_icmp_ne (tgt := 237) hc dL_isCarried_221 (by decide) (eq_ZN (by omega) (by omega)) (fun c_221 => ?_) (fun c_221 => ?_)
                              ·
                                exfalso; omega
                              ·
                                refine r_aload_n hc dL_isCarried_224 rfl ?_
                                refine r_bipush (v := nI 9) hc dL_isCarried_225 rfl ?_
                                refine cl_L_14 (As := [.int (nI 9)]) hc (qc_9 hG (by omega)) hG.sh rfl ⟨by decide, by decide⟩ ⟨rfl, rfl⟩ ⟨by decide, by decide⟩ rfl (Nat.le_of_ble_eq_true rfl) dL_isCarried_227 (fun r u hp => ?_)
                                obtain ⟨rfl, hG⟩ := hp
                                refine r_if_ne (tgt := 237) hc dL_isCarried_230 (by decide) (e0_N (by omega)) (fun c_230 => ?_) (fun c_230 => ?_)
                                ·
                                  exfalso; omega
                                ·
                                  refine r_iconst (v := nI 1) hc dL_isCarried_233 rfl ?_
                                  refine r_goto (tgt := 238) hc dL_isCarried_234 (by decide) ?_
                                  exact hR _ _ ⟨rfl, w, hG, hL2, by omega⟩ rfl _ _ dL_isCarried_238
                            ·
                              exfalso; omega
                      ·
                        exfalso; omega
                    ·
                      refine r_iload_n hc dL_isCarried_126 rfl ?_
                      refine r_if_le (tgt := 137) hc dL_isCarried_127 (by decide) (le0_N (by omega)) (fun c_127 => ?_) (fun c_127 => ?_)
                      ·
                        exfalso; omega
                      ·
                        refine r_iload hc dL_isCarried_130 rfl ?_
                        refine r_iload hc dL_isCarried_132 rfl ?_
                        refine r_icmp_ne (tgt := 153) hc dL_isCarried_134 (by decide) (eq_ZZ (by omega) (by omega)) (fun c_134 => ?_) (fun c_134 => ?_)
                        ·
                          exfalso; omega
                        ·
                          refine r_iload_n hc dL_isCarried_137 rfl ?_
                          refine r_if_ne (tgt := 155) hc dL_isCarried_138 (by decide) (e0_N (by omega)) (fun c_138 => ?_) (fun c_138 => ?_)
                          ·
                            refine r_aload_n hc dL_isCarried_155 rfl ?_
                            refine cl_L_92 (As := []) hc (m_carryPlan hG (by omega)) hG.sh rfl ⟨by decide, by decide⟩ ⟨rfl, rfl⟩ ⟨by decide, by decide⟩ rfl (Nat.le_of_ble_eq_true rfl) dL_isCarried_156 (fun r u hp => ?_)
                            obtain ⟨⟨y, w⟩, rfl, hG0, hX⟩ := hp
                            have hT := t_carry hG.ok hL hX
                            dsimp only at hT
                            have hG2 : GS z sh P w u := hG0
                            obtain ⟨hL2, e6, hT⟩ := hT
                            rcases hT with ⟨hno, hy, hw⟩ | ⟨h9, ho, hy, w9⟩
                            ·
                              have hL21 := hL2.1
                              subst hy
                              rw [hw] at hG2 hL2 e6 hL21
                              have hG := hG2
                              refine r_istore (ls' := [(9, .int (zI (-5))), (8, .int (nI (v 7))), (7, .int (nI (inLk v))), (6, .int (zI (sLast v))), (5, .int (zI (sPlanOrder v ((v 9 - 1 : Nat) : Int)))), (4, .int (nI (mC v (v 9) 0))), (3, .int (nI (oC v (v 9) 0))), (2, .int (zI (sPlanOrder v ((0 : Nat) : Int)))), (1, .int (nI (v 9))), (0, .ref P)]) hc dL_isCarried_159 (by decide) rfl ?_
                              refine r_iload_n hc dL_isCarried_161 rfl ?_
                              refine r_if_eq (tgt := 169) hc dL_isCarried_162 (by decide) (e0_N (by omega)) (fun c_162 => ?_) (fun c_162 => ?_)
                              ·
                                exfalso; omega
                              ·
                                refine r_iload_n hc dL_isCarried_165 rfl ?_
                                refine r_if_ne (tgt := 213) hc dL_isCarried_166 (by decide) (e0_N (by omega)) (fun c_166 => ?_) (fun c_166 => ?_)
                                ·
                                  exfalso; omega
                                ·
                                  exfalso; omega
                            ·
                              have hL21 := hL2.1
                              subst hy
                              have hn2 := hG2.nums
                              have hG := hG2
                              refine r_istore (ls' := [(9, .int (zI (((w 7 : Nat) : Int)))), (8, .int (nI (v 7))), (7, .int (nI (inLk v))), (6, .int (zI (sLast v))), (5, .int (zI (sPlanOrder v ((v 9 - 1 : Nat) : Int)))), (4, .int (nI (mC v (v 9) 0))), (3, .int (nI (oC v (v 9) 0))), (2, .int (zI (sPlanOrder v ((0 : Nat) : Int)))), (1, .int (nI (v 9))), (0, .ref P)]) hc dL_isCarried_159 (by decide) rfl ?_
                              refine r_iload_n hc dL_isCarried_161 rfl ?_
                              refine r_if_eq (tgt := 169) hc dL_isCarried_162 (by decide) (e0_N (by omega)) (fun c_162 => ?_) (fun c_162 => ?_)
                              ·
                                exfalso; omega
                              ·
                                refine r_iload_n hc dL_isCarried_165 rfl ?_
                                refine r_if_ne (tgt := 213) hc dL_isCarried_166 (by decide) (e0_N (by omega)) (fun c_166 => ?_) (fun c_166 => ?_)
                                ·
                                  refine r_iload hc dL_isCarried_213 rfl ?_
                                  refine r_aload_n hc dL_isCarried_215 rfl ?_
                                  refine r_bipush (v := nI 7) hc dL_isCarried_216 rfl ?_
                                  refine cl_L_14 (As := [.int (nI 7)]) hc (qc_7 hG (by omega)) hG.sh rfl ⟨by decide, by decide⟩ ⟨rfl, rfl⟩ ⟨by decide, by decide⟩ rfl (Nat.le_of_ble_eq_true rfl) dL_isCarried_218 (fun r u hp => ?_)
                                  obtain ⟨rfl, hG⟩ := hp
                                  refine r_icmp_ne (tgt := 237) hc dL_isCarried_221 (by decide) (eq_ZN (by omega) (by omega)) (fun c_221 => ?_) (fun c_221 => ?_)
                                  ·
                                    exfalso; omega
                                  ·
                                    refine r_aload_n hc dL_isCarried_224 rfl ?_
                                    refine r_bipush (v := nI 9) hc dL_isCarried_225 rfl ?_
                                    refine cl_L_14 (As := [.int (nI 9)]) hc (qc_9 hG (by omega)) hG.sh rfl ⟨by decide, by decide⟩ ⟨rfl, rfl⟩ ⟨by decide, by decide⟩ rfl (Nat.le_of_ble_eq_true rfl) dL_isCarried_227 (fun r u hp => ?_)
                                    obtain ⟨rfl, hG⟩ := hp
                                    refine r_if_ne (tgt := 237) hc dL_isCarried_230 (by decide) (e0_N (by omega)) (fun c_230 => ?_) (fun c_230 => ?_)
                                    ·
                                      exfalso; omega
                                    ·
                                      refine r_iconst (v := nI 1) hc dL_isCarried_233 rfl ?_
                                      refine r_goto (tgt := 238) hc dL_isCarried_234 (by decide) ?_
                                      exact hR _ _ ⟨rfl, w, hG, hL2, by omega⟩ rfl _ _ dL_isCarried_238
                                ·
                                  exfalso; omega
                          ·
                            exfalso; omega
                  ·
                    refine r_iload hc dL_isCarried_114 rfl ?_
                    refine r_iload hc dL_isCarried_116 rfl ?_
                    refine r_icmp_ne (tgt := 153) hc dL_isCarried_118 (by decide) (eq_ZZ (by omega) (by omega)) (fun c_118 => ?_) (fun c_118 => ?_)
                    ·
                      exfalso; omega
                    ·
                      refine r_iload_n hc dL_isCarried_121 rfl ?_
                      refine r_iconst (v := nI 1) hc dL_isCarried_122 rfl ?_
                      refine r_icmp_ne (tgt := 137) hc dL_isCarried_123 (by decide) (eq_NN (by omega) (by omega)) (fun c_123 => ?_) (fun c_123 => ?_)
                      ·
                        refine r_iload_n hc dL_isCarried_137 rfl ?_
                        refine r_if_ne (tgt := 155) hc dL_isCarried_138 (by decide) (e0_N (by omega)) (fun c_138 => ?_) (fun c_138 => ?_)
                        ·
                          refine r_aload_n hc dL_isCarried_155 rfl ?_
                          refine cl_L_92 (As := []) hc (m_carryPlan hG (by omega)) hG.sh rfl ⟨by decide, by decide⟩ ⟨rfl, rfl⟩ ⟨by decide, by decide⟩ rfl (Nat.le_of_ble_eq_true rfl) dL_isCarried_156 (fun r u hp => ?_)
                          obtain ⟨⟨y, w⟩, rfl, hG0, hX⟩ := hp
                          have hT := t_carry hG.ok hL hX
                          dsimp only at hT
                          have hG2 : GS z sh P w u := hG0
                          obtain ⟨hL2, e6, hT⟩ := hT
                          rcases hT with ⟨hno, hy, hw⟩ | ⟨h9, ho, hy, w9⟩
                          ·
                            have hL21 := hL2.1
                            subst hy
                            rw [hw] at hG2 hL2 e6 hL21
                            have hG := hG2
                            refine r_istore (ls' := [(9, .int (zI (-5))), (8, .int (nI (v 7))), (7, .int (nI (inLk v))), (6, .int (zI (sLast v))), (5, .int (zI (sPlanOrder v ((v 9 - 1 : Nat) : Int)))), (4, .int (nI (mC v (v 9) 0))), (3, .int (nI (oC v (v 9) 0))), (2, .int (zI (sPlanOrder v ((0 : Nat) : Int)))), (1, .int (nI (v 9))), (0, .ref P)]) hc dL_isCarried_159 (by decide) rfl ?_
                            refine r_iload_n hc dL_isCarried_161 rfl ?_
                            refine r_if_eq (tgt := 169) hc dL_isCarried_162 (by decide) (e0_N (by omega)) (fun c_162 => ?_) (fun c_162 => ?_)
                            ·
                              exfalso; omega
                            ·
                              refine r_iload_n hc dL_isCarried_165 rfl ?_
                              refine r_if_ne (tgt := 213) hc dL_isCarried_166 (by decide) (e0_N (by omega)) (fun c_166 => ?_) (fun c_166 => ?_)
                              ·
                                exfalso; omega
                              ·
                                exfalso; omega
                          ·
                            have hL21 := hL2.1
                            subst hy
                            have hn2 := hG2.nums
                            have hG := hG2
                            refine r_istore (ls' := [(9, .int (zI (((w 7 : Nat) : Int)))), (8, .int (nI (v 7))), (7, .int (nI (inLk v))), (6, .int (zI (sLast v))), (5, .int (zI (sPlanOrder v ((v 9 - 1 : Nat) : Int)))), (4, .int (nI (mC v (v 9) 0))), (3, .int (nI (oC v (v 9) 0))), (2, .int (zI (sPlanOrder v ((0 : Nat) : Int)))), (1, .int (nI (v 9))), (0, .ref P)]) hc dL_isCarried_159 (by decide) rfl ?_
                            refine r_iload_n hc dL_isCarried_161 rfl ?_
                            refine r_if_eq (tgt := 169) hc dL_isCarried_162 (by decide) (e0_N (by omega)) (fun c_162 => ?_) (fun c_162 => ?_)
                            ·
                              exfalso; omega
                            ·
                              refine r_iload_n hc dL_isCarried_165 rfl ?_
                              refine r_if_ne (tgt := 213) hc dL_isCarried_166 (by decide) (e0_N (by omega)) (fun c_166 => ?_) (fun c_166 => ?_)
                              ·
                                refine r_iload hc dL_isCarried_213 rfl ?_
                                refine r_aload_n hc dL_isCarried_215 rfl ?_
                                refine r_bipush (v := nI 7) hc dL_isCarried_216 rfl ?_
                                refine cl_L_14 (As := [.int (nI 7)]) hc (qc_7 hG (by omega)) hG.sh rfl ⟨by decide, by decide⟩ ⟨rfl, rfl⟩ ⟨by decide, by decide⟩ rfl (Nat.le_of_ble_eq_true rfl) dL_isCarried_218 (fun r u hp => ?_)
                                obtain ⟨rfl, hG⟩ := hp
                                refine r_icmp_ne (tgt := 237) hc dL_isCarried_221 (by decide) (eq_ZN (by omega) (by omega)) (fun c_221 => ?_) (fun c_221 => ?_)
                                ·
                                  exfalso; omega
                                ·
                                  refine r_aload_n hc dL_isCarried_224 rfl ?_
                                  refine r_bipush (v := nI 9) hc dL_isCarried_225 rfl ?_
                                  refine cl_L_14 (As := [.int (nI 9)]) hc (qc_9 hG (by omega)) hG.sh rfl ⟨by decide, by decide⟩ ⟨rfl, rfl⟩ ⟨by decide, by decide⟩ rfl (Nat.le_of_ble_eq_true rfl) dL_isCarried_227 (fun r u hp => ?_)
                                  obtain ⟨rfl, hG⟩ := hp
                                  refine r_if_ne (tgt := 237) hc dL_isCarried_230 (by decide) (e0_N (by omega)) (fun c_230 => ?_) (fun c_230 => ?_)
                                  ·
                                    exfalso; omega
                                  ·
                                    refine r_iconst (v := nI 1) hc dL_isCarried_233 rfl ?_
                                    refine r_goto (tgt := 238) hc dL_isCarried_234 (by decide) ?_
                                    exact hR _ _ ⟨rfl, w, hG, hL2, by omega⟩ rfl _ _ dL_isCarried_238
                              ·
                                exfalso; omega
                        ·
                          exfalso; omega
                      ·
                        refine r_iload_n hc dL_isCarried_126 rfl ?_
                        refine r_if_le (tgt := 137) hc dL_isCarried_127 (by decide) (le0_N (by omega)) (fun c_127 => ?_) (fun c_127 => ?_)
                        ·
                          exfalso; omega
                        ·
                          refine r_iload hc dL_isCarried_130 rfl ?_
                          refine r_iload hc dL_isCarried_132 rfl ?_
                          refine r_icmp_ne (tgt := 153) hc dL_isCarried_134 (by decide) (eq_ZZ (by omega) (by omega)) (fun c_134 => ?_) (fun c_134 => ?_)
                          ·
                            exfalso; omega
                          ·
                            refine r_iload_n hc dL_isCarried_137 rfl ?_
                            refine r_if_ne (tgt := 155) hc dL_isCarried_138 (by decide) (e0_N (by omega)) (fun c_138 => ?_) (fun c_138 => ?_)
                            ·
                              refine r_aload_n hc dL_isCarried_155 rfl ?_
                              refine cl_L_92 (As := []) hc (m_carryPlan hG (by omega)) hG.sh rfl ⟨by decide, by decide⟩ ⟨rfl, rfl⟩ ⟨by decide, by decide⟩ rfl (Nat.le_of_ble_eq_true rfl) dL_isCarried_156 (fun r u hp => ?_)
                              obtain ⟨⟨y, w⟩, rfl, hG0, hX⟩ := hp
                              have hT := t_carry hG.ok hL hX
                              dsimp only at hT
                              have hG2 : GS z sh P w u := hG0
                              obtain ⟨hL2, e6, hT⟩ := hT
                              rcases hT with ⟨hno, hy, hw⟩ | ⟨h9, ho, hy, w9⟩
                              ·
                                have hL21 := hL2.1
                                subst hy
                                rw [hw] at hG2 hL2 e6 hL21
                                have hG := hG2
                                refine r_istore (ls' := [(9, .int (zI (-5))), (8, .int (nI (v 7))), (7, .int (nI (inLk v))), (6, .int (zI (sLast v))), (5, .int (zI (sPlanOrder v ((v 9 - 1 : Nat) : Int)))), (4, .int (nI (mC v (v 9) 0))), (3, .int (nI (oC v (v 9) 0))), (2, .int (zI (sPlanOrder v ((0 : Nat) : Int)))), (1, .int (nI (v 9))), (0, .ref P)]) hc dL_isCarried_159 (by decide) rfl ?_
                                refine r_iload_n hc dL_isCarried_161 rfl ?_
                                refine r_if_eq (tgt := 169) hc dL_isCarried_162 (by decide) (e0_N (by omega)) (fun c_162 => ?_) (fun c_162 => ?_)
                                ·
                                  exfalso; omega
                                ·
                                  refine r_iload_n hc dL_isCarried_165 rfl ?_
                                  refine r_if_ne (tgt := 213) hc dL_isCarried_166 (by decide) (e0_N (by omega)) (fun c_166 => ?_) (fun c_166 => ?_)
                                  ·
                                    exfalso; omega
                                  ·
                                    exfalso; omega
                              ·
                                have hL21 := hL2.1
                                subst hy
                                have hn2 := hG2.nums
                                have hG := hG2
                                refine r_istore (ls' := [(9, .int (zI (((w 7 : Nat) : Int)))), (8, .int (nI (v 7))), (7, .int (nI (inLk v))), (6, .int (zI (sLast v))), (5, .int (zI (sPlanOrder v ((v 9 - 1 : Nat) : Int)))), (4, .int (nI (mC v (v 9) 0))), (3, .int (nI (oC v (v 9) 0))), (2, .int (zI (sPlanOrder v ((0 : Nat) : Int)))), (1, .int (nI (v 9))), (0, .ref P)]) hc dL_isCarried_159 (by decide) rfl ?_
                                refine r_iload_n hc dL_isCarried_161 rfl ?_
                                refine r_if_eq (tgt := 169) hc dL_isCarried_162 (by decide) (e0_N (by omega)) (fun c_162 => ?_) (fun c_162 => ?_)
                                ·
                                  exfalso; omega
                                ·
                                  refine r_iload_n hc dL_isCarried_165 rfl ?_
                                  refine r_if_ne (tgt := 213) hc dL_isCarried_166 (by decide) (e0_N (by omega)) (fun c_166 => ?_) (fun c_166 => ?_)
                                  ·
                                    refine r_iload hc dL_isCarried_213 rfl ?_
                                    refine r_aload_n hc dL_isCarried_215 rfl ?_
                                    refine r_bipush (v := nI 7) hc dL_isCarried_216 rfl ?_
                                    refine cl_L_14 (As := [.int (nI 7)]) hc (qc_7 hG (by omega)) hG.sh rfl ⟨by decide, by decide⟩ ⟨rfl, rfl⟩ ⟨by decide, by decide⟩ rfl (Nat.le_of_ble_eq_true rfl) dL_isCarried_218 (fun r u hp => ?_)
                                    obtain ⟨rfl, hG⟩ := hp
                                    refine r_icmp_ne (tgt := 237) hc dL_isCarried_221 (by decide) (eq_ZN (by omega) (by omega)) (fun c_221 => ?_) (fun c_221 => ?_)
                                    ·
                                      exfalso; omega
                                    ·
                                      refine r_aload_n hc dL_isCarried_224 rfl ?_
                                      refine r_bipush (v := nI 9) hc dL_isCarried_225 rfl ?_
                                      refine cl_L_14 (As := [.int (nI 9)]) hc (qc_9 hG (by omega)) hG.sh rfl ⟨by decide, by decide⟩ ⟨rfl, rfl⟩ ⟨by decide, by decide⟩ rfl (Nat.le_of_ble_eq_true rfl) dL_isCarried_227 (fun r u hp => ?_)
                                      obtain ⟨rfl, hG⟩ := hp
                                      refine r_if_ne (tgt := 237) hc dL_isCarried_230 (by decide) (e0_N (by omega)) (fun c_230 => ?_) (fun c_230 => ?_)
                                      ·
                                        exfalso; omega
                                      ·
                                        refine r_iconst (v := nI 1) hc dL_isCarried_233 rfl ?_
                                        refine r_goto (tgt := 238) hc dL_isCarried_234 (by decide) ?_
                                        exact hR _ _ ⟨rfl, w, hG, hL2, by omega⟩ rfl _ _ dL_isCarried_238
                                  ·
                                    exfalso; omega
                            ·
                              exfalso; omega
      ·
        refine r_iconst (v := nI 1) hc dL_isCarried_76 rfl ?_
        refine r_goto (tgt := 81) hc dL_isCarried_77 (by decide) ?_
        refine r_icmp_ne (tgt := 153) hc dL_isCarried_81 (by decide) (eq_NN (by omega) (by omega)) (fun c_81 => ?_) (fun c_81 => ?_)
        ·
          exfalso; omega
        ·
          exfalso; omega
    ·
      refine r_iconst (v := nI 1) hc dL_isCarried_66 rfl ?_
      refine r_goto (tgt := 71) hc dL_isCarried_67 (by decide) ?_
      refine r_iload hc dL_isCarried_71 rfl ?_
      refine r_if_le (tgt := 80) hc dL_isCarried_73 (by decide) (le0_N (by omega)) (fun c_73 => ?_) (fun c_73 => ?_)
      ·
        refine r_iconst (v := nI 0) hc dL_isCarried_80 rfl ?_
        refine r_icmp_ne (tgt := 153) hc dL_isCarried_81 (by decide) (eq_NN (by omega) (by omega)) (fun c_81 => ?_) (fun c_81 => ?_)
        ·
          exfalso; omega
        ·
          exfalso; omega
      ·
        refine r_iconst (v := nI 1) hc dL_isCarried_76 rfl ?_
        refine r_goto (tgt := 81) hc dL_isCarried_77 (by decide) ?_
        refine r_icmp_ne (tgt := 153) hc dL_isCarried_81 (by decide) (eq_NN (by omega) (by omega)) (fun c_81 => ?_) (fun c_81 => ?_)
        ·
          exfalso; omega
        ·
          refine r_iload_n hc dL_isCarried_84 rfl ?_
          refine r_if_le (tgt := 109) hc dL_isCarried_85 (by decide) (le0_N (by omega)) (fun c_85 => ?_) (fun c_85 => ?_)
          ·
            refine r_iload hc dL_isCarried_109 rfl ?_
            refine r_if_lt (tgt := 121) hc dL_isCarried_111 (by decide) (l0_Z (by omega)) (fun c_111 => ?_) (fun c_111 => ?_)
            ·
              refine r_iload_n hc dL_isCarried_121 rfl ?_
              refine r_iconst (v := nI 1) hc dL_isCarried_122 rfl ?_
              refine r_icmp_ne (tgt := 137) hc dL_isCarried_123 (by decide) (eq_NN (by omega) (by omega)) (fun c_123 => ?_) (fun c_123 => ?_)
              ·
                refine r_iload_n hc dL_isCarried_137 rfl ?_
                refine r_if_ne (tgt := 155) hc dL_isCarried_138 (by decide) (e0_N (by omega)) (fun c_138 => ?_) (fun c_138 => ?_)
                ·
                  refine r_aload_n hc dL_isCarried_155 rfl ?_
                  refine cl_L_92 (As := []) hc (m_carryPlan hG (by omega)) hG.sh rfl ⟨by decide, by decide⟩ ⟨rfl, rfl⟩ ⟨by decide, by decide⟩ rfl (Nat.le_of_ble_eq_true rfl) dL_isCarried_156 (fun r u hp => ?_)
                  obtain ⟨⟨y, w⟩, rfl, hG0, hX⟩ := hp
                  have hT := t_carry hG.ok hL hX
                  dsimp only at hT
                  have hG2 : GS z sh P w u := hG0
                  obtain ⟨hL2, e6, hT⟩ := hT
                  rcases hT with ⟨hno, hy, hw⟩ | ⟨h9, ho, hy, w9⟩
                  ·
                    have hL21 := hL2.1
                    subst hy
                    rw [hw] at hG2 hL2 e6 hL21
                    have hG := hG2
                    refine r_istore (ls' := [(9, .int (zI (-5))), (8, .int (nI (v 7))), (7, .int (nI (inLk v))), (6, .int (zI (sLast v))), (5, .int (zI (sPlanOrder v ((v 9 - 1 : Nat) : Int)))), (4, .int (nI (mC v (v 9) 0))), (3, .int (nI (oC v (v 9) 0))), (2, .int (zI (sPlanOrder v ((0 : Nat) : Int)))), (1, .int (nI (v 9))), (0, .ref P)]) hc dL_isCarried_159 (by decide) rfl ?_
                    refine r_iload_n hc dL_isCarried_161 rfl ?_
                    refine r_if_eq (tgt := 169) hc dL_isCarried_162 (by decide) (e0_N (by omega)) (fun c_162 => ?_) (fun c_162 => ?_)
                    ·
                      exfalso; omega
                    ·
                      refine r_iload_n hc dL_isCarried_165 rfl ?_
                      refine r_if_ne (tgt := 213) hc dL_isCarried_166 (by decide) (e0_N (by omega)) (fun c_166 => ?_) (fun c_166 => ?_)
                      ·
                        exfalso; omega
                      ·
                        refine r_iload hc dL_isCarried_169 rfl ?_
                        refine r_bipush (v := zI (-5)) hc dL_isCarried_171 rfl ?_
                        refine r_icmp_ne (tgt := 211) hc dL_isCarried_173 (by decide) (eq_ZZ (by omega) (by omega)) (fun c_173 => ?_) (fun c_173 => ?_)
                        ·
                          exfalso; omega
                        ·
                          refine r_aload_n hc dL_isCarried_176 rfl ?_
                          refine r_bipush (v := nI 9) hc dL_isCarried_177 rfl ?_
                          refine cl_L_14 (As := [.int (nI 9)]) hc (qc_9 hG (by omega)) hG.sh rfl ⟨by decide, by decide⟩ ⟨rfl, rfl⟩ ⟨by decide, by decide⟩ rfl (Nat.le_of_ble_eq_true rfl) dL_isCarried_179 (fun r u hp => ?_)
                          obtain ⟨rfl, hG⟩ := hp
                          refine r_iload_n hc dL_isCarried_182 rfl ?_
                          refine r_icmp_ne (tgt := 211) hc dL_isCarried_183 (by decide) (eq_NN (by omega) (by omega)) (fun c_183 => ?_) (fun c_183 => ?_)
                          ·
                            exfalso; omega
                          ·
                            refine r_aload_n hc dL_isCarried_186 rfl ?_
                            refine r_bipush (v := nI 7) hc dL_isCarried_187 rfl ?_
                            refine cl_L_14 (As := [.int (nI 7)]) hc (qc_7 hG (by omega)) hG.sh rfl ⟨by decide, by decide⟩ ⟨rfl, rfl⟩ ⟨by decide, by decide⟩ rfl (Nat.le_of_ble_eq_true rfl) dL_isCarried_189 (fun r u hp => ?_)
                            obtain ⟨rfl, hG⟩ := hp
                            refine r_iload hc dL_isCarried_192 rfl ?_
                            refine r_icmp_ne (tgt := 211) hc dL_isCarried_194 (by decide) (eq_NN (by omega) (by omega)) (fun c_194 => ?_) (fun c_194 => ?_)
                            ·
                              exfalso; omega
                            ·
                              refine r_aload_n hc dL_isCarried_197 rfl ?_
                              refine r_iconst (v := nI 5) hc dL_isCarried_198 rfl ?_
                              refine cl_L_14 (As := [.int (nI 5)]) hc (qc_5 hG (by omega)) hG.sh rfl ⟨by decide, by decide⟩ ⟨rfl, rfl⟩ ⟨by decide, by decide⟩ rfl (Nat.le_of_ble_eq_true rfl) dL_isCarried_199 (fun r u hp => ?_)
                              obtain ⟨rfl, hG⟩ := hp
                              refine r_iload hc dL_isCarried_202 rfl ?_
                              refine r_icmp_ne (tgt := 211) hc dL_isCarried_204 (by decide) (eq_NN (by omega) (by omega)) (fun c_204 => ?_) (fun c_204 => ?_)
                              ·
                                exfalso; omega
                              ·
                                refine r_iconst (v := nI 1) hc dL_isCarried_207 rfl ?_
                                refine r_goto (tgt := 212) hc dL_isCarried_208 (by decide) ?_
                                exact hR _ _ ⟨rfl, v, hG, hL2, by omega⟩ rfl _ _ dL_isCarried_212
                  ·
                    have hL21 := hL2.1
                    subst hy
                    have hn2 := hG2.nums
                    have hG := hG2
                    refine r_istore (ls' := [(9, .int (zI (((w 7 : Nat) : Int)))), (8, .int (nI (v 7))), (7, .int (nI (inLk v))), (6, .int (zI (sLast v))), (5, .int (zI (sPlanOrder v ((v 9 - 1 : Nat) : Int)))), (4, .int (nI (mC v (v 9) 0))), (3, .int (nI (oC v (v 9) 0))), (2, .int (zI (sPlanOrder v ((0 : Nat) : Int)))), (1, .int (nI (v 9))), (0, .ref P)]) hc dL_isCarried_159 (by decide) rfl ?_
                    refine r_iload_n hc dL_isCarried_161 rfl ?_
                    refine r_if_eq (tgt := 169) hc dL_isCarried_162 (by decide) (e0_N (by omega)) (fun c_162 => ?_) (fun c_162 => ?_)
                    ·
                      exfalso; omega
                    ·
                      refine r_iload_n hc dL_isCarried_165 rfl ?_
                      refine r_if_ne (tgt := 213) hc dL_isCarried_166 (by decide) (e0_N (by omega)) (fun c_166 => ?_) (fun c_166 => ?_)
                      ·
                        exfalso; omega
                      ·
                        exfalso; omega
                ·
                  exfalso; omega
              ·
                exfalso; omega
            ·
              refine r_iload hc dL_isCarried_114 rfl ?_
              refine r_iload hc dL_isCarried_116 rfl ?_
              refine r_icmp_ne (tgt := 153) hc dL_isCarried_118 (by decide) (eq_ZZ (by omega) (by omega)) (fun c_118 => ?_) (fun c_118 => ?_)
              ·
                exfalso; omega
              ·
                refine r_iload_n hc dL_isCarried_121 rfl ?_
                refine r_iconst (v := nI 1) hc dL_isCarried_122 rfl ?_
                refine r_icmp_ne (tgt := 137) hc dL_isCarried_123 (by decide) (eq_NN (by omega) (by omega)) (fun c_123 => ?_) (fun c_123 => ?_)
                ·
                  refine r_iload_n hc dL_isCarried_137 rfl ?_
                  refine r_if_ne (tgt := 155) hc dL_isCarried_138 (by decide) (e0_N (by omega)) (fun c_138 => ?_) (fun c_138 => ?_)
                  ·
                    refine r_aload_n hc dL_isCarried_155 rfl ?_
                    refine cl_L_92 (As := []) hc (m_carryPlan hG (by omega)) hG.sh rfl ⟨by decide, by decide⟩ ⟨rfl, rfl⟩ ⟨by decide, by decide⟩ rfl (Nat.le_of_ble_eq_true rfl) dL_isCarried_156 (fun r u hp => ?_)
                    obtain ⟨⟨y, w⟩, rfl, hG0, hX⟩ := hp
                    have hT := t_carry hG.ok hL hX
                    dsimp only at hT
                    have hG2 : GS z sh P w u := hG0
                    obtain ⟨hL2, e6, hT⟩ := hT
                    rcases hT with ⟨hno, hy, hw⟩ | ⟨h9, ho, hy, w9⟩
                    ·
                      have hL21 := hL2.1
                      subst hy
                      rw [hw] at hG2 hL2 e6 hL21
                      have hG := hG2
                      refine r_istore (ls' := [(9, .int (zI (-5))), (8, .int (nI (v 7))), (7, .int (nI (inLk v))), (6, .int (zI (sLast v))), (5, .int (zI (sPlanOrder v ((v 9 - 1 : Nat) : Int)))), (4, .int (nI (mC v (v 9) 0))), (3, .int (nI (oC v (v 9) 0))), (2, .int (zI (sPlanOrder v ((0 : Nat) : Int)))), (1, .int (nI (v 9))), (0, .ref P)]) hc dL_isCarried_159 (by decide) rfl ?_
                      refine r_iload_n hc dL_isCarried_161 rfl ?_
                      refine r_if_eq (tgt := 169) hc dL_isCarried_162 (by decide) (e0_N (by omega)) (fun c_162 => ?_) (fun c_162 => ?_)
                      ·
                        exfalso; omega
                      ·
                        refine r_iload_n hc dL_isCarried_165 rfl ?_
                        refine r_if_ne (tgt := 213) hc dL_isCarried_166 (by decide) (e0_N (by omega)) (fun c_166 => ?_) (fun c_166 => ?_)
                        ·
                          exfalso; omega
                        ·
                          refine r_iload hc dL_isCarried_169 rfl ?_
                          refine r_bipush (v := zI (-5)) hc dL_isCarried_171 rfl ?_
                          refine r_icmp_ne (tgt := 211) hc dL_isCarried_173 (by decide) (eq_ZZ (by omega) (by omega)) (fun c_173 => ?_) (fun c_173 => ?_)
                          ·
                            exfalso; omega
                          ·
                            refine r_aload_n hc dL_isCarried_176 rfl ?_
                            refine r_bipush (v := nI 9) hc dL_isCarried_177 rfl ?_
                            refine cl_L_14 (As := [.int (nI 9)]) hc (qc_9 hG (by omega)) hG.sh rfl ⟨by decide, by decide⟩ ⟨rfl, rfl⟩ ⟨by decide, by decide⟩ rfl (Nat.le_of_ble_eq_true rfl) dL_isCarried_179 (fun r u hp => ?_)
                            obtain ⟨rfl, hG⟩ := hp
                            refine r_iload_n hc dL_isCarried_182 rfl ?_
                            refine r_icmp_ne (tgt := 211) hc dL_isCarried_183 (by decide) (eq_NN (by omega) (by omega)) (fun c_183 => ?_) (fun c_183 => ?_)
                            ·
                              exfalso; omega
                            ·
                              refine r_aload_n hc dL_isCarried_186 rfl ?_
                              refine r_bipush (v := nI 7) hc dL_isCarried_187 rfl ?_
                              refine cl_L_14 (As := [.int (nI 7)]) hc (qc_7 hG (by omega)) hG.sh rfl ⟨by decide, by decide⟩ ⟨rfl, rfl⟩ ⟨by decide, by decide⟩ rfl (Nat.le_of_ble_eq_true rfl) dL_isCarried_189 (fun r u hp => ?_)
                              obtain ⟨rfl, hG⟩ := hp
                              refine r_iload hc dL_isCarried_192 rfl ?_
                              refine r_icmp_ne (tgt := 211) hc dL_isCarried_194 (by decide) (eq_NN (by omega) (by omega)) (fun c_194 => ?_) (fun c_194 => ?_)
                              ·
                                exfalso; omega
                              ·
                                refine r_aload_n hc dL_isCarried_197 rfl ?_
                                refine r_iconst (v := nI 5) hc dL_isCarried_198 rfl ?_
                                refine cl_L_14 (As := [.int (nI 5)]) hc (qc_5 hG (by omega)) hG.sh rfl ⟨by decide, by decide⟩ ⟨rfl, rfl⟩ ⟨by decide, by decide⟩ rfl (Nat.le_of_ble_eq_true rfl) dL_isCarried_199 (fun r u hp => ?_)
                                obtain ⟨rfl, hG⟩ := hp
                                refine r_iload hc dL_isCarried_202 rfl ?_
                                refine r_icmp_ne (tgt := 211) hc dL_isCarried_204 (by decide) (eq_NN (by omega) (by omega)) (fun c_204 => ?_) (fun c_204 => ?_)
                                ·
                                  exfalso; omega
                                ·
                                  refine r_iconst (v := nI 1) hc dL_isCarried_207 rfl ?_
                                  refine r_goto (tgt := 212) hc dL_isCarried_208 (by decide) ?_
                                  exact hR _ _ ⟨rfl, v, hG, hL2, by omega⟩ rfl _ _ dL_isCarried_212
                    ·
                      have hL21 := hL2.1
                      subst hy
                      have hn2 := hG2.nums
                      have hG := hG2
                      refine r_istore (ls' := [(9, .int (zI (((w 7 : Nat) : Int)))), (8, .int (nI (v 7))), (7, .int (nI (inLk v))), (6, .int (zI (sLast v))), (5, .int (zI (sPlanOrder v ((v 9 - 1 : Nat) : Int)))), (4, .int (nI (mC v (v 9) 0))), (3, .int (nI (oC v (v 9) 0))), (2, .int (zI (sPlanOrder v ((0 : Nat) : Int)))), (1, .int (nI (v 9))), (0, .ref P)]) hc dL_isCarried_159 (by decide) rfl ?_
                      refine r_iload_n hc dL_isCarried_161 rfl ?_
                      refine r_if_eq (tgt := 169) hc dL_isCarried_162 (by decide) (e0_N (by omega)) (fun c_162 => ?_) (fun c_162 => ?_)
                      ·
                        exfalso; omega
                      ·
                        refine r_iload_n hc dL_isCarried_165 rfl ?_
                        refine r_if_ne (tgt := 213) hc dL_isCarried_166 (by decide) (e0_N (by omega)) (fun c_166 => ?_) (fun c_166 => ?_)
                        ·
                          exfalso; omega
                        ·
                          exfalso; omega
                  ·
                    exfalso; omega
                ·
                  exfalso; omega
          ·
            refine r_iload_n hc dL_isCarried_88 rfl ?_
            refine r_if_ne (tgt := 96) hc dL_isCarried_89 (by decide) (e0_N (by omega)) (fun c_89 => ?_) (fun c_89 => ?_)
            ·
              refine r_iconst (v := nI 0) hc dL_isCarried_96 rfl ?_
              refine r_iload_n hc dL_isCarried_97 rfl ?_
              refine r_if_ge (tgt := 105) hc dL_isCarried_98 (by decide) (ge0_Z (by omega)) (fun c_98 => ?_) (fun c_98 => ?_)
              ·
                refine r_iconst (v := nI 0) hc dL_isCarried_105 rfl ?_
                refine r_icmp_ne (tgt := 153) hc dL_isCarried_106 (by decide) (eq_NN (by omega) (by omega)) (fun c_106 => ?_) (fun c_106 => ?_)
                ·
                  exfalso; omega
                ·
                  refine r_iload hc dL_isCarried_109 rfl ?_
                  refine r_if_lt (tgt := 121) hc dL_isCarried_111 (by decide) (l0_Z (by omega)) (fun c_111 => ?_) (fun c_111 => ?_)
                  ·
                    refine r_iload_n hc dL_isCarried_121 rfl ?_
                    refine r_iconst (v := nI 1) hc dL_isCarried_122 rfl ?_
                    refine r_icmp_ne (tgt := 137) hc dL_isCarried_123 (by decide) (eq_NN (by omega) (by omega)) (fun c_123 => ?_) (fun c_123 => ?_)
                    ·
                      refine r_iload_n hc dL_isCarried_137 rfl ?_
                      refine r_if_ne (tgt := 155) hc dL_isCarried_138 (by decide) (e0_N (by omega)) (fun c_138 => ?_) (fun c_138 => ?_)
                      ·
                        refine r_aload_n hc dL_isCarried_155 rfl ?_
                        refine cl_L_92 (As := []) hc (m_carryPlan hG (by omega)) hG.sh rfl ⟨by decide, by decide⟩ ⟨rfl, rfl⟩ ⟨by decide, by decide⟩ rfl (Nat.le_of_ble_eq_true rfl) dL_isCarried_156 (fun r u hp => ?_)
                        obtain ⟨⟨y, w⟩, rfl, hG0, hX⟩ := hp
                        have hT := t_carry hG.ok hL hX
                        dsimp only at hT
                        have hG2 : GS z sh P w u := hG0
                        obtain ⟨hL2, e6, hT⟩ := hT
                        rcases hT with ⟨hno, hy, hw⟩ | ⟨h9, ho, hy, w9⟩
                        ·
                          have hL21 := hL2.1
                          subst hy
                          rw [hw] at hG2 hL2 e6 hL21
                          have hG := hG2
                          refine r_istore (ls' := [(9, .int (zI (-5))), (8, .int (nI (v 7))), (7, .int (nI (inLk v))), (6, .int (zI (sLast v))), (5, .int (zI (sPlanOrder v ((v 9 - 1 : Nat) : Int)))), (4, .int (nI (mC v (v 9) 0))), (3, .int (nI (oC v (v 9) 0))), (2, .int (zI (sPlanOrder v ((0 : Nat) : Int)))), (1, .int (nI (v 9))), (0, .ref P)]) hc dL_isCarried_159 (by decide) rfl ?_
                          refine r_iload_n hc dL_isCarried_161 rfl ?_
                          refine r_if_eq (tgt := 169) hc dL_isCarried_162 (by decide) (e0_N (by omega)) (fun c_162 => ?_) (fun c_162 => ?_)
                          ·
                            exfalso; omega
                          ·
                            refine r_iload_n hc dL_isCarried_165 rfl ?_
                            refine r_if_ne (tgt := 213) hc dL_isCarried_166 (by decide) (e0_N (by omega)) (fun c_166 => ?_) (fun c_166 => ?_)
                            ·
                              exfalso; omega
                            ·
                              refine r_iload hc dL_isCarried_169 rfl ?_
                              refine r_bipush (v := zI (-5)) hc dL_isCarried_171 rfl ?_
                              refine r_icmp_ne (tgt := 211) hc dL_isCarried_173 (by decide) (eq_ZZ (by omega) (by omega)) (fun c_173 => ?_) (fun c_173 => ?_)
                              ·
                                exfalso; omega
                              ·
                                refine r_aload_n hc dL_isCarried_176 rfl ?_
                                refine r_bipush (v := nI 9) hc dL_isCarried_177 rfl ?_
                                refine cl_L_14 (As := [.int (nI 9)]) hc (qc_9 hG (by omega)) hG.sh rfl ⟨by decide, by decide⟩ ⟨rfl, rfl⟩ ⟨by decide, by decide⟩ rfl (Nat.le_of_ble_eq_true rfl) dL_isCarried_179 (fun r u hp => ?_)
                                obtain ⟨rfl, hG⟩ := hp
                                refine r_iload_n hc dL_isCarried_182 rfl ?_
                                refine r_icmp_ne (tgt := 211) hc dL_isCarried_183 (by decide) (eq_NN (by omega) (by omega)) (fun c_183 => ?_) (fun c_183 => ?_)
                                ·
                                  exfalso; omega
                                ·
                                  refine r_aload_n hc dL_isCarried_186 rfl ?_
                                  refine r_bipush (v := nI 7) hc dL_isCarried_187 rfl ?_
                                  refine cl_L_14 (As := [.int (nI 7)]) hc (qc_7 hG (by omega)) hG.sh rfl ⟨by decide, by decide⟩ ⟨rfl, rfl⟩ ⟨by decide, by decide⟩ rfl (Nat.le_of_ble_eq_true rfl) dL_isCarried_189 (fun r u hp => ?_)
                                  obtain ⟨rfl, hG⟩ := hp
                                  refine r_iload hc dL_isCarried_192 rfl ?_
                                  refine r_icmp_ne (tgt := 211) hc dL_isCarried_194 (by decide) (eq_NN (by omega) (by omega)) (fun c_194 => ?_) (fun c_194 => ?_)
                                  ·
                                    exfalso; omega
                                  ·
                                    refine r_aload_n hc dL_isCarried_197 rfl ?_
                                    refine r_iconst (v := nI 5) hc dL_isCarried_198 rfl ?_
                                    refine cl_L_14 (As := [.int (nI 5)]) hc (qc_5 hG (by omega)) hG.sh rfl ⟨by decide, by decide⟩ ⟨rfl, rfl⟩ ⟨by decide, by decide⟩ rfl (Nat.le_of_ble_eq_true rfl) dL_isCarried_199 (fun r u hp => ?_)
                                    obtain ⟨rfl, hG⟩ := hp
                                    refine r_iload hc dL_isCarried_202 rfl ?_
                                    refine r_icmp_ne (tgt := 211) hc dL_isCarried_204 (by decide) (eq_NN (by omega) (by omega)) (fun c_204 => ?_) (fun c_204 => ?_)
                                    ·
                                      exfalso; omega
                                    ·
                                      refine r_iconst (v := nI 1) hc dL_isCarried_207 rfl ?_
                                      refine r_goto (tgt := 212) hc dL_isCarried_208 (by decide) ?_
                                      exact hR _ _ ⟨rfl, v, hG, hL2, by omega⟩ rfl _ _ dL_isCarried_212
                        ·
                          have hL21 := hL2.1
                          subst hy
                          have hn2 := hG2.nums
                          have hG := hG2
                          refine r_istore (ls' := [(9, .int (zI (((w 7 : Nat) : Int)))), (8, .int (nI (v 7))), (7, .int (nI (inLk v))), (6, .int (zI (sLast v))), (5, .int (zI (sPlanOrder v ((v 9 - 1 : Nat) : Int)))), (4, .int (nI (mC v (v 9) 0))), (3, .int (nI (oC v (v 9) 0))), (2, .int (zI (sPlanOrder v ((0 : Nat) : Int)))), (1, .int (nI (v 9))), (0, .ref P)]) hc dL_isCarried_159 (by decide) rfl ?_
                          refine r_iload_n hc dL_isCarried_161 rfl ?_
                          refine r_if_eq (tgt := 169) hc dL_isCarried_162 (by decide) (e0_N (by omega)) (fun c_162 => ?_) (fun c_162 => ?_)
                          ·
                            exfalso; omega
                          ·
                            refine r_iload_n hc dL_isCarried_165 rfl ?_
                            refine r_if_ne (tgt := 213) hc dL_isCarried_166 (by decide) (e0_N (by omega)) (fun c_166 => ?_) (fun c_166 => ?_)
                            ·
                              exfalso; omega
                            ·
                              exfalso; omega
                      ·
                        exfalso; omega
                    ·
                      exfalso; omega
                  ·
                    refine r_iload hc dL_isCarried_114 rfl ?_
                    refine r_iload hc dL_isCarried_116 rfl ?_
                    refine r_icmp_ne (tgt := 153) hc dL_isCarried_118 (by decide) (eq_ZZ (by omega) (by omega)) (fun c_118 => ?_) (fun c_118 => ?_)
                    ·
                      exfalso; omega
                    ·
                      refine r_iload_n hc dL_isCarried_121 rfl ?_
                      refine r_iconst (v := nI 1) hc dL_isCarried_122 rfl ?_
                      refine r_icmp_ne (tgt := 137) hc dL_isCarried_123 (by decide) (eq_NN (by omega) (by omega)) (fun c_123 => ?_) (fun c_123 => ?_)
                      ·
                        refine r_iload_n hc dL_isCarried_137 rfl ?_
                        refine r_if_ne (tgt := 155) hc dL_isCarried_138 (by decide) (e0_N (by omega)) (fun c_138 => ?_) (fun c_138 => ?_)
                        ·
                          refine r_aload_n hc dL_isCarried_155 rfl ?_
                          refine cl_L_92 (As := []) hc (m_carryPlan hG (by omega)) hG.sh rfl ⟨by decide, by decide⟩ ⟨rfl, rfl⟩ ⟨by decide, by decide⟩ rfl (Nat.le_of_ble_eq_true rfl) dL_isCarried_156 (fun r u hp => ?_)
                          obtain ⟨⟨y, w⟩, rfl, hG0, hX⟩ := hp
                          have hT := t_carry hG.ok hL hX
                          dsimp only at hT
                          have hG2 : GS z sh P w u := hG0
                          obtain ⟨hL2, e6, hT⟩ := hT
                          rcases hT with ⟨hno, hy, hw⟩ | ⟨h9, ho, hy, w9⟩
                          ·
                            have hL21 := hL2.1
                            subst hy
                            rw [hw] at hG2 hL2 e6 hL21
                            have hG := hG2
                            refine r_istore (ls' := [(9, .int (zI (-5))), (8, .int (nI (v 7))), (7, .int (nI (inLk v))), (6, .int (zI (sLast v))), (5, .int (zI (sPlanOrder v ((v 9 - 1 : Nat) : Int)))), (4, .int (nI (mC v (v 9) 0))), (3, .int (nI (oC v (v 9) 0))), (2, .int (zI (sPlanOrder v ((0 : Nat) : Int)))), (1, .int (nI (v 9))), (0, .ref P)]) hc dL_isCarried_159 (by decide) rfl ?_
                            refine r_iload_n hc dL_isCarried_161 rfl ?_
                            refine r_if_eq (tgt := 169) hc dL_isCarried_162 (by decide) (e0_N (by omega)) (fun c_162 => ?_) (fun c_162 => ?_)
                            ·
                              exfalso; omega
                            ·
                              refine r_iload_n hc dL_isCarried_165 rfl ?_
                              refine r_if_ne (tgt := 213) hc dL_isCarried_166 (by decide) (e0_N (by omega)) (fun c_166 => ?_) (fun c_166 => ?_)
                              ·
                                exfalso; omega
                              ·
                                refine r_iload hc dL_isCarried_169 rfl ?_
                                refine r_bipush (v := zI (-5)) hc dL_isCarried_171 rfl ?_
                                refine r_icmp_ne (tgt := 211) hc dL_isCarried_173 (by decide) (eq_ZZ (by omega) (by omega)) (fun c_173 => ?_) (fun c_173 => ?_)
                                ·
                                  exfalso; omega
                                ·
                                  refine r_aload_n hc dL_isCarried_176 rfl ?_
                                  refine r_bipush (v := nI 9) hc dL_isCarried_177 rfl ?_
                                  refine cl_L_14 (As := [.int (nI 9)]) hc (qc_9 hG (by omega)) hG.sh rfl ⟨by decide, by decide⟩ ⟨rfl, rfl⟩ ⟨by decide, by decide⟩ rfl (Nat.le_of_ble_eq_true rfl) dL_isCarried_179 (fun r u hp => ?_)
                                  obtain ⟨rfl, hG⟩ := hp
                                  refine r_iload_n hc dL_isCarried_182 rfl ?_
                                  refine r_icmp_ne (tgt := 211) hc dL_isCarried_183 (by decide) (eq_NN (by omega) (by omega)) (fun c_183 => ?_) (fun c_183 => ?_)
                                  ·
                                    exfalso; omega
                                  ·
                                    refine r_aload_n hc dL_isCarried_186 rfl ?_
                                    refine r_bipush (v := nI 7) hc dL_isCarried_187 rfl ?_
                                    refine cl_L_14 (As := [.int (nI 7)]) hc (qc_7 hG (by omega)) hG.sh rfl ⟨by decide, by decide⟩ ⟨rfl, rfl⟩ ⟨by decide, by decide⟩ rfl (Nat.le_of_ble_eq_true rfl) dL_isCarried_189 (fun r u hp => ?_)
                                    obtain ⟨rfl, hG⟩ := hp
                                    refine r_iload hc dL_isCarried_192 rfl ?_
                                    refine r_icmp_ne (tgt := 211) hc dL_isCarried_194 (by decide) (eq_NN (by omega) (by omega)) (fun c_194 => ?_) (fun c_194 => ?_)
                                    ·
                                      exfalso; omega
                                    ·
                                      refine r_aload_n hc dL_isCarried_197 rfl ?_
                                      refine r_iconst (v := nI 5) hc dL_isCarried_198 rfl ?_
                                      refine cl_L_14 (As := [.int (nI 5)]) hc (qc_5 hG (by omega)) hG.sh rfl ⟨by decide, by decide⟩ ⟨rfl, rfl⟩ ⟨by decide, by decide⟩ rfl (Nat.le_of_ble_eq_true rfl) dL_isCarried_199 (fun r u hp => ?_)
                                      obtain ⟨rfl, hG⟩ := hp
                                      refine r_iload hc dL_isCarried_202 rfl ?_
                                      refine r_icmp_ne (tgt := 211) hc dL_isCarried_204 (by decide) (eq_NN (by omega) (by omega)) (fun c_204 => ?_) (fun c_204 => ?_)
                                      ·
                                        exfalso; omega
                                      ·
                                        refine r_iconst (v := nI 1) hc dL_isCarried_207 rfl ?_
                                        refine r_goto (tgt := 212) hc dL_isCarried_208 (by decide) ?_
                                        exact hR _ _ ⟨rfl, v, hG, hL2, by omega⟩ rfl _ _ dL_isCarried_212
                          ·
                            have hL21 := hL2.1
                            subst hy
                            have hn2 := hG2.nums
                            have hG := hG2
                            refine r_istore (ls' := [(9, .int (zI (((w 7 : Nat) : Int)))), (8, .int (nI (v 7))), (7, .int (nI (inLk v))), (6, .int (zI (sLast v))), (5, .int (zI (sPlanOrder v ((v 9 - 1 : Nat) : Int)))), (4, .int (nI (mC v (v 9) 0))), (3, .int (nI (oC v (v 9) 0))), (2, .int (zI (sPlanOrder v ((0 : Nat) : Int)))), (1, .int (nI (v 9))), (0, .ref P)]) hc dL_isCarried_159 (by decide) rfl ?_
                            refine r_iload_n hc dL_isCarried_161 rfl ?_
                            refine r_if_eq (tgt := 169) hc dL_isCarried_162 (by decide) (e0_N (by omega)) (fun c_162 => ?_) (fun c_162 => ?_)
                            ·
                              exfalso; omega
                            ·
                              refine r_iload_n hc dL_isCarried_165 rfl ?_
                              refine r_if_ne (tgt := 213) hc dL_isCarried_166 (by decide) (e0_N (by omega)) (fun c_166 => ?_) (fun c_166 => ?_)
                              ·
                                exfalso; omega
                              ·
                                exfalso; omega
                        ·
                          exfalso; omega
                      ·
                        exfalso; omega
              ·
                refine r_iconst (v := nI 1) hc dL_isCarried_101 rfl ?_
                refine r_goto (tgt := 106) hc dL_isCarried_102 (by decide) ?_
                refine r_icmp_ne (tgt := 153) hc dL_isCarried_106 (by decide) (eq_NN (by omega) (by omega)) (fun c_106 => ?_) (fun c_106 => ?_)
                ·
                  exfalso; omega
                ·
                  exfalso; omega
            ·
              refine r_iconst (v := nI 1) hc dL_isCarried_92 rfl ?_
              refine r_goto (tgt := 97) hc dL_isCarried_93 (by decide) ?_
              refine r_iload_n hc dL_isCarried_97 rfl ?_
              refine r_if_ge (tgt := 105) hc dL_isCarried_98 (by decide) (ge0_Z (by omega)) (fun c_98 => ?_) (fun c_98 => ?_)
              ·
                refine r_iconst (v := nI 0) hc dL_isCarried_105 rfl ?_
                refine r_icmp_ne (tgt := 153) hc dL_isCarried_106 (by decide) (eq_NN (by omega) (by omega)) (fun c_106 => ?_) (fun c_106 => ?_)
                ·
                  exfalso; omega
                ·
                  exfalso; omega
              ·
                refine r_iconst (v := nI 1) hc dL_isCarried_101 rfl ?_
                refine r_goto (tgt := 106) hc dL_isCarried_102 (by decide) ?_
                refine r_icmp_ne (tgt := 153) hc dL_isCarried_106 (by decide) (eq_NN (by omega) (by omega)) (fun c_106 => ?_) (fun c_106 => ?_)
                ·
                  exfalso; omega
                ·
                  refine r_iload hc dL_isCarried_109 rfl ?_
                  refine r_if_lt (tgt := 121) hc dL_isCarried_111 (by decide) (l0_Z (by omega)) (fun c_111 => ?_) (fun c_111 => ?_)
                  ·
                    refine r_iload_n hc dL_isCarried_121 rfl ?_
                    refine r_iconst (v := nI 1) hc dL_isCarried_122 rfl ?_
                    refine r_icmp_ne (tgt := 137) hc dL_isCarried_123 (by decide) (eq_NN (by omega) (by omega)) (fun c_123 => ?_) (fun c_123 => ?_)
                    ·
                      refine r_iload_n hc dL_isCarried_137 rfl ?_
                      refine r_if_ne (tgt := 155) hc dL_isCarried_138 (by decide) (e0_N (by omega)) (fun c_138 => ?_) (fun c_138 => ?_)
                      ·
                        refine r_aload_n hc dL_isCarried_155 rfl ?_
                        refine cl_L_92 (As := []) hc (m_carryPlan hG (by omega)) hG.sh rfl ⟨by decide, by decide⟩ ⟨rfl, rfl⟩ ⟨by decide, by decide⟩ rfl (Nat.le_of_ble_eq_true rfl) dL_isCarried_156 (fun r u hp => ?_)
                        obtain ⟨⟨y, w⟩, rfl, hG0, hX⟩ := hp
                        have hT := t_carry hG.ok hL hX
                        dsimp only at hT
                        have hG2 : GS z sh P w u := hG0
                        obtain ⟨hL2, e6, hT⟩ := hT
                        rcases hT with ⟨hno, hy, hw⟩ | ⟨h9, ho, hy, w9⟩
                        ·
                          have hL21 := hL2.1
                          subst hy
                          rw [hw] at hG2 hL2 e6 hL21
                          have hG := hG2
                          refine r_istore (ls' := [(9, .int (zI (-5))), (8, .int (nI (v 7))), (7, .int (nI (inLk v))), (6, .int (zI (sLast v))), (5, .int (zI (sPlanOrder v ((v 9 - 1 : Nat) : Int)))), (4, .int (nI (mC v (v 9) 0))), (3, .int (nI (oC v (v 9) 0))), (2, .int (zI (sPlanOrder v ((0 : Nat) : Int)))), (1, .int (nI (v 9))), (0, .ref P)]) hc dL_isCarried_159 (by decide) rfl ?_
                          refine r_iload_n hc dL_isCarried_161 rfl ?_
                          refine r_if_eq (tgt := 169) hc dL_isCarried_162 (by decide) (e0_N (by omega)) (fun c_162 => ?_) (fun c_162 => ?_)
                          ·
                            exfalso; omega
                          ·
                            refine r_iload_n hc dL_isCarried_165 rfl ?_
                            refine r_if_ne (tgt := 213) hc dL_isCarried_166 (by decide) (e0_N (by omega)) (fun c_166 => ?_) (fun c_166 => ?_)
                            ·
                              exfalso; omega
                            ·
                              refine r_iload hc dL_isCarried_169 rfl ?_
                              refine r_bipush (v := zI (-5)) hc dL_isCarried_171 rfl ?_
                              refine r_icmp_ne (tgt := 211) hc dL_isCarried_173 (by decide) (eq_ZZ (by omega) (by omega)) (fun c_173 => ?_) (fun c_173 => ?_)
                              ·
                                exfalso; omega
                              ·
                                refine r_aload_n hc dL_isCarried_176 rfl ?_
                                refine r_bipush (v := nI 9) hc dL_isCarried_177 rfl ?_
                                refine cl_L_14 (As := [.int (nI 9)]) hc (qc_9 hG (by omega)) hG.sh rfl ⟨by decide, by decide⟩ ⟨rfl, rfl⟩ ⟨by decide, by decide⟩ rfl (Nat.le_of_ble_eq_true rfl) dL_isCarried_179 (fun r u hp => ?_)
                                obtain ⟨rfl, hG⟩ := hp
                                refine r_iload_n hc dL_isCarried_182 rfl ?_
                                refine r_icmp_ne (tgt := 211) hc dL_isCarried_183 (by decide) (eq_NN (by omega) (by omega)) (fun c_183 => ?_) (fun c_183 => ?_)
                                ·
                                  exfalso; omega
                                ·
                                  refine r_aload_n hc dL_isCarried_186 rfl ?_
                                  refine r_bipush (v := nI 7) hc dL_isCarried_187 rfl ?_
                                  refine cl_L_14 (As := [.int (nI 7)]) hc (qc_7 hG (by omega)) hG.sh rfl ⟨by decide, by decide⟩ ⟨rfl, rfl⟩ ⟨by decide, by decide⟩ rfl (Nat.le_of_ble_eq_true rfl) dL_isCarried_189 (fun r u hp => ?_)
                                  obtain ⟨rfl, hG⟩ := hp
                                  refine r_iload hc dL_isCarried_192 rfl ?_
                                  refine r_icmp_ne (tgt := 211) hc dL_isCarried_194 (by decide) (eq_NN (by omega) (by omega)) (fun c_194 => ?_) (fun c_194 => ?_)
                                  ·
                                    exfalso; omega
                                  ·
                                    refine r_aload_n hc dL_isCarried_197 rfl ?_
                                    refine r_iconst (v := nI 5) hc dL_isCarried_198 rfl ?_
                                    refine cl_L_14 (As := [.int (nI 5)]) hc (qc_5 hG (by omega)) hG.sh rfl ⟨by decide, by decide⟩ ⟨rfl, rfl⟩ ⟨by decide, by decide⟩ rfl (Nat.le_of_ble_eq_true rfl) dL_isCarried_199 (fun r u hp => ?_)
                                    obtain ⟨rfl, hG⟩ := hp
                                    refine r_iload hc dL_isCarried_202 rfl ?_
                                    refine r_icmp_ne (tgt := 211) hc dL_isCarried_204 (by decide) (eq_NN (by omega) (by omega)) (fun c_204 => ?_) (fun c_204 => ?_)
                                    ·
                                      exfalso; omega
                                    ·
                                      refine r_iconst (v := nI 1) hc dL_isCarried_207 rfl ?_
                                      refine r_goto (tgt := 212) hc dL_isCarried_208 (by decide) ?_
                                      exact hR _ _ ⟨rfl, v, hG, hL2, by omega⟩ rfl _ _ dL_isCarried_212
                        ·
                          have hL21 := hL2.1
                          subst hy
                          have hn2 := hG2.nums
                          have hG := hG2
                          refine r_istore (ls' := [(9, .int (zI (((w 7 : Nat) : Int)))), (8, .int (nI (v 7))), (7, .int (nI (inLk v))), (6, .int (zI (sLast v))), (5, .int (zI (sPlanOrder v ((v 9 - 1 : Nat) : Int)))), (4, .int (nI (mC v (v 9) 0))), (3, .int (nI (oC v (v 9) 0))), (2, .int (zI (sPlanOrder v ((0 : Nat) : Int)))), (1, .int (nI (v 9))), (0, .ref P)]) hc dL_isCarried_159 (by decide) rfl ?_
                          refine r_iload_n hc dL_isCarried_161 rfl ?_
                          refine r_if_eq (tgt := 169) hc dL_isCarried_162 (by decide) (e0_N (by omega)) (fun c_162 => ?_) (fun c_162 => ?_)
                          ·
                            exfalso; omega
                          ·
                            refine r_iload_n hc dL_isCarried_165 rfl ?_
                            refine r_if_ne (tgt := 213) hc dL_isCarried_166 (by decide) (e0_N (by omega)) (fun c_166 => ?_) (fun c_166 => ?_)
                            ·
                              exfalso; omega
                            ·
                              exfalso; omega
                      ·
                        exfalso; omega
                    ·
                      exfalso; omega
                  ·
                    refine r_iload hc dL_isCarried_114 rfl ?_
                    refine r_iload hc dL_isCarried_116 rfl ?_
                    refine r_icmp_ne (tgt := 153) hc dL_isCarried_118 (by decide) (eq_ZZ (by omega) (by omega)) (fun c_118 => ?_) (fun c_118 => ?_)
                    ·
                      exfalso; omega
                    ·
                      refine r_iload_n hc dL_isCarried_121 rfl ?_
                      refine r_iconst (v := nI 1) hc dL_isCarried_122 rfl ?_
                      refine r_icmp_ne (tgt := 137) hc dL_isCarried_123 (by decide) (eq_NN (by omega) (by omega)) (fun c_123 => ?_) (fun c_123 => ?_)
                      ·
                        refine r_iload_n hc dL_isCarried_137 rfl ?_
                        refine r_if_ne (tgt := 155) hc dL_isCarried_138 (by decide) (e0_N (by omega)) (fun c_138 => ?_) (fun c_138 => ?_)
                        ·
                          refine r_aload_n hc dL_isCarried_155 rfl ?_
                          refine cl_L_92 (As := []) hc (m_carryPlan hG (by omega)) hG.sh rfl ⟨by decide, by decide⟩ ⟨rfl, rfl⟩ ⟨by decide, by decide⟩ rfl (Nat.le_of_ble_eq_true rfl) dL_isCarried_156 (fun r u hp => ?_)
                          obtain ⟨⟨y, w⟩, rfl, hG0, hX⟩ := hp
                          have hT := t_carry hG.ok hL hX
                          dsimp only at hT
                          have hG2 : GS z sh P w u := hG0
                          obtain ⟨hL2, e6, hT⟩ := hT
                          rcases hT with ⟨hno, hy, hw⟩ | ⟨h9, ho, hy, w9⟩
                          ·
                            have hL21 := hL2.1
                            subst hy
                            rw [hw] at hG2 hL2 e6 hL21
                            have hG := hG2
                            refine r_istore (ls' := [(9, .int (zI (-5))), (8, .int (nI (v 7))), (7, .int (nI (inLk v))), (6, .int (zI (sLast v))), (5, .int (zI (sPlanOrder v ((v 9 - 1 : Nat) : Int)))), (4, .int (nI (mC v (v 9) 0))), (3, .int (nI (oC v (v 9) 0))), (2, .int (zI (sPlanOrder v ((0 : Nat) : Int)))), (1, .int (nI (v 9))), (0, .ref P)]) hc dL_isCarried_159 (by decide) rfl ?_
                            refine r_iload_n hc dL_isCarried_161 rfl ?_
                            refine r_if_eq (tgt := 169) hc dL_isCarried_162 (by decide) (e0_N (by omega)) (fun c_162 => ?_) (fun c_162 => ?_)
                            ·
                              exfalso; omega
                            ·
                              refine r_iload_n hc dL_isCarried_165 rfl ?_
                              refine r_if_ne (tgt := 213) hc dL_isCarried_166 (by decide) (e0_N (by omega)) (fun c_166 => ?_) (fun c_166 => ?_)
                              ·
                                exfalso; omega
                              ·
                                refine r_iload hc dL_isCarried_169 rfl ?_
                                refine r_bipush (v := zI (-5)) hc dL_isCarried_171 rfl ?_
                                refine r_icmp_ne (tgt := 211) hc dL_isCarried_173 (by decide) (eq_ZZ (by omega) (by omega)) (fun c_173 => ?_) (fun c_173 => ?_)
                                ·
                                  exfalso; omega
                                ·
                                  refine r_aload_n hc dL_isCarried_176 rfl ?_
                                  refine r_bipush (v := nI 9) hc dL_isCarried_177 rfl ?_
                                  refine cl_L_14 (As := [.int (nI 9)]) hc (qc_9 hG (by omega)) hG.sh rfl ⟨by decide, by decide⟩ ⟨rfl, rfl⟩ ⟨by decide, by decide⟩ rfl (Nat.le_of_ble_eq_true rfl) dL_isCarried_179 (fun r u hp => ?_)
                                  obtain ⟨rfl, hG⟩ := hp
                                  refine r_iload_n hc dL_isCarried_182 rfl ?_
                                  refine r_icmp_ne (tgt := 211) hc dL_isCarried_183 (by decide) (eq_NN (by omega) (by omega)) (fun c_183 => ?_) (fun c_183 => ?_)
                                  ·
                                    exfalso; omega
                                  ·
                                    refine r_aload_n hc dL_isCarried_186 rfl ?_
                                    refine r_bipush (v := nI 7) hc dL_isCarried_187 rfl ?_
                                    refine cl_L_14 (As := [.int (nI 7)]) hc (qc_7 hG (by omega)) hG.sh rfl ⟨by decide, by decide⟩ ⟨rfl, rfl⟩ ⟨by decide, by decide⟩ rfl (Nat.le_of_ble_eq_true rfl) dL_isCarried_189 (fun r u hp => ?_)
                                    obtain ⟨rfl, hG⟩ := hp
                                    refine r_iload hc dL_isCarried_192 rfl ?_
                                    refine r_icmp_ne (tgt := 211) hc dL_isCarried_194 (by decide) (eq_NN (by omega) (by omega)) (fun c_194 => ?_) (fun c_194 => ?_)
                                    ·
                                      exfalso; omega
                                    ·
                                      refine r_aload_n hc dL_isCarried_197 rfl ?_
                                      refine r_iconst (v := nI 5) hc dL_isCarried_198 rfl ?_
                                      refine cl_L_14 (As := [.int (nI 5)]) hc (qc_5 hG (by omega)) hG.sh rfl ⟨by decide, by decide⟩ ⟨rfl, rfl⟩ ⟨by decide, by decide⟩ rfl (Nat.le_of_ble_eq_true rfl) dL_isCarried_199 (fun r u hp => ?_)
                                      obtain ⟨rfl, hG⟩ := hp
                                      refine r_iload hc dL_isCarried_202 rfl ?_
                                      refine r_icmp_ne (tgt := 211) hc dL_isCarried_204 (by decide) (eq_NN (by omega) (by omega)) (fun c_204 => ?_) (fun c_204 => ?_)
                                      ·
                                        exfalso; omega
                                      ·
                                        refine r_iconst (v := nI 1) hc dL_isCarried_207 rfl ?_
                                        refine r_goto (tgt := 212) hc dL_isCarried_208 (by decide) ?_
                                        exact hR _ _ ⟨rfl, v, hG, hL2, by omega⟩ rfl _ _ dL_isCarried_212
                          ·
                            have hL21 := hL2.1
                            subst hy
                            have hn2 := hG2.nums
                            have hG := hG2
                            refine r_istore (ls' := [(9, .int (zI (((w 7 : Nat) : Int)))), (8, .int (nI (v 7))), (7, .int (nI (inLk v))), (6, .int (zI (sLast v))), (5, .int (zI (sPlanOrder v ((v 9 - 1 : Nat) : Int)))), (4, .int (nI (mC v (v 9) 0))), (3, .int (nI (oC v (v 9) 0))), (2, .int (zI (sPlanOrder v ((0 : Nat) : Int)))), (1, .int (nI (v 9))), (0, .ref P)]) hc dL_isCarried_159 (by decide) rfl ?_
                            refine r_iload_n hc dL_isCarried_161 rfl ?_
                            refine r_if_eq (tgt := 169) hc dL_isCarried_162 (by decide) (e0_N (by omega)) (fun c_162 => ?_) (fun c_162 => ?_)
                            ·
                              exfalso; omega
                            ·
                              refine r_iload_n hc dL_isCarried_165 rfl ?_
                              refine r_if_ne (tgt := 213) hc dL_isCarried_166 (by decide) (e0_N (by omega)) (fun c_166 => ?_) (fun c_166 => ?_)
                              ·
                                exfalso; omega
                              ·
                                exfalso; omega
                        ·
                          exfalso; omega
                      ·
                        exfalso; omega
  ·
    have hT6 := hT0 c_26
    refine r_iconst (v := nI 0) hc dL_isCarried_29 rfl ?_
    refine r_goto (tgt := 36) hc dL_isCarried_30 (by decide) ?_
    refine cl_L_80 (As := [.int (nI 0)]) hc (qp hG (by omega) (t := 0) (by omega)) hG.sh rfl ⟨by decide, by decide⟩ ⟨rfl, rfl⟩ ⟨by decide, by decide⟩ rfl (Nat.le_of_ble_eq_true rfl) dL_isCarried_36 (fun r u hp => ?_)
    obtain ⟨rfl, hG⟩ := hp
    refine r_istore (ls' := [(5, .int (zI (sPlanOrder v ((0 : Nat) : Int)))), (4, .int (nI (mC v (v 9) 0))), (3, .int (nI (oC v (v 9) 0))), (2, .int (zI (sPlanOrder v ((0 : Nat) : Int)))), (1, .int (nI (v 9))), (0, .ref P)]) hc dL_isCarried_39 (by decide) rfl ?_
    refine r_aload_n hc dL_isCarried_41 rfl ?_
    refine cl_L_89 (As := []) hc (q_mustBeLast hG (by omega)) hG.sh rfl ⟨by decide, by decide⟩ ⟨rfl, rfl⟩ ⟨by decide, by decide⟩ rfl (Nat.le_of_ble_eq_true rfl) dL_isCarried_42 (fun r u hp => ?_)
    obtain ⟨rfl, hG⟩ := hp
    refine r_istore (ls' := [(6, .int (zI (sLast v))), (5, .int (zI (sPlanOrder v ((0 : Nat) : Int)))), (4, .int (nI (mC v (v 9) 0))), (3, .int (nI (oC v (v 9) 0))), (2, .int (zI (sPlanOrder v ((0 : Nat) : Int)))), (1, .int (nI (v 9))), (0, .ref P)]) hc dL_isCarried_45 (by decide) rfl ?_
    refine r_aload_n hc dL_isCarried_47 rfl ?_
    refine r_iconst (v := nI 5) hc dL_isCarried_48 rfl ?_
    refine cl_L_14 (As := [.int (nI 5)]) hc (qc_5 hG (by omega)) hG.sh rfl ⟨by decide, by decide⟩ ⟨rfl, rfl⟩ ⟨by decide, by decide⟩ rfl (Nat.le_of_ble_eq_true rfl) dL_isCarried_49 (fun r u hp => ?_)
    obtain ⟨rfl, hG⟩ := hp
    refine r_istore (ls' := [(7, .int (nI (inLk v))), (6, .int (zI (sLast v))), (5, .int (zI (sPlanOrder v ((0 : Nat) : Int)))), (4, .int (nI (mC v (v 9) 0))), (3, .int (nI (oC v (v 9) 0))), (2, .int (zI (sPlanOrder v ((0 : Nat) : Int)))), (1, .int (nI (v 9))), (0, .ref P)]) hc dL_isCarried_52 (by decide) rfl ?_
    refine r_aload_n hc dL_isCarried_54 rfl ?_
    refine r_bipush (v := nI 7) hc dL_isCarried_55 rfl ?_
    refine cl_L_14 (As := [.int (nI 7)]) hc (qc_7 hG (by omega)) hG.sh rfl ⟨by decide, by decide⟩ ⟨rfl, rfl⟩ ⟨by decide, by decide⟩ rfl (Nat.le_of_ble_eq_true rfl) dL_isCarried_57 (fun r u hp => ?_)
    obtain ⟨rfl, hG⟩ := hp
    refine r_istore (ls' := [(8, .int (nI (v 7))), (7, .int (nI (inLk v))), (6, .int (zI (sLast v))), (5, .int (zI (sPlanOrder v ((0 : Nat) : Int)))), (4, .int (nI (mC v (v 9) 0))), (3, .int (nI (oC v (v 9) 0))), (2, .int (zI (sPlanOrder v ((0 : Nat) : Int)))), (1, .int (nI (v 9))), (0, .ref P)]) hc dL_isCarried_60 (by decide) rfl ?_
    refine r_iload_n hc dL_isCarried_62 rfl ?_
    refine r_if_ne (tgt := 70) hc dL_isCarried_63 (by decide) (e0_N (by omega)) (fun c_63 => ?_) (fun c_63 => ?_)
    ·
      refine r_iconst (v := nI 0) hc dL_isCarried_70 rfl ?_
      refine r_iload hc dL_isCarried_71 rfl ?_
      refine r_if_le (tgt := 80) hc dL_isCarried_73 (by decide) (le0_N (by omega)) (fun c_73 => ?_) (fun c_73 => ?_)
      ·
        refine r_iconst (v := nI 0) hc dL_isCarried_80 rfl ?_
        refine r_icmp_ne (tgt := 153) hc dL_isCarried_81 (by decide) (eq_NN (by omega) (by omega)) (fun c_81 => ?_) (fun c_81 => ?_)
        ·
          exfalso; omega
        ·
          refine r_iload_n hc dL_isCarried_84 rfl ?_
          refine r_if_le (tgt := 109) hc dL_isCarried_85 (by decide) (le0_N (by omega)) (fun c_85 => ?_) (fun c_85 => ?_)
          ·
            refine r_iload hc dL_isCarried_109 rfl ?_
            refine r_if_lt (tgt := 121) hc dL_isCarried_111 (by decide) (l0_Z (by omega)) (fun c_111 => ?_) (fun c_111 => ?_)
            ·
              refine r_iload_n hc dL_isCarried_121 rfl ?_
              refine r_iconst (v := nI 1) hc dL_isCarried_122 rfl ?_
              refine r_icmp_ne (tgt := 137) hc dL_isCarried_123 (by decide) (eq_NN (by omega) (by omega)) (fun c_123 => ?_) (fun c_123 => ?_)
              ·
                refine r_iload_n hc dL_isCarried_137 rfl ?_
                refine r_if_ne (tgt := 155) hc dL_isCarried_138 (by decide) (e0_N (by omega)) (fun c_138 => ?_) (fun c_138 => ?_)
                ·
                  exfalso; omega
                ·
                  refine r_iload_n hc dL_isCarried_141 rfl ?_
                  refine r_iconst (v := nI 1) hc dL_isCarried_142 rfl ?_
                  refine r_icmp_ne (tgt := 153) hc dL_isCarried_143 (by decide) (eq_NN (by omega) (by omega)) (fun c_143 => ?_) (fun c_143 => ?_)
                  ·
                    exfalso; omega
                  ·
                    refine r_iload hc dL_isCarried_146 rfl ?_
                    refine r_bipush (v := zI (-6)) hc dL_isCarried_148 rfl ?_
                    refine r_icmp_eq (tgt := 155) hc dL_isCarried_150 (by decide) (eq_ZZ (by omega) (by omega)) (fun c_150 => ?_) (fun c_150 => ?_)
                    ·
                      refine r_aload_n hc dL_isCarried_155 rfl ?_
                      refine cl_L_92 (As := []) hc (m_carryPlan hG (by omega)) hG.sh rfl ⟨by decide, by decide⟩ ⟨rfl, rfl⟩ ⟨by decide, by decide⟩ rfl (Nat.le_of_ble_eq_true rfl) dL_isCarried_156 (fun r u hp => ?_)
                      obtain ⟨⟨y, w⟩, rfl, hG0, hX⟩ := hp
                      have hT := t_carry hG.ok hL hX
                      dsimp only at hT
                      have hG2 : GS z sh P w u := hG0
                      obtain ⟨hL2, e6, hT⟩ := hT
                      rcases hT with ⟨hno, hy, hw⟩ | ⟨h9, ho, hy, w9⟩
                      ·
                        have hL21 := hL2.1
                        subst hy
                        rw [hw] at hG2 hL2 e6 hL21
                        have hG := hG2
                        refine r_istore (ls' := [(9, .int (zI (-5))), (8, .int (nI (v 7))), (7, .int (nI (inLk v))), (6, .int (zI (sLast v))), (5, .int (zI (sPlanOrder v ((0 : Nat) : Int)))), (4, .int (nI (mC v (v 9) 0))), (3, .int (nI (oC v (v 9) 0))), (2, .int (zI (sPlanOrder v ((0 : Nat) : Int)))), (1, .int (nI (v 9))), (0, .ref P)]) hc dL_isCarried_159 (by decide) rfl ?_
                        refine r_iload_n hc dL_isCarried_161 rfl ?_
                        refine r_if_eq (tgt := 169) hc dL_isCarried_162 (by decide) (e0_N (by omega)) (fun c_162 => ?_) (fun c_162 => ?_)
                        ·
                          refine r_iload hc dL_isCarried_169 rfl ?_
                          refine r_bipush (v := zI (-5)) hc dL_isCarried_171 rfl ?_
                          refine r_icmp_ne (tgt := 211) hc dL_isCarried_173 (by decide) (eq_ZZ (by omega) (by omega)) (fun c_173 => ?_) (fun c_173 => ?_)
                          ·
                            exfalso; omega
                          ·
                            refine r_aload_n hc dL_isCarried_176 rfl ?_
                            refine r_bipush (v := nI 9) hc dL_isCarried_177 rfl ?_
                            refine cl_L_14 (As := [.int (nI 9)]) hc (qc_9 hG (by omega)) hG.sh rfl ⟨by decide, by decide⟩ ⟨rfl, rfl⟩ ⟨by decide, by decide⟩ rfl (Nat.le_of_ble_eq_true rfl) dL_isCarried_179 (fun r u hp => ?_)
                            obtain ⟨rfl, hG⟩ := hp
                            refine r_iload_n hc dL_isCarried_182 rfl ?_
                            refine r_icmp_ne (tgt := 211) hc dL_isCarried_183 (by decide) (eq_NN (by omega) (by omega)) (fun c_183 => ?_) (fun c_183 => ?_)
                            ·
                              exfalso; omega
                            ·
                              refine r_aload_n hc dL_isCarried_186 rfl ?_
                              refine r_bipush (v := nI 7) hc dL_isCarried_187 rfl ?_
                              refine cl_L_14 (As := [.int (nI 7)]) hc (qc_7 hG (by omega)) hG.sh rfl ⟨by decide, by decide⟩ ⟨rfl, rfl⟩ ⟨by decide, by decide⟩ rfl (Nat.le_of_ble_eq_true rfl) dL_isCarried_189 (fun r u hp => ?_)
                              obtain ⟨rfl, hG⟩ := hp
                              refine r_iload hc dL_isCarried_192 rfl ?_
                              refine r_icmp_ne (tgt := 211) hc dL_isCarried_194 (by decide) (eq_NN (by omega) (by omega)) (fun c_194 => ?_) (fun c_194 => ?_)
                              ·
                                exfalso; omega
                              ·
                                refine r_aload_n hc dL_isCarried_197 rfl ?_
                                refine r_iconst (v := nI 5) hc dL_isCarried_198 rfl ?_
                                refine cl_L_14 (As := [.int (nI 5)]) hc (qc_5 hG (by omega)) hG.sh rfl ⟨by decide, by decide⟩ ⟨rfl, rfl⟩ ⟨by decide, by decide⟩ rfl (Nat.le_of_ble_eq_true rfl) dL_isCarried_199 (fun r u hp => ?_)
                                obtain ⟨rfl, hG⟩ := hp
                                refine r_iload hc dL_isCarried_202 rfl ?_
                                refine r_icmp_ne (tgt := 211) hc dL_isCarried_204 (by decide) (eq_NN (by omega) (by omega)) (fun c_204 => ?_) (fun c_204 => ?_)
                                ·
                                  exfalso; omega
                                ·
                                  refine r_iconst (v := nI 1) hc dL_isCarried_207 rfl ?_
                                  refine r_goto (tgt := 212) hc dL_isCarried_208 (by decide) ?_
                                  exact hR _ _ ⟨rfl, v, hG, hL2, by omega⟩ rfl _ _ dL_isCarried_212
                        ·
                          exfalso; omega
                      ·
                        have hL21 := hL2.1
                        subst hy
                        have hn2 := hG2.nums
                        have hG := hG2
                        refine r_istore (ls' := [(9, .int (zI (((w 7 : Nat) : Int)))), (8, .int (nI (v 7))), (7, .int (nI (inLk v))), (6, .int (zI (sLast v))), (5, .int (zI (sPlanOrder v ((0 : Nat) : Int)))), (4, .int (nI (mC v (v 9) 0))), (3, .int (nI (oC v (v 9) 0))), (2, .int (zI (sPlanOrder v ((0 : Nat) : Int)))), (1, .int (nI (v 9))), (0, .ref P)]) hc dL_isCarried_159 (by decide) rfl ?_
                        refine r_iload_n hc dL_isCarried_161 rfl ?_
                        refine r_if_eq (tgt := 169) hc dL_isCarried_162 (by decide) (e0_N (by omega)) (fun c_162 => ?_) (fun c_162 => ?_)
                        ·
                          exfalso; omega
                        ·
                          exfalso; omega
                    ·
                      exfalso; omega
              ·
                refine r_iload_n hc dL_isCarried_126 rfl ?_
                refine r_if_le (tgt := 137) hc dL_isCarried_127 (by decide) (le0_N (by omega)) (fun c_127 => ?_) (fun c_127 => ?_)
                ·
                  refine r_iload_n hc dL_isCarried_137 rfl ?_
                  refine r_if_ne (tgt := 155) hc dL_isCarried_138 (by decide) (e0_N (by omega)) (fun c_138 => ?_) (fun c_138 => ?_)
                  ·
                    exfalso; omega
                  ·
                    refine r_iload_n hc dL_isCarried_141 rfl ?_
                    refine r_iconst (v := nI 1) hc dL_isCarried_142 rfl ?_
                    refine r_icmp_ne (tgt := 153) hc dL_isCarried_143 (by decide) (eq_NN (by omega) (by omega)) (fun c_143 => ?_) (fun c_143 => ?_)
                    ·
                      exfalso; omega
                    ·
                      refine r_iload hc dL_isCarried_146 rfl ?_
                      refine r_bipush (v := zI (-6)) hc dL_isCarried_148 rfl ?_
                      refine r_icmp_eq (tgt := 155) hc dL_isCarried_150 (by decide) (eq_ZZ (by omega) (by omega)) (fun c_150 => ?_) (fun c_150 => ?_)
                      ·
                        refine r_aload_n hc dL_isCarried_155 rfl ?_
                        refine cl_L_92 (As := []) hc (m_carryPlan hG (by omega)) hG.sh rfl ⟨by decide, by decide⟩ ⟨rfl, rfl⟩ ⟨by decide, by decide⟩ rfl (Nat.le_of_ble_eq_true rfl) dL_isCarried_156 (fun r u hp => ?_)
                        obtain ⟨⟨y, w⟩, rfl, hG0, hX⟩ := hp
                        have hT := t_carry hG.ok hL hX
                        dsimp only at hT
                        have hG2 : GS z sh P w u := hG0
                        obtain ⟨hL2, e6, hT⟩ := hT
                        rcases hT with ⟨hno, hy, hw⟩ | ⟨h9, ho, hy, w9⟩
                        ·
                          have hL21 := hL2.1
                          subst hy
                          rw [hw] at hG2 hL2 e6 hL21
                          have hG := hG2
                          refine r_istore (ls' := [(9, .int (zI (-5))), (8, .int (nI (v 7))), (7, .int (nI (inLk v))), (6, .int (zI (sLast v))), (5, .int (zI (sPlanOrder v ((0 : Nat) : Int)))), (4, .int (nI (mC v (v 9) 0))), (3, .int (nI (oC v (v 9) 0))), (2, .int (zI (sPlanOrder v ((0 : Nat) : Int)))), (1, .int (nI (v 9))), (0, .ref P)]) hc dL_isCarried_159 (by decide) rfl ?_
                          refine r_iload_n hc dL_isCarried_161 rfl ?_
                          refine r_if_eq (tgt := 169) hc dL_isCarried_162 (by decide) (e0_N (by omega)) (fun c_162 => ?_) (fun c_162 => ?_)
                          ·
                            refine r_iload hc dL_isCarried_169 rfl ?_
                            refine r_bipush (v := zI (-5)) hc dL_isCarried_171 rfl ?_
                            refine r_icmp_ne (tgt := 211) hc dL_isCarried_173 (by decide) (eq_ZZ (by omega) (by omega)) (fun c_173 => ?_) (fun c_173 => ?_)
                            ·
                              exfalso; omega
                            ·
                              refine r_aload_n hc dL_isCarried_176 rfl ?_
                              refine r_bipush (v := nI 9) hc dL_isCarried_177 rfl ?_
                              refine cl_L_14 (As := [.int (nI 9)]) hc (qc_9 hG (by omega)) hG.sh rfl ⟨by decide, by decide⟩ ⟨rfl, rfl⟩ ⟨by decide, by decide⟩ rfl (Nat.le_of_ble_eq_true rfl) dL_isCarried_179 (fun r u hp => ?_)
                              obtain ⟨rfl, hG⟩ := hp
                              refine r_iload_n hc dL_isCarried_182 rfl ?_
                              refine r_icmp_ne (tgt := 211) hc dL_isCarried_183 (by decide) (eq_NN (by omega) (by omega)) (fun c_183 => ?_) (fun c_183 => ?_)
                              ·
                                exfalso; omega
                              ·
                                refine r_aload_n hc dL_isCarried_186 rfl ?_
                                refine r_bipush (v := nI 7) hc dL_isCarried_187 rfl ?_
                                refine cl_L_14 (As := [.int (nI 7)]) hc (qc_7 hG (by omega)) hG.sh rfl ⟨by decide, by decide⟩ ⟨rfl, rfl⟩ ⟨by decide, by decide⟩ rfl (Nat.le_of_ble_eq_true rfl) dL_isCarried_189 (fun r u hp => ?_)
                                obtain ⟨rfl, hG⟩ := hp
                                refine r_iload hc dL_isCarried_192 rfl ?_
                                refine r_icmp_ne (tgt := 211) hc dL_isCarried_194 (by decide) (eq_NN (by omega) (by omega)) (fun c_194 => ?_) (fun c_194 => ?_)
                                ·
                                  exfalso; omega
                                ·
                                  refine r_aload_n hc dL_isCarried_197 rfl ?_
                                  refine r_iconst (v := nI 5) hc dL_isCarried_198 rfl ?_
                                  refine cl_L_14 (As := [.int (nI 5)]) hc (qc_5 hG (by omega)) hG.sh rfl ⟨by decide, by decide⟩ ⟨rfl, rfl⟩ ⟨by decide, by decide⟩ rfl (Nat.le_of_ble_eq_true rfl) dL_isCarried_199 (fun r u hp => ?_)
                                  obtain ⟨rfl, hG⟩ := hp
                                  refine r_iload hc dL_isCarried_202 rfl ?_
                                  refine r_icmp_ne (tgt := 211) hc dL_isCarried_204 (by decide) (eq_NN (by omega) (by omega)) (fun c_204 => ?_) (fun c_204 => ?_)
                                  ·
                                    exfalso; omega
                                  ·
                                    refine r_iconst (v := nI 1) hc dL_isCarried_207 rfl ?_
                                    refine r_goto (tgt := 212) hc dL_isCarried_208 (by decide) ?_
                                    exact hR _ _ ⟨rfl, v, hG, hL2, by omega⟩ rfl _ _ dL_isCarried_212
                          ·
                            exfalso; omega
                        ·
                          have hL21 := hL2.1
                          subst hy
                          have hn2 := hG2.nums
                          have hG := hG2
                          refine r_istore (ls' := [(9, .int (zI (((w 7 : Nat) : Int)))), (8, .int (nI (v 7))), (7, .int (nI (inLk v))), (6, .int (zI (sLast v))), (5, .int (zI (sPlanOrder v ((0 : Nat) : Int)))), (4, .int (nI (mC v (v 9) 0))), (3, .int (nI (oC v (v 9) 0))), (2, .int (zI (sPlanOrder v ((0 : Nat) : Int)))), (1, .int (nI (v 9))), (0, .ref P)]) hc dL_isCarried_159 (by decide) rfl ?_
                          refine r_iload_n hc dL_isCarried_161 rfl ?_
                          refine r_if_eq (tgt := 169) hc dL_isCarried_162 (by decide) (e0_N (by omega)) (fun c_162 => ?_) (fun c_162 => ?_)
                          ·
                            exfalso; omega
                          ·
                            exfalso; omega
                      ·
                        exfalso; omega
                ·
                  exfalso; omega
            ·
              exfalso; omega
          ·
            refine r_iload_n hc dL_isCarried_88 rfl ?_
            refine r_if_ne (tgt := 96) hc dL_isCarried_89 (by decide) (e0_N (by omega)) (fun c_89 => ?_) (fun c_89 => ?_)
            ·
              refine r_iconst (v := nI 0) hc dL_isCarried_96 rfl ?_
              refine r_iload_n hc dL_isCarried_97 rfl ?_
              refine r_if_ge (tgt := 105) hc dL_isCarried_98 (by decide) (ge0_Z (by omega)) (fun c_98 => ?_) (fun c_98 => ?_)
              ·
                refine r_iconst (v := nI 0) hc dL_isCarried_105 rfl ?_
                refine r_icmp_ne (tgt := 153) hc dL_isCarried_106 (by decide) (eq_NN (by omega) (by omega)) (fun c_106 => ?_) (fun c_106 => ?_)
                ·
                  exfalso; omega
                ·
                  refine r_iload hc dL_isCarried_109 rfl ?_
                  refine r_if_lt (tgt := 121) hc dL_isCarried_111 (by decide) (l0_Z (by omega)) (fun c_111 => ?_) (fun c_111 => ?_)
                  ·
                    refine r_iload_n hc dL_isCarried_121 rfl ?_
                    refine r_iconst (v := nI 1) hc dL_isCarried_122 rfl ?_
                    refine r_icmp_ne (tgt := 137) hc dL_isCarried_123 (by decide) (eq_NN (by omega) (by omega)) (fun c_123 => ?_) (fun c_123 => ?_)
                    ·
                      refine r_iload_n hc dL_isCarried_137 rfl ?_
                      refine r_if_ne (tgt := 155) hc dL_isCarried_138 (by decide) (e0_N (by omega)) (fun c_138 => ?_) (fun c_138 => ?_)
                      ·
                        exfalso; omega
                      ·
                        refine r_iload_n hc dL_isCarried_141 rfl ?_
                        refine r_iconst (v := nI 1) hc dL_isCarried_142 rfl ?_
                        refine r_icmp_ne (tgt := 153) hc dL_isCarried_143 (by decide) (eq_NN (by omega) (by omega)) (fun c_143 => ?_) (fun c_143 => ?_)
                        ·
                          exfalso; omega
                        ·
                          refine r_iload hc dL_isCarried_146 rfl ?_
                          refine r_bipush (v := zI (-6)) hc dL_isCarried_148 rfl ?_
                          refine r_icmp_eq (tgt := 155) hc dL_isCarried_150 (by decide) (eq_ZZ (by omega) (by omega)) (fun c_150 => ?_) (fun c_150 => ?_)
                          ·
                            refine r_aload_n hc dL_isCarried_155 rfl ?_
                            refine cl_L_92 (As := []) hc (m_carryPlan hG (by omega)) hG.sh rfl ⟨by decide, by decide⟩ ⟨rfl, rfl⟩ ⟨by decide, by decide⟩ rfl (Nat.le_of_ble_eq_true rfl) dL_isCarried_156 (fun r u hp => ?_)
                            obtain ⟨⟨y, w⟩, rfl, hG0, hX⟩ := hp
                            have hT := t_carry hG.ok hL hX
                            dsimp only at hT
                            have hG2 : GS z sh P w u := hG0
                            obtain ⟨hL2, e6, hT⟩ := hT
                            rcases hT with ⟨hno, hy, hw⟩ | ⟨h9, ho, hy, w9⟩
                            ·
                              have hL21 := hL2.1
                              subst hy
                              rw [hw] at hG2 hL2 e6 hL21
                              have hG := hG2
                              refine r_istore (ls' := [(9, .int (zI (-5))), (8, .int (nI (v 7))), (7, .int (nI (inLk v))), (6, .int (zI (sLast v))), (5, .int (zI (sPlanOrder v ((0 : Nat) : Int)))), (4, .int (nI (mC v (v 9) 0))), (3, .int (nI (oC v (v 9) 0))), (2, .int (zI (sPlanOrder v ((0 : Nat) : Int)))), (1, .int (nI (v 9))), (0, .ref P)]) hc dL_isCarried_159 (by decide) rfl ?_
                              refine r_iload_n hc dL_isCarried_161 rfl ?_
                              refine r_if_eq (tgt := 169) hc dL_isCarried_162 (by decide) (e0_N (by omega)) (fun c_162 => ?_) (fun c_162 => ?_)
                              ·
                                refine r_iload hc dL_isCarried_169 rfl ?_
                                refine r_bipush (v := zI (-5)) hc dL_isCarried_171 rfl ?_
                                refine r_icmp_ne (tgt := 211) hc dL_isCarried_173 (by decide) (eq_ZZ (by omega) (by omega)) (fun c_173 => ?_) (fun c_173 => ?_)
                                ·
                                  exfalso; omega
                                ·
                                  refine r_aload_n hc dL_isCarried_176 rfl ?_
                                  refine r_bipush (v := nI 9) hc dL_isCarried_177 rfl ?_
                                  refine cl_L_14 (As := [.int (nI 9)]) hc (qc_9 hG (by omega)) hG.sh rfl ⟨by decide, by decide⟩ ⟨rfl, rfl⟩ ⟨by decide, by decide⟩ rfl (Nat.le_of_ble_eq_true rfl) dL_isCarried_179 (fun r u hp => ?_)
                                  obtain ⟨rfl, hG⟩ := hp
                                  refine r_iload_n hc dL_isCarried_182 rfl ?_
                                  refine r_icmp_ne (tgt := 211) hc dL_isCarried_183 (by decide) (eq_NN (by omega) (by omega)) (fun c_183 => ?_) (fun c_183 => ?_)
                                  ·
                                    exfalso; omega
                                  ·
                                    refine r_aload_n hc dL_isCarried_186 rfl ?_
                                    refine r_bipush (v := nI 7) hc dL_isCarried_187 rfl ?_
                                    refine cl_L_14 (As := [.int (nI 7)]) hc (qc_7 hG (by omega)) hG.sh rfl ⟨by decide, by decide⟩ ⟨rfl, rfl⟩ ⟨by decide, by decide⟩ rfl (Nat.le_of_ble_eq_true rfl) dL_isCarried_189 (fun r u hp => ?_)
                                    obtain ⟨rfl, hG⟩ := hp
                                    refine r_iload hc dL_isCarried_192 rfl ?_
                                    refine r_icmp_ne (tgt := 211) hc dL_isCarried_194 (by decide) (eq_NN (by omega) (by omega)) (fun c_194 => ?_) (fun c_194 => ?_)
                                    ·
                                      exfalso; omega
                                    ·
                                      refine r_aload_n hc dL_isCarried_197 rfl ?_
                                      refine r_iconst (v := nI 5) hc dL_isCarried_198 rfl ?_
                                      refine cl_L_14 (As := [.int (nI 5)]) hc (qc_5 hG (by omega)) hG.sh rfl ⟨by decide, by decide⟩ ⟨rfl, rfl⟩ ⟨by decide, by decide⟩ rfl (Nat.le_of_ble_eq_true rfl) dL_isCarried_199 (fun r u hp => ?_)
                                      obtain ⟨rfl, hG⟩ := hp
                                      refine r_iload hc dL_isCarried_202 rfl ?_
                                      refine r_icmp_ne (tgt := 211) hc dL_isCarried_204 (by decide) (eq_NN (by omega) (by omega)) (fun c_204 => ?_) (fun c_204 => ?_)
                                      ·
                                        exfalso; omega
                                      ·
                                        refine r_iconst (v := nI 1) hc dL_isCarried_207 rfl ?_
                                        refine r_goto (tgt := 212) hc dL_isCarried_208 (by decide) ?_
                                        exact hR _ _ ⟨rfl, v, hG, hL2, by omega⟩ rfl _ _ dL_isCarried_212
                              ·
                                exfalso; omega
                            ·
                              have hL21 := hL2.1
                              subst hy
                              have hn2 := hG2.nums
                              have hG := hG2
                              refine r_istore (ls' := [(9, .int (zI (((w 7 : Nat) : Int)))), (8, .int (nI (v 7))), (7, .int (nI (inLk v))), (6, .int (zI (sLast v))), (5, .int (zI (sPlanOrder v ((0 : Nat) : Int)))), (4, .int (nI (mC v (v 9) 0))), (3, .int (nI (oC v (v 9) 0))), (2, .int (zI (sPlanOrder v ((0 : Nat) : Int)))), (1, .int (nI (v 9))), (0, .ref P)]) hc dL_isCarried_159 (by decide) rfl ?_
                              refine r_iload_n hc dL_isCarried_161 rfl ?_
                              refine r_if_eq (tgt := 169) hc dL_isCarried_162 (by decide) (e0_N (by omega)) (fun c_162 => ?_) (fun c_162 => ?_)
                              ·
                                exfalso; omega
                              ·
                                exfalso; omega
                          ·
                            exfalso; omega
                    ·
                      refine r_iload_n hc dL_isCarried_126 rfl ?_
                      refine r_if_le (tgt := 137) hc dL_isCarried_127 (by decide) (le0_N (by omega)) (fun c_127 => ?_) (fun c_127 => ?_)
                      ·
                        refine r_iload_n hc dL_isCarried_137 rfl ?_
                        refine r_if_ne (tgt := 155) hc dL_isCarried_138 (by decide) (e0_N (by omega)) (fun c_138 => ?_) (fun c_138 => ?_)
                        ·
                          exfalso; omega
                        ·
                          refine r_iload_n hc dL_isCarried_141 rfl ?_
                          refine r_iconst (v := nI 1) hc dL_isCarried_142 rfl ?_
                          refine r_icmp_ne (tgt := 153) hc dL_isCarried_143 (by decide) (eq_NN (by omega) (by omega)) (fun c_143 => ?_) (fun c_143 => ?_)
                          ·
                            exfalso; omega
                          ·
                            refine r_iload hc dL_isCarried_146 rfl ?_
                            refine r_bipush (v := zI (-6)) hc dL_isCarried_148 rfl ?_
                            refine r_icmp_eq (tgt := 155) hc dL_isCarried_150 (by decide) (eq_ZZ (by omega) (by omega)) (fun c_150 => ?_) (fun c_150 => ?_)
                            ·
                              refine r_aload_n hc dL_isCarried_155 rfl ?_
                              refine cl_L_92 (As := []) hc (m_carryPlan hG (by omega)) hG.sh rfl ⟨by decide, by decide⟩ ⟨rfl, rfl⟩ ⟨by decide, by decide⟩ rfl (Nat.le_of_ble_eq_true rfl) dL_isCarried_156 (fun r u hp => ?_)
                              obtain ⟨⟨y, w⟩, rfl, hG0, hX⟩ := hp
                              have hT := t_carry hG.ok hL hX
                              dsimp only at hT
                              have hG2 : GS z sh P w u := hG0
                              obtain ⟨hL2, e6, hT⟩ := hT
                              rcases hT with ⟨hno, hy, hw⟩ | ⟨h9, ho, hy, w9⟩
                              ·
                                have hL21 := hL2.1
                                subst hy
                                rw [hw] at hG2 hL2 e6 hL21
                                have hG := hG2
                                refine r_istore (ls' := [(9, .int (zI (-5))), (8, .int (nI (v 7))), (7, .int (nI (inLk v))), (6, .int (zI (sLast v))), (5, .int (zI (sPlanOrder v ((0 : Nat) : Int)))), (4, .int (nI (mC v (v 9) 0))), (3, .int (nI (oC v (v 9) 0))), (2, .int (zI (sPlanOrder v ((0 : Nat) : Int)))), (1, .int (nI (v 9))), (0, .ref P)]) hc dL_isCarried_159 (by decide) rfl ?_
                                refine r_iload_n hc dL_isCarried_161 rfl ?_
                                refine r_if_eq (tgt := 169) hc dL_isCarried_162 (by decide) (e0_N (by omega)) (fun c_162 => ?_) (fun c_162 => ?_)
                                ·
                                  refine r_iload hc dL_isCarried_169 rfl ?_
                                  refine r_bipush (v := zI (-5)) hc dL_isCarried_171 rfl ?_
                                  refine r_icmp_ne (tgt := 211) hc dL_isCarried_173 (by decide) (eq_ZZ (by omega) (by omega)) (fun c_173 => ?_) (fun c_173 => ?_)
                                  ·
                                    exfalso; omega
                                  ·
                                    refine r_aload_n hc dL_isCarried_176 rfl ?_
                                    refine r_bipush (v := nI 9) hc dL_isCarried_177 rfl ?_
                                    refine cl_L_14 (As := [.int (nI 9)]) hc (qc_9 hG (by omega)) hG.sh rfl ⟨by decide, by decide⟩ ⟨rfl, rfl⟩ ⟨by decide, by decide⟩ rfl (Nat.le_of_ble_eq_true rfl) dL_isCarried_179 (fun r u hp => ?_)
                                    obtain ⟨rfl, hG⟩ := hp
                                    refine r_iload_n hc dL_isCarried_182 rfl ?_
                                    refine r_icmp_ne (tgt := 211) hc dL_isCarried_183 (by decide) (eq_NN (by omega) (by omega)) (fun c_183 => ?_) (fun c_183 => ?_)
                                    ·
                                      exfalso; omega
                                    ·
                                      refine r_aload_n hc dL_isCarried_186 rfl ?_
                                      refine r_bipush (v := nI 7) hc dL_isCarried_187 rfl ?_
                                      refine cl_L_14 (As := [.int (nI 7)]) hc (qc_7 hG (by omega)) hG.sh rfl ⟨by decide, by decide⟩ ⟨rfl, rfl⟩ ⟨by decide, by decide⟩ rfl (Nat.le_of_ble_eq_true rfl) dL_isCarried_189 (fun r u hp => ?_)
                                      obtain ⟨rfl, hG⟩ := hp
                                      refine r_iload hc dL_isCarried_192 rfl ?_
                                      refine r_icmp_ne (tgt := 211) hc dL_isCarried_194 (by decide) (eq_NN (by omega) (by omega)) (fun c_194 => ?_) (fun c_194 => ?_)
                                      ·
                                        exfalso; omega
                                      ·
                                        refine r_aload_n hc dL_isCarried_197 rfl ?_
                                        refine r_iconst (v := nI 5) hc dL_isCarried_198 rfl ?_
                                        refine cl_L_14 (As := [.int (nI 5)]) hc (qc_5 hG (by omega)) hG.sh rfl ⟨by decide, by decide⟩ ⟨rfl, rfl⟩ ⟨by decide, by decide⟩ rfl (Nat.le_of_ble_eq_true rfl) dL_isCarried_199 (fun r u hp => ?_)
                                        obtain ⟨rfl, hG⟩ := hp
                                        refine r_iload hc dL_isCarried_202 rfl ?_
                                        refine r_icmp_ne (tgt := 211) hc dL_isCarried_204 (by decide) (eq_NN (by omega) (by omega)) (fun c_204 => ?_) (fun c_204 => ?_)
                                        ·
                                          exfalso; omega
                                        ·
                                          refine r_iconst (v := nI 1) hc dL_isCarried_207 rfl ?_
                                          refine r_goto (tgt := 212) hc dL_isCarried_208 (by decide) ?_
                                          exact hR _ _ ⟨rfl, v, hG, hL2, by omega⟩ rfl _ _ dL_isCarried_212
                                ·
                                  exfalso; omega
                              ·
                                have hL21 := hL2.1
                                subst hy
                                have hn2 := hG2.nums
                                have hG := hG2
                                refine r_istore (ls' := [(9, .int (zI (((w 7 : Nat) : Int)))), (8, .int (nI (v 7))), (7, .int (nI (inLk v))), (6, .int (zI (sLast v))), (5, .int (zI (sPlanOrder v ((0 : Nat) : Int)))), (4, .int (nI (mC v (v 9) 0))), (3, .int (nI (oC v (v 9) 0))), (2, .int (zI (sPlanOrder v ((0 : Nat) : Int)))), (1, .int (nI (v 9))), (0, .ref P)]) hc dL_isCarried_159 (by decide) rfl ?_
                                refine r_iload_n hc dL_isCarried_161 rfl ?_
                                refine r_if_eq (tgt := 169) hc dL_isCarried_162 (by decide) (e0_N (by omega)) (fun c_162 => ?_) (fun c_162 => ?_)
                                ·
                                  exfalso; omega
                                ·
                                  exfalso; omega
                            ·
                              exfalso; omega
                      ·
                        exfalso; omega
                  ·
                    exfalso; omega
              ·
                refine r_iconst (v := nI 1) hc dL_isCarried_101 rfl ?_
                refine r_goto (tgt := 106) hc dL_isCarried_102 (by decide) ?_
                refine r_icmp_ne (tgt := 153) hc dL_isCarried_106 (by decide) (eq_NN (by omega) (by omega)) (fun c_106 => ?_) (fun c_106 => ?_)
                ·
                  exfalso; omega
                ·
                  exfalso; omega
            ·
              refine r_iconst (v := nI 1) hc dL_isCarried_92 rfl ?_
              refine r_goto (tgt := 97) hc dL_isCarried_93 (by decide) ?_
              refine r_iload_n hc dL_isCarried_97 rfl ?_
              refine r_if_ge (tgt := 105) hc dL_isCarried_98 (by decide) (ge0_Z (by omega)) (fun c_98 => ?_) (fun c_98 => ?_)
              ·
                refine r_iconst (v := nI 0) hc dL_isCarried_105 rfl ?_
                refine r_icmp_ne (tgt := 153) hc dL_isCarried_106 (by decide) (eq_NN (by omega) (by omega)) (fun c_106 => ?_) (fun c_106 => ?_)
                ·
                  exfalso; omega
                ·
                  exfalso; omega
              ·
                refine r_iconst (v := nI 1) hc dL_isCarried_101 rfl ?_
                refine r_goto (tgt := 106) hc dL_isCarried_102 (by decide) ?_
                refine r_icmp_ne (tgt := 153) hc dL_isCarried_106 (by decide) (eq_NN (by omega) (by omega)) (fun c_106 => ?_) (fun c_106 => ?_)
                ·
                  exfalso; omega
                ·
                  refine r_iload hc dL_isCarried_109 rfl ?_
                  refine r_if_lt (tgt := 121) hc dL_isCarried_111 (by decide) (l0_Z (by omega)) (fun c_111 => ?_) (fun c_111 => ?_)
                  ·
                    refine r_iload_n hc dL_isCarried_121 rfl ?_
                    refine r_iconst (v := nI 1) hc dL_isCarried_122 rfl ?_
                    refine r_icmp_ne (tgt := 137) hc dL_isCarried_123 (by decide) (eq_NN (by omega) (by omega)) (fun c_123 => ?_) (fun c_123 => ?_)
                    ·
                      refine r_iload_n hc dL_isCarried_137 rfl ?_
                      refine r_if_ne (tgt := 155) hc dL_isCarried_138 (by decide) (e0_N (by omega)) (fun c_138 => ?_) (fun c_138 => ?_)
                      ·
                        exfalso; omega
                      ·
                        refine r_iload_n hc dL_isCarried_141 rfl ?_
                        refine r_iconst (v := nI 1) hc dL_isCarried_142 rfl ?_
                        refine r_icmp_ne (tgt := 153) hc dL_isCarried_143 (by decide) (eq_NN (by omega) (by omega)) (fun c_143 => ?_) (fun c_143 => ?_)
                        ·
                          exfalso; omega
                        ·
                          refine r_iload hc dL_isCarried_146 rfl ?_
                          refine r_bipush (v := zI (-6)) hc dL_isCarried_148 rfl ?_
                          refine r_icmp_eq (tgt := 155) hc dL_isCarried_150 (by decide) (eq_ZZ (by omega) (by omega)) (fun c_150 => ?_) (fun c_150 => ?_)
                          ·
                            refine r_aload_n hc dL_isCarried_155 rfl ?_
                            refine cl_L_92 (As := []) hc (m_carryPlan hG (by omega)) hG.sh rfl ⟨by decide, by decide⟩ ⟨rfl, rfl⟩ ⟨by decide, by decide⟩ rfl (Nat.le_of_ble_eq_true rfl) dL_isCarried_156 (fun r u hp => ?_)
                            obtain ⟨⟨y, w⟩, rfl, hG0, hX⟩ := hp
                            have hT := t_carry hG.ok hL hX
                            dsimp only at hT
                            have hG2 : GS z sh P w u := hG0
                            obtain ⟨hL2, e6, hT⟩ := hT
                            rcases hT with ⟨hno, hy, hw⟩ | ⟨h9, ho, hy, w9⟩
                            ·
                              have hL21 := hL2.1
                              subst hy
                              rw [hw] at hG2 hL2 e6 hL21
                              have hG := hG2
                              refine r_istore (ls' := [(9, .int (zI (-5))), (8, .int (nI (v 7))), (7, .int (nI (inLk v))), (6, .int (zI (sLast v))), (5, .int (zI (sPlanOrder v ((0 : Nat) : Int)))), (4, .int (nI (mC v (v 9) 0))), (3, .int (nI (oC v (v 9) 0))), (2, .int (zI (sPlanOrder v ((0 : Nat) : Int)))), (1, .int (nI (v 9))), (0, .ref P)]) hc dL_isCarried_159 (by decide) rfl ?_
                              refine r_iload_n hc dL_isCarried_161 rfl ?_
                              refine r_if_eq (tgt := 169) hc dL_isCarried_162 (by decide) (e0_N (by omega)) (fun c_162 => ?_) (fun c_162 => ?_)
                              ·
                                refine r_iload hc dL_isCarried_169 rfl ?_
                                refine r_bipush (v := zI (-5)) hc dL_isCarried_171 rfl ?_
                                refine r_icmp_ne (tgt := 211) hc dL_isCarried_173 (by decide) (eq_ZZ (by omega) (by omega)) (fun c_173 => ?_) (fun c_173 => ?_)
                                ·
                                  exfalso; omega
                                ·
                                  refine r_aload_n hc dL_isCarried_176 rfl ?_
                                  refine r_bipush (v := nI 9) hc dL_isCarried_177 rfl ?_
                                  refine cl_L_14 (As := [.int (nI 9)]) hc (qc_9 hG (by omega)) hG.sh rfl ⟨by decide, by decide⟩ ⟨rfl, rfl⟩ ⟨by decide, by decide⟩ rfl (Nat.le_of_ble_eq_true rfl) dL_isCarried_179 (fun r u hp => ?_)
                                  obtain ⟨rfl, hG⟩ := hp
                                  refine r_iload_n hc dL_isCarried_182 rfl ?_
                                  refine r_icmp_ne (tgt := 211) hc dL_isCarried_183 (by decide) (eq_NN (by omega) (by omega)) (fun c_183 => ?_) (fun c_183 => ?_)
                                  ·
                                    exfalso; omega
                                  ·
                                    refine r_aload_n hc dL_isCarried_186 rfl ?_
                                    refine r_bipush (v := nI 7) hc dL_isCarried_187 rfl ?_
                                    refine cl_L_14 (As := [.int (nI 7)]) hc (qc_7 hG (by omega)) hG.sh rfl ⟨by decide, by decide⟩ ⟨rfl, rfl⟩ ⟨by decide, by decide⟩ rfl (Nat.le_of_ble_eq_true rfl) dL_isCarried_189 (fun r u hp => ?_)
                                    obtain ⟨rfl, hG⟩ := hp
                                    refine r_iload hc dL_isCarried_192 rfl ?_
                                    refine r_icmp_ne (tgt := 211) hc dL_isCarried_194 (by decide) (eq_NN (by omega) (by omega)) (fun c_194 => ?_) (fun c_194 => ?_)
                                    ·
                                      exfalso; omega
                                    ·
                                      refine r_aload_n hc dL_isCarried_197 rfl ?_
                                      refine r_iconst (v := nI 5) hc dL_isCarried_198 rfl ?_
                                      refine cl_L_14 (As := [.int (nI 5)]) hc (qc_5 hG (by omega)) hG.sh rfl ⟨by decide, by decide⟩ ⟨rfl, rfl⟩ ⟨by decide, by decide⟩ rfl (Nat.le_of_ble_eq_true rfl) dL_isCarried_199 (fun r u hp => ?_)
                                      obtain ⟨rfl, hG⟩ := hp
                                      refine r_iload hc dL_isCarried_202 rfl ?_
                                      refine r_icmp_ne (tgt := 211) hc dL_isCarried_204 (by decide) (eq_NN (by omega) (by omega)) (fun c_204 => ?_) (fun c_204 => ?_)
                                      ·
                                        exfalso; omega
                                      ·
                                        refine r_iconst (v := nI 1) hc dL_isCarried_207 rfl ?_
                                        refine r_goto (tgt := 212) hc dL_isCarried_208 (by decide) ?_
                                        exact hR _ _ ⟨rfl, v, hG, hL2, by omega⟩ rfl _ _ dL_isCarried_212
                              ·
                                exfalso; omega
                            ·
                              have hL21 := hL2.1
                              subst hy
                              have hn2 := hG2.nums
                              have hG := hG2
                              refine r_istore (ls' := [(9, .int (zI (((w 7 : Nat) : Int)))), (8, .int (nI (v 7))), (7, .int (nI (inLk v))), (6, .int (zI (sLast v))), (5, .int (zI (sPlanOrder v ((0 : Nat) : Int)))), (4, .int (nI (mC v (v 9) 0))), (3, .int (nI (oC v (v 9) 0))), (2, .int (zI (sPlanOrder v ((0 : Nat) : Int)))), (1, .int (nI (v 9))), (0, .ref P)]) hc dL_isCarried_159 (by decide) rfl ?_
                              refine r_iload_n hc dL_isCarried_161 rfl ?_
                              refine r_if_eq (tgt := 169) hc dL_isCarried_162 (by decide) (e0_N (by omega)) (fun c_162 => ?_) (fun c_162 => ?_)
                              ·
                                exfalso; omega
                              ·
                                exfalso; omega
                          ·
                            exfalso; omega
                    ·
                      refine r_iload_n hc dL_isCarried_126 rfl ?_
                      refine r_if_le (tgt := 137) hc dL_isCarried_127 (by decide) (le0_N (by omega)) (fun c_127 => ?_) (fun c_127 => ?_)
                      ·
                        refine r_iload_n hc dL_isCarried_137 rfl ?_
                        refine r_if_ne (tgt := 155) hc dL_isCarried_138 (by decide) (e0_N (by omega)) (fun c_138 => ?_) (fun c_138 => ?_)
                        ·
                          exfalso; omega
                        ·
                          refine r_iload_n hc dL_isCarried_141 rfl ?_
                          refine r_iconst (v := nI 1) hc dL_isCarried_142 rfl ?_
                          refine r_icmp_ne (tgt := 153) hc dL_isCarried_143 (by decide) (eq_NN (by omega) (by omega)) (fun c_143 => ?_) (fun c_143 => ?_)
                          ·
                            exfalso; omega
                          ·
                            refine r_iload hc dL_isCarried_146 rfl ?_
                            refine r_bipush (v := zI (-6)) hc dL_isCarried_148 rfl ?_
                            refine r_icmp_eq (tgt := 155) hc dL_isCarried_150 (by decide) (eq_ZZ (by omega) (by omega)) (fun c_150 => ?_) (fun c_150 => ?_)
                            ·
                              refine r_aload_n hc dL_isCarried_155 rfl ?_
                              refine cl_L_92 (As := []) hc (m_carryPlan hG (by omega)) hG.sh rfl ⟨by decide, by decide⟩ ⟨rfl, rfl⟩ ⟨by decide, by decide⟩ rfl (Nat.le_of_ble_eq_true rfl) dL_isCarried_156 (fun r u hp => ?_)
                              obtain ⟨⟨y, w⟩, rfl, hG0, hX⟩ := hp
                              have hT := t_carry hG.ok hL hX
                              dsimp only at hT
                              have hG2 : GS z sh P w u := hG0
                              obtain ⟨hL2, e6, hT⟩ := hT
                              rcases hT with ⟨hno, hy, hw⟩ | ⟨h9, ho, hy, w9⟩
                              ·
                                have hL21 := hL2.1
                                subst hy
                                rw [hw] at hG2 hL2 e6 hL21
                                have hG := hG2
                                refine r_istore (ls' := [(9, .int (zI (-5))), (8, .int (nI (v 7))), (7, .int (nI (inLk v))), (6, .int (zI (sLast v))), (5, .int (zI (sPlanOrder v ((0 : Nat) : Int)))), (4, .int (nI (mC v (v 9) 0))), (3, .int (nI (oC v (v 9) 0))), (2, .int (zI (sPlanOrder v ((0 : Nat) : Int)))), (1, .int (nI (v 9))), (0, .ref P)]) hc dL_isCarried_159 (by decide) rfl ?_
                                refine r_iload_n hc dL_isCarried_161 rfl ?_
                                refine r_if_eq (tgt := 169) hc dL_isCarried_162 (by decide) (e0_N (by omega)) (fun c_162 => ?_) (fun c_162 => ?_)
                                ·
                                  refine r_iload hc dL_isCarried_169 rfl ?_
                                  refine r_bipush (v := zI (-5)) hc dL_isCarried_171 rfl ?_
                                  refine r_icmp_ne (tgt := 211) hc dL_isCarried_173 (by decide) (eq_ZZ (by omega) (by omega)) (fun c_173 => ?_) (fun c_173 => ?_)
                                  ·
                                    exfalso; omega
                                  ·
                                    refine r_aload_n hc dL_isCarried_176 rfl ?_
                                    refine r_bipush (v := nI 9) hc dL_isCarried_177 rfl ?_
                                    refine cl_L_14 (As := [.int (nI 9)]) hc (qc_9 hG (by omega)) hG.sh rfl ⟨by decide, by decide⟩ ⟨rfl, rfl⟩ ⟨by decide, by decide⟩ rfl (Nat.le_of_ble_eq_true rfl) dL_isCarried_179 (fun r u hp => ?_)
                                    obtain ⟨rfl, hG⟩ := hp
                                    refine r_iload_n hc dL_isCarried_182 rfl ?_
                                    refine r_icmp_ne (tgt := 211) hc dL_isCarried_183 (by decide) (eq_NN (by omega) (by omega)) (fun c_183 => ?_) (fun c_183 => ?_)
                                    ·
                                      exfalso; omega
                                    ·
                                      refine r_aload_n hc dL_isCarried_186 rfl ?_
                                      refine r_bipush (v := nI 7) hc dL_isCarried_187 rfl ?_
                                      refine cl_L_14 (As := [.int (nI 7)]) hc (qc_7 hG (by omega)) hG.sh rfl ⟨by decide, by decide⟩ ⟨rfl, rfl⟩ ⟨by decide, by decide⟩ rfl (Nat.le_of_ble_eq_true rfl) dL_isCarried_189 (fun r u hp => ?_)
                                      obtain ⟨rfl, hG⟩ := hp
                                      refine r_iload hc dL_isCarried_192 rfl ?_
                                      refine r_icmp_ne (tgt := 211) hc dL_isCarried_194 (by decide) (eq_NN (by omega) (by omega)) (fun c_194 => ?_) (fun c_194 => ?_)
                                      ·
                                        exfalso; omega
                                      ·
                                        refine r_aload_n hc dL_isCarried_197 rfl ?_
                                        refine r_iconst (v := nI 5) hc dL_isCarried_198 rfl ?_
                                        refine cl_L_14 (As := [.int (nI 5)]) hc (qc_5 hG (by omega)) hG.sh rfl ⟨by decide, by decide⟩ ⟨rfl, rfl⟩ ⟨by decide, by decide⟩ rfl (Nat.le_of_ble_eq_true rfl) dL_isCarried_199 (fun r u hp => ?_)
                                        obtain ⟨rfl, hG⟩ := hp
                                        refine r_iload hc dL_isCarried_202 rfl ?_
                                        refine r_icmp_ne (tgt := 211) hc dL_isCarried_204 (by decide) (eq_NN (by omega) (by omega)) (fun c_204 => ?_) (fun c_204 => ?_)
                                        ·
                                          exfalso; omega
                                        ·
                                          refine r_iconst (v := nI 1) hc dL_isCarried_207 rfl ?_
                                          refine r_goto (tgt := 212) hc dL_isCarried_208 (by decide) ?_
                                          exact hR _ _ ⟨rfl, v, hG, hL2, by omega⟩ rfl _ _ dL_isCarried_212
                                ·
                                  exfalso; omega
                              ·
                                have hL21 := hL2.1
                                subst hy
                                have hn2 := hG2.nums
                                have hG := hG2
                                refine r_istore (ls' := [(9, .int (zI (((w 7 : Nat) : Int)))), (8, .int (nI (v 7))), (7, .int (nI (inLk v))), (6, .int (zI (sLast v))), (5, .int (zI (sPlanOrder v ((0 : Nat) : Int)))), (4, .int (nI (mC v (v 9) 0))), (3, .int (nI (oC v (v 9) 0))), (2, .int (zI (sPlanOrder v ((0 : Nat) : Int)))), (1, .int (nI (v 9))), (0, .ref P)]) hc dL_isCarried_159 (by decide) rfl ?_
                                refine r_iload_n hc dL_isCarried_161 rfl ?_
                                refine r_if_eq (tgt := 169) hc dL_isCarried_162 (by decide) (e0_N (by omega)) (fun c_162 => ?_) (fun c_162 => ?_)
                                ·
                                  exfalso; omega
                                ·
                                  exfalso; omega
                            ·
                              exfalso; omega
                      ·
                        exfalso; omega
                  ·
                    exfalso; omega
      ·
        refine r_iconst (v := nI 1) hc dL_isCarried_76 rfl ?_
        refine r_goto (tgt := 81) hc dL_isCarried_77 (by decide) ?_
        refine r_icmp_ne (tgt := 153) hc dL_isCarried_81 (by decide) (eq_NN (by omega) (by omega)) (fun c_81 => ?_) (fun c_81 => ?_)
        ·
          exfalso; omega
        ·
          exfalso; omega
    ·
      exfalso; omega
