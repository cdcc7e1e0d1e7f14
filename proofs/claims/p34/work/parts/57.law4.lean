/-! ===== the law ===== -/
set_option maxRecDepth 100000 in
set_option maxHeartbeats 4000000 in
theorem law_run {Ω : OmT} {Φ : PhT} {z : Nat} {sh : Nat → Option Kd} {P : Nat} {v : Nat → Nat} {S : StT} (hc : CXp Ω Φ cL_law RL room_1 3) (hG : GS z sh P v S) (hL : Led v) (hB : v 6 = 0) (hend : ∀ (S : StT) (pc : Nat) (ls : List (Nat × Value)), decode cL_law pc = .ok (.ireturn, 1) → Vw Ω Φ S (600000, 7302250) pc ls [.int (nI 1)]) : Vw Ω Φ S (600000, 7302250) 8 [(0, .ref (scB Ω)), (1, .ref P)] [] := by
  have hL21 := hL.1
  refine r_aload_n hc dL_law_8 rfl ?_
  refine r_iconst (v := nI 0) hc dL_law_9 rfl ?_
  refine r_iconst (v := nI 3) hc dL_law_10 rfl ?_
  refine r_aload_n hc dL_law_11 rfl ?_
  refine r_iconst (v := nI 0) hc dL_law_12 rfl ?_
  refine r_bipush (v := nI 7) hc dL_law_13 rfl ?_
  refine cl_L_95 (As := [.ref (scB Ω), .int (nI 0), .int (nI 7)]) hc (c_L_cell (k := 0) (n := 7) (by omega) (by omega) (by omega)) rfl ⟨Nat.le_of_ble_eq_true rfl, Nat.le_of_ble_eq_true rfl⟩ ⟨rfl, rfl⟩ ⟨Nat.le_of_ble_eq_true rfl, Nat.le_of_ble_eq_true rfl⟩ rfl (Nat.le_of_ble_eq_true rfl) dL_law_15 (fun r u hp => ?_)
  obtain ⟨m_15, hm_15, rfl, hu⟩ := hp
  rw [hu]
  refine r_iadd (v := nI (3 + m_15)) hc dL_law_18 (ad_NN _ _) ?_
  refine cl_L_142 (As := [.int (nI 0), .int (nI (3 + m_15))]) hc (m_set hG (by omega) (x := 0) (y := 3 + m_15) (by omega) (by omega)) hG.sh rfl ⟨Nat.le_of_ble_eq_true rfl, Nat.le_of_ble_eq_true rfl⟩ ⟨rfl, rfl⟩ ⟨Nat.le_of_ble_eq_true rfl, Nat.le_of_ble_eq_true rfl⟩ rfl (Nat.le_of_ble_eq_true rfl) dL_law_19 (fun r u hp => ?_)
  obtain ⟨X1, rfl, hG2, hX⟩ := hp
  obtain ⟨v1, hv1⟩ : ∃ v1, v1 = X1.2 := ⟨_, rfl⟩
  have hT := t_sett hG.ok hL _ _ hX
  rw [← hv1] at hG2 hT
  obtain ⟨hL, e1⟩ := hT
  have hG := hG2
  have hL21 := hL.1
  refine r_pop hc dL_law_22 rfl ?_
  refine r_aload_n hc dL_law_23 rfl ?_
  refine r_iconst (v := nI 1) hc dL_law_24 rfl ?_
  refine r_aload_n hc dL_law_25 rfl ?_
  refine r_iconst (v := nI 1) hc dL_law_26 rfl ?_
  refine r_bipush (v := nI 51) hc dL_law_27 rfl ?_
  refine cl_L_95 (As := [.ref (scB Ω), .int (nI 1), .int (nI 51)]) hc (c_L_cell (k := 1) (n := 51) (by omega) (by omega) (by omega)) rfl ⟨Nat.le_of_ble_eq_true rfl, Nat.le_of_ble_eq_true rfl⟩ ⟨rfl, rfl⟩ ⟨Nat.le_of_ble_eq_true rfl, Nat.le_of_ble_eq_true rfl⟩ rfl (Nat.le_of_ble_eq_true rfl) dL_law_29 (fun r u hp => ?_)
  obtain ⟨m_29, hm_29, rfl, hu⟩ := hp
  rw [hu]
  refine cl_L_142 (As := [.int (nI 1), .int (nI m_29)]) hc (m_set hG (by omega) (x := 1) (y := m_29) (by omega) (by omega)) hG.sh rfl ⟨Nat.le_of_ble_eq_true rfl, Nat.le_of_ble_eq_true rfl⟩ ⟨rfl, rfl⟩ ⟨Nat.le_of_ble_eq_true rfl, Nat.le_of_ble_eq_true rfl⟩ rfl (Nat.le_of_ble_eq_true rfl) dL_law_32 (fun r u hp => ?_)
  obtain ⟨X2, rfl, hG2, hX⟩ := hp
  obtain ⟨v2, hv2⟩ : ∃ v2, v2 = X2.2 := ⟨_, rfl⟩
  have hT := t_sett hG.ok hL _ _ hX
  rw [← hv2] at hG2 hT
  obtain ⟨hL, e2⟩ := hT
  have hG := hG2
  have hL21 := hL.1
  refine r_pop hc dL_law_35 rfl ?_
  refine r_aload_n hc dL_law_36 rfl ?_
  refine r_iconst (v := nI 2) hc dL_law_37 rfl ?_
  refine r_bipush (v := nI 40) hc dL_law_38 rfl ?_
  refine r_aload_n hc dL_law_40 rfl ?_
  refine r_iconst (v := nI 2) hc dL_law_41 rfl ?_
  refine r_bipush (v := nI 51) hc dL_law_42 rfl ?_
  refine cl_L_95 (As := [.ref (scB Ω), .int (nI 2), .int (nI 51)]) hc (c_L_cell (k := 2) (n := 51) (by omega) (by omega) (by omega)) rfl ⟨Nat.le_of_ble_eq_true rfl, Nat.le_of_ble_eq_true rfl⟩ ⟨rfl, rfl⟩ ⟨Nat.le_of_ble_eq_true rfl, Nat.le_of_ble_eq_true rfl⟩ rfl (Nat.le_of_ble_eq_true rfl) dL_law_44 (fun r u hp => ?_)
  obtain ⟨m_44, hm_44, rfl, hu⟩ := hp
  rw [hu]
  refine r_iadd (v := nI (40 + m_44)) hc dL_law_47 (ad_NN _ _) ?_
  refine cl_L_142 (As := [.int (nI 2), .int (nI (40 + m_44))]) hc (m_set hG (by omega) (x := 2) (y := 40 + m_44) (by omega) (by omega)) hG.sh rfl ⟨Nat.le_of_ble_eq_true rfl, Nat.le_of_ble_eq_true rfl⟩ ⟨rfl, rfl⟩ ⟨Nat.le_of_ble_eq_true rfl, Nat.le_of_ble_eq_true rfl⟩ rfl (Nat.le_of_ble_eq_true rfl) dL_law_48 (fun r u hp => ?_)
  obtain ⟨X3, rfl, hG2, hX⟩ := hp
  obtain ⟨v3, hv3⟩ : ∃ v3, v3 = X3.2 := ⟨_, rfl⟩
  have hT := t_sett hG.ok hL _ _ hX
  rw [← hv3] at hG2 hT
  obtain ⟨hL, e3⟩ := hT
  have hG := hG2
  have hL21 := hL.1
  refine r_pop hc dL_law_51 rfl ?_
  refine r_aload_n hc dL_law_52 rfl ?_
  refine r_bipush (v := nI 100) hc dL_law_53 rfl ?_
  refine r_aload_n hc dL_law_55 rfl ?_
  refine r_iconst (v := nI 3) hc dL_law_56 rfl ?_
  refine r_sipush (v := nI 300) hc dL_law_57 rfl ?_
  refine cl_L_95 (As := [.ref (scB Ω), .int (nI 3), .int (nI 300)]) hc (c_L_cell (k := 3) (n := 300) (by omega) (by omega) (by omega)) rfl ⟨Nat.le_of_ble_eq_true rfl, Nat.le_of_ble_eq_true rfl⟩ ⟨rfl, rfl⟩ ⟨Nat.le_of_ble_eq_true rfl, Nat.le_of_ble_eq_true rfl⟩ rfl (Nat.le_of_ble_eq_true rfl) dL_law_60 (fun r u hp => ?_)
  obtain ⟨m_60, hm_60, rfl, hu⟩ := hp
  rw [hu]
  refine r_iadd (v := nI (100 + m_60)) hc dL_law_63 (ad_NN _ _) ?_
  refine cl_L_131 (As := [.int (nI (100 + m_60))]) hc (m_brass hG (by omega) (g := 100 + m_60) (by omega)) hG.sh rfl ⟨Nat.le_of_ble_eq_true rfl, Nat.le_of_ble_eq_true rfl⟩ ⟨rfl, rfl⟩ ⟨Nat.le_of_ble_eq_true rfl, Nat.le_of_ble_eq_true rfl⟩ rfl (Nat.le_of_ble_eq_true rfl) dL_law_64 (fun r u hp => ?_)
  obtain ⟨X, rfl, hG2, hX⟩ := hp
  obtain ⟨w, hE, hL, e6, w7⟩ := t_brass hG.ok hL (g := 100 + m_60) (by omega)
  rw [hE] at hX
  subst hX
  have hG : GS z sh P w u := hG2
  have hL21 := hL.1
  refine r_pop hc dL_law_67 rfl ?_
  refine r_iconst (v := nI 0) hc dL_law_68 rfl ?_
  refine r_istore_n (ls' := [(2, .int (nI 0)), (0, .ref (scB Ω)), (1, .ref P)]) hc dL_law_69 (by decide) rfl ?_
  have loop70 : ∀ (n70 : Nat) (S : StT) (x : Nat → Nat) (d : Nat), (d ≤ 5) → (GS z sh P x S) → (Led x) → (x 6 ≤ 1000 + 100 * d) → (5 - d) < n70 → Vw Ω Φ S (600000, 7302250) 70 [(0, .ref (scB Ω)), (1, .ref P), (2, .int (nI d))] [] := by
    intro n70
    induction n70 with
    | zero => intro S x d hd hG hL hB hm; exact absurd hm (Nat.not_lt_zero _)
    | succ n70 ih70 =>
      intro S x d hd hG hL hB hm70
      have hL21 := hL.1
      refine r_iload_n hc dL_law_70 rfl ?_
      refine r_iconst (v := nI 5) hc dL_law_71 rfl ?_
      refine r_icmp_ge (tgt := 117) hc dL_law_72 (by decide) (le_NN (by omega) (by omega)) (fun c_72 => ?_) (fun c_72 => ?_)
      ·
        refine r_iconst (v := nI 0) hc dL_law_117 rfl ?_
        refine r_istore_n (ls' := [(2, .int (nI 0)), (0, .ref (scB Ω)), (1, .ref P)]) hc dL_law_118 (by decide) rfl ?_
        have loop119 : ∀ (n119 : Nat) (S : StT) (x : Nat → Nat) (d : Nat), (d ≤ 4) → (GS z sh P x S) → (Led x) → (x 6 ≤ 2000 + 100 * d) → (4 - d) < n119 → Vw Ω Φ S (600000, 7302250) 119 [(0, .ref (scB Ω)), (1, .ref P), (2, .int (nI d))] [] := by
          intro n119
          induction n119 with
          | zero => intro S x d hd hG hL hB hm; exact absurd hm (Nat.not_lt_zero _)
          | succ n119 ih119 =>
            intro S x d hd hG hL hB hm119
            have hL21 := hL.1
            refine r_iload_n hc dL_law_119 rfl ?_
            refine r_iconst (v := nI 4) hc dL_law_120 rfl ?_
            refine r_icmp_ge (tgt := 158) hc dL_law_121 (by decide) (le_NN (by omega) (by omega)) (fun c_121 => ?_) (fun c_121 => ?_)
            ·
              refine r_iconst (v := nI 0) hc dL_law_158 rfl ?_
              refine r_istore_n (ls' := [(2, .int (nI 0)), (0, .ref (scB Ω)), (1, .ref P)]) hc dL_law_159 (by decide) rfl ?_
              have loop160 : ∀ (n160 : Nat) (S : StT) (x : Nat → Nat) (d : Nat), (d ≤ 64) → (GS z sh P x S) → (Led x) → (x 6 ≤ 3000 + 100 * d) → (64 - d) < n160 → Vw Ω Φ S (600000, 7302250) 160 [(0, .ref (scB Ω)), (1, .ref P), (2, .int (nI d))] [] := by
                intro n160
                induction n160 with
                | zero => intro S x d hd hG hL hB hm; exact absurd hm (Nat.not_lt_zero _)
                | succ n160 ih160 =>
                  intro S x d hd hG hL hB hm160
                  have hL21 := hL.1
                  refine r_iload_n hc dL_law_160 rfl ?_
                  refine r_bipush (v := nI 64) hc dL_law_161 rfl ?_
                  refine r_icmp_ge (tgt := 196) hc dL_law_163 (by decide) (le_NN (by omega) (by omega)) (fun c_163 => ?_) (fun c_163 => ?_)
                  ·
                    refine r_iconst (v := nI 1) hc dL_law_196 rfl ?_
                    exact hend _ _ _ dL_law_197
                  ·
                    refine r_aload_n hc dL_law_166 rfl ?_
                    refine r_aload_n hc dL_law_167 rfl ?_
                    refine r_bipush (v := nI 50) hc dL_law_168 rfl ?_
                    refine r_bipush (v := nI 6) hc dL_law_170 rfl ?_
                    refine r_iload_n hc dL_law_172 rfl ?_
                    refine r_imul (v := nI (6 * d)) hc dL_law_173 (ml_NN _ _) ?_
                    refine r_iadd (v := nI (50 + (6 * d))) hc dL_law_174 (ad_NN _ _) ?_
                    refine cl_L_145 (As := [.ref P, .ref (scB Ω), .int (nI (50 + (6 * d)))]) hc (c_L_isAct hG hL (by omega) (a := 50 + (6 * d)) (by omega)) rfl ⟨Nat.le_of_ble_eq_true rfl, Nat.le_of_ble_eq_true rfl⟩ ⟨rfl, rfl⟩ ⟨Nat.le_of_ble_eq_true rfl, Nat.le_of_ble_eq_true rfl⟩ rfl (Nat.le_of_ble_eq_true rfl) dL_law_175 (fun r u hp => ?_)
                    obtain ⟨rfl, w, hG, hL, h6⟩ := hp
                    have hL21 := hL.1
                    refine r_if_eq (tgt := 188) hc dL_law_178 (by decide) (e0_N (by omega)) (fun c_178 => ?_) (fun c_178 => ?_)
                    ·
                      exfalso; omega
                    ·
                      refine r_aload_n hc dL_law_181 rfl ?_
                      refine cl_L_149 (As := [.ref P]) hc (c_L_agree hG hL (by omega)) rfl ⟨Nat.le_of_ble_eq_true rfl, Nat.le_of_ble_eq_true rfl⟩ ⟨rfl, rfl⟩ ⟨Nat.le_of_ble_eq_true rfl, Nat.le_of_ble_eq_true rfl⟩ rfl (Nat.le_of_ble_eq_true rfl) dL_law_182 (fun r u hp => ?_)
                      obtain ⟨rfl, hG⟩ := hp
                      refine r_if_ne (tgt := 190) hc dL_law_185 (by decide) (e0_N (by omega)) (fun c_185 => ?_) (fun c_185 => ?_)
                      ·
                        refine r_iinc (v := nI (d + 1)) (ls' := [(2, .int (nI (d + 1))), (0, .ref (scB Ω)), (1, .ref P)]) hc dL_law_190 rfl (ad_NN _ 1) (by decide) rfl ?_
                        refine r_goto (tgt := 160) hc dL_law_193 (by decide) ?_
                        refine r_locp [1, 2, 0] (ls' := [(0, .ref (scB Ω)), (1, .ref P), (2, .int (nI (d + 1)))]) rfl ?_
                        exact ih160 _ w (d + 1) (by omega) hG hL (by omega) (by omega)
                      ·
                        exfalso; omega
              refine r_locp [1, 2, 0] (ls' := [(0, .ref (scB Ω)), (1, .ref P), (2, .int (nI 0))]) rfl ?_
              exact loop160 _ _ x 0 (by omega) hG hL (by omega) (Nat.lt_succ_self _)
            ·
              refine r_aload_n hc dL_law_124 rfl ?_
              refine r_aload_n hc dL_law_125 rfl ?_
              refine r_bipush (v := nI 34) hc dL_law_126 rfl ?_
              refine r_iconst (v := nI 3) hc dL_law_128 rfl ?_
              refine r_iload_n hc dL_law_129 rfl ?_
              refine r_imul (v := nI (3 * d)) hc dL_law_130 (ml_NN _ _) ?_
              refine r_iadd (v := nI (34 + (3 * d))) hc dL_law_131 (ad_NN _ _) ?_
              refine cl_L_99 (As := [.ref (scB Ω), .int (nI (34 + (3 * d)))]) hc (c_L_row (a := 34 + (3 * d)) (by omega)) rfl ⟨Nat.le_of_ble_eq_true rfl, Nat.le_of_ble_eq_true rfl⟩ ⟨rfl, rfl⟩ ⟨Nat.le_of_ble_eq_true rfl, Nat.le_of_ble_eq_true rfl⟩ rfl (Nat.le_of_ble_eq_true rfl) dL_law_132 (fun r u hp => ?_)
              obtain ⟨m_132, hm_132, rfl, hu⟩ := hp
              rw [hu]
              refine r_aload_n hc dL_law_135 rfl ?_
              refine r_bipush (v := nI 46) hc dL_law_136 rfl ?_
              refine r_iload_n hc dL_law_138 rfl ?_
              refine r_iadd (v := nI (46 + d)) hc dL_law_139 (ad_NN _ _) ?_
              refine r_iconst (v := nI 3) hc dL_law_140 rfl ?_
              refine cl_L_95 (As := [.ref (scB Ω), .int (nI (46 + d)), .int (nI 3)]) hc (c_L_cell (k := 46 + d) (n := 3) (by omega) (by omega) (by omega)) rfl ⟨Nat.le_of_ble_eq_true rfl, Nat.le_of_ble_eq_true rfl⟩ ⟨rfl, rfl⟩ ⟨Nat.le_of_ble_eq_true rfl, Nat.le_of_ble_eq_true rfl⟩ rfl (Nat.le_of_ble_eq_true rfl) dL_law_141 (fun r u hp => ?_)
              obtain ⟨m_141, hm_141, rfl, hu⟩ := hp
              rw [hu]
              refine cl_L_107 (As := [.ref P, .int (nI m_132), .int (nI m_141)]) hc (c_L_isCutKey hG hL (by omega) (c := m_132) (r := m_141) (by omega) (by omega)) rfl ⟨Nat.le_of_ble_eq_true rfl, Nat.le_of_ble_eq_true rfl⟩ ⟨rfl, rfl⟩ ⟨Nat.le_of_ble_eq_true rfl, Nat.le_of_ble_eq_true rfl⟩ rfl (Nat.le_of_ble_eq_true rfl) dL_law_144 (fun r u hp => ?_)
              obtain ⟨rfl, w, hG, hL, h6⟩ := hp
              have hL21 := hL.1
              refine r_if_ne (tgt := 152) hc dL_law_147 (by decide) (e0_N (by omega)) (fun c_147 => ?_) (fun c_147 => ?_)
              ·
                refine r_iinc (v := nI (d + 1)) (ls' := [(2, .int (nI (d + 1))), (0, .ref (scB Ω)), (1, .ref P)]) hc dL_law_152 rfl (ad_NN _ 1) (by decide) rfl ?_
                refine r_goto (tgt := 119) hc dL_law_155 (by decide) ?_
                refine r_locp [1, 2, 0] (ls' := [(0, .ref (scB Ω)), (1, .ref P), (2, .int (nI (d + 1)))]) rfl ?_
                exact ih119 _ w (d + 1) (by omega) hG hL (by omega) (by omega)
              ·
                exfalso; omega
        refine r_locp [1, 2, 0] (ls' := [(0, .ref (scB Ω)), (1, .ref P), (2, .int (nI 0))]) rfl ?_
        exact loop119 _ _ x 0 (by omega) hG hL (by omega) (Nat.lt_succ_self _)
      ·
        refine r_aload_n hc dL_law_75 rfl ?_
        refine r_iload_n hc dL_law_76 rfl ?_
        refine r_iconst (v := nI 4) hc dL_law_77 rfl ?_
        refine r_irem (v := nI (d % 4)) hc dL_law_78 (nu_ne0 (by omega) (by omega)) (rm_NN _ _ (by omega) (by omega) (by omega)) ?_
        refine r_iload_n hc dL_law_79 rfl ?_
        refine r_iconst (v := nI 1) hc dL_law_80 rfl ?_
        refine r_iadd (v := nI (d + 1)) hc dL_law_81 (ad_NN _ _) ?_
        refine r_iconst (v := nI 4) hc dL_law_82 rfl ?_
        refine r_irem (v := nI ((d + 1) % 4)) hc dL_law_83 (nu_ne0 (by omega) (by omega)) (rm_NN _ _ (by omega) (by omega) (by omega)) ?_
        refine r_aload_n hc dL_law_84 rfl ?_
        refine r_iconst (v := nI 4) hc dL_law_85 rfl ?_
        refine r_iconst (v := nI 3) hc dL_law_86 rfl ?_
        refine r_iload_n hc dL_law_87 rfl ?_
        refine r_imul (v := nI (3 * d)) hc dL_law_88 (ml_NN _ _) ?_
        refine r_iadd (v := nI (4 + (3 * d))) hc dL_law_89 (ad_NN _ _) ?_
        refine cl_L_99 (As := [.ref (scB Ω), .int (nI (4 + (3 * d)))]) hc (c_L_row (a := 4 + (3 * d)) (by omega)) rfl ⟨Nat.le_of_ble_eq_true rfl, Nat.le_of_ble_eq_true rfl⟩ ⟨rfl, rfl⟩ ⟨Nat.le_of_ble_eq_true rfl, Nat.le_of_ble_eq_true rfl⟩ rfl (Nat.le_of_ble_eq_true rfl) dL_law_90 (fun r u hp => ?_)
        obtain ⟨m_90, hm_90, rfl, hu⟩ := hp
        rw [hu]
        refine r_aload_n hc dL_law_93 rfl ?_
        refine r_bipush (v := nI 19) hc dL_law_94 rfl ?_
        refine r_iconst (v := nI 3) hc dL_law_96 rfl ?_
        refine r_iload_n hc dL_law_97 rfl ?_
        refine r_imul (v := nI (3 * d)) hc dL_law_98 (ml_NN _ _) ?_
        refine r_iadd (v := nI (19 + (3 * d))) hc dL_law_99 (ad_NN _ _) ?_
        refine cl_L_99 (As := [.ref (scB Ω), .int (nI (19 + (3 * d)))]) hc (c_L_row (a := 19 + (3 * d)) (by omega)) rfl ⟨Nat.le_of_ble_eq_true rfl, Nat.le_of_ble_eq_true rfl⟩ ⟨rfl, rfl⟩ ⟨Nat.le_of_ble_eq_true rfl, Nat.le_of_ble_eq_true rfl⟩ rfl (Nat.le_of_ble_eq_true rfl) dL_law_100 (fun r u hp => ?_)
        obtain ⟨m_100, hm_100, rfl, hu⟩ := hp
        rw [hu]
        refine cl_L_137 (As := [.ref P, .int (nI (d % 4)), .int (nI ((d + 1) % 4)), .int (nI m_90), .int (nI m_100)]) hc (c_L_isDoor hG hL (by omega) (a := d % 4) (b := (d + 1) % 4) (f := m_90) (s := m_100) (by omega) (by omega) (by omega) (by omega)) rfl ⟨Nat.le_of_ble_eq_true rfl, Nat.le_of_ble_eq_true rfl⟩ ⟨rfl, rfl⟩ ⟨Nat.le_of_ble_eq_true rfl, Nat.le_of_ble_eq_true rfl⟩ rfl (Nat.le_of_ble_eq_true rfl) dL_law_103 (fun r u hp => ?_)
        obtain ⟨rfl, w, hG, hL, h6⟩ := hp
        have hL21 := hL.1
        refine r_if_ne (tgt := 111) hc dL_law_106 (by decide) (e0_N (by omega)) (fun c_106 => ?_) (fun c_106 => ?_)
        ·
          refine r_iinc (v := nI (d + 1)) (ls' := [(2, .int (nI (d + 1))), (0, .ref (scB Ω)), (1, .ref P)]) hc dL_law_111 rfl (ad_NN _ 1) (by decide) rfl ?_
          refine r_goto (tgt := 70) hc dL_law_114 (by decide) ?_
          refine r_locp [1, 2, 0] (ls' := [(0, .ref (scB Ω)), (1, .ref P), (2, .int (nI (d + 1)))]) rfl ?_
          exact ih70 _ w (d + 1) (by omega) hG hL (by omega) (by omega)
        ·
          exfalso; omega
  refine r_locp [1, 2, 0] (ls' := [(0, .ref (scB Ω)), (1, .ref P), (2, .int (nI 0))]) rfl ?_
  exact loop70 _ _ w 0 (by omega) hG hL (by omega) (Nat.lt_succ_self _)
theorem led_I : Led rowI := ⟨rfl, fun d hd => absurd (show d < 0 from hd) (Nat.not_lt_zero _)⟩
set_option maxRecDepth 100000 in
set_option maxHeartbeats 4000000 in
theorem law_walk {Ω : OmT} {Φ : PhT} {P : Nat} (hc : CXp Ω Φ cL_law RL room_1 3) (hend : ∀ (S : StT) (pc : Nat) (ls : List (Nat × Value)), decode cL_law pc = .ok (.ireturn, 1) → Vw Ω Φ S (600000, 7302250) pc ls [.int (nI 1)]) : Vw Ω Φ (P, fun _ => none, fun _ _ => 0, fun _ _ => none) (0, 0) 0 [(0, .ref (scB Ω))] [] := by
  refine nw_L_15 hc ⟨Nat.le_of_ble_eq_true rfl, Nat.le_of_ble_eq_true rfl⟩ dL_law_0 ?_
  refine r_dup hc dL_law_3 rfl ?_
  refine cl_L_141 (As := []) hc (c_X11_init rfl (va_up_at _ _ _) (fun k => by rw [va_up_at])) rfl ⟨Nat.le_of_ble_eq_true rfl, Nat.le_of_ble_eq_true rfl⟩ ⟨Nat.le_of_ble_eq_true rfl, Nat.le_of_ble_eq_true rfl⟩ rfl (Nat.le_of_ble_eq_true rfl) dL_law_4 (fun u hu => ?_)
  obtain ⟨sh1, σ1, ρ1, hu, hCs, ⟨hV, hn0, hfl0, hl0⟩, ⟨hb1, hst⟩, hsl, hF1⟩ := hu
  rw [hu]
  refine r_room (n2 := (600000, 7302250)) (Nat.le_of_ble_eq_true rfl) (Nat.le_of_ble_eq_true rfl) ?_
  refine r_astore_n (ls' := [(1, .ref P), (0, .ref (scB Ω))]) hc dL_law_7 (by decide) rfl ?_
  refine r_locp [1, 0] (ls' := [(0, .ref (scB Ω)), (1, .ref P)]) rfl ?_
  have hC : CSt sh1 σ1 ρ1 P 0 (fun d => d + 1) rowI 0 (fun _ => 0) (fun _ => false) (fun _ => 0) (fun _ => 0) 0 := by
    refine ⟨⟨hCs, fun d hd => hsl d hd⟩, ⟨hb1, fun d hd => ?_, by omega, fun d hd => ⟨by show d + 1 < 7; omega, by show d + 1 ≠ 0; omega⟩, fun d e hd he hde => by have h9 : d + 1 = e + 1 := hde; omega⟩, ⟨hV, okR_I⟩, ⟨by omega, hn0, fun j hj => absurd hj (Nat.not_lt_zero _)⟩, fun d hd => ⟨hfl0 d, fun q => Bool.noConfusion q⟩, ⟨hl0, rowAt.zero, by omega, fun j hj => absurd hj (Nat.not_lt_zero _)⟩⟩
    rw [hst d hd]
    show some (P + 71 + 34 * d) = some (bsP P (d + 1))
    unfold bsP
    rw [if_neg (by omega), show P + 37 + 34 * (d + 1) = P + 71 + 34 * d by omega]
  exact law_run hc ⟨σ1, ρ1, 0, _, 0, _, _, _, _, 0, rfl, hC⟩ led_I rfl hend
