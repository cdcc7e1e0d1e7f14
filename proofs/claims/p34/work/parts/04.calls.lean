/-! ===== as in whole: calls ===== -/
abbrev wy (y : MethodName) (cc : ByteArray) (N : Nat) (ret : Option FieldType) : List Cond := .code y cc N ret :: lw_gd
def Qg (Ω : OmT) (post : Option Value → StT → Prop) : Array Value → State → Outcome → State → Prop := fun _ st oc t => (∃ (v : Option Value) (u : StT), oc = .returned v ∧ post v u ∧ wd Ω u t.heap) ∧ va_F (Ab Ω) st t
/-- from a heap that holds S, the method y with the arguments av ends with 'post answer store'; rm.cells new cells of rm.slots slots -/
def Ct (Ω : OmT) (y : MethodName) (cc : ByteArray) (N : Nat) (ret : Option FieldType) (rm : Room) (av : List Value) (S : StT) (post : Option Value → StT → Prop) : Prop :=
  Met Ω.1 y (wy y cc N ret) rm (va_Pc av (fun U => KS Ω U U.heap ∧ wd Ω S U.heap)) (Qg Ω post) rm.cells rm.slots (Ab Ω)
theorem Ct.enterI {Ω : OmT} {y : MethodName} {cc : ByteArray} {N : Nat} {t : FieldType} {rm : Room} {av : List Value} {S : StT} {post : Option Value → StT → Prop} (hy : plainName y.cls = true) (hav : (lg_sl av).length ≤ N)
    (h : ∀ Φ : PhT, CXp Ω Φ cc y.cls rm N → (∀ (r : Int32) (u : StT), post (some (.int r)) u → narrow t (.int r) = .int r → ∀ (pc : Nat) (ls : List (Nat × Value)), decode cc pc = .ok (.ireturn, 1) → Vw Ω Φ u (rm.cells, rm.slots) pc ls [.int r]) → Vw Ω Φ S (0, 0) 0 (lv_args 0 av) []) : Ct Ω y cc N (some t) rm av S post := by
  refine Met.ofW (cc := cc) (maxL := N) (ret := some t) hy rfl ?_
  intro p e s m args below meth c s₁ B hml hv
  obtain ⟨rfl, hKS, hw⟩ := hv
  have hts := atoms_spec (ws := wy y cc N (some t)) B.pre
  have hl := lv_entry av (n := N) hav
  rw [lg_entry_eq]
  generalize (lg_sl av ++ List.replicate (N - (lg_sl av).length) Slot.unset).toArray = la at hl ⊢
  refine h (p, e, _, s, m, av.toArray, below, meth, c, _, N) ⟨B.exec, B.bytes, hml, findClass_of_methodNamed B.named, fun w hw => hts w (List.mem_cons_of_mem _ hw), rfl, rfl, hKS, by rw [hw.1]; exact hw.2.1⟩ ?_ s.heap [] la hw va_S.rf hl
  intro r u hp hn pc ls hdg H locs la hw hS hh
  exact W.zret B.exec B.bytes B.returns hn (fun t ht hW => ⟨⟨_, u, rfl, hp, by rw [ht]; exact hw⟩, hS.F ht⟩) hS.2.2 hdg B.notSynchronized
theorem Ct.enterV {Ω : OmT} {y : MethodName} {cc : ByteArray} {N : Nat} {rm : Room} {av : List Value} {S : StT} {post : Option Value → StT → Prop} (hy : plainName y.cls = true) (hav : (lg_sl av).length ≤ N)
    (h : ∀ Φ : PhT, CXp Ω Φ cc y.cls rm N → (y.name = "<init>" → Φ.2.2.2.2.2.2.2.1.name = "<init>") → (∀ (u : StT), post none u → ∀ (pc : Nat) (ls : List (Nat × Value)), decode cc pc = .ok (.return_, 1) → Vw Ω Φ u (rm.cells, rm.slots) pc ls []) → Vw Ω Φ S (0, 0) 0 (lv_args 0 av) []) : Ct Ω y cc N none rm av S post := by
  refine Met.ofW (cc := cc) (maxL := N) (ret := none) hy rfl ?_
  intro p e s m args below meth c s₁ B hml hv
  obtain ⟨rfl, hKS, hw⟩ := hv
  have hts := atoms_spec (ws := wy y cc N none) B.pre
  have hl := lv_entry av (n := N) hav
  rw [lg_entry_eq]
  generalize (lg_sl av ++ List.replicate (N - (lg_sl av).length) Slot.unset).toArray = la at hl ⊢
  refine h (p, e, _, s, m, av.toArray, below, meth, c, _, N) ⟨B.exec, B.bytes, hml, findClass_of_methodNamed B.named, fun w hw => hts w (List.mem_cons_of_mem _ hw), rfl, rfl, hKS, by rw [hw.1]; exact hw.2.1⟩ (fun hi => (name_of_methodNamed B.named B.method).1.trans hi) ?_ s.heap [] la hw va_S.rf hl
  intro u hp pc ls hdg H locs la hw hS hh
  exact W.vret B.exec B.bytes B.returns (fun t ht hW => ⟨⟨_, u, rfl, hp, by rw [ht]; exact hw⟩, hS.F ht⟩) hS.2.2 hdg B.notSynchronized
theorem Ct.enterA {Ω : OmT} {y : MethodName} {cc : ByteArray} {N : Nat} {t : FieldType} {rm : Room} {av : List Value} {S : StT} {post : Option Value → StT → Prop} (hy : plainName y.cls = true) (hav : (lg_sl av).length ≤ N) (hrt : (∃ n, t = .object n) ∨ ∃ t', t = .array t')
    (h : ∀ Φ : PhT, CXp Ω Φ cc y.cls rm N → (∀ (r : Nat) (u : StT), post (some (.ref r)) u → ∀ (pc : Nat) (ls : List (Nat × Value)), decode cc pc = .ok (.areturn, 1) → Vw Ω Φ u (rm.cells, rm.slots) pc ls [.ref r]) → Vw Ω Φ S (0, 0) 0 (lv_args 0 av) []) : Ct Ω y cc N (some t) rm av S post := by
  refine Met.ofW (cc := cc) (maxL := N) (ret := some t) hy rfl ?_
  intro p e s m args below meth c s₁ B hml hv
  obtain ⟨rfl, hKS, hw⟩ := hv
  have hts := atoms_spec (ws := wy y cc N (some t)) B.pre
  have hl := lv_entry av (n := N) hav
  rw [lg_entry_eq]
  generalize (lg_sl av ++ List.replicate (N - (lg_sl av).length) Slot.unset).toArray = la at hl ⊢
  refine h (p, e, _, s, m, av.toArray, below, meth, c, _, N) ⟨B.exec, B.bytes, hml, findClass_of_methodNamed B.named, fun w hw => hts w (List.mem_cons_of_mem _ hw), rfl, rfl, hKS, by rw [hw.1]; exact hw.2.1⟩ ?_ s.heap [] la hw va_S.rf hl
  intro r u hp pc ls hdg H locs la hw hS hh
  exact W.aret (v := .ref r) B.exec B.bytes B.returns hrt (Or.inr ⟨r, rfl⟩) (fun t ht hW => ⟨⟨_, u, rfl, hp, by rw [ht]; exact hw⟩, hS.F ht⟩) hS.2.2 hdg B.notSynchronized
theorem lw_good : lw_gd.all goodWord = true := List.all_eq_true.mpr (fun _ h => (List.mem_filter.mp h).2)
theorem lw_gi {ws : List Cond} (h : ∀ w ∈ ws, w ∈ lw_gd) : GoodIn lw_gd ws := fun w hw => ⟨h w hw, good_of_word (List.all_eq_true.mp lw_good w (h w hw))⟩
section CW
variable {p : Program} {l : Launch} {e : Env} {R : Room} {s : State} {m : MethodId} {args : Array Value} {below : List Frame} {meth : Method} {c : Code} {H : Heap} {locs : List Loc} {cells slots : Nat} {Q : State → Prop}
theorem r_back {Ω : OmT} {pc : Nat} {ls : Array Slot} {rest st0 : List Value} {a : Array Value} {H0 : Heap} {mc ms : Nat} {post : Option Value → StT → Prop} (hr : va_Run p l e R s m args below meth c H locs cells slots mc ms (F0 m pc ls st0) rest (Qg Ω post a) (Ab Ω)) (hS : va_S (Ab Ω) H0 H locs)
    (kk : ∀ (v : Option Value) (u : StT) (H1 : Heap) (locs1 : List Loc), post v u → wd Ω u H1 → va_S (Ab Ω) H0 H1 locs1 → W p l e R s m args below meth c H1 locs1 (cells + mc) (slots + ms) Q (F0 m (pc + 3) ls (v.toList ++ rest))) : W p l e R s m args below meth c H locs cells slots Q (F0 m pc ls st0) := by
  intro T hT X
  obtain ⟨v, st₀, t, T', L, h0, X', hL, e1, e2, ⟨⟨v', u, hv, hp, hw⟩, hz, hk⟩, st⟩ := hr T hT X
  cases hv
  rw [h0] at hz hk
  obtain ⟨t2, a1, b1⟩ := kk v u T'.heap (locs ++ L) hp (by rw [e1]; exact hw)
    ⟨Nat.le_trans hS.1 (by rw [e1]; exact hz), fun q h1 h2 => by rw [e1, hk q (Nat.lt_of_lt_of_le h1 hS.1) h2]; exact hS.2.1 q h1 h2, fun q hq => by
      rcases List.mem_append.mp hq with h | h
      · exact hS.2.2 q h
      · exact hL q h⟩ T' rfl X'
  exact ⟨t2, st t2 a1, b1⟩
end CW
theorem Pc_blind {Ω : OmT} {av : List Value} {S : StT} : FrameBlind (va_Pc av (fun U => KS Ω U U.heap ∧ wd Ω S U.heap)) := fun a U g mk q => by
  obtain ⟨q1, q2, q3⟩ := q
  exact ⟨q1, KS.moved (u := U) (U := U.calling g mk a) (Vm.Alike.refl U.vm) q2, q3⟩
section RC
variable {Ω : OmT} {Φ : PhT} {cc : ByteArray} {own : String} {rm : Room} {N : Nat} {n : Nat × Nat} {pc : Nat} {ls ls' : List (Nat × Value)} {st : List Value} {z : Nat} {sh : Nat → Option Kd} {σ : Nat → Nat → Int32} {ρ : Nat → Nat → Option Nat} {S : StT}
theorem r_callV (hc : CXp Ω Φ cc own rm N) {y : MethodName} {ccY : ByteArray} {nY : Nat} {ret : Option FieldType} {rmY : Room} {b ci : Nat} {As rest stk : List Value} {post : Option Value → StT → Prop} {T : u_T} {M index : Nat}
    (hl : Cond.methodLink own index y ∈ lw_gd) (hin : Cond.instanceMethod y ∈ lw_gd) (hsel : Cond.selects y.cls y y ∈ lw_gd) (hini : Cond.initialized y.cls ∈ lw_gd) (hcode : Cond.code y ccY nY ret ∈ lw_gd) (hd : y.cls ≠ "java/lang/invoke/MethodHandle" ∧ y.cls ≠ "java/lang/invoke/VarHandle" ∧ (parseMethodDescriptor y.desc).map (fun d => d.parameters.length) = some As.length)
    (hcl : vwCl[ci]? = some (y.cls, T, M)) (hM : Ct Ω y ccY nY ret rmY (.ref b :: As) S post) (hsh : S.2.1 b = some (.inl ci)) (hR : rmY.frames + 1 ≤ rm.frames ∧ 8 + (nY + 11) + rmY.locals ≤ rm.locals) (hroom : n.1 + rmY.cells ≤ rm.cells ∧ n.2 + rmY.slots ≤ rm.slots) (hstk : stk = As.reverse ++ .ref b :: rest) (hst : (rest.map fun v => v.category).sum ≤ 8) (hdg : decode cc pc = .ok (.invokevirtual index, 3))
    (kk : ∀ (v : Option Value) (u : StT), post v u → Vw Ω Φ u (n.1 + rmY.cells, n.2 + rmY.slots) (pc + 3) ls (v.toList ++ rest)) : Vw Ω Φ S n pc ls stk := by
  obtain ⟨p, e, R, s, m, args, below, meth, c, Q, nL⟩ := Φ
  intro H locs la hw hS hh
  obtain ⟨g1, g2, g3, g4, g5, g6, g7, g8, g9⟩ := hc
  subst g6
  obtain ⟨r', hr', cellB, v1, v2, v3, -⟩ := (hw.2.2 b _ hsh).2
  have er : r' = (y.cls, T, M) := Option.some.inj (hr'.symm.trans hcl)
  have hcls := (g8.1.1.1 ci _ hcl).2
  refine r_back (va_runV (As := As) (rest := rest) ⟨g1, g2, g3, g4, g5⟩ hM (cwV (bytes := ccY) (maxL := nY) (ret := ret) (C := y.cls) As.length g5 (lw_gi ?_) rfl rfl rfl ⟨rfl, hd⟩ hR) ⟨Pc_blind, ⟨cellB, v1, by rw [v3]; rfl, by rw [v2]; exact hcls.1⟩, fun U hU hW => ⟨rfl, by rw [hU]; exact KS.moved hW.alike (g8.kept (fun a h1 h2 => hS.2.1 a h1 h2)), by rw [hU]; exact hw⟩⟩ rfl rfl hh.1 hstk (lv_room (pc := pc) (ls := la) (rest := stk) hst) hdg hroom) hS (fun v u H1 locs1 hp hw1 hS1 => kk v u hp H1 locs1 la hw1 hS1 hh)
  intro w hw
  rcases List.mem_append.mp hw with h | h
  · simp only [List.mem_cons, List.not_mem_nil, or_false] at h
    rcases h with rfl | rfl | rfl | rfl
    · exact hl
    · exact hin
    · exact hsel
    · exact hini
  · rcases List.mem_cons.mp h with rfl | h
    · exact hcode
    · exact h
theorem r_callS (hc : CXp Ω Φ cc own rm N) {y : MethodName} {ccY : ByteArray} {nY : Nat} {ret : Option FieldType} {rmY : Room} {As rest stk : List Value} {post : Option Value → StT → Prop} {index : Nat}
    (hl : Cond.methodLink own index y ∈ lw_gd) (hstat : Cond.static y ∈ lw_gd) (hini : Cond.initialized y.cls ∈ lw_gd) (hcode : Cond.code y ccY nY ret ∈ lw_gd) (hd : y.cls ≠ "java/lang/invoke/MethodHandle" ∧ y.cls ≠ "java/lang/invoke/VarHandle" ∧ (parseMethodDescriptor y.desc).map (fun d => d.parameters.length) = some As.length)
    (hM : Ct Ω y ccY nY ret rmY As S post) (hR : rmY.frames + 1 ≤ rm.frames ∧ 8 + (nY + 11) + rmY.locals ≤ rm.locals) (hroom : n.1 + rmY.cells ≤ rm.cells ∧ n.2 + rmY.slots ≤ rm.slots) (hstk : stk = As.reverse ++ rest) (hst : (rest.map fun v => v.category).sum ≤ 8) (hdg : decode cc pc = .ok (.invokestatic index, 3))
    (kk : ∀ (v : Option Value) (u : StT), post v u → Vw Ω Φ u (n.1 + rmY.cells, n.2 + rmY.slots) (pc + 3) ls (v.toList ++ rest)) : Vw Ω Φ S n pc ls stk := by
  obtain ⟨p, e, R, s, m, args, below, meth, c, Q, nL⟩ := Φ
  intro H locs la hw hS hh
  obtain ⟨g1, g2, g3, g4, g5, g6, g7, g8, g9⟩ := hc
  subst g6
  refine r_back (va_runS (As := As) (rest := rest) ⟨g1, g2, g3, g4, g5⟩ hM (va_cwS (bytes := ccY) (maxL := nY) (ret := ret) As.length g5 (lw_gi ?_) rfl rfl rfl hd hR) ⟨Pc_blind, fun U hU hW => ⟨rfl, by rw [hU]; exact KS.moved hW.alike (g8.kept (fun a h1 h2 => hS.2.1 a h1 h2)), by rw [hU]; exact hw⟩⟩ rfl rfl hh.1 hstk (lv_room (pc := pc) (ls := la) (rest := stk) hst) hdg hroom) hS (fun v u H1 locs1 hp hw1 hS1 => kk v u hp H1 locs1 la hw1 hS1 hh)
  intro w hw
  rcases List.mem_append.mp hw with h | h
  · simp only [List.mem_cons, List.not_mem_nil, or_false] at h
    rcases h with rfl | rfl | rfl
    · exact hl
    · exact hstat
    · exact hini
  · rcases List.mem_cons.mp h with rfl | h
    · exact hcode
    · exact h
theorem r_callI (hc : CXp Ω Φ cc own rm N) {y : MethodName} {ccY : ByteArray} {nY : Nat} {rmY : Room} {b : Nat} {As rest stk : List Value} {post : Option Value → StT → Prop} {index : Nat}
    (hl : Cond.methodLink own index y ∈ lw_gd) (hin : Cond.instanceMethod y ∈ lw_gd) (hini : Cond.initialized y.cls ∈ lw_gd) (hcode : Cond.code y ccY nY none ∈ lw_gd) (hname : y.name = "<init>") (hd : y.cls ≠ "java/lang/invoke/MethodHandle" ∧ y.cls ≠ "java/lang/invoke/VarHandle" ∧ (parseMethodDescriptor y.desc).map (fun d => d.parameters.length) = some As.length)
    (hM : Ct Ω y ccY nY none rmY (.ref b :: As) S post) (hR : rmY.frames + 1 ≤ rm.frames ∧ 8 + (nY + 11) + rmY.locals ≤ rm.locals) (hroom : n.1 + rmY.cells ≤ rm.cells ∧ n.2 + rmY.slots ≤ rm.slots) (hstk : stk = As.reverse ++ .ref b :: rest) (hst : (rest.map fun v => v.category).sum ≤ 8) (hdg : decode cc pc = .ok (.invokespecial index, 3))
    (kk : ∀ (v : Option Value) (u : StT), post v u → Vw Ω Φ u (n.1 + rmY.cells, n.2 + rmY.slots) (pc + 3) ls (v.toList ++ rest)) : Vw Ω Φ S n pc ls stk := by
  obtain ⟨p, e, R, s, m, args, below, meth, c, Q, nL⟩ := Φ
  intro H locs la hw hS hh
  obtain ⟨g1, g2, g3, g4, g5, g6, g7, g8, g9⟩ := hc
  subst g6
  refine r_back (va_runI (As := As) (rest := rest) ⟨g1, g2, g3, g4, g5⟩ hM (cwI (bytes := ccY) (maxL := nY) As.length g5 (lw_gi ?_) rfl rfl rfl (g5 _ hini) (g5 _ hl) (g5 _ hin) hname hd hR) ⟨Pc_blind, fun U hU hW => ⟨rfl, by rw [hU]; exact KS.moved hW.alike (g8.kept (fun a h1 h2 => hS.2.1 a h1 h2)), by rw [hU]; exact hw⟩⟩ rfl rfl hh.1 hstk (lv_room (pc := pc) (ls := la) (rest := stk) hst) hdg hroom) hS (fun v u H1 locs1 hp hw1 hS1 => kk v u hp H1 locs1 la hw1 hS1 hh)
  intro w hw
  rcases List.mem_cons.mp hw with rfl | h
  · exact hcode
  · exact h
/-- Object's constructor -/
theorem r_obj (hc : CXp Ω Φ cc own rm N) {a index : Nat} (hl : Cond.methodLink own index objectInit ∈ lw_gd) (hin : Cond.instanceMethod objectInit ∈ lw_gd) (hcode : Cond.code objectInit ⟨#[0xb1]⟩ 1 none ∈ lw_gd) (hR : 1 ≤ rm.frames ∧ (st.map fun v => v.category).sum + 12 ≤ rm.locals) (hdg : decode cc pc = .ok (.invokespecial index, 3)) (kk : Vw Ω Φ S n (pc + 3) ls st) : Vw Ω Φ S n pc ls (.ref a :: st) := by
  obtain ⟨p, e, R, s, m, args, below, meth, c, Q, nL⟩ := Φ
  intro H locs la hw hS hh
  obtain ⟨g1, g2, g3, g4, g5, g6, g7, g8, g9⟩ := hc
  subst g6
  refine W.objInit g1 g2 g4 (g5 _ hl) (g5 _ hin) (g5 _ hcode) rfl (by rw [g3]; exact hh.1) rfl hdg hR.1 (by have h := hR.2; have e : (F0 m pc la (.ref a :: st)).monitorRoom = 0 := rfl; rw [e]; omega) ?_
  exact W.eq (g2 := F0 m (pc + 3) la st) rfl (kk H locs la hw hS hh)
theorem r_mabs (hc : CXp Ω Φ cc own rm N) {x v : Int32} {index : Nat} (hl : Cond.methodLink own index Lib.Math.abs.name ∈ lw_gd) (hR : 1 ≤ rm.frames ∧ (st.map fun v => v.category).sum + 13 ≤ rm.locals) (hroom : n.1 ≤ rm.cells ∧ n.2 ≤ rm.slots) (hdg : decode cc pc = .ok (.invokestatic index, 3)) (hv : (if 0 ≤ x then x else 0 - x) = v) (kk : Vw Ω Φ S n (pc + 3) ls (.int v :: st)) : Vw Ω Φ S n pc ls (.int x :: st) := by
  obtain ⟨p, e, R, s, m, args, below, meth, c, Q, nL⟩ := Φ
  intro H locs la hw hS hh
  obtain ⟨g1, g2, g3, g4, g5, g6, g7, g8, g9⟩ := hc
  subst g6
  subst hv
  exact va_mabs g1 g2 (by rw [g3]; exact hh.1.symm) g4 (g5 _ hl) (g5 _ (gd_in (by decide +kernel) rfl)) (g5 _ (gd_in (by decide +kernel) rfl)) (g5 _ (gd_in (by decide +kernel) rfl)) hR.1 hR.2 hroom.1 hroom.2 hdg (kk H locs la hw hS hh)
theorem r_mmax (hc : CXp Ω Φ cc own rm N) {x y v : Int32} {index : Nat} (hl : Cond.methodLink own index Lib.Math.max.name ∈ lw_gd) (hR : 1 ≤ rm.frames ∧ (st.map fun v => v.category).sum + 13 ≤ rm.locals) (hroom : n.1 ≤ rm.cells ∧ n.2 ≤ rm.slots) (hdg : decode cc pc = .ok (.invokestatic index, 3)) (hv : (if x < y then y else x) = v) (kk : Vw Ω Φ S n (pc + 3) ls (.int v :: st)) : Vw Ω Φ S n pc ls (.int y :: .int x :: st) := by
  obtain ⟨p, e, R, s, m, args, below, meth, c, Q, nL⟩ := Φ
  intro H locs la hw hS hh
  obtain ⟨g1, g2, g3, g4, g5, g6, g7, g8, g9⟩ := hc
  subst g6
  subst hv
  exact va_mmax g1 g2 (by rw [g3]; exact hh.1.symm) g4 (g5 _ hl) (g5 _ (gd_in (by decide +kernel) rfl)) (g5 _ (gd_in (by decide +kernel) rfl)) (g5 _ (gd_in (by decide +kernel) rfl)) hR.1 hR.2 hroom.1 hroom.2 hdg (kk H locs la hw hS hh)
theorem r_mmin (hc : CXp Ω Φ cc own rm N) {x y v : Int32} {index : Nat} (hl : Cond.methodLink own index Lib.Math.min.name ∈ lw_gd) (hR : 1 ≤ rm.frames ∧ (st.map fun v => v.category).sum + 13 ≤ rm.locals) (hroom : n.1 ≤ rm.cells ∧ n.2 ≤ rm.slots) (hdg : decode cc pc = .ok (.invokestatic index, 3)) (hv : (if y < x then y else x) = v) (kk : Vw Ω Φ S n (pc + 3) ls (.int v :: st)) : Vw Ω Φ S n pc ls (.int y :: .int x :: st) := by
  obtain ⟨p, e, R, s, m, args, below, meth, c, Q, nL⟩ := Φ
  intro H locs la hw hS hh
  obtain ⟨g1, g2, g3, g4, g5, g6, g7, g8, g9⟩ := hc
  subst g6
  subst hv
  exact va_mmin g1 g2 (by rw [g3]; exact hh.1.symm) g4 (g5 _ hl) (g5 _ (gd_in (by decide +kernel) rfl)) (g5 _ (gd_in (by decide +kernel) rfl)) (g5 _ (gd_in (by decide +kernel) rfl)) hR.1 hR.2 hroom.1 hroom.2 hdg (kk H locs la hw hS hh)
end RC
abbrev CtI (Ω : OmT) (y : MethodName) (cc : ByteArray) (N : Nat) (t : FieldType) (rm : Room) (av : List Value) (S : StT) (post : Int32 → StT → Prop) : Prop := Ct Ω y cc N (some t) rm av S (fun v u => ∃ r : Int32, v = some (.int r) ∧ post r u)
abbrev CtV (Ω : OmT) (y : MethodName) (cc : ByteArray) (N : Nat) (rm : Room) (av : List Value) (S : StT) (post : StT → Prop) : Prop := Ct Ω y cc N none rm av S (fun v u => v = none ∧ post u)
abbrev CtA (Ω : OmT) (y : MethodName) (cc : ByteArray) (N : Nat) (t : FieldType) (rm : Room) (av : List Value) (S : StT) (post : Nat → StT → Prop) : Prop := Ct Ω y cc N (some t) rm av S (fun v u => ∃ r : Nat, v = some (.ref r) ∧ post r u)
theorem CtI.enter {Ω : OmT} {y : MethodName} {cc : ByteArray} {N : Nat} {t : FieldType} {rm : Room} {av : List Value} {S : StT} {post : Int32 → StT → Prop} (hy : plainName y.cls = true) (hav : (lg_sl av).length ≤ N)
    (h : ∀ Φ : PhT, CXp Ω Φ cc y.cls rm N → (∀ (r : Int32) (u : StT), post r u → narrow t (.int r) = .int r → ∀ (pc : Nat) (ls : List (Nat × Value)), decode cc pc = .ok (.ireturn, 1) → Vw Ω Φ u (rm.cells, rm.slots) pc ls [.int r]) → Vw Ω Φ S (0, 0) 0 (lv_args 0 av) []) : CtI Ω y cc N t rm av S post :=
  Ct.enterI hy hav (fun Φ hc hR => h Φ hc (fun r u hp hn pc ls hd => hR r u ⟨r, rfl, hp⟩ hn pc ls hd))
theorem CtV.enter {Ω : OmT} {y : MethodName} {cc : ByteArray} {N : Nat} {rm : Room} {av : List Value} {S : StT} {post : StT → Prop} (hy : plainName y.cls = true) (hav : (lg_sl av).length ≤ N)
    (h : ∀ Φ : PhT, CXp Ω Φ cc y.cls rm N → (y.name = "<init>" → Φ.2.2.2.2.2.2.2.1.name = "<init>") → (∀ (u : StT), post u → ∀ (pc : Nat) (ls : List (Nat × Value)), decode cc pc = .ok (.return_, 1) → Vw Ω Φ u (rm.cells, rm.slots) pc ls []) → Vw Ω Φ S (0, 0) 0 (lv_args 0 av) []) : CtV Ω y cc N rm av S post :=
  Ct.enterV hy hav (fun Φ hc hi hR => h Φ hc hi (fun u hp pc ls hd => hR u ⟨rfl, hp⟩ pc ls hd))
theorem CtA.enter {Ω : OmT} {y : MethodName} {cc : ByteArray} {N : Nat} {t : FieldType} {rm : Room} {av : List Value} {S : StT} {post : Nat → StT → Prop} (hy : plainName y.cls = true) (hav : (lg_sl av).length ≤ N) (hrt : (∃ n, t = .object n) ∨ ∃ t', t = .array t')
    (h : ∀ Φ : PhT, CXp Ω Φ cc y.cls rm N → (∀ (r : Nat) (u : StT), post r u → ∀ (pc : Nat) (ls : List (Nat × Value)), decode cc pc = .ok (.areturn, 1) → Vw Ω Φ u (rm.cells, rm.slots) pc ls [.ref r]) → Vw Ω Φ S (0, 0) 0 (lv_args 0 av) []) : CtA Ω y cc N t rm av S post :=
  Ct.enterA hy hav hrt (fun Φ hc hR => h Φ hc (fun r u hp pc ls hd => hR r u ⟨r, rfl, hp⟩ pc ls hd))
section RD
variable {Ω : OmT} {Φ : PhT} {cc : ByteArray} {own : String} {rm : Room} {N : Nat} {n : Nat × Nat} {pc : Nat} {ls ls' : List (Nat × Value)} {st : List Value} {z : Nat} {sh : Nat → Option Kd} {σ : Nat → Nat → Int32} {ρ : Nat → Nat → Option Nat} {S : StT}
/-- what comes back from a call that makes nothing: int, nothing, a reference -/
theorem r_kI {rmY : Room} (h0 : rmY.cells = 0 ∧ rmY.slots = 0) {post : Int32 → StT → Prop} (kk : ∀ (r : Int32) (u : StT), post r u → Vw Ω Φ u n pc ls (.int r :: st)) : ∀ (v : Option Value) (u : StT), (∃ r : Int32, v = some (.int r) ∧ post r u) → Vw Ω Φ u (n.1 + rmY.cells, n.2 + rmY.slots) pc ls (v.toList ++ st) := by
  intro v u hp
  obtain ⟨r, rfl, hp⟩ := hp
  rw [h0.1, h0.2]
  exact kk r u hp
theorem r_kV {rmY : Room} (h0 : rmY.cells = 0 ∧ rmY.slots = 0) {post : StT → Prop} (kk : ∀ (u : StT), post u → Vw Ω Φ u n pc ls st) : ∀ (v : Option Value) (u : StT), (v = none ∧ post u) → Vw Ω Φ u (n.1 + rmY.cells, n.2 + rmY.slots) pc ls (v.toList ++ st) := by
  intro v u hp
  obtain ⟨rfl, hp⟩ := hp
  rw [h0.1, h0.2]
  exact kk u hp
theorem r_kN {rmY : Room} {post : StT → Prop} (kk : ∀ (u : StT), post u → Vw Ω Φ u (n.1 + rmY.cells, n.2 + rmY.slots) pc ls st) : ∀ (v : Option Value) (u : StT), (v = none ∧ post u) → Vw Ω Φ u (n.1 + rmY.cells, n.2 + rmY.slots) pc ls (v.toList ++ st) := by
  intro v u hp
  obtain ⟨rfl, hp⟩ := hp
  exact kk u hp
theorem r_kA {rmY : Room} (h0 : rmY.cells = 0 ∧ rmY.slots = 0) {post : Nat → StT → Prop} (kk : ∀ (r : Nat) (u : StT), post r u → Vw Ω Φ u n pc ls (.ref r :: st)) : ∀ (v : Option Value) (u : StT), (∃ r : Nat, v = some (.ref r) ∧ post r u) → Vw Ω Φ u (n.1 + rmY.cells, n.2 + rmY.slots) pc ls (v.toList ++ st) := by
  intro v u hp
  obtain ⟨r, rfl, hp⟩ := hp
  rw [h0.1, h0.2]
  exact kk r u hp
/-- the tables LEAST and MOST -/
theorem r_least (hc : CXp Ω Φ cc RX2 rm N) {index : Nat} (hl : Cond.fieldLink RX2 index RX2 "LEAST" "[I" ∈ lw_gd) (hdg : decode cc pc = .ok (.getstatic index, 3)) {i : Int32} {j : Nat} {x : Int32} {pc2 : Nat}
    (kk : ∀ t : Nat, (∀ (ls2 : List (Nat × Value)) (st2 : List Value) (pc2 j : Nat) (i x : Int32), i = nI j → j < 3 → lstA j = .int x → decode cc pc2 = .ok (.iaload, 1) → Vw Ω Φ S n (pc2 + 1) ls2 (.int x :: st2) → Vw Ω Φ S n pc2 ls2 (.int i :: .ref t :: st2)) → Vw Ω Φ S n (pc + 3) ls (.ref t :: st)) : Vw Ω Φ S n pc ls st := by
  obtain ⟨p, e, R, s, m, args, below, meth, c, Q, nL⟩ := Φ
  intro H locs la hw hS hh
  obtain ⟨g1, g2, g3, g4, g5, g6, g7, ⟨g8, t1, t2, k1, k2, k3, k4⟩, g9⟩ := hc
  refine va_gets g1 g2 k1 hS g4 (g5 _ hl) (fun _ h => h) hdg (kk t1 ?_ H locs la hw hS hh)
  intro ls2 st2 pc2 j i x hi hj hx hd2 k2' H2 locs2 la2 hw2 hS2 hh2
  subst hi
  exact va_ti g1 g2 k2 hS2 (vp_in_nI hj (by omega)) (by rw [nI_clamp (by omega)]; exact hx) hd2 (k2' H2 locs2 la2 hw2 hS2 hh2)
theorem r_most (hc : CXp Ω Φ cc RX2 rm N) {index : Nat} (hl : Cond.fieldLink RX2 index RX2 "MOST" "[I" ∈ lw_gd) (hdg : decode cc pc = .ok (.getstatic index, 3)) {i : Int32} {j : Nat} {x : Int32} {pc2 : Nat}
    (kk : ∀ t : Nat, (∀ (ls2 : List (Nat × Value)) (st2 : List Value) (pc2 j : Nat) (i x : Int32), i = nI j → j < 3 → mstA j = .int x → decode cc pc2 = .ok (.iaload, 1) → Vw Ω Φ S n (pc2 + 1) ls2 (.int x :: st2) → Vw Ω Φ S n pc2 ls2 (.int i :: .ref t :: st2)) → Vw Ω Φ S n (pc + 3) ls (.ref t :: st)) : Vw Ω Φ S n pc ls st := by
  obtain ⟨p, e, R, s, m, args, below, meth, c, Q, nL⟩ := Φ
  intro H locs la hw hS hh
  obtain ⟨g1, g2, g3, g4, g5, g6, g7, ⟨g8, t1, t2, k1, k2, k3, k4⟩, g9⟩ := hc
  refine va_gets g1 g2 k3 hS g4 (g5 _ hl) (fun _ h => h) hdg (kk t2 ?_ H locs la hw hS hh)
  intro ls2 st2 pc2 j i x hi hj hx hd2 k2' H2 locs2 la2 hw2 hS2 hh2
  subst hi
  exact va_ti g1 g2 k4.1 hS2 (vp_in_nI hj (by omega)) (by rw [nI_clamp (by omega)]; exact hx) hd2 (k2' H2 locs2 la2 hw2 hS2 hh2)
end RD
