/-! ===== as in whole: rows ===== -/
def lw_gd : List Cond := lw_tbl.filter goodWord
theorem gd_in {w : Cond} (h : w ∈ lw_tbl) (hg : goodWord w = true) : w ∈ lw_gd := List.mem_filter.mpr ⟨h, hg⟩
abbrev Kd : Type := Nat ⊕ (Nat × Nat)
abbrev StT : Type := Nat × (Nat → Option Kd) × (Nat → Nat → Int32) × (Nat → Nat → Option Nat)
abbrev OmT : Type := Launch × va_G × (Nat → ClassId) × Nat
abbrev PhT : Type := Program × Env × Room × State × MethodId × Array Value × List Frame × Method × Code × (State → Prop) × Nat
/-- what the fields of an object of class ci are, out of its ints x and references y -/
def fl (ci : Nat) (x : Nat → Int32) (y : Nat → Option Nat) : List Value := match ci with
  | 0 => [.int (x 0), .int (x 1), .int (x 2), .int (x 3), .int (x 4)]
  | 1 => [va_rf (y 0), .int (x 1)]
  | 2 => [va_rf (y 0), va_rf (y 1), va_rf (y 2), va_rf (y 3), .int (x 4), .int (x 5), .int (x 6), .int (x 7), .int (x 8), .int (x 9), .int (x 10)]
  | 3 => [.int (x 0), .int (x 1), .int (x 2)]
  | 4 => [va_rf (y 0), va_rf (y 1), va_rf (y 2), .int (x 3)]
  | 5 => [.int (x 0), .int (x 1), .int (x 2), .int (x 3)]
  | 6 => [va_rf (y 0), .int (x 1), va_rf (y 2), .int (x 3), .int (x 4)]
  | 7 => [va_rf (y 0), va_rf (y 1), va_rf (y 2), .int (x 3)]
  | 8 => [va_rf (y 0), va_rf (y 1), va_rf (y 2), va_rf (y 3), va_rf (y 4), va_rf (y 5), .int (x 6)]
  | 9 => [va_rf (y 0), va_rf (y 1), va_rf (y 2), va_rf (y 3), .int (x 4), .int (x 5)]
  | 10 => [va_rf (y 0), va_rf (y 1), va_rf (y 2), va_rf (y 3), va_rf (y 4), va_rf (y 5), va_rf (y 6), va_rf (y 7), va_rf (y 8)]
  | _ => []
def tyA (t : Nat) : FieldType := match t with
  | 0 => .int
  | 1 => .boolean
  | 2 => .char
  | 3 => .object RX0
  | 4 => .object RX2
  | 5 => .object RX3
  | _ => .object RX5
def ce (cy : Nat → ClassId) (k : Kd) (x : Nat → Int32) (y : Nat → Option Nat) : va_E := match k with
  | .inl ci => .inr (ci, fl ci x y)
  | .inr q => .inl (cy q.1, (q.2, if q.1 < 3 then .inl x else .inr (.inr (.inr (.inr y)))))
abbrev tysL (cy : Nat → ClassId) : List (ClassId × FieldType) := [(cy 0, tyA 0), (cy 1, tyA 1), (cy 2, tyA 2), (cy 3, tyA 3), (cy 4, tyA 4), (cy 5, tyA 5), (cy 6, tyA 6)]
/-- the heap holds the store -/
def wd (Ω : OmT) (S : StT) (H : Heap) : Prop := H.size = S.1 ∧ Ω.2.2.2 ≤ S.1 ∧ ∀ (a : Nat) (k : Kd), S.2.1 a = some k → Ω.2.2.2 ≤ a ∧ va_at Ω.2.1 vwCl (a, ce Ω.2.2.1 k (S.2.2.1 a) (S.2.2.2 a)) H
abbrev Ab (Ω : OmT) : Nat → Prop := fun q => Ω.2.2.2 ≤ q
def lstA (j : Nat) : Value := match j with
  | 0 => .int 1
  | 1 => .int 0
  | _ => .int 40
def mstA (j : Nat) : Value := match j with
  | 0 => .int 9
  | 1 => .int 50
  | _ => .int 90
/-- the script's place and length, in a corner of the numbers that no class has -/
def scB (Ω : OmT) : Nat := Ω.2.1.2 100 0
def scL (Ω : OmT) : Nat := Ω.2.1.2 100 1
def KX (Ω : OmT) (U : State) (H : Heap) : Prop := (∃ xs : Nat → Int32, va_X (scB Ω) (scL Ω) xs U H) ∧ scB Ω < Ω.2.2.2 ∧ scL Ω ≤ 260
theorem KX.moved {Ω : OmT} {u U : State} {H : Heap} (hvm : u.vm.Alike U.vm) (h : KX Ω u H) : KX Ω U H := by
  obtain ⟨⟨xs, h1⟩, h2⟩ := h
  exact ⟨⟨xs, h1.moved hvm⟩, h2⟩
theorem KX.kept {Ω : OmT} {U : State} {H H1 : Heap} (h : KX Ω U H) (hq : ∀ a : Nat, a < H.size → ¬ Ab Ω a → H1[a]? = H[a]?) : KX Ω U H1 := by
  obtain ⟨⟨xs, h1⟩, h2, h3⟩ := h
  obtain ⟨scr, g1, g2⟩ := id h1
  exact ⟨⟨xs, h1.kept (hq _ (Array.getElem?_eq_some_iff.mp g1).1 (Nat.not_le.mpr h2))⟩, h2, h3⟩
/-- what the tables and the statics say, and keep -/
def KS (Ω : OmT) (U : State) (H : Heap) : Prop := (va_K Ω.2.1 vwCl (tysL Ω.2.2.1) U ∧ va_AO RX0 U ∧ va_AO RX2 U ∧ va_AO RX3 U ∧ va_AO RX5 U) ∧ ∃ t1 t2 : Nat, va_Z RX2 "LEAST" "[I" (.ref t1) (Ab Ω) U H ∧ va_T .int t1 3 lstA (Ab Ω) U H ∧ va_Z RX2 "MOST" "[I" (.ref t2) (Ab Ω) U H ∧ va_T .int t2 3 mstA (Ab Ω) U H ∧ KX Ω U H
theorem KS.moved {Ω : OmT} {u U : State} {H : Heap} (hvm : u.vm.Alike U.vm) (h : KS Ω u H) : KS Ω U H := by
  obtain ⟨h1, t1, t2, h2, h3, h4, h5⟩ := h
  exact ⟨⟨h1.1.moved hvm, h1.2.1.moved hvm, h1.2.2.1.moved hvm, h1.2.2.2.1.moved hvm, h1.2.2.2.2.moved hvm⟩, t1, t2, h2.moved hvm, h3.moved hvm, h4.moved hvm, h5.1.moved hvm, h5.2.moved hvm⟩
theorem KS.kept {Ω : OmT} {U : State} {H H1 : Heap} (h : KS Ω U H) (hq : ∀ a : Nat, a < H.size → ¬ Ab Ω a → H1[a]? = H[a]?) : KS Ω U H1 := by
  obtain ⟨h1, t1, t2, h2, h3, h4, h5⟩ := h
  exact ⟨h1, t1, t2, h2.kept hq, h3.kept hq, h4.kept hq, h5.1.kept hq, h5.2.kept hq⟩
/-- the fixed part of a method's walk -/
def CXp (Ω : OmT) (Φ : PhT) (cc : ByteArray) (own : String) (rm : Room) (N : Nat) : Prop := match Φ with
  | (p, _, R, s, m, args, _, _, c, _, nL) => p.tables.exec = Jvm.exec ∧ c.code = cc ∧ c.maxLocals = nL ∧ s.vm.findClass own = some m.cls ∧ (∀ w ∈ lw_gd, w.before args s = true) ∧ R = rm ∧ nL = N ∧ KS Ω s s.heap ∧ Ω.2.2.2 ≤ s.heap.size
/-- at pc, with these locals, this stack, and a heap that holds S, the machine comes to the method's end -/
def Vw (Ω : OmT) (Φ : PhT) (S : StT) (n : Nat × Nat) (pc : Nat) (ls : List (Nat × Value)) (st : List Value) : Prop := match Φ with
  | (p, e, R, s, m, args, below, meth, c, Q, nL) => ∀ (H : Heap) (locs : List Loc) (la : Array Slot), wd Ω S H → va_S (Ab Ω) s.heap H locs → lv_has la nL ls → W p Ω.1 e R s m args below meth c H locs n.1 n.2 Q (F0 m pc la st)
def lkv (ls : List (Nat × Value)) (k : Nat) : Option Value := (ls.find? (fun q => q.1 == k)).map (fun q => q.2)
theorem lkv_at {la : Array Slot} {nL : Nat} {ls : List (Nat × Value)} {k : Nat} {v : Value} (h : lv_has la nL ls) (hk : lkv ls k = some v) : la[k]? = some (.val v) := by
  unfold lkv at hk
  obtain ⟨q, hq, rfl⟩ := Option.map_eq_some_iff.mp hk
  have h1 := List.mem_of_find?_eq_some hq
  have h2 := List.find?_some hq
  have h3 : q.1 = k := by simpa using h2
  rw [← h3]
  exact h.2.2 q h1
abbrev stL (ls : List (Nat × Value)) (i : Nat) (v : Value) : List (Nat × Value) := (i, v) :: ls.filter (fun q => !(q.1 == i) && !(q.1 + 1 == i && q.2.category == 2))
abbrev stL2 (ls : List (Nat × Value)) (i : Nat) (v : Value) : List (Nat × Value) := (i, v) :: ls.filter (fun q => !(q.1 == i) && (!(q.1 == i + 1) && !(q.1 + 1 == i && q.2.category == 2)))
def s2 {α : Type} (f : Nat → Nat → α) (a k : Nat) (v : α) : Nat → Nat → α := fun q j => if q = a then (if j = k then v else f q j) else f q j
theorem s2_at {α : Type} (f : Nat → Nat → α) (a k : Nat) (v : α) : s2 f a k v a = va_up (f a) k v := by funext j; simp [s2, va_up]
theorem s2_ne {α : Type} {f : Nat → Nat → α} {a k : Nat} {v : α} {q : Nat} (h : q ≠ a) : s2 f a k v q = f q := by funext j; simp [s2, h]
theorem s2_same {α : Type} (f : Nat → Nat → α) (a k : Nat) (v : α) : s2 f a k v a k = v := by simp [s2]
theorem s2_nk {α : Type} {f : Nat → Nat → α} {a k : Nat} {v : α} {q j : Nat} (h : j ≠ k) : s2 f a k v q j = f q j := by unfold s2; split <;> simp [h]
theorem s2_na {α : Type} {f : Nat → Nat → α} {a k : Nat} {v : α} {q j : Nat} (h : q ≠ a) : s2 f a k v q j = f q j := by simp [s2, h]
/-- one cell written: the heap holds the store with it -/
theorem wd_put {Ω : OmT} {z : Nat} {sh : Nat → Option Kd} {σ σ1 : Nat → Nat → Int32} {ρ ρ1 : Nat → Nat → Option Nat} {H H1 : Heap} {a : Nat} {kd : Kd} (hw : wd Ω (z, sh, σ, ρ) H) (hsh : sh a = some kd) (z1 : H1.size = H.size) (oq : ∀ q : Nat, q ≠ a → H1[q]? = H[q]?)
    (hσ : ∀ q, q ≠ a → σ1 q = σ q) (hρ : ∀ q, q ≠ a → ρ1 q = ρ q) (e : va_at Ω.2.1 vwCl (a, ce Ω.2.2.1 kd (σ1 a) (ρ1 a)) H1) : wd Ω (z, sh, σ1, ρ1) H1 := by
  obtain ⟨h1, h2, h3⟩ := hw
  refine ⟨z1.trans h1, h2, fun q k hk => ⟨(h3 q k hk).1, ?_⟩⟩
  by_cases hq : q = a
  · subst hq
    have : k = kd := Option.some.inj (hk.symm.trans hsh)
    subst this
    exact e
  · show va_at _ _ (q, ce _ k (σ1 q) (ρ1 q)) H1
    rw [hσ q hq, hρ q hq]
    exact ((h3 q k hk).2).kept (oq q hq)
/-- the shape's cell as a world of one -/
theorem wd_one {Ω : OmT} {S : StT} {H : Heap} {a : Nat} {kd : Kd} (hw : wd Ω S H) (hsh : S.2.1 a = some kd) : va_P Ω.2.1 vwCl [(a, ce Ω.2.2.1 kd (S.2.2.1 a) (S.2.2.2 a))] H := by
  intro k q hk
  match k, hk with
  | 0, hk => cases hk; exact (hw.2.2 a kd hsh).2
  | k + 1, hk => simp at hk
section RW
variable {Ω : OmT} {Φ : PhT} {cc : ByteArray} {own : String} {rm : Room} {N : Nat} {n : Nat × Nat} {pc : Nat} {ls ls' : List (Nat × Value)} {st : List Value} {z : Nat} {sh : Nat → Option Kd} {σ : Nat → Nat → Int32} {ρ : Nat → Nat → Option Nat} {S : StT}
theorem r_iload_n (hc : CXp Ω Φ cc own rm N) {k : Fin 4} {x : Int32} (hdg : decode cc pc = .ok (.iload_n k, 1)) (hl : lkv ls k = some (.int x)) (kk : Vw Ω Φ S n (pc + 1) ls (.int x :: st)) : Vw Ω Φ S n pc ls (st) := by
  obtain ⟨p, e, R, s, m, args, below, meth, c, Q, nL⟩ := Φ
  intro H locs la hw hS hh
  exact lv_iload_n hc.1 hc.2.1 hdg rfl (lkv_at hh hl) (kk H locs la hw hS hh)
theorem r_iload (hc : CXp Ω Φ cc own rm N) {i : Nat} {x : Int32} (hdg : decode cc pc = .ok (.iload i, 2)) (hl : lkv ls i = some (.int x)) (kk : Vw Ω Φ S n (pc + 2) ls (.int x :: st)) : Vw Ω Φ S n pc ls (st) := by
  obtain ⟨p, e, R, s, m, args, below, meth, c, Q, nL⟩ := Φ
  intro H locs la hw hS hh
  exact lv_iload hc.1 hc.2.1 hdg (lkv_at hh hl) (kk H locs la hw hS hh)
theorem r_lload_n (hc : CXp Ω Φ cc own rm N) {k : Fin 4} {x : Int64} (hdg : decode cc pc = .ok (.lload_n k, 1)) (hl : lkv ls k = some (.long x)) (kk : Vw Ω Φ S n (pc + 1) ls (.long x :: st)) : Vw Ω Φ S n pc ls (st) := by
  obtain ⟨p, e, R, s, m, args, below, meth, c, Q, nL⟩ := Φ
  intro H locs la hw hS hh
  exact lv_lload_n hc.1 hc.2.1 hdg rfl (lkv_at hh hl) (kk H locs la hw hS hh)
theorem r_lload (hc : CXp Ω Φ cc own rm N) {i : Nat} {x : Int64} (hdg : decode cc pc = .ok (.lload i, 2)) (hl : lkv ls i = some (.long x)) (kk : Vw Ω Φ S n (pc + 2) ls (.long x :: st)) : Vw Ω Φ S n pc ls (st) := by
  obtain ⟨p, e, R, s, m, args, below, meth, c, Q, nL⟩ := Φ
  intro H locs la hw hS hh
  exact lv_lload hc.1 hc.2.1 hdg (lkv_at hh hl) (kk H locs la hw hS hh)
theorem r_aload_n (hc : CXp Ω Φ cc own rm N) {k : Fin 4} {x : Nat} (hdg : decode cc pc = .ok (.aload_n k, 1)) (hl : lkv ls k = some (.ref x)) (kk : Vw Ω Φ S n (pc + 1) ls (.ref x :: st)) : Vw Ω Φ S n pc ls (st) := by
  obtain ⟨p, e, R, s, m, args, below, meth, c, Q, nL⟩ := Φ
  intro H locs la hw hS hh
  exact lv_aload_n hc.1 hc.2.1 hdg rfl (lkv_at hh hl) (kk H locs la hw hS hh)
theorem r_aload (hc : CXp Ω Φ cc own rm N) {i : Nat} {x : Nat} (hdg : decode cc pc = .ok (.aload i, 2)) (hl : lkv ls i = some (.ref x)) (kk : Vw Ω Φ S n (pc + 2) ls (.ref x :: st)) : Vw Ω Φ S n pc ls (st) := by
  obtain ⟨p, e, R, s, m, args, below, meth, c, Q, nL⟩ := Φ
  intro H locs la hw hS hh
  exact lv_aload hc.1 hc.2.1 hdg (lkv_at hh hl) (kk H locs la hw hS hh)
theorem r_istore_n (hc : CXp Ω Φ cc own rm N) {k : Fin 4} {x : Int32} (hdg : decode cc pc = .ok (.istore_n k, 1)) (hn : (k : Nat) < N) (hl : stL ls k (.int x) = ls') (kk : Vw Ω Φ S n (pc + 1) ls' st) : Vw Ω Φ S n pc ls (.int x :: st) := by
  obtain ⟨p, e, R, s, m, args, below, meth, c, Q, nL⟩ := Φ
  intro H locs la hw hS hh
  exact lv_istore_n hc.1 hc.2.1 hdg rfl hh (by rw [hc.2.2.2.2.2.2.1]; exact hn) hl (fun la2 hh2 => kk H locs la2 hw hS hh2)
theorem r_istore (hc : CXp Ω Φ cc own rm N) {i : Nat} {x : Int32} (hdg : decode cc pc = .ok (.istore i, 2)) (hn : i < N) (hl : stL ls i (.int x) = ls') (kk : Vw Ω Φ S n (pc + 2) ls' st) : Vw Ω Φ S n pc ls (.int x :: st) := by
  obtain ⟨p, e, R, s, m, args, below, meth, c, Q, nL⟩ := Φ
  intro H locs la hw hS hh
  exact lv_istore hc.1 hc.2.1 hdg hh (by rw [hc.2.2.2.2.2.2.1]; exact hn) hl (fun la2 hh2 => kk H locs la2 hw hS hh2)
theorem r_lstore_n (hc : CXp Ω Φ cc own rm N) {k : Fin 4} {x : Int64} (hdg : decode cc pc = .ok (.lstore_n k, 1)) (hn : (k : Nat) + 1 < N) (hl : stL2 ls k (.long x) = ls') (kk : Vw Ω Φ S n (pc + 1) ls' st) : Vw Ω Φ S n pc ls (.long x :: st) := by
  obtain ⟨p, e, R, s, m, args, below, meth, c, Q, nL⟩ := Φ
  intro H locs la hw hS hh
  exact lv_lstore_n hc.1 hc.2.1 hdg rfl hh (by rw [hc.2.2.2.2.2.2.1]; exact hn) hl (fun la2 hh2 => kk H locs la2 hw hS hh2)
theorem r_lstore (hc : CXp Ω Φ cc own rm N) {i : Nat} {x : Int64} (hdg : decode cc pc = .ok (.lstore i, 2)) (hn : i + 1 < N) (hl : stL2 ls i (.long x) = ls') (kk : Vw Ω Φ S n (pc + 2) ls' st) : Vw Ω Φ S n pc ls (.long x :: st) := by
  obtain ⟨p, e, R, s, m, args, below, meth, c, Q, nL⟩ := Φ
  intro H locs la hw hS hh
  exact lv_lstore hc.1 hc.2.1 hdg hh (by rw [hc.2.2.2.2.2.2.1]; exact hn) hl (fun la2 hh2 => kk H locs la2 hw hS hh2)
theorem r_astore_n (hc : CXp Ω Φ cc own rm N) {k : Fin 4} {x : Nat} (hdg : decode cc pc = .ok (.astore_n k, 1)) (hn : (k : Nat) < N) (hl : stL ls k (.ref x) = ls') (kk : Vw Ω Φ S n (pc + 1) ls' st) : Vw Ω Φ S n pc ls (.ref x :: st) := by
  obtain ⟨p, e, R, s, m, args, below, meth, c, Q, nL⟩ := Φ
  intro H locs la hw hS hh
  exact lv_astore_n hc.1 hc.2.1 hdg rfl hh (by rw [hc.2.2.2.2.2.2.1]; exact hn) hl (fun la2 hh2 => kk H locs la2 hw hS hh2)
theorem r_astore (hc : CXp Ω Φ cc own rm N) {i : Nat} {x : Nat} (hdg : decode cc pc = .ok (.astore i, 2)) (hn : i < N) (hl : stL ls i (.ref x) = ls') (kk : Vw Ω Φ S n (pc + 2) ls' st) : Vw Ω Φ S n pc ls (.ref x :: st) := by
  obtain ⟨p, e, R, s, m, args, below, meth, c, Q, nL⟩ := Φ
  intro H locs la hw hS hh
  exact lv_astore hc.1 hc.2.1 hdg hh (by rw [hc.2.2.2.2.2.2.1]; exact hn) hl (fun la2 hh2 => kk H locs la2 hw hS hh2)
theorem lv_has_mem {la : Array Slot} {nL : Nat} {l : List (Nat × Value)} {q : Nat × Value} (h : lv_has la nL l) (hq : la[q.1]? = some (.val q.2)) : lv_has la nL (q :: l) := ⟨h.1, h.2.1, fun x hx => by
  rcases List.mem_cons.mp hx with rfl | hx
  · exact hq
  · exact h.2.2 x hx⟩
theorem r_iinc (hc : CXp Ω Φ cc own rm N) {i : Nat} {d : Int} {x v : Int32} (hdg : decode cc pc = .ok (.iinc i d, 3)) (hx : lkv ls i = some (.int x)) (hv : x + Int32.ofInt d = v) (hn : i < N) (hl : stL ls i (.int v) = ls') (kk : Vw Ω Φ S n (pc + 3) ls' st) : Vw Ω Φ S n pc ls st := by
  obtain ⟨p, e, R, s, m, args, below, meth, c, Q, nL⟩ := Φ
  intro H locs la hw hS hh
  have hl2 : stL ((i, Value.int x) :: ls) i (.int v) = ls' := by rw [← hl]; simp
  exact lv_iinc (k := 0) hc.1 hc.2.1 hdg (lv_has_mem hh (lkv_at hh hx)) rfl hv (by rw [hc.2.2.2.2.2.2.1]; exact hn) hl2 (fun la2 hh2 => kk H locs la2 hw hS hh2)
/-- fewer locals -/
theorem r_loc (hs : ∀ q ∈ ls', q ∈ ls) (kk : Vw Ω Φ S n pc ls' st) : Vw Ω Φ S n pc ls st := by
  obtain ⟨p, e, R, s, m, args, below, meth, c, Q, nL⟩ := Φ
  intro H locs la hw hS hh
  exact kk H locs la hw hS ⟨hh.1, hh.2.1, fun q hq => hh.2.2 q (hs q hq)⟩
theorem r_room {n2 : Nat × Nat} (h1 : n.1 ≤ n2.1) (h2 : n.2 ≤ n2.2) (kk : Vw Ω Φ S n2 pc ls st) : Vw Ω Φ S n pc ls st := by
  obtain ⟨p, e, R, s, m, args, below, meth, c, Q, nL⟩ := Φ
  intro H locs la hw hS hh
  exact W.widen h1 h2 (kk H locs la hw hS hh)
theorem r_iconst (hc : CXp Ω Φ cc own rm N) {d : Int} {v : Int32} (hdg : decode cc pc = .ok (.iconst d, 1)) (hv : Int32.ofInt d = v) (kk : Vw Ω Φ S n (pc + 1) ls (.int v :: st)) : Vw Ω Φ S n pc ls (st) := by
  obtain ⟨p, e, R, s, m, args, below, meth, c, Q, nL⟩ := Φ
  intro H locs la hw hS hh
  exact lv_iconst hc.1 hc.2.1 hdg hv (kk H locs la hw hS hh)
theorem r_bipush (hc : CXp Ω Φ cc own rm N) {d : Int} {v : Int32} (hdg : decode cc pc = .ok (.bipush d, 2)) (hv : (Int8.ofInt d).toInt32 = v) (kk : Vw Ω Φ S n (pc + 2) ls (.int v :: st)) : Vw Ω Φ S n pc ls (st) := by
  obtain ⟨p, e, R, s, m, args, below, meth, c, Q, nL⟩ := Φ
  intro H locs la hw hS hh
  exact lv_bipush hc.1 hc.2.1 hdg hv (kk H locs la hw hS hh)
theorem r_sipush (hc : CXp Ω Φ cc own rm N) {d : Int} {v : Int32} (hdg : decode cc pc = .ok (.sipush d, 3)) (hv : (Int16.ofInt d).toInt32 = v) (kk : Vw Ω Φ S n (pc + 3) ls (.int v :: st)) : Vw Ω Φ S n pc ls (st) := by
  obtain ⟨p, e, R, s, m, args, below, meth, c, Q, nL⟩ := Φ
  intro H locs la hw hS hh
  exact lv_sipush hc.1 hc.2.1 hdg hv (kk H locs la hw hS hh)
theorem r_lconst (hc : CXp Ω Φ cc own rm N) {d : Fin 2} {v : Int64} (hdg : decode cc pc = .ok (.lconst d, 1)) (hv : Int64.ofNat (d : Nat) = v) (kk : Vw Ω Φ S n (pc + 1) ls (.long v :: st)) : Vw Ω Φ S n pc ls (st) := by
  obtain ⟨p, e, R, s, m, args, below, meth, c, Q, nL⟩ := Φ
  intro H locs la hw hS hh
  exact lv_lconst hc.1 hc.2.1 hdg hv (kk H locs la hw hS hh)
theorem r_ldc (hc : CXp Ω Φ cc own rm N) {index : Nat} {v : Int32} (hk : Cond.constant own index v ∈ lw_gd) (hdg : decode cc pc = .ok (.ldc index, 2)) (kk : Vw Ω Φ S n (pc + 2) ls (.int v :: st)) : Vw Ω Φ S n pc ls (st) := by
  obtain ⟨p, e, R, s, m, args, below, meth, c, Q, nL⟩ := Φ
  intro H locs la hw hS hh
  exact lv_ldc hc.1 hc.2.1 hc.2.2.2.1 (hc.2.2.2.2.1 _ hk) hdg (kk H locs la hw hS hh)
theorem r_ldc2 (hc : CXp Ω Φ cc own rm N) {index : Nat} {v : Int64} (hk : Cond.constantLong own index v ∈ lw_gd) (hdg : decode cc pc = .ok (.ldc2_w index, 3)) (kk : Vw Ω Φ S n (pc + 3) ls (.long v :: st)) : Vw Ω Φ S n pc ls (st) := by
  obtain ⟨p, e, R, s, m, args, below, meth, c, Q, nL⟩ := Φ
  intro H locs la hw hS hh
  exact lv_ldc2 hc.1 hc.2.1 hc.2.2.2.1 (hc.2.2.2.2.1 _ hk) hdg (kk H locs la hw hS hh)
theorem r_iadd (hc : CXp Ω Φ cc own rm N) {x y v : Int32} (hdg : decode cc pc = .ok (.iadd, 1)) (hv : x + y = v) (kk : Vw Ω Φ S n (pc + 1) ls (.int v :: st)) : Vw Ω Φ S n pc ls (.int y :: .int x :: st) := by
  obtain ⟨p, e, R, s, m, args, below, meth, c, Q, nL⟩ := Φ
  intro H locs la hw hS hh
  subst hv
  exact lv_iadd hc.1 hc.2.1 hdg (kk H locs la hw hS hh)
theorem r_isub (hc : CXp Ω Φ cc own rm N) {x y v : Int32} (hdg : decode cc pc = .ok (.isub, 1)) (hv : x - y = v) (kk : Vw Ω Φ S n (pc + 1) ls (.int v :: st)) : Vw Ω Φ S n pc ls (.int y :: .int x :: st) := by
  obtain ⟨p, e, R, s, m, args, below, meth, c, Q, nL⟩ := Φ
  intro H locs la hw hS hh
  subst hv
  exact lv_isub hc.1 hc.2.1 hdg (kk H locs la hw hS hh)
theorem r_imul (hc : CXp Ω Φ cc own rm N) {x y v : Int32} (hdg : decode cc pc = .ok (.imul, 1)) (hv : x * y = v) (kk : Vw Ω Φ S n (pc + 1) ls (.int v :: st)) : Vw Ω Φ S n pc ls (.int y :: .int x :: st) := by
  obtain ⟨p, e, R, s, m, args, below, meth, c, Q, nL⟩ := Φ
  intro H locs la hw hS hh
  subst hv
  exact lv_imul hc.1 hc.2.1 hdg (kk H locs la hw hS hh)
theorem r_iand (hc : CXp Ω Φ cc own rm N) {x y v : Int32} (hdg : decode cc pc = .ok (.iand, 1)) (hv : x &&& y = v) (kk : Vw Ω Φ S n (pc + 1) ls (.int v :: st)) : Vw Ω Φ S n pc ls (.int y :: .int x :: st) := by
  obtain ⟨p, e, R, s, m, args, below, meth, c, Q, nL⟩ := Φ
  intro H locs la hw hS hh
  subst hv
  exact lv_iand hc.1 hc.2.1 hdg (kk H locs la hw hS hh)
theorem r_ior (hc : CXp Ω Φ cc own rm N) {x y v : Int32} (hdg : decode cc pc = .ok (.ior, 1)) (hv : x ||| y = v) (kk : Vw Ω Φ S n (pc + 1) ls (.int v :: st)) : Vw Ω Φ S n pc ls (.int y :: .int x :: st) := by
  obtain ⟨p, e, R, s, m, args, below, meth, c, Q, nL⟩ := Φ
  intro H locs la hw hS hh
  subst hv
  exact lv_ior hc.1 hc.2.1 hdg (kk H locs la hw hS hh)
theorem r_ixor (hc : CXp Ω Φ cc own rm N) {x y v : Int32} (hdg : decode cc pc = .ok (.ixor, 1)) (hv : x ^^^ y = v) (kk : Vw Ω Φ S n (pc + 1) ls (.int v :: st)) : Vw Ω Φ S n pc ls (.int y :: .int x :: st) := by
  obtain ⟨p, e, R, s, m, args, below, meth, c, Q, nL⟩ := Φ
  intro H locs la hw hS hh
  subst hv
  exact lv_ixor hc.1 hc.2.1 hdg (kk H locs la hw hS hh)
theorem r_ishl (hc : CXp Ω Φ cc own rm N) {x y v : Int32} (hdg : decode cc pc = .ok (.ishl, 1)) (hv : x <<< (y &&& 31) = v) (kk : Vw Ω Φ S n (pc + 1) ls (.int v :: st)) : Vw Ω Φ S n pc ls (.int y :: .int x :: st) := by
  obtain ⟨p, e, R, s, m, args, below, meth, c, Q, nL⟩ := Φ
  intro H locs la hw hS hh
  subst hv
  exact lv_ishl hc.1 hc.2.1 hdg (kk H locs la hw hS hh)
theorem r_ishr (hc : CXp Ω Φ cc own rm N) {x y v : Int32} (hdg : decode cc pc = .ok (.ishr, 1)) (hv : x >>> (y &&& 31) = v) (kk : Vw Ω Φ S n (pc + 1) ls (.int v :: st)) : Vw Ω Φ S n pc ls (.int y :: .int x :: st) := by
  obtain ⟨p, e, R, s, m, args, below, meth, c, Q, nL⟩ := Φ
  intro H locs la hw hS hh
  subst hv
  exact lv_ishr hc.1 hc.2.1 hdg (kk H locs la hw hS hh)
theorem r_idiv (hc : CXp Ω Φ cc own rm N) {x y v : Int32} (hdg : decode cc pc = .ok (.idiv, 1)) (hne : ¬ y = 0) (hv : x / y = v) (kk : Vw Ω Φ S n (pc + 1) ls (.int v :: st)) : Vw Ω Φ S n pc ls (.int y :: .int x :: st) := by
  obtain ⟨p, e, R, s, m, args, below, meth, c, Q, nL⟩ := Φ
  intro H locs la hw hS hh
  subst hv
  exact lv_idiv hc.1 hc.2.1 hdg hne (kk H locs la hw hS hh)
theorem r_irem (hc : CXp Ω Φ cc own rm N) {x y v : Int32} (hdg : decode cc pc = .ok (.irem, 1)) (hne : ¬ y = 0) (hv : x - x / y * y = v) (kk : Vw Ω Φ S n (pc + 1) ls (.int v :: st)) : Vw Ω Φ S n pc ls (.int y :: .int x :: st) := by
  obtain ⟨p, e, R, s, m, args, below, meth, c, Q, nL⟩ := Φ
  intro H locs la hw hS hh
  subst hv
  exact lv_irem hc.1 hc.2.1 hdg hne (kk H locs la hw hS hh)
theorem r_ineg (hc : CXp Ω Φ cc own rm N) {x v : Int32} (hdg : decode cc pc = .ok (.ineg, 1)) (hv : -x = v) (kk : Vw Ω Φ S n (pc + 1) ls (.int v :: st)) : Vw Ω Φ S n pc ls (.int x :: st) := by
  obtain ⟨p, e, R, s, m, args, below, meth, c, Q, nL⟩ := Φ
  intro H locs la hw hS hh
  subst hv
  exact lv_ineg hc.1 hc.2.1 hdg (kk H locs la hw hS hh)
theorem r_land (hc : CXp Ω Φ cc own rm N) {x y v : Int64} (hdg : decode cc pc = .ok (.land, 1)) (hv : x &&& y = v) (kk : Vw Ω Φ S n (pc + 1) ls (.long v :: st)) : Vw Ω Φ S n pc ls (.long y :: .long x :: st) := by
  obtain ⟨p, e, R, s, m, args, below, meth, c, Q, nL⟩ := Φ
  intro H locs la hw hS hh
  subst hv
  exact lv_land hc.1 hc.2.1 hdg (kk H locs la hw hS hh)
theorem r_lor (hc : CXp Ω Φ cc own rm N) {x y v : Int64} (hdg : decode cc pc = .ok (.lor, 1)) (hv : x ||| y = v) (kk : Vw Ω Φ S n (pc + 1) ls (.long v :: st)) : Vw Ω Φ S n pc ls (.long y :: .long x :: st) := by
  obtain ⟨p, e, R, s, m, args, below, meth, c, Q, nL⟩ := Φ
  intro H locs la hw hS hh
  subst hv
  exact lv_lor hc.1 hc.2.1 hdg (kk H locs la hw hS hh)
theorem r_lushr (hc : CXp Ω Φ cc own rm N) {x v : Int64} {y : Int32} (hdg : decode cc pc = .ok (.lushr, 1)) (hv : (x.toUInt64 >>> (y.toInt64.toUInt64 &&& Int64.toUInt64 63)).toInt64 = v) (kk : Vw Ω Φ S n (pc + 1) ls (.long v :: st)) : Vw Ω Φ S n pc ls (.int y :: .long x :: st) := by
  obtain ⟨p, e, R, s, m, args, below, meth, c, Q, nL⟩ := Φ
  intro H locs la hw hS hh
  exact lv_lushr hc.1 hc.2.1 hdg hv (kk H locs la hw hS hh)
theorem r_lshl (hc : CXp Ω Φ cc own rm N) {x v : Int64} {y : Int32} (hdg : decode cc pc = .ok (.lshl, 1)) (hv : x <<< (y.toInt64 &&& 63) = v) (kk : Vw Ω Φ S n (pc + 1) ls (.long v :: st)) : Vw Ω Φ S n pc ls (.int y :: .long x :: st) := by
  obtain ⟨p, e, R, s, m, args, below, meth, c, Q, nL⟩ := Φ
  intro H locs la hw hS hh
  exact lv_lshl hc.1 hc.2.1 hdg hv (kk H locs la hw hS hh)
theorem r_i2l (hc : CXp Ω Φ cc own rm N) {x : Int32} {v : Int64} (hdg : decode cc pc = .ok (.i2l, 1)) (hv : x.toInt64 = v) (kk : Vw Ω Φ S n (pc + 1) ls (.long v :: st)) : Vw Ω Φ S n pc ls (.int x :: st) := by
  obtain ⟨p, e, R, s, m, args, below, meth, c, Q, nL⟩ := Φ
  intro H locs la hw hS hh
  exact lv_i2l hc.1 hc.2.1 hdg hv (kk H locs la hw hS hh)
theorem r_l2i (hc : CXp Ω Φ cc own rm N) {x : Int64} {v : Int32} (hdg : decode cc pc = .ok (.l2i, 1)) (hv : x.toInt32 = v) (kk : Vw Ω Φ S n (pc + 1) ls (.int v :: st)) : Vw Ω Φ S n pc ls (.long x :: st) := by
  obtain ⟨p, e, R, s, m, args, below, meth, c, Q, nL⟩ := Φ
  intro H locs la hw hS hh
  exact lv_l2i hc.1 hc.2.1 hdg hv (kk H locs la hw hS hh)
theorem r_i2c (hc : CXp Ω Φ cc own rm N) {x v : Int32} (hdg : decode cc pc = .ok (.i2c, 1)) (hv : (x.toUInt32 % 65536).toInt32 = v) (kk : Vw Ω Φ S n (pc + 1) ls (.int v :: st)) : Vw Ω Φ S n pc ls (.int x :: st) := by
  obtain ⟨p, e, R, s, m, args, below, meth, c, Q, nL⟩ := Φ
  intro H locs la hw hS hh
  exact lv_i2c hc.1 hc.2.1 hdg hv (kk H locs la hw hS hh)
theorem r_lcmp (hc : CXp Ω Φ cc own rm N) {x y : Int64} {v : Int32} (hdg : decode cc pc = .ok (.lcmp, 1)) (hv : lg_cmp x y = v) (kk : Vw Ω Φ S n (pc + 1) ls (.int v :: st)) : Vw Ω Φ S n pc ls (.long y :: .long x :: st) := by
  obtain ⟨p, e, R, s, m, args, below, meth, c, Q, nL⟩ := Φ
  intro H locs la hw hS hh
  subst hv
  exact W.lcmp hc.1 hc.2.1 hdg (kk H locs la hw hS hh)
theorem r_dup (hc : CXp Ω Φ cc own rm N) {va : Value} (hdg : decode cc pc = .ok (.dup, 1)) (hva : va.category = 1) (kk : Vw Ω Φ S n (pc + 1) ls (va :: va :: st)) : Vw Ω Φ S n pc ls (va :: st) := by
  obtain ⟨p, e, R, s, m, args, below, meth, c, Q, nL⟩ := Φ
  intro H locs la hw hS hh
  exact lv_dup hc.1 hc.2.1 hdg hva (kk H locs la hw hS hh)
theorem r_dup2 (hc : CXp Ω Φ cc own rm N) {va vb : Value} (hdg : decode cc pc = .ok (.dup2, 1)) (hva : va.category = 1) (hvb : vb.category = 1) (kk : Vw Ω Φ S n (pc + 1) ls (va :: vb :: va :: vb :: st)) : Vw Ω Φ S n pc ls (va :: vb :: st) := by
  obtain ⟨p, e, R, s, m, args, below, meth, c, Q, nL⟩ := Φ
  intro H locs la hw hS hh
  exact lv_dup2_11 hc.1 hc.2.1 hdg hva hvb (kk H locs la hw hS hh)
theorem r_pop (hc : CXp Ω Φ cc own rm N) {va : Value} (hdg : decode cc pc = .ok (.pop, 1)) (hva : va.category = 1) (kk : Vw Ω Φ S n (pc + 1) ls st) : Vw Ω Φ S n pc ls (va :: st) := by
  obtain ⟨p, e, R, s, m, args, below, meth, c, Q, nL⟩ := Φ
  intro H locs la hw hS hh
  exact lv_pop hc.1 hc.2.1 hdg hva (kk H locs la hw hS hh)
theorem r_goto (hc : CXp Ω Φ cc own rm N) {off : Int} {tgt : Nat} (hdg : decode cc pc = .ok (.goto off, 3)) (ht : (pc : Int) + off = (tgt : Int)) (kk : Vw Ω Φ S n tgt ls st) : Vw Ω Φ S n pc ls st := by
  obtain ⟨p, e, R, s, m, args, below, meth, c, Q, nL⟩ := Φ
  intro H locs la hw hS hh
  exact lv_goto hc.1 hc.2.1 hdg ht (kk H locs la hw hS hh)
theorem r_topi {x : Int32} (kk : ∀ y : Int32, y = x → Vw Ω Φ S n pc ls (.int y :: st)) : Vw Ω Φ S n pc ls (.int x :: st) := kk x rfl
theorem r_if_eq (hc : CXp Ω Φ cc own rm N) {x : Int32} {off : Int} {tgt : Nat} {P : Prop} (hdg : decode cc pc = .ok (.ifCond .eq off, 3)) (ht : (pc : Int) + off = (tgt : Int)) (hP : x = 0 ↔ P) (kt : P → Vw Ω Φ S n tgt ls st) (kf : ¬ P → Vw Ω Φ S n (pc + 3) ls st) : Vw Ω Φ S n pc ls (.int x :: st) := by
  obtain ⟨p, e, R, s, m, args, below, meth, c, Q, nL⟩ := Φ
  intro H locs la hw hS hh
  exact lv_if_eq hc.1 hc.2.1 hdg ht (fun h => kt (hP.mp h) H locs la hw hS hh) (fun h => kf (fun q => h (hP.mpr q)) H locs la hw hS hh)
theorem r_icmp_eq (hc : CXp Ω Φ cc own rm N) {x y : Int32} {off : Int} {tgt : Nat} {P : Prop} (hdg : decode cc pc = .ok (.if_icmp .eq off, 3)) (ht : (pc : Int) + off = (tgt : Int)) (hP : x = y ↔ P) (kt : P → Vw Ω Φ S n tgt ls st) (kf : ¬ P → Vw Ω Φ S n (pc + 3) ls st) : Vw Ω Φ S n pc ls (.int y :: .int x :: st) := by
  obtain ⟨p, e, R, s, m, args, below, meth, c, Q, nL⟩ := Φ
  intro H locs la hw hS hh
  exact lv_icmp_eq hc.1 hc.2.1 hdg ht (fun h => kt (hP.mp h) H locs la hw hS hh) (fun h => kf (fun q => h (hP.mpr q)) H locs la hw hS hh)
theorem r_if_ne (hc : CXp Ω Φ cc own rm N) {x : Int32} {off : Int} {tgt : Nat} {P : Prop} (hdg : decode cc pc = .ok (.ifCond .ne off, 3)) (ht : (pc : Int) + off = (tgt : Int)) (hP : x = 0 ↔ P) (kt : ¬ P → Vw Ω Φ S n tgt ls st) (kf : P → Vw Ω Φ S n (pc + 3) ls st) : Vw Ω Φ S n pc ls (.int x :: st) := by
  obtain ⟨p, e, R, s, m, args, below, meth, c, Q, nL⟩ := Φ
  intro H locs la hw hS hh
  exact lv_if_ne hc.1 hc.2.1 hdg ht (fun h => kt (fun q => h (hP.mpr q)) H locs la hw hS hh) (fun h => kf (hP.mp h) H locs la hw hS hh)
theorem r_icmp_ne (hc : CXp Ω Φ cc own rm N) {x y : Int32} {off : Int} {tgt : Nat} {P : Prop} (hdg : decode cc pc = .ok (.if_icmp .ne off, 3)) (ht : (pc : Int) + off = (tgt : Int)) (hP : x = y ↔ P) (kt : ¬ P → Vw Ω Φ S n tgt ls st) (kf : P → Vw Ω Φ S n (pc + 3) ls st) : Vw Ω Φ S n pc ls (.int y :: .int x :: st) := by
  obtain ⟨p, e, R, s, m, args, below, meth, c, Q, nL⟩ := Φ
  intro H locs la hw hS hh
  exact lv_icmp_ne hc.1 hc.2.1 hdg ht (fun h => kt (fun q => h (hP.mpr q)) H locs la hw hS hh) (fun h => kf (hP.mp h) H locs la hw hS hh)
theorem r_if_lt (hc : CXp Ω Φ cc own rm N) {x : Int32} {off : Int} {tgt : Nat} {P : Prop} (hdg : decode cc pc = .ok (.ifCond .lt off, 3)) (ht : (pc : Int) + off = (tgt : Int)) (hP : x < 0 ↔ P) (kt : P → Vw Ω Φ S n tgt ls st) (kf : ¬ P → Vw Ω Φ S n (pc + 3) ls st) : Vw Ω Φ S n pc ls (.int x :: st) := by
  obtain ⟨p, e, R, s, m, args, below, meth, c, Q, nL⟩ := Φ
  intro H locs la hw hS hh
  exact lv_if_lt hc.1 hc.2.1 hdg ht (fun h => kt (hP.mp h) H locs la hw hS hh) (fun h => kf (fun q => h (hP.mpr q)) H locs la hw hS hh)
theorem r_icmp_lt (hc : CXp Ω Φ cc own rm N) {x y : Int32} {off : Int} {tgt : Nat} {P : Prop} (hdg : decode cc pc = .ok (.if_icmp .lt off, 3)) (ht : (pc : Int) + off = (tgt : Int)) (hP : x < y ↔ P) (kt : P → Vw Ω Φ S n tgt ls st) (kf : ¬ P → Vw Ω Φ S n (pc + 3) ls st) : Vw Ω Φ S n pc ls (.int y :: .int x :: st) := by
  obtain ⟨p, e, R, s, m, args, below, meth, c, Q, nL⟩ := Φ
  intro H locs la hw hS hh
  exact lv_icmp_lt hc.1 hc.2.1 hdg ht (fun h => kt (hP.mp h) H locs la hw hS hh) (fun h => kf (fun q => h (hP.mpr q)) H locs la hw hS hh)
theorem r_if_ge (hc : CXp Ω Φ cc own rm N) {x : Int32} {off : Int} {tgt : Nat} {P : Prop} (hdg : decode cc pc = .ok (.ifCond .ge off, 3)) (ht : (pc : Int) + off = (tgt : Int)) (hP : 0 ≤ x ↔ P) (kt : P → Vw Ω Φ S n tgt ls st) (kf : ¬ P → Vw Ω Φ S n (pc + 3) ls st) : Vw Ω Φ S n pc ls (.int x :: st) := by
  obtain ⟨p, e, R, s, m, args, below, meth, c, Q, nL⟩ := Φ
  intro H locs la hw hS hh
  exact lv_if_ge hc.1 hc.2.1 hdg ht (fun h => kt (hP.mp h) H locs la hw hS hh) (fun h => kf (fun q => h (hP.mpr q)) H locs la hw hS hh)
theorem r_icmp_ge (hc : CXp Ω Φ cc own rm N) {x y : Int32} {off : Int} {tgt : Nat} {P : Prop} (hdg : decode cc pc = .ok (.if_icmp .ge off, 3)) (ht : (pc : Int) + off = (tgt : Int)) (hP : y ≤ x ↔ P) (kt : P → Vw Ω Φ S n tgt ls st) (kf : ¬ P → Vw Ω Φ S n (pc + 3) ls st) : Vw Ω Φ S n pc ls (.int y :: .int x :: st) := by
  obtain ⟨p, e, R, s, m, args, below, meth, c, Q, nL⟩ := Φ
  intro H locs la hw hS hh
  exact lv_icmp_ge hc.1 hc.2.1 hdg ht (fun h => kt (hP.mp h) H locs la hw hS hh) (fun h => kf (fun q => h (hP.mpr q)) H locs la hw hS hh)
theorem r_if_gt (hc : CXp Ω Φ cc own rm N) {x : Int32} {off : Int} {tgt : Nat} {P : Prop} (hdg : decode cc pc = .ok (.ifCond .gt off, 3)) (ht : (pc : Int) + off = (tgt : Int)) (hP : 0 < x ↔ P) (kt : P → Vw Ω Φ S n tgt ls st) (kf : ¬ P → Vw Ω Φ S n (pc + 3) ls st) : Vw Ω Φ S n pc ls (.int x :: st) := by
  obtain ⟨p, e, R, s, m, args, below, meth, c, Q, nL⟩ := Φ
  intro H locs la hw hS hh
  exact lv_if_gt hc.1 hc.2.1 hdg ht (fun h => kt (hP.mp h) H locs la hw hS hh) (fun h => kf (fun q => h (hP.mpr q)) H locs la hw hS hh)
theorem r_icmp_gt (hc : CXp Ω Φ cc own rm N) {x y : Int32} {off : Int} {tgt : Nat} {P : Prop} (hdg : decode cc pc = .ok (.if_icmp .gt off, 3)) (ht : (pc : Int) + off = (tgt : Int)) (hP : y < x ↔ P) (kt : P → Vw Ω Φ S n tgt ls st) (kf : ¬ P → Vw Ω Φ S n (pc + 3) ls st) : Vw Ω Φ S n pc ls (.int y :: .int x :: st) := by
  obtain ⟨p, e, R, s, m, args, below, meth, c, Q, nL⟩ := Φ
  intro H locs la hw hS hh
  exact lv_icmp_gt hc.1 hc.2.1 hdg ht (fun h => kt (hP.mp h) H locs la hw hS hh) (fun h => kf (fun q => h (hP.mpr q)) H locs la hw hS hh)
theorem r_if_le (hc : CXp Ω Φ cc own rm N) {x : Int32} {off : Int} {tgt : Nat} {P : Prop} (hdg : decode cc pc = .ok (.ifCond .le off, 3)) (ht : (pc : Int) + off = (tgt : Int)) (hP : x ≤ 0 ↔ P) (kt : P → Vw Ω Φ S n tgt ls st) (kf : ¬ P → Vw Ω Φ S n (pc + 3) ls st) : Vw Ω Φ S n pc ls (.int x :: st) := by
  obtain ⟨p, e, R, s, m, args, below, meth, c, Q, nL⟩ := Φ
  intro H locs la hw hS hh
  exact lv_if_le hc.1 hc.2.1 hdg ht (fun h => kt (hP.mp h) H locs la hw hS hh) (fun h => kf (fun q => h (hP.mpr q)) H locs la hw hS hh)
theorem r_icmp_le (hc : CXp Ω Φ cc own rm N) {x y : Int32} {off : Int} {tgt : Nat} {P : Prop} (hdg : decode cc pc = .ok (.if_icmp .le off, 3)) (ht : (pc : Int) + off = (tgt : Int)) (hP : x ≤ y ↔ P) (kt : P → Vw Ω Φ S n tgt ls st) (kf : ¬ P → Vw Ω Φ S n (pc + 3) ls st) : Vw Ω Φ S n pc ls (.int y :: .int x :: st) := by
  obtain ⟨p, e, R, s, m, args, below, meth, c, Q, nL⟩ := Φ
  intro H locs la hw hS hh
  exact lv_icmp_le hc.1 hc.2.1 hdg ht (fun h => kt (hP.mp h) H locs la hw hS hh) (fun h => kf (fun q => h (hP.mpr q)) H locs la hw hS hh)
theorem r_tableOut (hc : CXp Ω Φ cc own rm N) {dflt lo hi : Int} {offs : Array Int} {len : Nat} {x : Int32} {tgt : Nat} (hdg : decode cc pc = .ok (.tableswitch dflt lo hi offs, len)) (h : x.toInt < lo ∨ hi < x.toInt) (ht : (pc : Int) + dflt = (tgt : Int)) (kk : Vw Ω Φ S n tgt ls st) : Vw Ω Φ S n pc ls (.int x :: st) := by
  obtain ⟨p, e, R, s, m, args, below, meth, c, Q, nL⟩ := Φ
  intro H locs la hw hS hh
  exact lv_tableOut hc.1 hc.2.1 hdg h ht (kk H locs la hw hS hh)
theorem r_tableIn (hc : CXp Ω Φ cc own rm N) {dflt lo hi : Int} {offs : Array Int} {len : Nat} {x : Int32} {off : Int} {tgt : Nat} (hdg : decode cc pc = .ok (.tableswitch dflt lo hi offs, len)) (h1 : ¬ x.toInt < lo) (h2 : ¬ hi < x.toInt) (ho : offs[(x.toInt - lo).toNat]? = some off) (ht : (pc : Int) + off = (tgt : Int)) (kk : Vw Ω Φ S n tgt ls st) : Vw Ω Φ S n pc ls (.int x :: st) := by
  obtain ⟨p, e, R, s, m, args, below, meth, c, Q, nL⟩ := Φ
  intro H locs la hw hS hh
  exact lv_tableIn hc.1 hc.2.1 hdg h1 h2 ho ht (kk H locs la hw hS hh)
theorem r_lookup (hc : CXp Ω Φ cc own rm N) {dflt : Int} {ps : Array (Int × Int)} {len : Nat} {x : Int32} {off : Int} {tgt : Nat} (hdg : decode cc pc = .ok (.lookupswitch dflt ps, len)) (hp : (ps.toList.zip (ps.toList.drop 1)).all (fun (a, next) => a.1 < next.1) = true) (ho : Op.lookupswitch.offset ps.toList dflt x.toInt = off) (ht : (pc : Int) + off = (tgt : Int)) (kk : Vw Ω Φ S n tgt ls st) : Vw Ω Φ S n pc ls (.int x :: st) := by
  obtain ⟨p, e, R, s, m, args, below, meth, c, Q, nL⟩ := Φ
  intro H locs la hw hS hh
  exact lv_lookup hc.1 hc.2.1 hdg hp ho ht (kk H locs la hw hS hh)
theorem r_get (hc : CXp Ω Φ cc own rm N) {a ci : Nat} {C : String} {T : u_T} {M : Nat} (hcl : vwCl[ci]? = some (C, T, M)) (hin : ∀ w ∈ u_ws C T M, w ∈ lw_gd) (k : Nat) (hk : k < M) {index : Nat} {ref : String} (hlink : Cond.fieldLink own index ref (T k).2.1 (T k).2.2.1 ∈ lw_gd) (href : (T k).1 = ref) (hsh : S.2.1 a = some (.inl ci)) {v : Value} (hv : (fl ci (S.2.2.1 a) (S.2.2.2 a))[k]? = some v) (hdg : decode cc pc = .ok (.getfield index, 3)) (kk : Vw Ω Φ S n (pc + 3) ls (v :: st)) : Vw Ω Φ S n pc ls (.ref a :: st) := by
  obtain ⟨p, e, R, s, m, args, below, meth, c, Q, nL⟩ := Φ
  intro H locs la hw hS hh
  obtain ⟨h1, h2, h3, h4, h5, h6, h7, h8, h9⟩ := hc
  exact va_get h1 h2 h5 hin h4 h8.1.1 (wd_one hw hsh) 0 rfl hcl k hk (h5 _ hlink) (fun x hx => by rw [← href]; exact hx) hv hdg (kk H locs la hw hS hh)
theorem r_put (hc : CXp Ω Φ cc own rm N) {a ci : Nat} {C : String} {T : u_T} {M : Nat} (hcl : vwCl[ci]? = some (C, T, M)) (hin : ∀ w ∈ u_ws C T M, w ∈ lw_gd) (ty0 : Nat → FieldType) (hty : ∀ k, k < M → parseFieldDescriptor (T k).2.2.1 = some (ty0 k)) (hnm : ∀ a, a < M → ∀ b, b < M → a ≠ b → (T a).2.1 ≠ (T b).2.1) (k : Nat) (hk : k < M) {index : Nat} {ref : String} (hlink : Cond.fieldLink own index ref (T k).2.1 (T k).2.2.1 ∈ lw_gd) (href : (T k).1 = ref) (hfin : (T k).2.2.2 = false) (hsh : sh a = some (.inl ci)) {v : Value} {ty : FieldType} (hd : parseFieldDescriptor (T k).2.2.1 = some ty) (hnv : narrow ty v = v) (hfit : fits ty v = true) {σ1 : Nat → Nat → Int32} {ρ1 : Nat → Nat → Option Nat} (hlen : k < (fl ci (σ a) (ρ a)).length) (hset : fl ci (σ1 a) (ρ1 a) = (fl ci (σ a) (ρ a)).set k v) (hσ : ∀ q, q ≠ a → σ1 q = σ q) (hρ : ∀ q, q ≠ a → ρ1 q = ρ q) (hdg : decode cc pc = .ok (.putfield index, 3)) (kk : Vw Ω Φ (z, sh, σ1, ρ1) n (pc + 3) ls st) : Vw Ω Φ (z, sh, σ, ρ) n pc ls (v :: .ref a :: st) := by
  obtain ⟨p, e, R, s, m, args, below, meth, c, Q, nL⟩ := Φ
  intro H locs la hw hS hh
  obtain ⟨g1, g2, g3, g4, g5, g6, g7, g8, g9⟩ := hc
  have hap := va_apart (own := own) g5 hin ty0 hty hnm g8.1.1 hcl
  obtain ⟨r, h1, cell, q1, q2, q3, q4⟩ := (hw.2.2 a _ hsh).2
  have hr : r = (C, T, M) := Option.some.inj (h1.symm.trans hcl)
  subst hr
  obtain ⟨hSl, hfc, kC, hkC, hkind⟩ := g8.1.1.1 ci _ hcl
  obtain ⟨cf, kf, fi, f, hi, hsl⟩ := hSl k hk
  have hlay := g5 _ (hin _ (u_in_lay hk))
  unfold u_lay at hlay
  rw [if_neg (by rw [hfin]; decide)] at hlay
  have hst := (u_facts hfc hkC (u_lays g5 hin hk) hi).1
  have h6 := u_store hfc hkC hkind hlay hi hd hnv hfit
  refine W.putK g1 g2 (f := f) ⟨g4, g5 _ hlink, ⟨_, _, _, by rw [← href]; exact hi⟩, hst⟩ (by rw [q2]; exact h6) q1 q3 (by rw [hsl]; exact k2_hasslot (q4 k hk)) rfl rfl hdg fun H' e1 e2 e3 => ?_
  rw [hsl] at e1 ⊢
  refine kk H' _ la (wd_put hw hsh e2 e3 hσ hρ ?_) (hS.put e2 e3 (hw.2.2 a _ hsh).1) hh
  show va_at _ _ (a, .inr (ci, fl ci (σ1 a) (ρ1 a))) H'
  rw [hset]
  exact ⟨_, hcl, t_OB.to (V := updV (vp_V (fl ci (σ a) (ρ a))) k v) ⟨_, e1, q2, q3, t_set q4 hap hk v⟩ (fun j _ => vp_updV_set hlen v j)⟩
theorem r_putF (hc : CXp Ω Φ cc own rm N) (hin2 : Φ.2.2.2.2.2.2.2.1.name = "<init>") {a ci : Nat} {C : String} {T : u_T} {M : Nat} (hcl : vwCl[ci]? = some (C, T, M)) (hin : ∀ w ∈ u_ws C T M, w ∈ lw_gd) (ty0 : Nat → FieldType) (hty : ∀ k, k < M → parseFieldDescriptor (T k).2.2.1 = some (ty0 k)) (hnm : ∀ a, a < M → ∀ b, b < M → a ≠ b → (T a).2.1 ≠ (T b).2.1) (k : Nat) (hk : k < M) {index : Nat} {ref : String} (hlink : Cond.fieldLink own index ref (T k).2.1 (T k).2.2.1 ∈ lw_gd) (href : (T k).1 = ref) (hown : ref = own) (hfin : (T k).2.2.2 = true) (hsh : sh a = some (.inl ci)) {v : Value} {ty : FieldType} (hd : parseFieldDescriptor (T k).2.2.1 = some ty) (hnv : narrow ty v = v) (hfit : fits ty v = true) {σ1 : Nat → Nat → Int32} {ρ1 : Nat → Nat → Option Nat} (hlen : k < (fl ci (σ a) (ρ a)).length) (hset : fl ci (σ1 a) (ρ1 a) = (fl ci (σ a) (ρ a)).set k v) (hσ : ∀ q, q ≠ a → σ1 q = σ q) (hρ : ∀ q, q ≠ a → ρ1 q = ρ q) (hdg : decode cc pc = .ok (.putfield index, 3)) (kk : Vw Ω Φ (z, sh, σ1, ρ1) n (pc + 3) ls st) : Vw Ω Φ (z, sh, σ, ρ) n pc ls (v :: .ref a :: st) := by
  obtain ⟨p, e, R, s, m, args, below, meth, c, Q, nL⟩ := Φ
  intro H locs la hw hS hh
  obtain ⟨g1, g2, g3, g4, g5, g6, g7, g8, g9⟩ := hc
  have hap := va_apart (own := own) g5 hin ty0 hty hnm g8.1.1 hcl
  obtain ⟨r, h1, cell, q1, q2, q3, q4⟩ := (hw.2.2 a _ hsh).2
  have hr : r = (C, T, M) := Option.some.inj (h1.symm.trans hcl)
  subst hr
  obtain ⟨hSl, hfc, kC, hkC, hkind⟩ := g8.1.1.1 ci _ hcl
  obtain ⟨cf, kf, fi, f, hi, hsl⟩ := hSl k hk
  have hlay := g5 _ (hin _ (u_in_lay hk))
  unfold u_lay at hlay
  rw [if_pos hfin] at hlay
  have hst := (u_facts hfc hkC (u_lays g5 hin hk) hi).1
  have hcf : m.cls = cf := by
    obtain ⟨_, _, c', _, _, _, -, -, hf', -, -, -, hown2, -⟩ := Cond.laysFinal_spec hlay
    have e1 : c' = cf := by have := hi.symm.trans hf'; simp at this; exact this.1.symm
    rw [href, hown] at hown2
    rw [← e1]; exact Option.some.inj (g4.symm.trans hown2)
  have h6 := u_fits hfc hkC hkind (Or.inr hlay) hi hd hnv hfit
  refine W.putFinK g1 g2 g4 (g5 _ hlink) (by rw [← href]; exact hi) hst hcf hin2 (by rw [q2]; exact h6) q1 q3 (by rw [hsl]; exact k2_hasslot (q4 k hk)) rfl rfl hdg fun H' e1 e2 e3 => ?_
  rw [hsl] at e1 ⊢
  refine kk H' _ la (wd_put hw hsh e2 e3 hσ hρ ?_) (hS.put e2 e3 (hw.2.2 a _ hsh).1) hh
  show va_at _ _ (a, .inr (ci, fl ci (σ1 a) (ρ1 a))) H'
  rw [hset]
  exact ⟨_, hcl, t_OB.to (V := updV (vp_V (fl ci (σ a) (ρ a))) k v) ⟨_, e1, q2, q3, t_set q4 hap hk v⟩ (fun j _ => vp_updV_set hlen v j)⟩
theorem r_iald (hc : CXp Ω Φ cc own rm N) {a len j : Nat} {i x : Int32} (hsh : S.2.1 a = some (.inr (0, len))) (hi : i = nI j) (hj : j < len) (hlen : len < 2 ^ 31) (hx : S.2.2.1 a j = x) (hdg : decode cc pc = .ok (.iaload, 1)) (kk : Vw Ω Φ S n (pc + 1) ls (.int x :: st)) : Vw Ω Φ S n pc ls (.int i :: .ref a :: st) := by
  obtain ⟨p, e, R, s, m, args, below, meth, c, Q, nL⟩ := Φ
  intro H locs la hw hS hh
  subst hi; subst hx
  refine va_iald (f := S.2.2.1 a) hc.1 hc.2.1 hc.2.2.2.2.2.2.2.1.1.1 (wd_one hw hsh) 0 0 rfl rfl (vp_in_nI hj hlen) hdg ?_
  rw [nI_clamp (by omega)]
  exact kk H locs la hw hS hh
theorem r_zald (hc : CXp Ω Φ cc own rm N) {a len j : Nat} {i x : Int32} (hsh : S.2.1 a = some (.inr (1, len))) (hi : i = nI j) (hj : j < len) (hlen : len < 2 ^ 31) (hx : S.2.2.1 a j = x) (hdg : decode cc pc = .ok (.baload, 1)) (kk : Vw Ω Φ S n (pc + 1) ls (.int x :: st)) : Vw Ω Φ S n pc ls (.int i :: .ref a :: st) := by
  obtain ⟨p, e, R, s, m, args, below, meth, c, Q, nL⟩ := Φ
  intro H locs la hw hS hh
  subst hi; subst hx
  refine va_zald (f := S.2.2.1 a) hc.1 hc.2.1 hc.2.2.2.2.2.2.2.1.1.1 (wd_one hw hsh) 0 1 rfl rfl (vp_in_nI hj hlen) hdg ?_
  rw [nI_clamp (by omega)]
  exact kk H locs la hw hS hh
theorem r_cald (hc : CXp Ω Φ cc own rm N) {a len j : Nat} {i x : Int32} (hsh : S.2.1 a = some (.inr (2, len))) (hi : i = nI j) (hj : j < len) (hlen : len < 2 ^ 31) (hx : S.2.2.1 a j = x) (hdg : decode cc pc = .ok (.caload, 1)) (kk : Vw Ω Φ S n (pc + 1) ls (.int x :: st)) : Vw Ω Φ S n pc ls (.int i :: .ref a :: st) := by
  obtain ⟨p, e, R, s, m, args, below, meth, c, Q, nL⟩ := Φ
  intro H locs la hw hS hh
  subst hi; subst hx
  refine va_cald (f := S.2.2.1 a) hc.1 hc.2.1 hc.2.2.2.2.2.2.2.1.1.1 (wd_one hw hsh) 0 2 rfl rfl (vp_in_nI hj hlen) hdg ?_
  rw [nI_clamp (by omega)]
  exact kk H locs la hw hS hh
theorem r_aald (hc : CXp Ω Φ cc own rm N) {a t len j r : Nat} {C : String} {i : Int32} (ht : 3 ≤ t) (hty : (tysL Ω.2.2.1)[t]? = some (Ω.2.2.1 t, .object C)) (hsh : S.2.1 a = some (.inr (t, len))) (hi : i = nI j) (hj : j < len) (hlen : len < 2 ^ 31) (hx : S.2.2.2 a j = some r) (hdg : decode cc pc = .ok (.aaload, 1)) (kk : Vw Ω Φ S n (pc + 1) ls (.ref r :: st)) : Vw Ω Φ S n pc ls (.int i :: .ref a :: st) := by
  obtain ⟨p, e, R, s, m, args, below, meth, c, Q, nL⟩ := Φ
  intro H locs la hw hS hh
  subst hi
  have hP := wd_one hw hsh
  have e : ce Ω.2.2.1 (.inr (t, len)) (S.2.2.1 a) (S.2.2.2 a) = .inl (Ω.2.2.1 t, (len, .inr (.inr (.inr (.inr (S.2.2.2 a)))))) := by
    show (Sum.inl (Ω.2.2.1 t, (len, if t < 3 then _ else _)) : va_E) = _
    rw [if_neg (by omega)]
  rw [e] at hP
  refine va_aldq (f := S.2.2.2 a) hc.1 hc.2.1 hc.2.2.2.2.2.2.2.1.1.1 hP 0 t rfl hty (vp_in_nI hj hlen) hdg ?_
  rw [nI_clamp (by omega), hx]
  exact kk H locs la hw hS hh
theorem r_iast (hc : CXp Ω Φ cc own rm N) {a len j : Nat} {i x : Int32} (hsh : sh a = some (.inr (0, len))) (hi : i = nI j) (hj : j < len) (hlen : len < 2 ^ 31) (hdg : decode cc pc = .ok (.iastore, 1)) (kk : Vw Ω Φ (z, sh, s2 σ a j x, ρ) n (pc + 1) ls st) : Vw Ω Φ (z, sh, σ, ρ) n pc ls (.int x :: .int i :: .ref a :: st) := by
  obtain ⟨p, e, R, s, m, args, below, meth, c, Q, nL⟩ := Φ
  intro H locs la hw hS hh
  subst hi
  have hin := vp_in_nI hj hlen
  refine W.iast hc.1 hc.2.1 (wd_one hw hsh 0 _ rfl) ((hc.2.2.2.2.2.2.2.1.1.1.2 0 _ rfl).1 len (fun j => .int (σ a j))) (fun q => by cases q) (by show ¬ (nI j < 0 ∨ (arrV _ _ _).slots.size ≤ _); rw [arrV_size]; exact hin) rfl rfl hdg fun H1 e zz oq => ?_
  refine kk H1 _ la (wd_put hw hsh zz oq (fun q hq => s2_ne hq) (fun _ _ => rfl) ?_) (hS.put zz oq (hw.2.2 a _ hsh).1) hh
  show H1[a]? = some (vp_cell _ _)
  rw [e, nI_clamp (by omega)]
  show some ((vp_cell (Ω.2.2.1 0) (len, .inl (σ a))).setSlot j _) = some (vp_cell (Ω.2.2.1 0) (len, .inl (s2 σ a j x a)))
  rw [vp_cell_i, vp_cell_i, arrV_store]
  congr 2
  funext q
  by_cases hq : q = j
  · subst hq
    simp [updV, s2]
  · simp [updV, s2, hq]
theorem r_zast (hc : CXp Ω Φ cc own rm N) {a len j : Nat} {i x : Int32} (hsh : sh a = some (.inr (1, len))) (hi : i = nI j) (hj : j < len) (hlen : len < 2 ^ 31) (hnar : narrow .boolean (.int x) = .int x) (hdg : decode cc pc = .ok (.bastore, 1)) (kk : Vw Ω Φ (z, sh, s2 σ a j x, ρ) n (pc + 1) ls st) : Vw Ω Φ (z, sh, σ, ρ) n pc ls (.int x :: .int i :: .ref a :: st) := by
  obtain ⟨p, e, R, s, m, args, below, meth, c, Q, nL⟩ := Φ
  intro H locs la hw hS hh
  subst hi
  have hin := vp_in_nI hj hlen
  refine W.zast hc.1 hc.2.1 (wd_one hw hsh 0 _ rfl) ((hc.2.2.2.2.2.2.2.1.1.1.2 1 _ rfl).1 len (fun j => .int (σ a j))) (fun q => by cases q) (by show ¬ (nI j < 0 ∨ (arrV _ _ _).slots.size ≤ _); rw [arrV_size]; exact hin) rfl rfl hdg fun H1 e zz oq => ?_
  rw [hnar] at e
  refine kk H1 _ la (wd_put hw hsh zz oq (fun q hq => s2_ne hq) (fun _ _ => rfl) ?_) (hS.put zz oq (hw.2.2 a _ hsh).1) hh
  show H1[a]? = some (vp_cell _ _)
  rw [e, nI_clamp (by omega)]
  show some ((vp_cell (Ω.2.2.1 1) (len, .inl (σ a))).setSlot j _) = some (vp_cell (Ω.2.2.1 1) (len, .inl (s2 σ a j x a)))
  rw [vp_cell_i, vp_cell_i, arrV_store]
  congr 2
  funext q
  by_cases hq : q = j
  · subst hq
    simp [updV, s2]
  · simp [updV, s2, hq]
theorem r_cast (hc : CXp Ω Φ cc own rm N) {a len j : Nat} {i x : Int32} (hsh : sh a = some (.inr (2, len))) (hi : i = nI j) (hj : j < len) (hlen : len < 2 ^ 31) (hnar : narrow .char (.int x) = .int x) (hdg : decode cc pc = .ok (.castore, 1)) (kk : Vw Ω Φ (z, sh, s2 σ a j x, ρ) n (pc + 1) ls st) : Vw Ω Φ (z, sh, σ, ρ) n pc ls (.int x :: .int i :: .ref a :: st) := by
  obtain ⟨p, e, R, s, m, args, below, meth, c, Q, nL⟩ := Φ
  intro H locs la hw hS hh
  subst hi
  have hin := vp_in_nI hj hlen
  refine W.cast hc.1 hc.2.1 (wd_one hw hsh 0 _ rfl) ((hc.2.2.2.2.2.2.2.1.1.1.2 2 _ rfl).1 len (fun j => .int (σ a j))) (fun q => by cases q) (by show ¬ (nI j < 0 ∨ (arrV _ _ _).slots.size ≤ _); rw [arrV_size]; exact hin) rfl rfl hdg fun H1 e zz oq => ?_
  rw [hnar] at e
  refine kk H1 _ la (wd_put hw hsh zz oq (fun q hq => s2_ne hq) (fun _ _ => rfl) ?_) (hS.put zz oq (hw.2.2 a _ hsh).1) hh
  show H1[a]? = some (vp_cell _ _)
  rw [e, nI_clamp (by omega)]
  show some ((vp_cell (Ω.2.2.1 2) (len, .inl (σ a))).setSlot j _) = some (vp_cell (Ω.2.2.1 2) (len, .inl (s2 σ a j x a)))
  rw [vp_cell_i, vp_cell_i, arrV_store]
  congr 2
  funext q
  by_cases hq : q = j
  · subst hq
    simp [updV, s2]
  · simp [updV, s2, hq]
theorem r_aast (hc : CXp Ω Φ cc own rm N) {a t len j v ci : Nat} {r : vw_C} {i : Int32} (ht : 3 ≤ t) (hty : (tysL Ω.2.2.1)[t]? = some (Ω.2.2.1 t, .object r.1)) (hsh : sh a = some (.inr (t, len))) (hi : i = nI j) (hj : j < len) (hlen : len < 2 ^ 31) (hv : sh v = some (.inl ci)) (hcl : vwCl[ci]? = some r) (hdg : decode cc pc = .ok (.aastore, 1)) (kk : Vw Ω Φ (z, sh, σ, s2 ρ a j (some v)) n (pc + 1) ls st) : Vw Ω Φ (z, sh, σ, ρ) n pc ls (.ref v :: .int i :: .ref a :: st) := by
  obtain ⟨p, e, R, s, m, args, below, meth, c, Q, nL⟩ := Φ
  intro H locs la hw hS hh
  subst hi
  obtain ⟨g1, g2, g3, g4, g5, g6, g7, g8, g9⟩ := hc
  have hin := vp_in_nI hj hlen
  have e0 : ∀ (x : Nat → Int32) (y : Nat → Option Nat), ce Ω.2.2.1 (.inr (t, len)) x y = .inl (Ω.2.2.1 t, (len, .inr (.inr (.inr (.inr y))))) := by
    intro x y
    show (Sum.inl (Ω.2.2.1 t, (len, if t < 3 then _ else _)) : va_E) = _
    rw [if_neg (by omega)]
  have hP := (hw.2.2 a _ hsh).2
  rw [e0] at hP
  obtain ⟨r', hr', cellV, v1, v2, v3, -⟩ := (hw.2.2 v _ hv).2
  have hcls := (g8.1.1.1 ci r hcl).2
  obtain ⟨kA, comp, k1, k2, k3, -⟩ := (g8.1.1.2 t _ hty).2
  have hcomp : comp = Ω.2.1.1 ci := Option.some.inj (k3.symm.trans hcls.1)
  subst hcomp
  obtain ⟨kC, hkC, -⟩ := hcls.2
  refine W.aast g1 g2 (show H[a]? = some (vp_cell _ _) from hP) (fun q h => by cases h) (fun h => by cases h) k1 k2 rfl hkC ⟨fun q => hin (Or.inl q), by show _ < (arrV _ _ _).slots.size; rw [arrV_size, nI_clamp (by omega)]; exact hj⟩ v1 (fun q h => by rw [v3] at h; cases h) (by rw [v2]; exact hkC) (by rw [v2]; exact va_assign hcls) rfl rfl hdg fun H1 e zz oq => ?_
  refine kk H1 _ la (wd_put hw hsh zz oq (fun _ _ => rfl) (fun q hq => s2_ne hq) ?_) (hS.put zz oq (hw.2.2 a _ hsh).1) hh
  rw [e0]
  show H1[a]? = some (vp_cell _ _)
  rw [e, nI_clamp (by omega)]
  show some ((vp_cell (Ω.2.2.1 t) (len, .inr (.inr (.inr (.inr (ρ a)))))).setSlot j _) = some (vp_cell (Ω.2.2.1 t) (len, .inr (.inr (.inr (.inr (s2 ρ a j (some v) a))))))
  rw [vp_cell_q, vp_cell_q, arrV_store]
  congr 2
  funext q
  by_cases hq : q = j
  · subst hq
    simp [updV, s2, va_rf]
  · simp [updV, s2, hq]
/-- the shape, the ints, the references with one cell more, at its end -/
abbrev nwS (z : Nat) (sh : Nat → Option Kd) (σ : Nat → Nat → Int32) (ρ : Nat → Nat → Option Nat) (k : Kd) : StT := (z + 1, va_up sh z (some k), va_up σ z (fun _ => 0), va_up ρ z (fun _ => none))
theorem wd_new {Ω : OmT} {H H1 : Heap} {k : Kd} (hw : wd Ω (z, sh, σ, ρ) H) (z1 : H1.size = H.size + 1) (oq : ∀ q : Nat, q < H.size → H1[q]? = H[q]?) (e : va_at Ω.2.1 vwCl (H.size, ce Ω.2.2.1 k (fun _ => 0) (fun _ => none)) H1) : wd Ω (nwS z sh σ ρ k) H1 := by
  obtain ⟨h1, h2, h3⟩ := hw
  have h1 : H.size = z := h1
  have h2 : Ω.2.2.2 ≤ z := h2
  refine ⟨by rw [z1, h1], by show Ω.2.2.2 ≤ z + 1; omega, fun q kd hk => ?_⟩
  by_cases hq : q = z
  · subst hq
    have hk2 : k = kd := by simpa [va_up] using hk
    subst hk2
    refine ⟨h2, ?_⟩
    show va_at _ _ (_, ce _ k (va_up σ q _ q) (va_up ρ q _ q)) H1
    rw [h1] at e
    simpa [va_up] using e
  · have hk2 : sh q = some kd := by simpa [va_up, hq] using hk
    have h4 := h3 q kd hk2
    refine ⟨h4.1, ?_⟩
    show va_at _ _ (q, ce _ kd (va_up σ z _ q) (va_up ρ z _ q)) H1
    simp only [va_up, hq, if_false]
    exact h4.2.kept (oq q h4.2.lt)
theorem r_new (hc : CXp Ω Φ cc own rm N) {ci : Nat} {C : String} {T : u_T} {M index : Nat} (hcl : vwCl[ci]? = some (C, T, M)) (hin : ∀ w ∈ u_ws C T M, w ∈ lw_gd) (ty0 : Nat → FieldType) (hty : ∀ k, k < M → parseFieldDescriptor (T k).2.2.1 = some (ty0 k)) (hlink : Cond.classLink own index C ∈ lw_gd) (hinst : Cond.instantiable C M ∈ lw_gd) (hini : Cond.initialized C ∈ lw_gd) (hfs : ∀ j, j < M → defaultValue (ty0 j) = vp_V (fl ci (fun _ => 0) (fun _ => none)) j) (hroom : n.1 + 1 ≤ rm.cells ∧ n.2 + M ≤ rm.slots) (hdg : decode cc pc = .ok (.new index, 3)) (kk : Vw Ω Φ (nwS z sh σ ρ (.inl ci)) (n.1 + 1, n.2 + M) (pc + 3) ls (.ref z :: st)) : Vw Ω Φ (z, sh, σ, ρ) n pc ls st := by
  obtain ⟨p, e, R, s, m, args, below, meth, c, Q, nL⟩ := Φ
  intro H locs la hw hS hh
  obtain ⟨g1, g2, g3, g4, g5, g6, g7, g8, g9⟩ := hc
  subst g6
  have hKn := g8.1.1.1 ci _ hcl
  refine W.newcK g1 g2 g4 (g5 _ hlink) (g5 _ hinst) (g5 _ hini) rfl hdg hroom.1 hroom.2 hKn.2.1 hw.1 fun H1 kC hkC e1 z1 o1 => ?_
  have hz : H.size = z := hw.1
  refine kk H1 locs la (wd_new hw (by rw [z1, hz]) (by rw [hz]; exact o1) ?_) ⟨Nat.le_trans hS.1 (by omega), fun x h1 h2 => (o1 x (by rw [← hz]; exact Nat.lt_of_lt_of_le h1 hS.1)).trans (hS.2.1 x h1 h2), hS.2.2⟩ hh
  rw [hz]
  exact ⟨_, hcl, (u_born ty0 g5 hin hKn hkC e1 hty).to hfs⟩
theorem r_newa (hc : CXp Ω Φ cc own rm N) {t len : Nat} {i : Int32} {atype : ArrayType} (ht : t < 3) (hty : (tysL Ω.2.2.1)[t]? = some (Ω.2.2.1 t, newarray.typeOf atype)) (hobj : ∀ C, newarray.typeOf atype ≠ .object C) (hdef : defaultValue (newarray.typeOf atype) = .int 0) (harr : Cond.arrayClass (newarray.typeOf atype) ∈ lw_gd) (hi : i = nI len) (hlen : len < 100000) (hbytes : len * componentBytes (newarray.typeOf atype) ≤ 536870912) (hroom : n.1 + 1 ≤ rm.cells ∧ n.2 + len ≤ rm.slots) (hdg : decode cc pc = .ok (.newarray atype, 2)) (kk : Vw Ω Φ (nwS z sh σ ρ (.inr (t, len))) (n.1 + 1, n.2 + len) (pc + 2) ls (.ref z :: st)) : Vw Ω Φ (z, sh, σ, ρ) n pc ls (.int i :: st) := by
  obtain ⟨p, e, R, s, m, args, below, meth, c, Q, nL⟩ := Φ
  intro H locs la hw hS hh
  obtain ⟨g1, g2, g3, g4, g5, g6, g7, g8, g9⟩ := hc
  subst g6
  subst hi
  have hz : H.size = z := hw.1
  refine va_newaK g1 g2 (g5 _ harr) rfl hdg rfl (nI_pos (by omega)) (nI_clamp (by omega)) hbytes hroom.1 hroom.2 hz fun H1 cA e1 z1 o1 hAr hNm => ?_
  have h7 := (g8.1.1.2 t _ hty).2
  have hcA : cA = Ω.2.2.1 t := by
    generalize newarray.typeOf atype = ty at h7 hNm hobj
    cases ty with
    | object C => exact absurd rfl (hobj C)
    | _ => exact Option.some.inj (hNm.symm.trans h7)
  subst hcA
  refine kk H1 locs la (wd_new hw (by rw [z1, hz]) (by rw [hz]; exact o1) ?_) ⟨Nat.le_trans hS.1 (by omega), fun x h1 h2 => (o1 x (by rw [← hz]; exact Nat.lt_of_lt_of_le h1 hS.1)).trans (hS.2.1 x h1 h2), hS.2.2⟩ hh
  show H1[H.size]? = some (vp_cell _ (len, if t < 3 then _ else _))
  rw [if_pos ht, hz, e1, hdef]
  rfl
theorem r_newq (hc : CXp Ω Φ cc own rm N) {t len : Nat} {i : Int32} {C : String} {index : Nat} (ht : 3 ≤ t) (hty : (tysL Ω.2.2.1)[t]? = some (Ω.2.2.1 t, .object C)) (hover : ∀ U H, KS Ω U H → va_AO C U) (hlink : Cond.classLink own index C ∈ lw_gd) (hi : i = nI len) (hlen : len < 100000) (hroom : n.1 + 1 ≤ rm.cells ∧ n.2 + len ≤ rm.slots) (hdg : decode cc pc = .ok (.anewarray index, 3)) (kk : Vw Ω Φ (nwS z sh σ ρ (.inr (t, len))) (n.1 + 1, n.2 + len) (pc + 3) ls (.ref z :: st)) : Vw Ω Φ (z, sh, σ, ρ) n pc ls (.int i :: st) := by
  obtain ⟨p, e, R, s, m, args, below, meth, c, Q, nL⟩ := Φ
  intro H locs la hw hS hh
  obtain ⟨g1, g2, g3, g4, g5, g6, g7, g8, g9⟩ := hc
  subst g6
  subst hi
  have hz : H.size = z := hw.1
  have hcl : (nI len).toNatClampNeg = len := nI_clamp (by omega)
  refine W.anew g1 g2 g4 (g5 _ hlink) (va_AO.use (hover _ _ g8)) rfl hdg rfl (nI_pos (by omega)) (by rw [hcl]; omega) hroom.1 (by rw [hcl]; exact hroom.2) fun cA kA comp f1 f2 f3 f4 => ?_
  rw [hcl]
  generalize hH1 : H.push ({ cls := cA, slots := Array.replicate len .null, vm := .none } : Cell) = H1
  have z1 : H1.size = H.size + 1 := by rw [← hH1, Array.size_push]
  have e1 : H1[H.size]? = some (arrV cA len (fun _ => .null)) := by rw [← hH1, Array.getElem?_push_size, ← arrV_new]
  have o1 : ∀ q : Nat, q < H.size → H1[q]? = H[q]? := fun q hq => by rw [← hH1, Array.getElem?_push, if_neg (Nat.ne_of_lt hq)]
  obtain ⟨kA', comp', k1, k2, k3, k4⟩ := (g8.1.1.2 t _ hty).2
  have hcA : cA = Ω.2.2.1 t := Option.some.inj (f1.symm.trans k4)
  subst hcA
  rw [hz]
  refine kk H1 locs la (wd_new hw z1 o1 ?_) ⟨Nat.le_trans hS.1 (by omega), fun x h1 h2 => (o1 x (Nat.lt_of_lt_of_le h1 hS.1)).trans (hS.2.1 x h1 h2), hS.2.2⟩ hh
  show H1[H.size]? = some (vp_cell _ (len, if t < 3 then _ else _))
  rw [if_neg (by omega), e1]
  rfl
end RW
