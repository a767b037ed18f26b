/-! What all contracts share: the words that are good everywhere, the array classes, the nest's links, one form of contract and of call. -/
theorem U0_good {ws : List Cond} (h : ∀ w ∈ ws, w ∈ U0) : GoodIn U0 ws := fun w hw => ⟨h w hw, good_of_word (List.mem_filter.mp (h w hw)).2⟩
theorem U0_tbl {w : Cond} (h : w ∈ U0) : w ∈ lw_tbl := (List.mem_filter.mp h).1
theorem gV {own C : String} {idx : Nat} {y : MethodName} {cw : Cond} (h1 : Cond.methodLink own idx y ∈ U0) (h2 : Cond.instanceMethod y ∈ U0) (h3 : Cond.selects C y y ∈ U0) (h4 : Cond.initialized C ∈ U0) (h5 : cw ∈ U0) : GoodIn U0 (wsV own idx C y (cw :: U0)) := by
  refine U0_good fun w hw => ?_
  simp only [wsV, List.cons_append, List.nil_append, List.mem_cons] at hw
  rcases hw with rfl | rfl | rfl | rfl | rfl | hw
  · exact h1
  · exact h2
  · exact h3
  · exact h4
  · exact h5
  · exact hw
theorem gS {own : String} {idx : Nat} {y : MethodName} {cw : Cond} (h1 : Cond.methodLink own idx y ∈ U0) (h2 : Cond.static y ∈ U0) (h4 : Cond.initialized own ∈ U0) (h5 : cw ∈ U0) : GoodIn U0 (wsS own idx y (cw :: U0)) := by
  refine U0_good fun w hw => ?_
  simp only [wsS, List.cons_append, List.nil_append, List.mem_cons] at hw
  rcases hw with rfl | rfl | rfl | rfl | hw
  · exact h1
  · exact h2
  · exact h4
  · exact h5
  · exact hw
theorem gC {cw : Cond} (h5 : cw ∈ U0) : GoodIn U0 (cw :: U0) := by
  refine U0_good fun w hw => ?_
  rcases List.mem_cons.mp hw with rfl | hw
  · exact h5
  · exact hw
def tysG (cs : Nat → ClassId) : List (ClassId × FieldType) := [(cs 0, .int), (cs 1, .boolean), (cs 2, .byte), (cs 3, .long), (cs 4, .object "KeyDrive$Drive")]
abbrev aI (cs : Nat → ClassId) (n : Nat) (f : Nat → Int32) : va_E := .inl (cs 0, n, .inl f)
abbrev aZ (cs : Nat → ClassId) (n : Nat) (f : Nat → Int32) : va_E := .inl (cs 1, n, .inl f)
abbrev aB (cs : Nat → ClassId) (n : Nat) (f : Nat → Int32) : va_E := .inl (cs 2, n, .inl f)
abbrev aJ (cs : Nat → ClassId) (n : Nat) (f : Nat → Int64) : va_E := .inl (cs 3, n, .inr (.inl f))
abbrev aD (cs : Nat → ClassId) (n : Nat) (f : Nat → Option Nat) : va_E := .inl (cs 4, n, .inr (.inr (.inr (.inr f))))
def nst (U : State) : Prop := (∀ q ∈ nests, va_Nw (.methodLinkNest q.1 q.2.1 q.2.2 "KeyDrive") U) ∧ va_AO "KeyDrive$Drive" U
theorem nst.warm {s U : State} (hW : s.WarmedH U.vm) (h : nst s) : nst U := ⟨fun q hq => va_Nw.warmM hW (h.1 q hq), va_AO.moved hW.alike h.2⟩
theorem nst.same {u U : State} (h : u.vm = U.vm) (hn : nst u) : nst U := ⟨fun q hq => va_Nw.same rfl h (hn.1 q hq), va_AO.moved (by rw [h]; exact Vm.Alike.refl _) hn.2⟩
def kK (D : va_G) (cs : Nat → ClassId) (U : State) : Prop := va_K D vwCl (tysG cs) U ∧ nst U
theorem kK.warm {D : va_G} {cs : Nat → ClassId} {s U : State} (hW : s.WarmedH U.vm) (h : kK D cs s) : kK D cs U := ⟨va_K.moved hW.alike h.1, h.2.warm hW⟩
def kU (D : va_G) (cs : Nat → ClassId) (sz : Nat) (ws : va_W) (U : State) : Prop := U.heap.size = sz ∧ va_P D vwCl ws U.heap ∧ kK D cs U ∧ va_D (fun _ => True) ws
def kPc (D : va_G) (cs : Nat → ClassId) (av : List Value) (sz : Nat) (ws : va_W) : Array Value → State → Prop := va_Pc av (kU D cs sz ws)
theorem kPc_blind {D : va_G} {cs : Nat → ClassId} {av : List Value} {sz : Nat} {ws : va_W} : FrameBlind (kPc D cs av sz ws) := fun a U g mk q => by
  obtain ⟨q0, q1, qP, qK, qD⟩ := q
  exact ⟨q0, q1, qP, ⟨va_K.moved (u := U) (U := U.calling g mk a) (Vm.Alike.refl U.vm) qK.1, qK.2.same rfl⟩, qD⟩
def kB (D : va_G) (A : Nat → Prop) (ws : va_W) (t : State) : Prop := va_P D vwCl ws t.heap ∧ va_D A ws
theorem pick_fm {α : Type} {f : Nat → Option α} : ∀ {is : List Nat} {wc : List α}, is.map f = wc.map some → is.filterMap f = wc
  | [], [], _ => rfl
  | [], _ :: _, h => by cases h
  | _ :: _, [], h => by cases h
  | i :: is, w :: wc, h => by
    simp only [List.map_cons, List.cons.injEq] at h
    rw [List.filterMap_cons, h.1]
    simp only
    rw [pick_fm h.2]
abbrev cMi (l : Launch) (y : MethodName) (cw : Cond) (rm : Room) (D : va_G) (cs : Nat → ClassId) (av : List Value) (sz : Nat) (ws : va_W) {S : Type} (post : Int32 → S → Prop) (w1 : S → va_W) : Prop := Met l y (cw :: U0) rm (kPc D cs av sz ws) (va_Qi post (fun u => kB D (va_A ws sz) (w1 u)) (va_A ws sz)) rm.cells rm.slots (va_A ws sz)
abbrev cMl (l : Launch) (y : MethodName) (cw : Cond) (rm : Room) (D : va_G) (cs : Nat → ClassId) (av : List Value) (sz : Nat) (ws : va_W) {S : Type} (post : Int64 → S → Prop) (w1 : S → va_W) : Prop := Met l y (cw :: U0) rm (kPc D cs av sz ws) (va_Ql post (fun u => kB D (va_A ws sz) (w1 u)) (va_A ws sz)) rm.cells rm.slots (va_A ws sz)
abbrev cMv (l : Launch) (y : MethodName) (cw : Cond) (rm : Room) (D : va_G) (cs : Nat → ClassId) (av : List Value) (sz : Nat) (ws : va_W) {S : Type} (post : S → Prop) (w1 : S → va_W) : Prop := Met l y (cw :: U0) rm (kPc D cs av sz ws) (va_Qv post (fun u => kB D (va_A ws sz) (w1 u)) (va_A ws sz)) rm.cells rm.slots (va_A ws sz)
theorem vin_c (i : Int32) (n : Nat) (h : decide (¬ (i < 0 ∨ n ≤ i.toNatClampNeg)) = true) : vp_in i n := show ¬ (i < 0 ∨ n ≤ i.toNatClampNeg) from of_decide_eq_true h
theorem cl_lt {i : Int32} {n : Nat} (h : vp_in i n) : i.toNatClampNeg < n := Nat.lt_of_not_le fun h' => h (Or.inr h')
theorem i_lt (a b : Int32) : a < b ↔ a.toInt < b.toInt := Int32.lt_iff_toInt_lt
theorem i_le (a b : Int32) : a ≤ b ↔ a.toInt ≤ b.toInt := Int32.le_iff_toInt_le
theorem i_eq (a b : Int32) : a = b ↔ a.toInt = b.toInt := Int32.toInt_inj.symm
theorem i_add0 (x : Int32) : x + 0 = x := Int32.add_zero x
theorem i_0add (x : Int32) : 0 + x = x := Int32.zero_add x
theorem i_sub0 (x : Int32) : x - 0 = x := Int32.sub_zero x
theorem i_0mul (x : Int32) : 0 * x = 0 := Int32.zero_mul
theorem i_mul0 (x : Int32) : x * 0 = 0 := Int32.mul_zero
theorem zr {n : Nat} : ∀ j : Nat, j < n → (fun _ : Nat => (0 : Int32)) j = 0 := fun _ _ => rfl
theorem sb_cpy0' {α : Type} {f g : Nat → α} {n j : Nat} (h : j < n) : va_cpy f g 0 0 n j = f j := by
  rw [pk_cpy_in (Nat.zero_le _) (by omega)]
  congr 1
  omega
theorem cpy0 {α : Type} {f g : Nat → α} {n j : Nat} (h : j < n) : va_cpy f g (0 : Int32).toNatClampNeg (0 : Int32).toNatClampNeg n j = f j := by
  show va_cpy f g 0 0 n j = f j
  exact sb_cpy0' h
theorem upd_all {P : Int32 → Prop} {f : Nat → Int32} {k n : Nat} {x : Int32} (h : ∀ j, j < n → P (f j)) (hx : P x) : ∀ j, j < n → P (upd f k x j) := by
  intro j hj
  by_cases e : j = k
  · subst e; rw [pk_us]; exact hx
  · rw [pk_un e]; exact h j hj
theorem upd_fill {f : Nat → Int32} {i : Nat} {x : Int32} (h : ∀ j, j < i → f j = x) (hi : i < 2 ^ 31) : ∀ j, j < i + 1 → upd f (nI i).toNatClampNeg x j = x := by
  intro j hj
  rw [nI_clamp hi]
  by_cases e : j = i
  · subst e; rw [pk_us]
  · rw [pk_un e]; exact h j (by omega)
theorem fitB {f : Nat → Int32} (h : ∀ j, j < 1536 → f j = 0) : ∀ i, i < (1536 : Int32).toNatClampNeg → fits .byte (.int (f ((0 : Int32).toNatClampNeg + i))) = true := fun i hi => by
  show fits .byte (.int (f (0 + i))) = true
  rw [Nat.zero_add, h i hi]
  rfl
theorem sw_2 (x : Int32) : x = 0 ∨ x = 1 ∨ ((x.toInt < 0 ∨ 1 < x.toInt) ∧ x ≠ 0 ∧ x ≠ 1) := by
  have e0 : (0 : Int32).toInt = 0 := rfl
  have e1 : (1 : Int32).toInt = 1 := rfl
  simp only [ne_eq, i_eq, e0, e1]
  omega
theorem sw_4 (x : Int32) : x = 0 ∨ x = 1 ∨ x = 2 ∨ x = 3 ∨ ((x.toInt < 0 ∨ 3 < x.toInt) ∧ x ≠ 0 ∧ x ≠ 1 ∧ x ≠ 2 ∧ x ≠ 3) := by
  have e0 : (0 : Int32).toInt = 0 := rfl
  have e1 : (1 : Int32).toInt = 1 := rfl
  have e2 : (2 : Int32).toInt = 2 := rfl
  have e3 : (3 : Int32).toInt = 3 := rfl
  simp only [ne_eq, i_eq, e0, e1, e2, e3]
  omega
theorem sw_3 (x : Int32) : x = 0 ∨ x = 1 ∨ x = 2 ∨ ((x.toInt < 0 ∨ 2 < x.toInt) ∧ x ≠ 0 ∧ x ≠ 1 ∧ x ≠ 2) := by
  have e0 : (0 : Int32).toInt = 0 := rfl
  have e1 : (1 : Int32).toInt = 1 := rfl
  have e2 : (2 : Int32).toInt = 2 := rfl
  simp only [ne_eq, i_eq, e0, e1, e2]
  omega
theorem sw_5 (x : Int32) : x = 0 ∨ x = 1 ∨ x = 2 ∨ x = 3 ∨ x = 4 ∨ ((x.toInt < 0 ∨ 4 < x.toInt) ∧ x ≠ 0 ∧ x ≠ 1 ∧ x ≠ 2 ∧ x ≠ 3 ∧ x ≠ 4) := by
  have e0 : (0 : Int32).toInt = 0 := rfl
  have e1 : (1 : Int32).toInt = 1 := rfl
  have e2 : (2 : Int32).toInt = 2 := rfl
  have e3 : (3 : Int32).toInt = 3 := rfl
  have e4 : (4 : Int32).toInt = 4 := rfl
  simp only [ne_eq, i_eq, e0, e1, e2, e3, e4]
  omega
theorem sw_6 (x : Int32) : x = 0 ∨ x = 1 ∨ x = 2 ∨ x = 3 ∨ x = 4 ∨ x = 5 ∨ ((x.toInt < 0 ∨ 5 < x.toInt) ∧ x ≠ 0 ∧ x ≠ 1 ∧ x ≠ 2 ∧ x ≠ 3 ∧ x ≠ 4 ∧ x ≠ 5) := by
  have e0 : (0 : Int32).toInt = 0 := rfl
  have e1 : (1 : Int32).toInt = 1 := rfl
  have e2 : (2 : Int32).toInt = 2 := rfl
  have e3 : (3 : Int32).toInt = 3 := rfl
  have e4 : (4 : Int32).toInt = 4 := rfl
  have e5 : (5 : Int32).toInt = 5 := rfl
  simp only [ne_eq, i_eq, e0, e1, e2, e3, e4, e5]
  omega
theorem sw_9 (x : Int32) : x = 0 ∨ x = 1 ∨ x = 2 ∨ x = 3 ∨ x = 4 ∨ x = 5 ∨ x = 6 ∨ x = 7 ∨ x = 8 ∨ ((x.toInt < 0 ∨ 8 < x.toInt) ∧ x ≠ 0 ∧ x ≠ 1 ∧ x ≠ 2 ∧ x ≠ 3 ∧ x ≠ 4 ∧ x ≠ 5 ∧ x ≠ 6 ∧ x ≠ 7 ∧ x ≠ 8) := by
  have e0 : (0 : Int32).toInt = 0 := rfl
  have e1 : (1 : Int32).toInt = 1 := rfl
  have e2 : (2 : Int32).toInt = 2 := rfl
  have e3 : (3 : Int32).toInt = 3 := rfl
  have e4 : (4 : Int32).toInt = 4 := rfl
  have e5 : (5 : Int32).toInt = 5 := rfl
  have e6 : (6 : Int32).toInt = 6 := rfl
  have e7 : (7 : Int32).toInt = 7 := rfl
  have e8 : (8 : Int32).toInt = 8 := rfl
  simp only [ne_eq, i_eq, e0, e1, e2, e3, e4, e5, e6, e7, e8]
  omega
theorem vin_of {i N : Int32} {n : Nat} (h0 : ¬ i < 0) (h1 : i < N) (hN : N.toInt = n) : vp_in i n := by
  refine vp_in_iff.mpr ⟨?_, ?_⟩
  · rw [i_lt] at h0
    have : (0 : Int32).toInt = 0 := rfl
    omega
  · rw [i_lt] at h1
    omega
def kRi (p : Program) (l : Launch) (e : Env) (rm : Room) (s : State) (m : MethodId) (args : Array Value) (below : List Frame) (meth : Method) (c : Code) (cc : ByteArray) (ret : Option FieldType) (D : va_G) (A : Nat → Prop) {S : Type} (post : Int32 → S → Prop) (w1 : S → va_W) (Qz : State → Prop) : Prop :=
  ∀ {H : Heap} {locs : List Loc} {cells slots pc : Nat} {ws : va_W} {ls : Array Slot} {v : Int32} (u : S) (hP : va_P D vwCl ws H) (hD : va_D A ws) (hS : va_S A s.heap H locs) (hw : post v u) (is : List Nat) (hC : is.map (fun i => ws[i]?) = (w1 u).map some) (hn : va_nd is = true) (h1 : cells ≤ rm.cells) (h2 : slots ≤ rm.slots) (ty : FieldType) (hty : ret = some ty) (hz : narrow ty (.int v) = .int v) (hdg : decode cc pc = .ok (.ireturn, 1)), W p l e rm s m args below meth c H locs cells slots Qz (F0 m pc ls [.int v])
theorem kMet_i {l : Launch} {y : MethodName} {bytes : ByteArray} {maxL : Nat} {ret : Option FieldType} {rm : Room} {D : va_G} {cs : Nat → ClassId} {av : List Value} {sz : Nat} {ws : va_W} {S : Type} {post : Int32 → S → Prop} {w1 : S → va_W} (own : String) (hy : plainName y.cls = true) (ho : y.cls = own) (hav : (lg_sl av).length ≤ maxL)
    (body : ∀ (p : Program) (e : Env) (s : State) (m : MethodId) (below : List Frame) (meth : Method) (c : Code) (ls : Array Slot) (A : Nat → Prop) (Qz : State → Prop) (H : Heap) (locs : List Loc), p.tables.exec = Jvm.exec → c.code = bytes → c.maxLocals = maxL → s.vm.findClass own = some m.cls → meth.name = y.name → (∀ w ∈ U0, w.before av.toArray s = true) → kK D cs s → s.heap.size = sz → (∀ q : Nat, s.heap.size ≤ q → A q) → va_P D vwCl ws H → va_D A ws → va_S A s.heap H locs → lv_has ls maxL (lv_args 0 av) → kRi p l e rm s m av.toArray below meth c bytes ret D A post w1 Qz →
      W p l e rm s m av.toArray below meth c H locs 0 0 Qz (F0 m 0 ls [])) :
    cMi l y (Cond.code y bytes maxL ret) rm D cs av sz ws post w1 := by
  refine Met.ofW (cc := bytes) (maxL := maxL) (ret := ret) hy rfl ?_
  intro p e s m args below meth c s₁ B hml hv
  obtain ⟨rfl, hsz, hP, hK, hD0⟩ := hv
  have hts := atoms_spec (ws := Cond.code y bytes maxL ret :: U0) B.pre
  subst hsz
  rw [lg_entry_eq]
  have hx := B.exec
  have hb := B.bytes
  have hr := B.returns
  have hlocks := B.notSynchronized
  refine body p e s m below meth c _ (va_A ws s.heap.size) _ s.heap [] hx hb hml (ho ▸ findClass_of_methodNamed B.named) (name_of_methodNamed B.named B.method).1 (fun w h => hts w (List.mem_cons_of_mem _ h)) hK rfl (fun q h => Or.inr h) hP hD0.self va_S.rf (lv_entry av hav) ?_
  intro H locs cells slots pc ws' ls v u hP hD hS hw is hC hn h1 h2 ty hty hz hdg
  refine W.widen (k := rm.cells) (n := rm.slots) h1 h2 ?_
  exact W.zret (v := v) (ty := ty) hx hb (hr.trans hty) hz (fun t ht hW => ⟨⟨v, u, rfl, hw, by rw [ht]; exact hP.sub is (pick_fm hC), hD.sub is hn hC⟩, hS.F ht⟩) hS.2.2 hdg
def kRl (p : Program) (l : Launch) (e : Env) (rm : Room) (s : State) (m : MethodId) (args : Array Value) (below : List Frame) (meth : Method) (c : Code) (cc : ByteArray) (ret : Option FieldType) (D : va_G) (A : Nat → Prop) {S : Type} (post : Int64 → S → Prop) (w1 : S → va_W) (Qz : State → Prop) : Prop :=
  ∀ {H : Heap} {locs : List Loc} {cells slots pc : Nat} {ws : va_W} {ls : Array Slot} {v : Int64} (u : S) (hP : va_P D vwCl ws H) (hD : va_D A ws) (hS : va_S A s.heap H locs) (hw : post v u) (is : List Nat) (hC : is.map (fun i => ws[i]?) = (w1 u).map some) (hn : va_nd is = true) (h1 : cells ≤ rm.cells) (h2 : slots ≤ rm.slots) (hty : ret = some .long) (hdg : decode cc pc = .ok (.lreturn, 1)), W p l e rm s m args below meth c H locs cells slots Qz (F0 m pc ls [.long v])
theorem kMet_l {l : Launch} {y : MethodName} {bytes : ByteArray} {maxL : Nat} {ret : Option FieldType} {rm : Room} {D : va_G} {cs : Nat → ClassId} {av : List Value} {sz : Nat} {ws : va_W} {S : Type} {post : Int64 → S → Prop} {w1 : S → va_W} (own : String) (hy : plainName y.cls = true) (ho : y.cls = own) (hav : (lg_sl av).length ≤ maxL)
    (body : ∀ (p : Program) (e : Env) (s : State) (m : MethodId) (below : List Frame) (meth : Method) (c : Code) (ls : Array Slot) (A : Nat → Prop) (Qz : State → Prop) (H : Heap) (locs : List Loc), p.tables.exec = Jvm.exec → c.code = bytes → c.maxLocals = maxL → s.vm.findClass own = some m.cls → meth.name = y.name → (∀ w ∈ U0, w.before av.toArray s = true) → kK D cs s → s.heap.size = sz → (∀ q : Nat, s.heap.size ≤ q → A q) → va_P D vwCl ws H → va_D A ws → va_S A s.heap H locs → lv_has ls maxL (lv_args 0 av) → kRl p l e rm s m av.toArray below meth c bytes ret D A post w1 Qz →
      W p l e rm s m av.toArray below meth c H locs 0 0 Qz (F0 m 0 ls [])) :
    cMl l y (Cond.code y bytes maxL ret) rm D cs av sz ws post w1 := by
  refine Met.ofW (cc := bytes) (maxL := maxL) (ret := ret) hy rfl ?_
  intro p e s m args below meth c s₁ B hml hv
  obtain ⟨rfl, hsz, hP, hK, hD0⟩ := hv
  have hts := atoms_spec (ws := Cond.code y bytes maxL ret :: U0) B.pre
  subst hsz
  rw [lg_entry_eq]
  have hx := B.exec
  have hb := B.bytes
  have hr := B.returns
  have hlocks := B.notSynchronized
  refine body p e s m below meth c _ (va_A ws s.heap.size) _ s.heap [] hx hb hml (ho ▸ findClass_of_methodNamed B.named) (name_of_methodNamed B.named B.method).1 (fun w h => hts w (List.mem_cons_of_mem _ h)) hK rfl (fun q h => Or.inr h) hP hD0.self va_S.rf (lv_entry av hav) ?_
  intro H locs cells slots pc ws' ls v u hP hD hS hw is hC hn h1 h2 hty hdg
  refine W.widen (k := rm.cells) (n := rm.slots) h1 h2 ?_
  exact W.lret (v := v) hx hb (hr.trans hty) (fun t ht hW => ⟨⟨v, u, rfl, hw, by rw [ht]; exact hP.sub is (pick_fm hC), hD.sub is hn hC⟩, hS.F ht⟩) hS.2.2 hdg
def kRv (p : Program) (l : Launch) (e : Env) (rm : Room) (s : State) (m : MethodId) (args : Array Value) (below : List Frame) (meth : Method) (c : Code) (cc : ByteArray) (ret : Option FieldType) (D : va_G) (A : Nat → Prop) {S : Type} (post : S → Prop) (w1 : S → va_W) (Qz : State → Prop) : Prop :=
  ∀ {H : Heap} {locs : List Loc} {cells slots pc : Nat} {ws : va_W} {ls : Array Slot} (u : S) (hP : va_P D vwCl ws H) (hD : va_D A ws) (hS : va_S A s.heap H locs) (hw : post u) (is : List Nat) (hC : is.map (fun i => ws[i]?) = (w1 u).map some) (hn : va_nd is = true) (h1 : cells ≤ rm.cells) (h2 : slots ≤ rm.slots) (hty : ret = none) (hdg : decode cc pc = .ok (.return_, 1)), W p l e rm s m args below meth c H locs cells slots Qz (F0 m pc ls [])
theorem kMet_v {l : Launch} {y : MethodName} {bytes : ByteArray} {maxL : Nat} {ret : Option FieldType} {rm : Room} {D : va_G} {cs : Nat → ClassId} {av : List Value} {sz : Nat} {ws : va_W} {S : Type} {post : S → Prop} {w1 : S → va_W} (own : String) (hy : plainName y.cls = true) (ho : y.cls = own) (hav : (lg_sl av).length ≤ maxL)
    (body : ∀ (p : Program) (e : Env) (s : State) (m : MethodId) (below : List Frame) (meth : Method) (c : Code) (ls : Array Slot) (A : Nat → Prop) (Qz : State → Prop) (H : Heap) (locs : List Loc), p.tables.exec = Jvm.exec → c.code = bytes → c.maxLocals = maxL → s.vm.findClass own = some m.cls → meth.name = y.name → (∀ w ∈ U0, w.before av.toArray s = true) → kK D cs s → s.heap.size = sz → (∀ q : Nat, s.heap.size ≤ q → A q) → va_P D vwCl ws H → va_D A ws → va_S A s.heap H locs → lv_has ls maxL (lv_args 0 av) → kRv p l e rm s m av.toArray below meth c bytes ret D A post w1 Qz →
      W p l e rm s m av.toArray below meth c H locs 0 0 Qz (F0 m 0 ls [])) :
    cMv l y (Cond.code y bytes maxL ret) rm D cs av sz ws post w1 := by
  refine Met.ofW (cc := bytes) (maxL := maxL) (ret := ret) hy rfl ?_
  intro p e s m args below meth c s₁ B hml hv
  obtain ⟨rfl, hsz, hP, hK, hD0⟩ := hv
  have hts := atoms_spec (ws := Cond.code y bytes maxL ret :: U0) B.pre
  subst hsz
  rw [lg_entry_eq]
  have hx := B.exec
  have hb := B.bytes
  have hr := B.returns
  have hlocks := B.notSynchronized
  refine body p e s m below meth c _ (va_A ws s.heap.size) _ s.heap [] hx hb hml (ho ▸ findClass_of_methodNamed B.named) (name_of_methodNamed B.named B.method).1 (fun w h => hts w (List.mem_cons_of_mem _ h)) hK rfl (fun q h => Or.inr h) hP hD0.self va_S.rf (lv_entry av hav) ?_
  intro H locs cells slots pc ws' ls u hP hD hS hw is hC hn h1 h2 hty hdg
  refine W.widen (k := rm.cells) (n := rm.slots) h1 h2 ?_
  exact W.vret hx hb (hr.trans hty) (fun t ht hW => ⟨⟨u, rfl, hw, by rw [ht]; exact hP.sub is (pick_fm hC), hD.sub is hn hC⟩, hS.F ht⟩) hS.2.2 hdg
section KCALL
variable {p : Program} {l : Launch} {e : Env} {R : Room} {s : State} {m : MethodId} {args : Array Value} {below : List Frame} {meth : Method} {c : Code} {H : Heap} {locs : List Loc} {cells slots : Nat} {Q : State → Prop}
variable {cc : ByteArray} {pc : Nat} {ls : Array Slot} {rest : List Value} {D : va_G} {A : Nat → Prop} {a : Nat} {ws wc wr : va_W} {H0 : Heap} {cs : Nat → ClassId}
variable {S : Type} {w1 : S → va_W} {y : MethodName} {bytes : ByteArray} {maxL nL index n : Nat} {ret : Option FieldType} {rm : Room} {own C : String} {b : Nat} {As st : List Value} {ci : Nat} {T : u_T} {N : Nat} {fs : List Value}
theorem tpi {x y : Int32} (h : x = y) (k : W p l e R s m args below meth c H locs cells slots Q (F0 m pc ls (.int y :: rest))) : W p l e R s m args below meth c H locs cells slots Q (F0 m pc ls (.int x :: rest)) := by
  subst h; exact k
theorem tpl {x y : Int64} (h : x = y) (k : W p l e R s m args below meth c H locs cells slots Q (F0 m pc ls (.long y :: rest))) : W p l e R s m args below meth c H locs cells slots Q (F0 m pc ls (.long x :: rest)) := by
  subst h; exact k
theorem tpv {x y : Value} (h : x = y) (k : W p l e R s m args below meth c H locs cells slots Q (F0 m pc ls (y :: rest))) : W p l e R s m args below meth c H locs cells slots Q (F0 m pc ls (x :: rest)) := by
  subst h; exact k
theorem kpre (hP : va_P D vwCl ws H) (hD : va_D A ws) (hK : kK D cs s) (isC : List Nat) (hC : isC.map (fun i => ws[i]?) = wc.map some) (hnC : va_nd isC = true) : ∀ U : State, U.heap = H → s.WarmedH U.vm → kPc D cs As H.size wc As.toArray U := fun U hU hW => ⟨rfl, by rw [hU], by rw [hU]; exact hP.sub isC (pick_fm hC), hK.warm hW, (hD.sub isC hnC hC).weaken (fun _ _ _ _ => trivial)⟩
theorem kV_i {post : Int32 → S → Prop}
    (hx : p.tables.exec = Jvm.exec) (hb : c.code = cc) (hml : c.maxLocals = nL) (hown : s.vm.findClass own = some m.cls) (hu : ∀ w ∈ U0, w.before args s = true) (hK : kK D cs s) (hP : va_P D vwCl ws H) (hD : va_D A ws) (hS : va_S A H0 H locs) (hA : ∀ q, H0.size ≤ q → A q) (hl : ls.size = nL)
    (hM : cMi l y (Cond.code y bytes maxL ret) rm D cs (.ref b :: As) H.size wc post w1)
    (hG : GoodIn U0 (wsV own index C y (Cond.code y bytes maxL ret :: U0)))
    (hd : y.cls = C ∧ y.cls ≠ "java/lang/invoke/MethodHandle" ∧ y.cls ≠ "java/lang/invoke/VarHandle" ∧ (parseMethodDescriptor y.desc).map (fun d => d.parameters.length) = some n)
    (hR : rm.frames + 1 ≤ R.frames ∧ 8 + (maxL + 11) + rm.locals ≤ R.locals)
    (isC isR : List Nat) (hC : isC.map (fun i => ws[i]?) = wc.map some) (hnC : va_nd isC = true) (hRr : isR.map (fun i => ws[i]?) = wr.map some) (hnR : va_nd isR = true) (hdis : ∀ i ∈ isR, i ∉ isC)
    (hc : vwCl[ci]? = some (C, T, N)) (k0 : Nat) (he : wc[k0]? = some (b, .inr (ci, fs)))
    (hst : st = As.reverse ++ .ref b :: rest) (hn : As.length = n) (hrm : (rest.map fun v => v.category).sum ≤ 8) (hdg : decode cc pc = .ok (.invokevirtual index, 3)) (hf : cells + rm.cells ≤ R.cells ∧ slots + rm.slots ≤ R.slots)
    (kk : ∀ (r : Int32) (u : S) (H1 : Heap) (locs1 : List Loc), post r u → va_P D vwCl (wr ++ w1 u) H1 → va_D A (wr ++ w1 u) → va_S A H0 H1 locs1 → W p l e R s m args below meth c H1 locs1 (cells + rm.cells) (slots + rm.slots) Q (F0 m (pc + 3) ls (.int r :: rest))) :
    W p l e R s m args below meth c H locs cells slots Q (F0 m pc ls st) := by
  subst hst
  have hPc := hP.sub isC (pick_fm hC)
  have hFc := va_free (wc := wc) hD hS hA isC hC
  refine va_calli (va_runV (As := As) (rest := rest) ⟨hx, hb, hml, hown, hu⟩ hM (cwV n hu hG rfl rfl rfl hd hR) ⟨kPc_blind, va_recv hK.1 hPc hc he, kpre hP hD hK isC hC hnC⟩ rfl hn hl rfl (lv_room hrm) hdg hf) hS (fun q _ h => hFc q h) hFc (fun r u t H1 locs1 ht hvm hw hB hz1 hk1 hS1 => ?_)
  obtain ⟨hP1, hD1⟩ := hB
  rw [ht] at hP1
  obtain ⟨hP2, hD2⟩ := va_join hP hD isC isR hC hRr hnR hdis hk1 hFc hP1 hD1
  exact kk r u H1 locs1 hw hP2 hD2 hS1
theorem kV_l {post : Int64 → S → Prop}
    (hx : p.tables.exec = Jvm.exec) (hb : c.code = cc) (hml : c.maxLocals = nL) (hown : s.vm.findClass own = some m.cls) (hu : ∀ w ∈ U0, w.before args s = true) (hK : kK D cs s) (hP : va_P D vwCl ws H) (hD : va_D A ws) (hS : va_S A H0 H locs) (hA : ∀ q, H0.size ≤ q → A q) (hl : ls.size = nL)
    (hM : cMl l y (Cond.code y bytes maxL ret) rm D cs (.ref b :: As) H.size wc post w1)
    (hG : GoodIn U0 (wsV own index C y (Cond.code y bytes maxL ret :: U0)))
    (hd : y.cls = C ∧ y.cls ≠ "java/lang/invoke/MethodHandle" ∧ y.cls ≠ "java/lang/invoke/VarHandle" ∧ (parseMethodDescriptor y.desc).map (fun d => d.parameters.length) = some n)
    (hR : rm.frames + 1 ≤ R.frames ∧ 8 + (maxL + 11) + rm.locals ≤ R.locals)
    (isC isR : List Nat) (hC : isC.map (fun i => ws[i]?) = wc.map some) (hnC : va_nd isC = true) (hRr : isR.map (fun i => ws[i]?) = wr.map some) (hnR : va_nd isR = true) (hdis : ∀ i ∈ isR, i ∉ isC)
    (hc : vwCl[ci]? = some (C, T, N)) (k0 : Nat) (he : wc[k0]? = some (b, .inr (ci, fs)))
    (hst : st = As.reverse ++ .ref b :: rest) (hn : As.length = n) (hrm : (rest.map fun v => v.category).sum ≤ 8) (hdg : decode cc pc = .ok (.invokevirtual index, 3)) (hf : cells + rm.cells ≤ R.cells ∧ slots + rm.slots ≤ R.slots)
    (kk : ∀ (r : Int64) (u : S) (H1 : Heap) (locs1 : List Loc), post r u → va_P D vwCl (wr ++ w1 u) H1 → va_D A (wr ++ w1 u) → va_S A H0 H1 locs1 → W p l e R s m args below meth c H1 locs1 (cells + rm.cells) (slots + rm.slots) Q (F0 m (pc + 3) ls (.long r :: rest))) :
    W p l e R s m args below meth c H locs cells slots Q (F0 m pc ls st) := by
  subst hst
  have hPc := hP.sub isC (pick_fm hC)
  have hFc := va_free (wc := wc) hD hS hA isC hC
  refine va_calll (va_runV (As := As) (rest := rest) ⟨hx, hb, hml, hown, hu⟩ hM (cwV n hu hG rfl rfl rfl hd hR) ⟨kPc_blind, va_recv hK.1 hPc hc he, kpre hP hD hK isC hC hnC⟩ rfl hn hl rfl (lv_room hrm) hdg hf) hS (fun q _ h => hFc q h) hFc (fun r u t H1 locs1 ht hvm hw hB hz1 hk1 hS1 => ?_)
  obtain ⟨hP1, hD1⟩ := hB
  rw [ht] at hP1
  obtain ⟨hP2, hD2⟩ := va_join hP hD isC isR hC hRr hnR hdis hk1 hFc hP1 hD1
  exact kk r u H1 locs1 hw hP2 hD2 hS1
theorem kV_v {post : S → Prop}
    (hx : p.tables.exec = Jvm.exec) (hb : c.code = cc) (hml : c.maxLocals = nL) (hown : s.vm.findClass own = some m.cls) (hu : ∀ w ∈ U0, w.before args s = true) (hK : kK D cs s) (hP : va_P D vwCl ws H) (hD : va_D A ws) (hS : va_S A H0 H locs) (hA : ∀ q, H0.size ≤ q → A q) (hl : ls.size = nL)
    (hM : cMv l y (Cond.code y bytes maxL ret) rm D cs (.ref b :: As) H.size wc post w1)
    (hG : GoodIn U0 (wsV own index C y (Cond.code y bytes maxL ret :: U0)))
    (hd : y.cls = C ∧ y.cls ≠ "java/lang/invoke/MethodHandle" ∧ y.cls ≠ "java/lang/invoke/VarHandle" ∧ (parseMethodDescriptor y.desc).map (fun d => d.parameters.length) = some n)
    (hR : rm.frames + 1 ≤ R.frames ∧ 8 + (maxL + 11) + rm.locals ≤ R.locals)
    (isC isR : List Nat) (hC : isC.map (fun i => ws[i]?) = wc.map some) (hnC : va_nd isC = true) (hRr : isR.map (fun i => ws[i]?) = wr.map some) (hnR : va_nd isR = true) (hdis : ∀ i ∈ isR, i ∉ isC)
    (hc : vwCl[ci]? = some (C, T, N)) (k0 : Nat) (he : wc[k0]? = some (b, .inr (ci, fs)))
    (hst : st = As.reverse ++ .ref b :: rest) (hn : As.length = n) (hrm : (rest.map fun v => v.category).sum ≤ 8) (hdg : decode cc pc = .ok (.invokevirtual index, 3)) (hf : cells + rm.cells ≤ R.cells ∧ slots + rm.slots ≤ R.slots)
    (kk : ∀ (u : S) (H1 : Heap) (locs1 : List Loc), post u → va_P D vwCl (wr ++ w1 u) H1 → va_D A (wr ++ w1 u) → va_S A H0 H1 locs1 → W p l e R s m args below meth c H1 locs1 (cells + rm.cells) (slots + rm.slots) Q (F0 m (pc + 3) ls rest)) :
    W p l e R s m args below meth c H locs cells slots Q (F0 m pc ls st) := by
  subst hst
  have hPc := hP.sub isC (pick_fm hC)
  have hFc := va_free (wc := wc) hD hS hA isC hC
  refine va_callv (va_runV (As := As) (rest := rest) ⟨hx, hb, hml, hown, hu⟩ hM (cwV n hu hG rfl rfl rfl hd hR) ⟨kPc_blind, va_recv hK.1 hPc hc he, kpre hP hD hK isC hC hnC⟩ rfl hn hl rfl (lv_room hrm) hdg hf) hS (fun q _ h => hFc q h) hFc (fun u t H1 locs1 ht hvm hw hB hz1 hk1 hS1 => ?_)
  obtain ⟨hP1, hD1⟩ := hB
  rw [ht] at hP1
  obtain ⟨hP2, hD2⟩ := va_join hP hD isC isR hC hRr hnR hdis hk1 hFc hP1 hD1
  exact kk u H1 locs1 hw hP2 hD2 hS1
theorem kS_i {post : Int32 → S → Prop}
    (hx : p.tables.exec = Jvm.exec) (hb : c.code = cc) (hml : c.maxLocals = nL) (hown : s.vm.findClass own = some m.cls) (hu : ∀ w ∈ U0, w.before args s = true) (hK : kK D cs s) (hP : va_P D vwCl ws H) (hD : va_D A ws) (hS : va_S A H0 H locs) (hA : ∀ q, H0.size ≤ q → A q) (hl : ls.size = nL)
    (hM : cMi l y (Cond.code y bytes maxL ret) rm D cs As H.size wc post w1)
    (hG : GoodIn U0 (wsS own index y (Cond.code y bytes maxL ret :: U0)))
    (hd : y.cls = own ∧ y.cls ≠ "java/lang/invoke/MethodHandle" ∧ y.cls ≠ "java/lang/invoke/VarHandle" ∧ (parseMethodDescriptor y.desc).map (fun d => d.parameters.length) = some n)
    (hR : rm.frames + 1 ≤ R.frames ∧ 8 + (maxL + 11) + rm.locals ≤ R.locals)
    (isC isR : List Nat) (hC : isC.map (fun i => ws[i]?) = wc.map some) (hnC : va_nd isC = true) (hRr : isR.map (fun i => ws[i]?) = wr.map some) (hnR : va_nd isR = true) (hdis : ∀ i ∈ isR, i ∉ isC)
    (hst : st = As.reverse ++ rest) (hn : As.length = n) (hrm : (rest.map fun v => v.category).sum ≤ 8) (hdg : decode cc pc = .ok (.invokestatic index, 3)) (hf : cells + rm.cells ≤ R.cells ∧ slots + rm.slots ≤ R.slots)
    (kk : ∀ (r : Int32) (u : S) (H1 : Heap) (locs1 : List Loc), post r u → va_P D vwCl (wr ++ w1 u) H1 → va_D A (wr ++ w1 u) → va_S A H0 H1 locs1 → W p l e R s m args below meth c H1 locs1 (cells + rm.cells) (slots + rm.slots) Q (F0 m (pc + 3) ls (.int r :: rest))) :
    W p l e R s m args below meth c H locs cells slots Q (F0 m pc ls st) := by
  subst hst
  have hFc := va_free (wc := wc) hD hS hA isC hC
  refine va_calli (va_runS (As := As) (rest := rest) ⟨hx, hb, hml, hown, hu⟩ hM (cwS n hu hG rfl rfl rfl hd hR) ⟨kPc_blind, kpre hP hD hK isC hC hnC⟩ rfl hn hl rfl (lv_room hrm) hdg hf) hS (fun q _ h => hFc q h) hFc (fun r u t H1 locs1 ht hvm hw hB hz1 hk1 hS1 => ?_)
  obtain ⟨hP1, hD1⟩ := hB
  rw [ht] at hP1
  obtain ⟨hP2, hD2⟩ := va_join hP hD isC isR hC hRr hnR hdis hk1 hFc hP1 hD1
  exact kk r u H1 locs1 hw hP2 hD2 hS1
theorem kS_l {post : Int64 → S → Prop}
    (hx : p.tables.exec = Jvm.exec) (hb : c.code = cc) (hml : c.maxLocals = nL) (hown : s.vm.findClass own = some m.cls) (hu : ∀ w ∈ U0, w.before args s = true) (hK : kK D cs s) (hP : va_P D vwCl ws H) (hD : va_D A ws) (hS : va_S A H0 H locs) (hA : ∀ q, H0.size ≤ q → A q) (hl : ls.size = nL)
    (hM : cMl l y (Cond.code y bytes maxL ret) rm D cs As H.size wc post w1)
    (hG : GoodIn U0 (wsS own index y (Cond.code y bytes maxL ret :: U0)))
    (hd : y.cls = own ∧ y.cls ≠ "java/lang/invoke/MethodHandle" ∧ y.cls ≠ "java/lang/invoke/VarHandle" ∧ (parseMethodDescriptor y.desc).map (fun d => d.parameters.length) = some n)
    (hR : rm.frames + 1 ≤ R.frames ∧ 8 + (maxL + 11) + rm.locals ≤ R.locals)
    (isC isR : List Nat) (hC : isC.map (fun i => ws[i]?) = wc.map some) (hnC : va_nd isC = true) (hRr : isR.map (fun i => ws[i]?) = wr.map some) (hnR : va_nd isR = true) (hdis : ∀ i ∈ isR, i ∉ isC)
    (hst : st = As.reverse ++ rest) (hn : As.length = n) (hrm : (rest.map fun v => v.category).sum ≤ 8) (hdg : decode cc pc = .ok (.invokestatic index, 3)) (hf : cells + rm.cells ≤ R.cells ∧ slots + rm.slots ≤ R.slots)
    (kk : ∀ (r : Int64) (u : S) (H1 : Heap) (locs1 : List Loc), post r u → va_P D vwCl (wr ++ w1 u) H1 → va_D A (wr ++ w1 u) → va_S A H0 H1 locs1 → W p l e R s m args below meth c H1 locs1 (cells + rm.cells) (slots + rm.slots) Q (F0 m (pc + 3) ls (.long r :: rest))) :
    W p l e R s m args below meth c H locs cells slots Q (F0 m pc ls st) := by
  subst hst
  have hFc := va_free (wc := wc) hD hS hA isC hC
  refine va_calll (va_runS (As := As) (rest := rest) ⟨hx, hb, hml, hown, hu⟩ hM (cwS n hu hG rfl rfl rfl hd hR) ⟨kPc_blind, kpre hP hD hK isC hC hnC⟩ rfl hn hl rfl (lv_room hrm) hdg hf) hS (fun q _ h => hFc q h) hFc (fun r u t H1 locs1 ht hvm hw hB hz1 hk1 hS1 => ?_)
  obtain ⟨hP1, hD1⟩ := hB
  rw [ht] at hP1
  obtain ⟨hP2, hD2⟩ := va_join hP hD isC isR hC hRr hnR hdis hk1 hFc hP1 hD1
  exact kk r u H1 locs1 hw hP2 hD2 hS1
theorem kS_v {post : S → Prop}
    (hx : p.tables.exec = Jvm.exec) (hb : c.code = cc) (hml : c.maxLocals = nL) (hown : s.vm.findClass own = some m.cls) (hu : ∀ w ∈ U0, w.before args s = true) (hK : kK D cs s) (hP : va_P D vwCl ws H) (hD : va_D A ws) (hS : va_S A H0 H locs) (hA : ∀ q, H0.size ≤ q → A q) (hl : ls.size = nL)
    (hM : cMv l y (Cond.code y bytes maxL ret) rm D cs As H.size wc post w1)
    (hG : GoodIn U0 (wsS own index y (Cond.code y bytes maxL ret :: U0)))
    (hd : y.cls = own ∧ y.cls ≠ "java/lang/invoke/MethodHandle" ∧ y.cls ≠ "java/lang/invoke/VarHandle" ∧ (parseMethodDescriptor y.desc).map (fun d => d.parameters.length) = some n)
    (hR : rm.frames + 1 ≤ R.frames ∧ 8 + (maxL + 11) + rm.locals ≤ R.locals)
    (isC isR : List Nat) (hC : isC.map (fun i => ws[i]?) = wc.map some) (hnC : va_nd isC = true) (hRr : isR.map (fun i => ws[i]?) = wr.map some) (hnR : va_nd isR = true) (hdis : ∀ i ∈ isR, i ∉ isC)
    (hst : st = As.reverse ++ rest) (hn : As.length = n) (hrm : (rest.map fun v => v.category).sum ≤ 8) (hdg : decode cc pc = .ok (.invokestatic index, 3)) (hf : cells + rm.cells ≤ R.cells ∧ slots + rm.slots ≤ R.slots)
    (kk : ∀ (u : S) (H1 : Heap) (locs1 : List Loc), post u → va_P D vwCl (wr ++ w1 u) H1 → va_D A (wr ++ w1 u) → va_S A H0 H1 locs1 → W p l e R s m args below meth c H1 locs1 (cells + rm.cells) (slots + rm.slots) Q (F0 m (pc + 3) ls rest)) :
    W p l e R s m args below meth c H locs cells slots Q (F0 m pc ls st) := by
  subst hst
  have hFc := va_free (wc := wc) hD hS hA isC hC
  refine va_callv (va_runS (As := As) (rest := rest) ⟨hx, hb, hml, hown, hu⟩ hM (cwS n hu hG rfl rfl rfl hd hR) ⟨kPc_blind, kpre hP hD hK isC hC hnC⟩ rfl hn hl rfl (lv_room hrm) hdg hf) hS (fun q _ h => hFc q h) hFc (fun u t H1 locs1 ht hvm hw hB hz1 hk1 hS1 => ?_)
  obtain ⟨hP1, hD1⟩ := hB
  rw [ht] at hP1
  obtain ⟨hP2, hD2⟩ := va_join hP hD isC isR hC hRr hnR hdis hk1 hFc hP1 hD1
  exact kk u H1 locs1 hw hP2 hD2 hS1
theorem kN_i {post : Int32 → S → Prop}
    (hx : p.tables.exec = Jvm.exec) (hb : c.code = cc) (hml : c.maxLocals = nL) (hown : s.vm.findClass own = some m.cls) (hu : ∀ w ∈ U0, w.before args s = true) (hK : kK D cs s) (hP : va_P D vwCl ws H) (hD : va_D A ws) (hS : va_S A H0 H locs) (hA : ∀ q, H0.size ≤ q → A q) (hl : ls.size = nL)
    (hM : cMi l y (Cond.code y bytes maxL ret) rm D cs As H.size wc post w1)
    (hG : Cond.code y bytes maxL ret ∈ U0) (hN : (own, index, y) ∈ nests) (hsta : Cond.static y ∈ U0) (hini : Cond.initialized y.cls ∈ U0)
    (hd : y.cls ≠ "java/lang/invoke/MethodHandle" ∧ y.cls ≠ "java/lang/invoke/VarHandle" ∧ (parseMethodDescriptor y.desc).map (fun d => d.parameters.length) = some n)
    (hR : rm.frames + 1 ≤ R.frames ∧ 8 + (maxL + 11) + rm.locals ≤ R.locals)
    (isC isR : List Nat) (hC : isC.map (fun i => ws[i]?) = wc.map some) (hnC : va_nd isC = true) (hRr : isR.map (fun i => ws[i]?) = wr.map some) (hnR : va_nd isR = true) (hdis : ∀ i ∈ isR, i ∉ isC)
    (hst : st = As.reverse ++ rest) (hn : As.length = n) (hrm : (rest.map fun v => v.category).sum ≤ 8) (hdg : decode cc pc = .ok (.invokestatic index, 3)) (hf : cells + rm.cells ≤ R.cells ∧ slots + rm.slots ≤ R.slots)
    (kk : ∀ (r : Int32) (u : S) (H1 : Heap) (locs1 : List Loc), post r u → va_P D vwCl (wr ++ w1 u) H1 → va_D A (wr ++ w1 u) → va_S A H0 H1 locs1 → W p l e R s m args below meth c H1 locs1 (cells + rm.cells) (slots + rm.slots) Q (F0 m (pc + 3) ls (.int r :: rest))) :
    W p l e R s m args below meth c H locs cells slots Q (F0 m pc ls st) := by
  subst hst
  have hFc := va_free (wc := wc) hD hS hA isC hC
  refine va_calli (va_runSN (host := "KeyDrive") (As := As) (rest := rest) ⟨hx, hb, hml, hown, hu⟩ hM ⟨va_cnB n hu (gC hG) rfl rfl rfl (hK.2.1 _ hN) (hu _ hini) hd hR, hu _ hsta, trivial⟩ ⟨kPc_blind, kpre hP hD hK isC hC hnC⟩ rfl hn hl rfl (lv_room hrm) hdg hf) hS (fun q _ h => hFc q h) hFc (fun r u t H1 locs1 ht hvm hw hB hz1 hk1 hS1 => ?_)
  obtain ⟨hP1, hD1⟩ := hB
  rw [ht] at hP1
  obtain ⟨hP2, hD2⟩ := va_join hP hD isC isR hC hRr hnR hdis hk1 hFc hP1 hD1
  exact kk r u H1 locs1 hw hP2 hD2 hS1
theorem kN_l {post : Int64 → S → Prop}
    (hx : p.tables.exec = Jvm.exec) (hb : c.code = cc) (hml : c.maxLocals = nL) (hown : s.vm.findClass own = some m.cls) (hu : ∀ w ∈ U0, w.before args s = true) (hK : kK D cs s) (hP : va_P D vwCl ws H) (hD : va_D A ws) (hS : va_S A H0 H locs) (hA : ∀ q, H0.size ≤ q → A q) (hl : ls.size = nL)
    (hM : cMl l y (Cond.code y bytes maxL ret) rm D cs As H.size wc post w1)
    (hG : Cond.code y bytes maxL ret ∈ U0) (hN : (own, index, y) ∈ nests) (hsta : Cond.static y ∈ U0) (hini : Cond.initialized y.cls ∈ U0)
    (hd : y.cls ≠ "java/lang/invoke/MethodHandle" ∧ y.cls ≠ "java/lang/invoke/VarHandle" ∧ (parseMethodDescriptor y.desc).map (fun d => d.parameters.length) = some n)
    (hR : rm.frames + 1 ≤ R.frames ∧ 8 + (maxL + 11) + rm.locals ≤ R.locals)
    (isC isR : List Nat) (hC : isC.map (fun i => ws[i]?) = wc.map some) (hnC : va_nd isC = true) (hRr : isR.map (fun i => ws[i]?) = wr.map some) (hnR : va_nd isR = true) (hdis : ∀ i ∈ isR, i ∉ isC)
    (hst : st = As.reverse ++ rest) (hn : As.length = n) (hrm : (rest.map fun v => v.category).sum ≤ 8) (hdg : decode cc pc = .ok (.invokestatic index, 3)) (hf : cells + rm.cells ≤ R.cells ∧ slots + rm.slots ≤ R.slots)
    (kk : ∀ (r : Int64) (u : S) (H1 : Heap) (locs1 : List Loc), post r u → va_P D vwCl (wr ++ w1 u) H1 → va_D A (wr ++ w1 u) → va_S A H0 H1 locs1 → W p l e R s m args below meth c H1 locs1 (cells + rm.cells) (slots + rm.slots) Q (F0 m (pc + 3) ls (.long r :: rest))) :
    W p l e R s m args below meth c H locs cells slots Q (F0 m pc ls st) := by
  subst hst
  have hFc := va_free (wc := wc) hD hS hA isC hC
  refine va_calll (va_runSN (host := "KeyDrive") (As := As) (rest := rest) ⟨hx, hb, hml, hown, hu⟩ hM ⟨va_cnB n hu (gC hG) rfl rfl rfl (hK.2.1 _ hN) (hu _ hini) hd hR, hu _ hsta, trivial⟩ ⟨kPc_blind, kpre hP hD hK isC hC hnC⟩ rfl hn hl rfl (lv_room hrm) hdg hf) hS (fun q _ h => hFc q h) hFc (fun r u t H1 locs1 ht hvm hw hB hz1 hk1 hS1 => ?_)
  obtain ⟨hP1, hD1⟩ := hB
  rw [ht] at hP1
  obtain ⟨hP2, hD2⟩ := va_join hP hD isC isR hC hRr hnR hdis hk1 hFc hP1 hD1
  exact kk r u H1 locs1 hw hP2 hD2 hS1
theorem kI_v {post : S → Prop}
    (hx : p.tables.exec = Jvm.exec) (hb : c.code = cc) (hml : c.maxLocals = nL) (hown : s.vm.findClass own = some m.cls) (hu : ∀ w ∈ U0, w.before args s = true) (hK : kK D cs s) (hP : va_P D vwCl ws H) (hD : va_D A ws) (hS : va_S A H0 H locs) (hA : ∀ q, H0.size ≤ q → A q) (hl : ls.size = nL)
    (hM : cMv l y (Cond.code y bytes maxL none) rm D cs (.ref b :: As) H.size wc post w1)
    (hG : Cond.code y bytes maxL none ∈ U0) (hlk : Cond.methodLink own index y ∈ U0) (him : Cond.instanceMethod y ∈ U0) (hini : Cond.initialized y.cls ∈ U0) (hy : y.name = "<init>")
    (hd : y.cls ≠ "java/lang/invoke/MethodHandle" ∧ y.cls ≠ "java/lang/invoke/VarHandle" ∧ (parseMethodDescriptor y.desc).map (fun d => d.parameters.length) = some n)
    (hR : rm.frames + 1 ≤ R.frames ∧ 8 + (maxL + 11) + rm.locals ≤ R.locals)
    (isC isR : List Nat) (hC : isC.map (fun i => ws[i]?) = wc.map some) (hnC : va_nd isC = true) (hRr : isR.map (fun i => ws[i]?) = wr.map some) (hnR : va_nd isR = true) (hdis : ∀ i ∈ isR, i ∉ isC)
    (hst : st = As.reverse ++ .ref b :: rest) (hn : As.length = n) (hrm : (rest.map fun v => v.category).sum ≤ 8) (hdg : decode cc pc = .ok (.invokespecial index, 3)) (hf : cells + rm.cells ≤ R.cells ∧ slots + rm.slots ≤ R.slots)
    (kk : ∀ (u : S) (H1 : Heap) (locs1 : List Loc), post u → va_P D vwCl (wr ++ w1 u) H1 → va_D A (wr ++ w1 u) → va_S A H0 H1 locs1 → W p l e R s m args below meth c H1 locs1 (cells + rm.cells) (slots + rm.slots) Q (F0 m (pc + 3) ls rest)) :
    W p l e R s m args below meth c H locs cells slots Q (F0 m pc ls st) := by
  subst hst
  have hFc := va_free (wc := wc) hD hS hA isC hC
  refine va_callv (va_runI (As := As) (rest := rest) ⟨hx, hb, hml, hown, hu⟩ hM (cwI n hu (gC hG) rfl rfl rfl (hu _ hini) (hu _ hlk) (hu _ him) hy hd hR) ⟨kPc_blind, kpre hP hD hK isC hC hnC⟩ rfl hn hl rfl (lv_room hrm) hdg hf) hS (fun q _ h => hFc q h) hFc (fun u t H1 locs1 ht hvm hw hB hz1 hk1 hS1 => ?_)
  obtain ⟨hP1, hD1⟩ := hB
  rw [ht] at hP1
  obtain ⟨hP2, hD2⟩ := va_join hP hD isC isR hC hRr hnR hdis hk1 hFc hP1 hD1
  exact kk u H1 locs1 hw hP2 hD2 hS1
theorem kM_v {post : S → Prop}
    (hx : p.tables.exec = Jvm.exec) (hb : c.code = cc) (hml : c.maxLocals = nL) (hown : s.vm.findClass own = some m.cls) (hu : ∀ w ∈ U0, w.before args s = true) (hK : kK D cs s) (hP : va_P D vwCl ws H) (hD : va_D A ws) (hS : va_S A H0 H locs) (hA : ∀ q, H0.size ≤ q → A q) (hl : ls.size = nL)
    (hM : cMv l y (Cond.code y bytes maxL none) rm D cs (.ref b :: As) H.size wc post w1)
    (hG : Cond.code y bytes maxL none ∈ U0) (hN : (own, index, y) ∈ nests) (him : Cond.instanceMethod y ∈ U0) (hini : Cond.initialized y.cls ∈ U0) (hy : y.name = "<init>")
    (hd : y.cls ≠ "java/lang/invoke/MethodHandle" ∧ y.cls ≠ "java/lang/invoke/VarHandle" ∧ (parseMethodDescriptor y.desc).map (fun d => d.parameters.length) = some n)
    (hR : rm.frames + 1 ≤ R.frames ∧ 8 + (maxL + 11) + rm.locals ≤ R.locals)
    (isC isR : List Nat) (hC : isC.map (fun i => ws[i]?) = wc.map some) (hnC : va_nd isC = true) (hRr : isR.map (fun i => ws[i]?) = wr.map some) (hnR : va_nd isR = true) (hdis : ∀ i ∈ isR, i ∉ isC)
    (hst : st = As.reverse ++ .ref b :: rest) (hn : As.length = n) (hrm : (rest.map fun v => v.category).sum ≤ 8) (hdg : decode cc pc = .ok (.invokespecial index, 3)) (hf : cells + rm.cells ≤ R.cells ∧ slots + rm.slots ≤ R.slots)
    (kk : ∀ (u : S) (H1 : Heap) (locs1 : List Loc), post u → va_P D vwCl (wr ++ w1 u) H1 → va_D A (wr ++ w1 u) → va_S A H0 H1 locs1 → W p l e R s m args below meth c H1 locs1 (cells + rm.cells) (slots + rm.slots) Q (F0 m (pc + 3) ls rest)) :
    W p l e R s m args below meth c H locs cells slots Q (F0 m pc ls st) := by
  subst hst
  have hFc := va_free (wc := wc) hD hS hA isC hC
  refine va_callv (va_runIN (host := "KeyDrive") (As := As) (rest := rest) ⟨hx, hb, hml, hown, hu⟩ hM ⟨va_cnB n hu (gC hG) rfl rfl rfl (hK.2.1 _ hN) (hu _ hini) hd hR, hy, hu _ him⟩ ⟨kPc_blind, kpre hP hD hK isC hC hnC⟩ rfl hn hl rfl (lv_room hrm) hdg hf) hS (fun q _ h => hFc q h) hFc (fun u t H1 locs1 ht hvm hw hB hz1 hk1 hS1 => ?_)
  obtain ⟨hP1, hD1⟩ := hB
  rw [ht] at hP1
  obtain ⟨hP2, hD2⟩ := va_join hP hD isC isR hC hRr hnR hdis hk1 hFc hP1 hD1
  exact kk u H1 locs1 hw hP2 hD2 hS1
theorem knewa {Nn : Nat} {atype : ArrayType} {ty : FieldType} {k : Nat} {a0 : vp_A} {nn : Int32} (hx : p.tables.exec = Jvm.exec) (hb : c.code = cc) (hu : ∀ w ∈ U0, w.before args s = true) (hin : Cond.arrayClass (newarray.typeOf atype) ∈ U0) (hty : newarray.typeOf atype = ty) (hK : kK D cs s) (htk : (tysG cs)[k]? = some (cs k, ty)) (hnm : ∀ (U : State) (cA : ClassId), va_RA U cA ty → U.vm.findClass ("[" ++ ty.toString) = some cA) (hP : va_P D vwCl ws H) (hD : va_D A ws) (hS : va_S A H0 H locs) (hA : ∀ q, H0.size ≤ q → A q)
    (ha : ∀ cA : ClassId, vp_cell cA a0 = arrV cA Nn (fun _ => defaultValue ty)) (hn : ¬ nn < 0) (hN : nn.toNatClampNeg = Nn) (hbytes : Nn * componentBytes ty ≤ 536870912) (hcells : cells + 1 ≤ R.cells) (hslots : slots + Nn ≤ R.slots) (hdg : decode cc pc = .ok (.newarray atype, 2))
    (kk : ∀ (q : Nat) (H1 : Heap), va_P D vwCl (ws ++ [(q, .inl (cs k, a0))]) H1 → va_D A (ws ++ [(q, .inl (cs k, a0))]) → va_S A H0 H1 locs → W p l e R s m args below meth c H1 locs (cells + 1) (slots + Nn) Q (F0 m (pc + 2) ls (.ref q :: rest))) : W p l e R s m args below meth c H locs cells slots Q (F0 m pc ls (.int nn :: rest)) := by
  refine va_newa (atype := atype) hx hb (hu _ hin) hty hK.1 hP hD hS hA ha hn hN hbytes hcells hslots hdg (fun q cA H1 hK1 hP1 hD1 hS1 => ?_)
  have e1 := (hK1.2 (tysG cs).length (cA, ty) (by simp)).2
  have e2 := (hK.1.2 k (cs k, ty) htk).2
  have e3 : cA = cs k := Option.some.inj ((hnm s cA e1).symm.trans (hnm s (cs k) e2))
  subst e3
  exact kk q H1 hP1 hD1 hS1
theorem knewq {Nn idx : Nat} {nn : Int32} (hx : p.tables.exec = Jvm.exec) (hb : c.code = cc) (hown : s.vm.findClass own = some m.cls) (hcl : (Cond.classLink own idx "KeyDrive$Drive").before args s = true) (hK : kK D cs s) (hP : va_P D vwCl ws H) (hD : va_D A ws) (hS : va_S A H0 H locs) (hA : ∀ q, H0.size ≤ q → A q)
    (hn : ¬ nn < 0) (hN : nn.toNatClampNeg = Nn) (hbytes : Nn * 4 ≤ 536870912) (hcells : cells + 1 ≤ R.cells) (hslots : slots + Nn ≤ R.slots) (hdg : decode cc pc = .ok (.anewarray idx, 3))
    (kk : ∀ (q : Nat) (H1 : Heap), va_P D vwCl (ws ++ [(q, aD cs Nn (fun _ => none))]) H1 → va_D A (ws ++ [(q, aD cs Nn (fun _ => none))]) → va_S A H0 H1 locs → W p l e R s m args below meth c H1 locs (cells + 1) (slots + Nn) Q (F0 m (pc + 3) ls (.ref q :: rest))) : W p l e R s m args below meth c H locs cells slots Q (F0 m pc ls (.int nn :: rest)) := by
  refine va_newq hx hb hown hcl hK.2.2 hK.1 hP hD hS hA hn hN hbytes hcells hslots hdg (fun q cA H1 hK1 hP1 hD1 hS1 => ?_)
  obtain ⟨_, _, _, _, _, e1⟩ := (hK1.2 (tysG cs).length (cA, .object "KeyDrive$Drive") (by simp)).2
  obtain ⟨_, _, _, _, _, e2⟩ := (hK.1.2 4 (cs 4, .object "KeyDrive$Drive") rfl).2
  have e3 : cA = cs 4 := Option.some.inj (e1.symm.trans e2)
  subst e3
  exact kk q H1 hP1 hD1 hS1
end KCALL
