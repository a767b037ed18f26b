theorem u_78 : Cond.classLink "KeyDriveLaw" 7 "KeyDrive" ∈ U0 := um 78 (by decide +kernel) (by decide +kernel)
theorem u_79 : Cond.instantiable "KeyDrive" 12 ∈ U0 := um 79 (by decide +kernel) (by decide +kernel)
theorem u_82 : Cond.code yX8_init prog_1_method_1_code 1 none ∈ U0 := um 82 (by decide +kernel) (by decide +kernel)
theorem u_80 : Cond.methodLink "KeyDriveLaw" 9 yX8_init ∈ U0 := um 80 (by decide +kernel) (by decide +kernel)
theorem u_81 : Cond.instanceMethod yX8_init ∈ U0 := um 81 (by decide +kernel) (by decide +kernel)
theorem u_1072 : Cond.classLink "KeyDriveLaw" 10 "KeyDriveModel" ∈ U0 := um 1072 (by decide +kernel) (by decide +kernel)
theorem u_1073 : Cond.instantiable "KeyDriveModel" 25 ∈ U0 := um 1073 (by decide +kernel) (by decide +kernel)
theorem u_1076 : Cond.code yX9_init prog_11_method_3_code 2 none ∈ U0 := um 1076 (by decide +kernel) (by decide +kernel)
theorem u_1074 : Cond.methodLink "KeyDriveLaw" 12 yX9_init ∈ U0 := um 1074 (by decide +kernel) (by decide +kernel)
theorem u_1075 : Cond.instanceMethod yX9_init ∈ U0 := um 1075 (by decide +kernel) (by decide +kernel)
theorem dL_law_0 : decode cL_law 0 = .ok (.new 7, 3) := by decide +kernel
theorem dL_law_3 : decode cL_law 3 = .ok (.dup, 1) := by decide +kernel
theorem dL_law_4 : decode cL_law 4 = .ok (.invokespecial 9, 3) := by decide +kernel
theorem dL_law_7 : decode cL_law 7 = .ok (.astore_n 1, 1) := by decide +kernel
theorem dL_law_8 : decode cL_law 8 = .ok (.new 10, 3) := by decide +kernel
theorem dL_law_11 : decode cL_law 11 = .ok (.dup, 1) := by decide +kernel
theorem dL_law_12 : decode cL_law 12 = .ok (.invokespecial 12, 3) := by decide +kernel
theorem dL_law_15 : decode cL_law 15 = .ok (.astore_n 2, 1) := by decide +kernel
theorem dL_law_16 : decode cL_law 16 = .ok (.iconst 0, 1) := by decide +kernel
theorem dL_law_17 : decode cL_law 17 = .ok (.istore_n 3, 1) := by decide +kernel
theorem dL_law_18 : decode cL_law 18 = .ok (.iload_n 3, 1) := by decide +kernel
theorem dL_law_19 : decode cL_law 19 = .ok (.aload_n 0, 1) := by decide +kernel
theorem dL_law_20 : decode cL_law 20 = .ok (.arraylength, 1) := by decide +kernel
theorem dL_law_21 : decode cL_law 21 = .ok (.bipush 6, 2) := by decide +kernel
theorem dL_law_23 : decode cL_law 23 = .ok (.isub, 1) := by decide +kernel
theorem dL_law_24 : decode cL_law 24 = .ok (.if_icmp .gt 1369, 3) := by decide +kernel
theorem dL_law_27 : decode cL_law 27 = .ok (.aload_n 0, 1) := by decide +kernel
theorem dL_law_28 : decode cL_law 28 = .ok (.iload_n 3, 1) := by decide +kernel
theorem dL_law_29 : decode cL_law 29 = .ok (.iaload, 1) := by decide +kernel
theorem dL_law_30 : decode cL_law 30 = .ok (.bipush 63, 2) := by decide +kernel
theorem dL_law_32 : decode cL_law 32 = .ok (.iand, 1) := by decide +kernel
theorem dL_law_33 : decode cL_law 33 = .ok (.tableswitch 1354 0 43 #[191, 254, 287, 320, 343, 366, 389, 432, 455, 478, 501, 524, 557, 590, 613, 636, 669, 692, 716, 739, 762, 805, 828, 851, 874, 907, 940, 963, 986, 1009, 1022, 1045, 1068, 1091, 1114, 1137, 1160, 1183, 1206, 1239, 1262, 1285, 1308, 1331], 191) := by decide +kernel
theorem dL_law_1387 : decode cL_law 1387 = .ok (.iinc 3 6, 3) := by decide +kernel
theorem dL_law_1390 : decode cL_law 1390 = .ok (.goto (-1372), 3) := by decide +kernel
theorem dL_law_1393 : decode cL_law 1393 = .ok (.iconst 1, 1) := by decide +kernel
theorem dL_law_1394 : decode cL_law 1394 = .ok (.ireturn, 1) := by decide +kernel
theorem hd_X8_init : yX8_init.cls = RX8 ∧ yX8_init.cls ≠ "java/lang/invoke/MethodHandle" ∧ yX8_init.cls ≠ "java/lang/invoke/VarHandle" ∧ (parseMethodDescriptor yX8_init.desc).map (fun d => d.parameters.length) = some 0 := by decide +kernel
theorem hd_X9_init : yX9_init.cls = RX9 ∧ yX9_init.cls ≠ "java/lang/invoke/MethodHandle" ∧ yX9_init.cls ≠ "java/lang/invoke/VarHandle" ∧ (parseMethodDescriptor yX9_init.desc).map (fun d => d.parameters.length) = some 0 := by decide +kernel
/-! THE CLAIM OUT OF ONE WALK OF THE LAW'S BODY. Your part is whole_start (and what it stands on); all else here is the same for every law, but numbers. -/
def R_law : String := "KeyDriveLaw"
def lw_P (b : Addr) (xs : List Int32) (args : Array Value) (s : State) : Prop := args = #[.ref b] ∧ s.IntsAt b xs ∧ xs.length ≤ 6 ∧ (Jvm.Cond.and given_1 narrow_1).before args s = true
def lw_Q (_ : Array Value) (s : State) (o : Outcome) (t : State) : Prop := o = .returned (some (.int 1)) ∧ Framed s o t [] 600000 7302250
def lw_Z (below : List Frame) (a : Array Value) (s : State) : State → Prop := fun t => ∃ o, t.status = .running ∧ Ended t below o ∧ lw_Q a s o t
/-- the law's own end, with 1 on the stack, nothing written that was there before, its room as the claim has it -/
theorem lw_ret {p : Program} {l : Launch} {e : Env} {s : State} {m : MethodId} {below : List Frame} {meth : Method} {c : Code} {b : Nat} (hx : p.tables.exec = Jvm.exec) (hb : c.code = code) (hr : meth.sig.returnType = ret) (hlocks : meth.locks = false) {pc : Nat} {H : Heap} {ls : Array Slot} (hdg : decode code pc = .ok (.ireturn, 1)) : W p l e room_1 s m #[Value.ref b] below meth c H [] 600000 7302250 (lw_Z below #[Value.ref b] s) (F0 m pc ls [.int 1]) := by
  intro T hT X
  obtain ⟨fs, hret, hrun, hended, hW, hframe⟩ := X.leave (v := some (.int 1)) (hlocks := hlocks) (fun h => by rw [hr] at h; cases h)
  have hmeth' : T.vm.method? m = some meth := X.method'
  refine ⟨T.setFrames fs, ?_, .returned (some (.int 1)), hrun, hended, rfl, ⟨_, rfl⟩, hW, hframe⟩
  jvm_step X.here [X.here.top, hx, hb, hdg, hmeth', hr, ret, narrow_b1]
  (try refine ⟨rfl, ?_⟩); (try refine ⟨rfl, ?_⟩)
  first | (intro acts; rw [hret _ acts rfl rfl rfl]) | rw [hret _ _ rfl rfl rfl]
  exact Steps.refl _
/-- what holds at the law's entry: the machine, the code, the tables' words (any of lw_tbl by 'hts w (by decide +kernel)'), the script of L ints xs at the cell b, what the Statement gives of the start (any of its parts by flat_of_before) -/
def lw_At (p : Program) (s : State) (m : MethodId) (meth : Method) (c : Code) (b L : Nat) (xs : Nat → Int32) : Prop :=
  p.tables.exec = Jvm.exec ∧ c.code = code ∧ meth.sig.returnType = ret ∧ c.maxLocals = 4 ∧ s.vm.findClass R_law = some m.cls ∧ (∀ w ∈ lw_tbl, w.before #[Value.ref b] s = true) ∧ va_X b L xs s s.heap ∧ b < s.heap.size ∧ meth.locks = false ∧ (Jvm.Cond.and given_1 narrow_1).before #[Value.ref b] s = true

theorem nests_in : ∀ q ∈ nests, Cond.methodLinkNest q.1 q.2.1 q.2.2 "KeyDrive" ∈ lw_tbl := by
  intro q hq
  simp only [nests, List.mem_cons, List.not_mem_nil, or_false] at hq
  rcases hq with rfl | rfl | rfl | rfl | rfl | rfl | rfl | rfl | rfl | rfl | rfl | rfl | rfl
  · exact List.mem_of_getElem? (i := 108) (by decide +kernel)
  · exact List.mem_of_getElem? (i := 143) (by decide +kernel)
  · exact List.mem_of_getElem? (i := 171) (by decide +kernel)
  · exact List.mem_of_getElem? (i := 259) (by decide +kernel)
  · exact List.mem_of_getElem? (i := 690) (by decide +kernel)
  · exact List.mem_of_getElem? (i := 430) (by decide +kernel)
  · exact List.mem_of_getElem? (i := 1040) (by decide +kernel)
  · exact List.mem_of_getElem? (i := 511) (by decide +kernel)
  · exact List.mem_of_getElem? (i := 782) (by decide +kernel)
  · exact List.mem_of_getElem? (i := 845) (by decide +kernel)
  · exact List.mem_of_getElem? (i := 461) (by decide +kernel)
  · exact List.mem_of_getElem? (i := 468) (by decide +kernel)
  · exact List.mem_of_getElem? (i := 740) (by decide +kernel)
theorem ao_in : Cond.arrayOver (.object "KeyDrive$Drive") ∈ lw_tbl := List.mem_of_getElem? (i := 257) (by decide +kernel)
theorem prim_K {s : State} {args : Array Value} {t : FieldType} (h : (Cond.arrayClass t).before args s = true) : ∃ cA : ClassId, ArrOfT s cA t ∧ s.vm.findClass ("[" ++ t.toString) = some cA := by
  obtain ⟨c, k, comp, h1, h2, h3⟩ := Cond.arrayClass_spec h
  exact ⟨c, fun n z => ⟨fun k h => (by cases h), k, h2, comp, h3⟩, h1⟩
set_option maxHeartbeats 4000000 in
set_option maxRecDepth 100000 in
theorem law_K {s : State} {args : Array Value} (hts : ∀ w ∈ lw_tbl, w.before args s = true) : ∃ (D : va_G) (cs : Nat → ClassId), kK D cs s := by
  have hu : ∀ w ∈ U0, w.before args s = true := fun w h => hts w (U0_tbl h)
  obtain ⟨c0, iS0, hKn0⟩ := u_known (C := RX0) (T := TX0) (N := 6) (n := 6) hu in_X0 (hu _ u_142)
  obtain ⟨c1, iS1, hKn1⟩ := u_known (C := RX1) (T := TX1) (N := 8) (n := 8) hu in_X1 (hu _ u_107)
  obtain ⟨c2, iS2, hKn2⟩ := u_known (C := RX2) (T := TX2) (N := 4) (n := 4) hu in_X2 (hu _ u_258)
  obtain ⟨c3, iS3, hKn3⟩ := u_known (C := RX3) (T := TX3) (N := 7) (n := 7) hu in_X3 (hu _ u_266)
  obtain ⟨c4, iS4, hKn4⟩ := u_known (C := RX4) (T := TX4) (N := 4) (n := 4) hu in_X4 (hu _ u_298)
  obtain ⟨c5, iS5, hKn5⟩ := u_known (C := RX5) (T := TX5) (N := 5) (n := 5) hu in_X5 (hu _ u_170)
  obtain ⟨c6, iS6, hKn6⟩ := u_known (C := RX6) (T := TX6) (N := 17) (n := 17) hu in_X6 (hu _ u_192)
  obtain ⟨c7, iS7, hKn7⟩ := u_known (C := RX7) (T := TX7) (N := 2) (n := 2) hu in_X7 (hu _ u_87)
  obtain ⟨c8, iS8, hKn8⟩ := u_known (C := RX8) (T := TX8) (N := 12) (n := 12) hu in_X8 (hu _ u_79)
  obtain ⟨c9, iS9, hKn9⟩ := u_known (C := RX9) (T := TX9) (N := 25) (n := 25) hu in_X9 (hu _ u_1073)
  obtain ⟨a0, ha0, hb0⟩ := prim_K (t := .int) (hu _ u_105)
  obtain ⟨a1, ha1, hb1⟩ := prim_K (t := .boolean) (hu _ u_140)
  obtain ⟨a2, ha2, hb2⟩ := prim_K (t := .byte) (hu _ u_255)
  obtain ⟨a3, ha3, hb3⟩ := prim_K (t := .long) (hu _ u_296)
  obtain ⟨comp, a4, k4, f1, f2, f3, f4, f5⟩ := Cond.arrayOver_spec (hts _ ao_in)
  refine ⟨(fun k => match k with | 0 => c0 | 1 => c1 | 2 => c2 | 3 => c3 | 4 => c4 | 5 => c5 | 6 => c6 | 7 => c7 | 8 => c8 | _ => c9, fun k => match k with | 0 => iS0 | 1 => iS1 | 2 => iS2 | 3 => iS3 | 4 => iS4 | 5 => iS5 | 6 => iS6 | 7 => iS7 | 8 => iS8 | _ => iS9), (fun k => match k with | 0 => a0 | 1 => a1 | 2 => a2 | 3 => a3 | _ => a4), ⟨⟨?_, ?_⟩, ⟨?_, ?_⟩⟩⟩
  · intro k q hq
    match k, hq with
    | 0, hq => cases hq; exact hKn0
    | 1, hq => cases hq; exact hKn1
    | 2, hq => cases hq; exact hKn2
    | 3, hq => cases hq; exact hKn3
    | 4, hq => cases hq; exact hKn4
    | 5, hq => cases hq; exact hKn5
    | 6, hq => cases hq; exact hKn6
    | 7, hq => cases hq; exact hKn7
    | 8, hq => cases hq; exact hKn8
    | 9, hq => cases hq; exact hKn9
    | k + 10, hq => simp [vwCl] at hq
  · intro k q hq
    match k, hq with
    | 0, hq => cases hq; exact ⟨ha0, hb0⟩
    | 1, hq => cases hq; exact ⟨ha1, hb1⟩
    | 2, hq => cases hq; exact ⟨ha2, hb2⟩
    | 3, hq => cases hq; exact ⟨ha3, hb3⟩
    | 4, hq => cases hq; exact ⟨fun N z => ⟨fun k h => (by cases h), k4, f3, comp, f4⟩, k4, comp, f3, f4, f1, f5⟩
    | k + 5, hq => simp [tysG] at hq
  · intro q hq
    exact va_Nw.of rfl (hts _ (nests_in q hq))
  · exact va_AO.of (hts _ ao_in)

set_option maxHeartbeats 4000000 in
set_option maxRecDepth 100000 in
theorem law_tail {p : Program} {l : Launch} {e : Env} {s : State} {m : MethodId} {below : List Frame} {meth : Method} {c : Code} {b : Nat} {xs : Nat → Int32} {D : va_G} {cs : Nat → ClassId} (hx : p.tables.exec = Jvm.exec) (hb : c.code = code) (hr : meth.sig.returnType = ret) (hml : c.maxLocals = 4) (hown : s.vm.findClass RL = some m.cls) (hlocks : meth.locks = false) (hu : ∀ w ∈ U0, w.before #[Value.ref b] s = true) (hK : kK D cs s) (hX : va_X b 6 xs s s.heap) (hbl : b < s.heap.size) (H : Heap) (locs : List Loc) (hS : va_S (fun q : Nat => s.heap.size ≤ q) s.heap H locs) (ls : Array Slot) (hl : lv_has ls 4 [(0, .ref b), (3, .int 0)]) {cells slots : Nat} (hc1 : cells ≤ 600000) (hc2 : slots ≤ 7302250) : W p l e room_1 s m #[Value.ref b] below meth c H locs cells slots (lw_Z below #[Value.ref b] s) (F0 m 1387 ls []) := by
  have hbA : ¬ (fun q : Nat => s.heap.size ≤ q) b := Nat.not_le.mpr hbl
  refine lv_iinc (v := 6) (lv' := [(3, .int 6), (0, .ref b)]) hx hb dL_law_1387 hl (k := 1) rfl (by decide) (by decide) rfl (fun ls hl => ?_)
  refine lv_goto (tgt := 18) hx hb dL_law_1390 (by decide) ?_
  refine lv_iload_n hx hb dL_law_18 rfl (lv_at hl 0 rfl) ?_
  refine lv_aload_n hx hb dL_law_19 rfl (lv_at hl 1 rfl) ?_
  refine va_slen hx hb hX hbl hbA hS dL_law_20 ?_
  refine tpi (y := 6) (by decide) ?_
  refine lv_bipush (v := 6) hx hb dL_law_21 (by decide) ?_
  refine lv_isub hx hb dL_law_23 ?_
  refine tpi (y := 0) (by decide) ?_
  refine lv_icmp_gt (tgt := 1393) hx hb dL_law_24 (by decide) (fun c_1 => ?_) (fun c_1 => absurd (by decide) c_1)
  refine lv_iconst (v := 1) hx hb dL_law_1393 (by decide) ?_
  refine va_forget (fun q hq => hS.2.2 q hq) ?_
  refine W.widen (k := 600000) (n := 7302250) hc1 hc2 ?_
  exact lw_ret hx hb hr hlocks dL_law_1394

def lwW (cs : Nat → ClassId) (kd md : Nat) (ua : Nat → Nat) (uf : Nat → Nat → Int32) (va : Nat → Nat) (vf : Nat → Nat → Int32) : va_W := [(kd, .inr (8, [.ref (ua 0), .ref (ua 2), .ref (ua 4), .ref (ua 6), .ref (ua 12), .ref (ua 15), .ref (ua 19), .ref (ua 30), .ref (ua 31), .int 0, .ref (ua 32), .ref (ua 56)])), (ua 0, .inr (7, [.ref (ua 1), .int 0])), (ua 1, aI cs 60 (fun _ => 0)), (ua 2, .inr (7, [.ref (ua 3), .int 0])), (ua 3, aI cs 40 (fun _ => 0)), (ua 4, .inr (7, [.ref (ua 5), .int 0])), (ua 5, aI cs 40 (fun _ => 0)), (ua 6, .inr (1, [.int 0, .int (-1), .int 0, .ref (ua 7), .ref (ua 8), .ref (ua 9), .ref (ua 10), .ref (ua 11)])), (ua 7, aI cs 20 (fun _ => 0)), (ua 8, aI cs 20 (fun _ => 0)), (ua 9, aI cs 20 (fun _ => 0)), (ua 10, aI cs 20 (fun _ => 0)), (ua 11, aZ cs 20 (fun _ => 0)), (ua 12, .inr (0, [.int 0, .int 0, .int 0, .int 0, .ref (ua 13), .ref (ua 14)])), (ua 13, aI cs 3 (fun _ => 0)), (ua 14, aZ cs 8 (fun _ => 0)), (ua 15, .inr (5, [.int 0, .int 0, .ref (ua 16), .ref (ua 17), .ref (ua 18)])), (ua 16, aI cs 240 (fun _ => 0)), (ua 17, aI cs 240 (fun _ => 0)), (ua 18, aI cs 240 (fun _ => 0)), (ua 19, .inr (6, [.int 0, .int 0, .int (-1), .int 0, .int 0, .int 0, .int 240, .ref (ua 20), .ref (ua 21), .ref (ua 22), .ref (ua 23), .ref (ua 24), .ref (ua 25), .ref (ua 26), .ref (ua 27), .ref (ua 28), .ref (ua 29)])), (ua 20, aI cs 24 (fun _ => 0)), (ua 21, aI cs 24 (fun _ => 0)), (ua 22, aI cs 24 (fun _ => 0)), (ua 23, aI cs 240 (fun _ => 0)), (ua 24, aI cs 240 (fun _ => 0)), (ua 25, aI cs 240 (uf 0)), (ua 26, aI cs 240 (fun _ => 0)), (ua 27, aI cs 240 (fun _ => 0)), (ua 28, aI cs 240 (fun _ => 0)), (ua 29, aB cs 1536 (fun _ => 0)), (ua 30, aD cs 10 (fun _ => none)), (ua 31, aD cs 2 (fun _ => none)), (ua 32, .inr (2, [.int 0, .ref (ua 33), .ref (ua 44), .ref (ua 51)])), (ua 33, .inr (6, [.int 0, .int 0, .int (-1), .int 0, .int 0, .int 0, .int 240, .ref (ua 34), .ref (ua 35), .ref (ua 36), .ref (ua 37), .ref (ua 38), .ref (ua 39), .ref (ua 40), .ref (ua 41), .ref (ua 42), .ref (ua 43)])), (ua 34, aI cs 24 (fun _ => 0)), (ua 35, aI cs 24 (fun _ => 0)), (ua 36, aI cs 24 (fun _ => 0)), (ua 37, aI cs 240 (fun _ => 0)), (ua 38, aI cs 240 (fun _ => 0)), (ua 39, aI cs 240 (uf 1)), (ua 40, aI cs 240 (fun _ => 0)), (ua 41, aI cs 240 (fun _ => 0)), (ua 42, aI cs 240 (fun _ => 0)), (ua 43, aB cs 1536 (fun _ => 0)), (ua 44, .inr (3, [.int 0, .ref (ua 45), .ref (ua 46), .ref (ua 47), .ref (ua 48), .ref (ua 49), .ref (ua 50)])), (ua 45, aI cs 240 (uf 2)), (ua 46, aJ cs 240 (fun _ => 0)), (ua 47, aI cs 240 (fun _ => 0)), (ua 48, aI cs 240 (fun _ => 0)), (ua 49, aI cs 2160 (fun _ => 0)), (ua 50, aI cs 2160 (fun _ => 0)), (ua 51, .inr (4, [.ref (ua 52), .ref (ua 53), .ref (ua 54), .ref (ua 55)])), (ua 52, aI cs 7 (uf 3)), (ua 53, aJ cs 3 (fun _ => 0)), (ua 54, aI cs 3 (fun _ => 0)), (ua 55, aI cs 3 (fun _ => 0)), (ua 56, .inr (2, [.int 0, .ref (ua 57), .ref (ua 68), .ref (ua 75)])), (ua 57, .inr (6, [.int 0, .int 0, .int (-1), .int 0, .int 0, .int 0, .int 240, .ref (ua 58), .ref (ua 59), .ref (ua 60), .ref (ua 61), .ref (ua 62), .ref (ua 63), .ref (ua 64), .ref (ua 65), .ref (ua 66), .ref (ua 67)])), (ua 58, aI cs 24 (fun _ => 0)), (ua 59, aI cs 24 (fun _ => 0)), (ua 60, aI cs 24 (fun _ => 0)), (ua 61, aI cs 240 (fun _ => 0)), (ua 62, aI cs 240 (fun _ => 0)), (ua 63, aI cs 240 (uf 4)), (ua 64, aI cs 240 (fun _ => 0)), (ua 65, aI cs 240 (fun _ => 0)), (ua 66, aI cs 240 (fun _ => 0)), (ua 67, aB cs 1536 (fun _ => 0)), (ua 68, .inr (3, [.int 0, .ref (ua 69), .ref (ua 70), .ref (ua 71), .ref (ua 72), .ref (ua 73), .ref (ua 74)])), (ua 69, aI cs 240 (uf 5)), (ua 70, aJ cs 240 (fun _ => 0)), (ua 71, aI cs 240 (fun _ => 0)), (ua 72, aI cs 240 (fun _ => 0)), (ua 73, aI cs 2160 (fun _ => 0)), (ua 74, aI cs 2160 (fun _ => 0)), (ua 75, .inr (4, [.ref (ua 76), .ref (ua 77), .ref (ua 78), .ref (ua 79)])), (ua 76, aI cs 7 (uf 6)), (ua 77, aJ cs 3 (fun _ => 0)), (ua 78, aI cs 3 (fun _ => 0)), (ua 79, aI cs 3 (fun _ => 0)), (md, .inr (9, [.int 0, .ref (va 0), .ref (va 1), .ref (va 2), .int 0, .ref (va 3), .ref (va 4), .ref (va 5), .ref (va 6), .int 0, .int 0, .int 0, .ref (va 7), .int 0, .ref (va 8), .ref (va 9), .ref (va 10), .int 0, .ref (va 11), .int 0, .int (-1), .int 0, .ref (va 12), .ref (va 13), .ref (va 14)])), (va 0, aI cs 51207 (vf 0)), (va 1, aI cs 170690 (fun _ => 0)), (va 2, aI cs 17069 (fun _ => 0)), (va 3, aZ cs 2 (fun _ => 0)), (va 4, aI cs 60 (fun _ => 0)), (va 5, aI cs 8 (fun _ => 0)), (va 6, aI cs 40 (fun _ => 0)), (va 7, aZ cs 1930 (fun _ => 0)), (va 8, aI cs 4 (fun _ => 0)), (va 9, aI cs 3 (fun _ => 0)), (va 10, aZ cs 8 (fun _ => 0)), (va 11, aI cs 40 (fun _ => 0)), (va 12, aZ cs 20 (fun _ => 0)), (va 13, aI cs 240 (fun _ => 0)), (va 14, aI cs 240 (fun _ => 0))]

theorem room_eq {x r r' : Int32} (h1 : ((r = -3) ∧ (x < 6 ∨ 52 < x ∨ ¬ x &&& 1 = 0)) ∨ ((6 ≤ x ∧ x ≤ 52 ∧ x &&& 1 = 0) ∧ (ansRoom x r))) (h2 : ((r' = -3) ∧ (x < 6 ∨ 52 < x ∨ ¬ x &&& 1 = 0)) ∨ ((6 ≤ x ∧ x ≤ 52 ∧ x &&& 1 = 0) ∧ (ansRoom x r'))) : r = r' := by
  rcases h1 with ⟨e1, a1⟩ | ⟨b1, c1⟩
  · rcases h2 with ⟨e2, a2⟩ | ⟨b2, c2⟩
    · rw [e1, e2]
    · exfalso
      clear c2
      grind
  · rcases h2 with ⟨e2, a2⟩ | ⟨b2, c2⟩
    · exfalso
      clear c1
      grind
    · exact ansRoom_eq c1 c2

