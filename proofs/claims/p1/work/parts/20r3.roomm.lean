theorem u_1211 : Cond.code yX9_at prog_11_method_13_code 3 (some .int) ∈ U0 := um 1211 (by decide +kernel) (by decide +kernel)
theorem u_1208 : Cond.methodLink "KeyDriveModel" 90 yX9_at ∈ U0 := um 1208 (by decide +kernel) (by decide +kernel)
theorem u_1210 : Cond.instanceMethod yX9_at ∈ U0 := um 1210 (by decide +kernel) (by decide +kernel)
theorem u_18 : Cond.selects "KeyDriveModel" yX9_at yX9_at ∈ U0 := um 18 (by decide +kernel) (by decide +kernel)
theorem dX9_isFree_16 : decode cX9_isFree 16 = .ok (.iconst 0, 1) := by decide +kernel
theorem dX9_freeMany_23 : decode cX9_freeMany 23 = .ok (.iconst 0, 1) := by decide +kernel
theorem dX9_stayingOn_16 : decode cX9_stayingOn 16 = .ok (.iload_n 2, 1) := by decide +kernel
theorem dX9_stayingOn_17 : decode cX9_stayingOn 17 = .ok (.aload_n 0, 1) := by decide +kernel
theorem dX9_stayingOn_18 : decode cX9_stayingOn 18 = .ok (.iload_n 3, 1) := by decide +kernel
theorem dX9_stayingOn_19 : decode cX9_stayingOn 19 = .ok (.iconst 4, 1) := by decide +kernel
theorem dX9_stayingOn_20 : decode cX9_stayingOn 20 = .ok (.invokevirtual 90, 3) := by decide +kernel
theorem dX9_stayingOn_23 : decode cX9_stayingOn 23 = .ok (.iload_n 1, 1) := by decide +kernel
theorem dX9_stayingOn_24 : decode cX9_stayingOn 24 = .ok (.if_icmp .ne 13, 3) := by decide +kernel
theorem dX9_stayingOn_27 : decode cX9_stayingOn 27 = .ok (.aload_n 0, 1) := by decide +kernel
theorem dX9_stayingOn_28 : decode cX9_stayingOn 28 = .ok (.iload_n 3, 1) := by decide +kernel
theorem dX9_stayingOn_29 : decode cX9_stayingOn 29 = .ok (.bipush 6, 2) := by decide +kernel
theorem dX9_stayingOn_31 : decode cX9_stayingOn 31 = .ok (.invokevirtual 90, 3) := by decide +kernel
theorem dX9_stayingOn_34 : decode cX9_stayingOn 34 = .ok (.goto 4, 3) := by decide +kernel
theorem dX9_stayingOn_37 : decode cX9_stayingOn 37 = .ok (.iconst 0, 1) := by decide +kernel
theorem dX9_stayingOn_38 : decode cX9_stayingOn 38 = .ok (.iadd, 1) := by decide +kernel
theorem dX9_stayingOn_39 : decode cX9_stayingOn 39 = .ok (.istore_n 2, 1) := by decide +kernel
theorem dX9_stayingOn_40 : decode cX9_stayingOn 40 = .ok (.iinc 3 1, 3) := by decide +kernel
theorem dX9_stayingOn_43 : decode cX9_stayingOn 43 = .ok (.goto (-39), 3) := by decide +kernel
theorem dX9_placeFor_28 : decode cX9_placeFor 28 = .ok (.aload_n 0, 1) := by decide +kernel
theorem dX9_placeFor_29 : decode cX9_placeFor 29 = .ok (.getfield 14, 3) := by decide +kernel
theorem dX9_placeFor_32 : decode cX9_placeFor 32 = .ok (.bipush 7, 2) := by decide +kernel
theorem dX9_placeFor_34 : decode cX9_placeFor 34 = .ok (.iload 5, 2) := by decide +kernel
theorem dX9_placeFor_36 : decode cX9_placeFor 36 = .ok (.iadd, 1) := by decide +kernel
theorem dX9_placeFor_37 : decode cX9_placeFor 37 = .ok (.iaload, 1) := by decide +kernel
theorem dX9_placeFor_38 : decode cX9_placeFor 38 = .ok (.iload_n 1, 1) := by decide +kernel
theorem dX9_placeFor_39 : decode cX9_placeFor 39 = .ok (.iadd, 1) := by decide +kernel
theorem dX9_placeFor_40 : decode cX9_placeFor 40 = .ok (.bipush 64, 2) := by decide +kernel
theorem dX9_placeFor_42 : decode cX9_placeFor 42 = .ok (.if_icmp .le 6, 3) := by decide +kernel
theorem dX9_placeFor_45 : decode cX9_placeFor 45 = .ok (.goto 69, 3) := by decide +kernel
theorem dX9_placeFor_48 : decode cX9_placeFor 48 = .ok (.aload_n 0, 1) := by decide +kernel
theorem dX9_placeFor_49 : decode cX9_placeFor 49 = .ok (.getfield 14, 3) := by decide +kernel
theorem dX9_placeFor_52 : decode cX9_placeFor 52 = .ok (.iconst 2, 1) := by decide +kernel
theorem dX9_placeFor_53 : decode cX9_placeFor 53 = .ok (.iaload, 1) := by decide +kernel
theorem dX9_placeFor_54 : decode cX9_placeFor 54 = .ok (.ifCond .ne 17, 3) := by decide +kernel
theorem dX9_placeFor_57 : decode cX9_placeFor 57 = .ok (.iload 5, 2) := by decide +kernel
theorem dX9_placeFor_59 : decode cX9_placeFor 59 = .ok (.aload_n 0, 1) := by decide +kernel
theorem dX9_placeFor_60 : decode cX9_placeFor 60 = .ok (.getfield 14, 3) := by decide +kernel
theorem dX9_placeFor_63 : decode cX9_placeFor 63 = .ok (.iconst 1, 1) := by decide +kernel
theorem dX9_placeFor_64 : decode cX9_placeFor 64 = .ok (.iaload, 1) := by decide +kernel
theorem dX9_placeFor_65 : decode cX9_placeFor 65 = .ok (.if_icmp .ne 49, 3) := by decide +kernel
theorem dX9_placeFor_68 : decode cX9_placeFor 68 = .ok (.goto 42, 3) := by decide +kernel
theorem dX9_placeFor_110 : decode cX9_placeFor 110 = .ok (.iload 5, 2) := by decide +kernel
theorem dX9_placeFor_112 : decode cX9_placeFor 112 = .ok (.istore 4, 2) := by decide +kernel
theorem dX9_placeFor_134 : decode cX9_placeFor 134 = .ok (.iload 4, 2) := by decide +kernel
theorem dX9_placeFor_136 : decode cX9_placeFor 136 = .ok (.ireturn, 1) := by decide +kernel
theorem dX9_makesPlace_18 : decode cX9_makesPlace 18 = .ok (.aload_n 0, 1) := by decide +kernel
theorem dX9_makesPlace_19 : decode cX9_makesPlace 19 = .ok (.aload_n 0, 1) := by decide +kernel
theorem dX9_makesPlace_20 : decode cX9_makesPlace 20 = .ok (.getfield 14, 3) := by decide +kernel
theorem dX9_makesPlace_23 : decode cX9_makesPlace 23 = .ok (.iconst 3, 1) := by decide +kernel
theorem dX9_makesPlace_24 : decode cX9_makesPlace 24 = .ok (.iaload, 1) := by decide +kernel
theorem dX9_makesPlace_25 : decode cX9_makesPlace 25 = .ok (.invokevirtual 148, 3) := by decide +kernel
theorem dX9_makesPlace_28 : decode cX9_makesPlace 28 = .ok (.istore_n 3, 1) := by decide +kernel
theorem dX9_makesPlace_29 : decode cX9_makesPlace 29 = .ok (.iload_n 3, 1) := by decide +kernel
theorem dX9_makesPlace_30 : decode cX9_makesPlace 30 = .ok (.iconst (-1), 1) := by decide +kernel
theorem dX9_makesPlace_31 : decode cX9_makesPlace 31 = .ok (.if_icmp .ne 5, 3) := by decide +kernel
theorem dX9_makesPlace_34 : decode cX9_makesPlace 34 = .ok (.iconst (-1), 1) := by decide +kernel
theorem dX9_makesPlace_35 : decode cX9_makesPlace 35 = .ok (.ireturn, 1) := by decide +kernel
theorem dX9_at_0 : decode cX9_at 0 = .ok (.aload_n 0, 1) := by decide +kernel
theorem dX9_at_1 : decode cX9_at 1 = .ok (.getfield 14, 3) := by decide +kernel
theorem dX9_at_4 : decode cX9_at 4 = .ok (.sipush 1629, 3) := by decide +kernel
theorem dX9_at_7 : decode cX9_at 7 = .ok (.bipush 8, 2) := by decide +kernel
theorem dX9_at_9 : decode cX9_at 9 = .ok (.iload_n 1, 1) := by decide +kernel
theorem dX9_at_10 : decode cX9_at 10 = .ok (.imul, 1) := by decide +kernel
theorem dX9_at_11 : decode cX9_at 11 = .ok (.iadd, 1) := by decide +kernel
theorem dX9_at_12 : decode cX9_at 12 = .ok (.iload_n 2, 1) := by decide +kernel
theorem dX9_at_13 : decode cX9_at 13 = .ok (.iadd, 1) := by decide +kernel
theorem dX9_at_14 : decode cX9_at 14 = .ok (.iaload, 1) := by decide +kernel
theorem dX9_at_15 : decode cX9_at 15 = .ok (.ireturn, 1) := by decide +kernel
theorem hd_X9_at : yX9_at.cls = RX9 ∧ yX9_at.cls ≠ "java/lang/invoke/MethodHandle" ∧ yX9_at.cls ≠ "java/lang/invoke/VarHandle" ∧ (parseMethodDescriptor yX9_at.desc).map (fun d => d.parameters.length) = some 2 := by decide +kernel
/-- what the versions 0 .. n - 1 of the reference's row have on a page -/
def smo (f : Nat → Int32) (p : Nat) : Nat → Int32
  | 0 => 0
  | n + 1 => if f (1629 + 8 * n + 4) = nI p then smo f p n + f (1629 + 8 * n + 6) else smo f p n
theorem smo_1 {f : Nat → Int32} {p n : Nat} (h : f (1629 + 8 * n + 4) = nI p) : smo f p (n + 1) = smo f p n + f (1629 + 8 * n + 6) := if_pos h
theorem smo_0 {f : Nat → Int32} {p n : Nat} (h : ¬ f (1629 + 8 * n + 4) = nI p) : smo f p (n + 1) = smo f p n := if_neg h
theorem smo_same {f g : Nat → Int32} {p N : Nat} (h : ∀ j, 1629 ≤ j → j < 1629 + 8 * N → g j = f j) : ∀ n, n ≤ N → smo g p n = smo f p n
  | 0, _ => rfl
  | n + 1, hn => by
    have ih := smo_same (p := p) h n (by omega)
    show (if g (1629 + 8 * n + 4) = nI p then smo g p n + g (1629 + 8 * n + 6) else smo g p n) = (if f (1629 + 8 * n + 4) = nI p then smo f p n + f (1629 + 8 * n + 6) else smo f p n)
    rw [h _ (by omega) (by omega), h (1629 + 8 * n + 6) (by omega) (by omega), ih]
theorem smo_AL {f : Nat → Int32} (p : Nat) : smo f p 0 = 0 := rfl
/-- what a record that came leaves of the row -/
def came (f g : Nat → Int32) (n q z : Nat) : Prop := (∀ j, j ≠ 0 → j ≠ 1 → j ≠ 7 + q → j ≠ 1628 → ¬ (1629 + 8 * n ≤ j ∧ j < 1629 + 8 * n + 8) → g j = f j) ∧ g 1 = nI q ∧ g (7 + q) = f (7 + q) + nI z ∧ g 1628 = nI (n + 1) ∧ g (1629 + 8 * n + 4) = nI q ∧ g (1629 + 8 * n + 6) = nI z
theorem came_sum {f g : Nat → Int32} {n q z : Nat} (h : came f g n q z) (hq : q < 24) (hS : ∀ p, p < 24 → smo f p n = f (7 + p)) : ∀ p, p < 24 → smo g p (n + 1) = g (7 + p) := by
  intro p hp
  obtain ⟨h0, h1, h2, h3, h4, h5⟩ := h
  have hs : smo g p n = smo f p n := smo_same (N := n) (fun j a b => h0 j (by omega) (by omega) (by omega) (by omega) (by omega)) n (Nat.le_refl n)
  by_cases e : p = q
  · subst e
    rw [smo_1 h4, hs, hS p hp, h5, h2]
  · rw [smo_0 (by rw [h4]; exact fun h => e ((nI_eq (by omega) (by omega)).mp h).symm), hs, hS p hp, h0 (7 + p) (by omega) (by omega) (by omega) (by omega) (by omega)]
theorem came_E {f g : Nat → Int32} {we : Nat → Nat} {n q z : Nat} (h : came f g n q z) (hq : q < 24) (hE : ∀ j, j < 24 → f (7 + j) = nI (we j) ∧ we j ≤ 64) (hz : we q + z ≤ 64) : ∀ j, j < 24 → g (7 + j) = nI (wup we q (we q + z) j) ∧ wup we q (we q + z) j ≤ 64 := by
  intro j hj
  by_cases e : j = q
  · subst e
    rw [wup_s, h.2.2.1, (hE j hj).1, nI_add]
    exact ⟨rfl, hz⟩
  · rw [wup_n e, h.1 (7 + j) (by omega) (by omega) (by omega) (by omega) (by omega)]
    exact hE j hj
theorem came_k {f g : Nat → Int32} {n q z : Nat} (h : came f g n q z) (hq : q < 24) (j : Nat) (h1 : j ≠ 0) (h2 : j ≠ 1) (h3 : j < 1628) (h4 : j < 7 ∨ 31 ≤ j) : g j = f j := h.1 j h1 h2 (by omega) (by omega) (by omega)

abbrev rm_c_X9_isFree_g : Room := { frames := 0, cells := 0, slots := 0, locals := 0 }
set_option maxHeartbeats 4000000 in
set_option maxRecDepth 100000 in
theorem c_X9_isFree_g (l : Launch) (D : va_G) (cs : Nat → ClassId) (sz : Nat) (md : Nat) (m_all : Nat) (m_deeds : Nat) (m_trial : Nat) (m_hasImage : Nat) (m_tape : Nat) (m_key : Nat) (m_answered : Nat) (m_goes : Nat) (m_hotOnes : Nat) (m_indexed : Nat) (m_isChanged : Nat) (m_valueNow : Nat) (m_didSome : Nat) (m_sizes : Nat) (m_ends : Nat) (dm : Int32) (th : Int32) (sw : Int32) (we : Nat → Nat) (PP : Nat) (fm : Nat → Int32) (hE : ∀ j, j < 24 → fm (7 + j) = nI (we j) ∧ we j ≤ 64) (hP24 : PP < 24) : cMi l yX9_isFree (Cond.code yX9_isFree cX9_isFree 2 (some .boolean)) (rm_c_X9_isFree_g) D cs [.ref md, .int (nI PP)] sz [(md, .inr (9, [.int th, .ref m_all, .ref m_deeds, .ref m_trial, .int dm, .ref m_hasImage, .ref m_tape, .ref m_key, .ref m_answered, .int 0, .int 0, .int 0, .ref m_goes, .int sw, .ref m_hotOnes, .ref m_indexed, .ref m_isChanged, .int 0, .ref m_valueNow, .int 0, .int (-1), .int 0, .ref m_didSome, .ref m_sizes, .ref m_ends])), (m_all, aI cs 51207 fm)] (fun (r : Int32) (u : Unit) => ((r = 1) ∧ (we PP = 0)) ∨ ((r = 0) ∧ (¬ we PP = 0))) (fun (u : Unit) => [(md, .inr (9, [.int th, .ref m_all, .ref m_deeds, .ref m_trial, .int dm, .ref m_hasImage, .ref m_tape, .ref m_key, .ref m_answered, .int 0, .int 0, .int 0, .ref m_goes, .int sw, .ref m_hotOnes, .ref m_indexed, .ref m_isChanged, .int 0, .ref m_valueNow, .int 0, .int (-1), .int 0, .ref m_didSome, .ref m_sizes, .ref m_ends])), (m_all, aI cs 51207 fm)]) := by
  refine kMet_i RX9 (by decide) rfl (Nat.le_of_ble_eq_true rfl) ?_
  intro p e s m below meth c ls A Qz H locs hx hb hml hown hin hu hK hsz hA hP hD hS hl hz
  subst hsz
  have hl : lv_has ls 2 [(0, .ref md), (1, .int (nI PP))] := hl
  refine lv_aload_n hx hb dX9_isFree_0 rfl (lv_at hl 0 rfl) ?_
  refine va_get (D := D) (ci := 9) (v := .ref m_all) (C := RX9) (T := TX9) (N := 25) hx hb hu in_X9 hown hK.1 hP 0 rfl rfl 1 (by decide) (hu _ u_1081) (fun _ h9 => h9) rfl dX9_isFree_1 ?_
  refine lv_bipush (v := 7) hx hb dX9_isFree_4 (by decide) ?_
  refine lv_iload_n hx hb dX9_isFree_6 rfl (lv_at hl 1 rfl) ?_
  refine lv_iadd hx hb dX9_isFree_7 ?_
  refine tpi (y := nI (7 + PP)) (nI_add _ _) ?_
  refine va_iald hx hb hK.1 hP 1 0 rfl rfl (vp_in_nI (by omega) (by omega)) dX9_isFree_8 ?_
  have hw_1 := (hE PP (by omega)).2
  refine tpi (y := nI (we PP)) ((congrArg fm (nI_clamp (by omega))).trans (hE _ (by omega)).1) ?_
  refine lv_if_ne (tgt := 16) hx hb dX9_isFree_9 (by decide) (fun c_2 => ?_) (fun c_2 => ?_)
  · have gc_2 : ¬ (we PP) = 0 := fun h => c_2 ((nI_eq (a := (we PP)) (b := 0) (by omega) (by omega)).mpr h)
    refine lv_iconst (v := 0) hx hb dX9_isFree_16 (by decide) ?_
    exact hz () hP hD hS (Or.inr ⟨rfl, gc_2⟩) [0, 1] rfl rfl (Nat.le_of_ble_eq_true rfl) (Nat.le_of_ble_eq_true rfl) .boolean rfl rfl dX9_isFree_17
  · have gc_2 : we PP = 0 := (nI_eq (a := (we PP)) (b := 0) (by omega) (by omega)).mp c_2
    refine lv_iconst (v := 1) hx hb dX9_isFree_12 (by decide) ?_
    refine lv_goto (tgt := 17) hx hb dX9_isFree_13 (by decide) ?_
    exact hz () hP hD hS (Or.inl ⟨rfl, gc_2⟩) [0, 1] rfl rfl (Nat.le_of_ble_eq_true rfl) (Nat.le_of_ble_eq_true rfl) .boolean rfl rfl dX9_isFree_17
abbrev rm_c_X9_freeMany_g : Room := { frames := 1, cells := 0, slots := 0, locals := 21 }
set_option maxHeartbeats 4000000 in
set_option maxRecDepth 100000 in
theorem c_X9_freeMany_g (l : Launch) (D : va_G) (cs : Nat → ClassId) (sz : Nat) (md : Nat) (m_all : Nat) (m_deeds : Nat) (m_trial : Nat) (m_hasImage : Nat) (m_tape : Nat) (m_key : Nat) (m_answered : Nat) (m_goes : Nat) (m_hotOnes : Nat) (m_indexed : Nat) (m_isChanged : Nat) (m_valueNow : Nat) (m_didSome : Nat) (m_sizes : Nat) (m_ends : Nat) (dm : Int32) (th : Int32) (sw : Int32) (we : Nat → Nat) (fm : Nat → Int32) (hE : ∀ j, j < 24 → fm (7 + j) = nI (we j) ∧ we j ≤ 64) : cMi l yX9_freeMany (Cond.code yX9_freeMany cX9_freeMany 3 (some .int)) (rm_c_X9_freeMany_g) D cs [.ref md] sz [(md, .inr (9, [.int th, .ref m_all, .ref m_deeds, .ref m_trial, .int dm, .ref m_hasImage, .ref m_tape, .ref m_key, .ref m_answered, .int 0, .int 0, .int 0, .ref m_goes, .int sw, .ref m_hotOnes, .ref m_indexed, .ref m_isChanged, .int 0, .ref m_valueNow, .int 0, .int (-1), .int 0, .ref m_didSome, .ref m_sizes, .ref m_ends])), (m_all, aI cs 51207 fm)] (fun (r : Int32) (u : Unit) => (r = (nI (zc we 24)))) (fun (u : Unit) => [(md, .inr (9, [.int th, .ref m_all, .ref m_deeds, .ref m_trial, .int dm, .ref m_hasImage, .ref m_tape, .ref m_key, .ref m_answered, .int 0, .int 0, .int 0, .ref m_goes, .int sw, .ref m_hotOnes, .ref m_indexed, .ref m_isChanged, .int 0, .ref m_valueNow, .int 0, .int (-1), .int 0, .ref m_didSome, .ref m_sizes, .ref m_ends])), (m_all, aI cs 51207 fm)]) := by
  refine kMet_i RX9 (by decide) rfl (Nat.le_of_ble_eq_true rfl) ?_
  intro p e s m below meth c ls A Qz H locs hx hb hml hown hin hu hK hsz hA hP hD hS hl hz
  subst hsz
  have hl : lv_has ls 3 [(0, .ref md)] := hl
  refine lv_iconst (v := 0) hx hb dX9_freeMany_0 (by decide) ?_
  refine lv_istore_n (lv' := [(1, .int 0), (0, .ref md)]) hx hb dX9_freeMany_1 rfl hl (by decide) rfl (fun ls hl => ?_)
  refine lv_iconst (v := 0) hx hb dX9_freeMany_2 (by decide) ?_
  refine lv_istore_n (lv' := [(2, .int 0), (1, .int 0), (0, .ref md)]) hx hb dX9_freeMany_3 rfl hl (by decide) rfl (fun ls hl => ?_)
  have lp_1 : ∀ (fuel : Nat) (i : Nat) (fr : Int32) (hfuel : 24 < i + fuel) (hi : i ≤ 24) (hfr : fr = nI (zc we i)) (H : Heap) (locs : List Loc) (hP : va_P D vwCl [(md, .inr (9, [.int th, .ref m_all, .ref m_deeds, .ref m_trial, .int dm, .ref m_hasImage, .ref m_tape, .ref m_key, .ref m_answered, .int 0, .int 0, .int 0, .ref m_goes, .int sw, .ref m_hotOnes, .ref m_indexed, .ref m_isChanged, .int 0, .ref m_valueNow, .int 0, .int (-1), .int 0, .ref m_didSome, .ref m_sizes, .ref m_ends])), (m_all, aI cs 51207 fm)] H) (hD : va_D A [(md, .inr (9, [.int th, .ref m_all, .ref m_deeds, .ref m_trial, .int dm, .ref m_hasImage, .ref m_tape, .ref m_key, .ref m_answered, .int 0, .int 0, .int 0, .ref m_goes, .int sw, .ref m_hotOnes, .ref m_indexed, .ref m_isChanged, .int 0, .ref m_valueNow, .int 0, .int (-1), .int 0, .ref m_didSome, .ref m_sizes, .ref m_ends])), (m_all, aI cs 51207 fm)]) (hS : va_S A s.heap H locs) (ls : Array Slot) (hl : lv_has ls 3 [(2, .int (nI i)), (1, .int fr), (0, .ref md)]), W p l e rm_c_X9_freeMany_g s m [.ref md].toArray below meth c H locs 0 0 Qz (F0 m 4 ls []) := by
    intro fuel
    induction fuel with
    | zero =>
      intro i fr hfuel hi hfr H locs hP hD hS ls hl
      exact absurd hfuel (by omega)
    | succ fuel ih =>
      intro i fr hfuel hi hfr H locs hP hD hS ls hl
      refine lv_iload_n hx hb dX9_freeMany_4 rfl (lv_at hl 0 rfl) ?_
      refine lv_bipush (v := 24) hx hb dX9_freeMany_5 (by decide) ?_
      refine lv_icmp_ge (tgt := 32) hx hb dX9_freeMany_7 (by decide) (fun c_2 => ?_) (fun c_2 => ?_)
      · have gc_2 : 24 ≤ i := (nI_leI (a := 24) (b := i) (by omega) (by omega)).mp c_2
        refine lv_iload_n hx hb dX9_freeMany_32 rfl (lv_at hl 1 rfl) ?_
        exact hz () hP hD hS (by have e9 : i = 24 := (by omega); rw [hfr, e9]) [0, 1] rfl rfl (Nat.le_of_ble_eq_true rfl) (Nat.le_of_ble_eq_true rfl) .int rfl rfl dX9_freeMany_33
      · have gc_2 : ¬ 24 ≤ i := fun h => c_2 ((nI_leI (a := 24) (b := i) (by omega) (by omega)).mpr h)
        refine lv_iload_n hx hb dX9_freeMany_10 rfl (lv_at hl 1 rfl) ?_
        refine lv_aload_n hx hb dX9_freeMany_11 rfl (lv_at hl 2 rfl) ?_
        refine lv_iload_n hx hb dX9_freeMany_12 rfl (lv_at hl 0 rfl) ?_
        refine kV_i (ci := 9) (As := [.int (nI i)]) (rest := [.int fr]) (wc := [(md, .inr (9, [.int th, .ref m_all, .ref m_deeds, .ref m_trial, .int dm, .ref m_hasImage, .ref m_tape, .ref m_key, .ref m_answered, .int 0, .int 0, .int 0, .ref m_goes, .int sw, .ref m_hotOnes, .ref m_indexed, .ref m_isChanged, .int 0, .ref m_valueNow, .int 0, .int (-1), .int 0, .ref m_didSome, .ref m_sizes, .ref m_ends])), (m_all, aI cs 51207 fm)]) (wr := []) hx hb hml hown hu hK hP hD hS hA hl.1 (c_X9_isFree_g l D cs H.size md m_all m_deeds m_trial m_hasImage m_tape m_key m_answered m_goes m_hotOnes m_indexed m_isChanged m_valueNow m_didSome m_sizes m_ends dm th sw we i fm hE (by omega)) (gV u_1188 u_1190 u_13 u_76 u_1191) hd_X9_isFree ⟨(Nat.le_of_ble_eq_true rfl), (Nat.le_of_ble_eq_true rfl)⟩ [0, 1] [] rfl rfl rfl rfl (by decide) rfl 0 rfl rfl rfl (Nat.le_of_ble_eq_true rfl) dX9_freeMany_13 ⟨(Nat.le_of_ble_eq_true rfl), (Nat.le_of_ble_eq_true rfl)⟩ (fun r_3 ut_4 H locs hw_5 hP hD hS => ?_)
        have hP : va_P D vwCl [(md, .inr (9, [.int th, .ref m_all, .ref m_deeds, .ref m_trial, .int dm, .ref m_hasImage, .ref m_tape, .ref m_key, .ref m_answered, .int 0, .int 0, .int 0, .ref m_goes, .int sw, .ref m_hotOnes, .ref m_indexed, .ref m_isChanged, .int 0, .ref m_valueNow, .int 0, .int (-1), .int 0, .ref m_didSome, .ref m_sizes, .ref m_ends])), (m_all, aI cs 51207 fm)] H := hP
        have hD : va_D A [(md, .inr (9, [.int th, .ref m_all, .ref m_deeds, .ref m_trial, .int dm, .ref m_hasImage, .ref m_tape, .ref m_key, .ref m_answered, .int 0, .int 0, .int 0, .ref m_goes, .int sw, .ref m_hotOnes, .ref m_indexed, .ref m_isChanged, .int 0, .ref m_valueNow, .int 0, .int (-1), .int 0, .ref m_didSome, .ref m_sizes, .ref m_ends])), (m_all, aI cs 51207 fm)] := hD
        rcases hw_5 with hw_5 | hw_5
        · obtain ⟨er_6, hf_7⟩ := hw_5
          subst er_6
          refine lv_if_eq (tgt := 23) hx hb dX9_freeMany_16 (by decide) (fun c_8 => absurd c_8 (by decide)) (fun c_8 => ?_)
          refine lv_iconst (v := 1) hx hb dX9_freeMany_19 (by decide) ?_
          refine lv_goto (tgt := 24) hx hb dX9_freeMany_20 (by decide) ?_
          refine lv_iadd hx hb dX9_freeMany_24 ?_
          refine lv_istore_n (lv' := [(1, .int (fr + 1)), (2, .int (nI i)), (0, .ref md)]) hx hb dX9_freeMany_25 rfl hl (by decide) rfl (fun ls hl => ?_)
          refine lv_iinc (v := nI (i + 1)) (lv' := [(2, .int (nI (i + 1))), (1, .int (fr + 1)), (0, .ref md)]) hx hb dX9_freeMany_26 hl (k := 1) rfl (nI_1 _) (by decide) rfl (fun ls hl => ?_)
          refine lv_goto (tgt := 4) hx hb dX9_freeMany_29 (by decide) ?_
          exact ih (i + 1) (fr + 1) (by omega) (by omega) (by rw [hfr, zc_1 hf_7]; exact nI_1 _) H locs (hP.sub [0, 1] rfl) (hD.sub [0, 1] rfl rfl) hS ls (lv_sub hl [0, 1, 2] rfl)
        · obtain ⟨er_9, hf_10⟩ := hw_5
          subst er_9
          refine lv_if_eq (tgt := 23) hx hb dX9_freeMany_16 (by decide) (fun c_11 => ?_) (fun c_11 => absurd (by decide) c_11)
          refine lv_iconst (v := 0) hx hb dX9_freeMany_23 (by decide) ?_
          refine lv_iadd hx hb dX9_freeMany_24 ?_
          refine tpi (y := fr) (i_add0 _) ?_
          refine lv_istore_n (lv' := [(1, .int fr), (2, .int (nI i)), (0, .ref md)]) hx hb dX9_freeMany_25 rfl hl (by decide) rfl (fun ls hl => ?_)
          refine lv_iinc (v := nI (i + 1)) (lv' := [(2, .int (nI (i + 1))), (1, .int fr), (0, .ref md)]) hx hb dX9_freeMany_26 hl (k := 1) rfl (nI_1 _) (by decide) rfl (fun ls hl => ?_)
          refine lv_goto (tgt := 4) hx hb dX9_freeMany_29 (by decide) ?_
          exact ih (i + 1) fr (by omega) (by omega) (by rw [zc_0 hf_10]; exact hfr) H locs (hP.sub [0, 1] rfl) (hD.sub [0, 1] rfl rfl) hS ls (lv_sub hl [0, 1, 2] rfl)
  exact lp_1 (24 + 1) 0 0 (by omega) (by omega) rfl H locs (hP.sub [0, 1] rfl) (hD.sub [0, 1] rfl rfl) hS ls (lv_sub hl [0, 1, 2] rfl)
abbrev rm_c_X9_placeFor_p : Room := { frames := 1, cells := 0, slots := 0, locals := 21 }
set_option maxHeartbeats 4000000 in
set_option maxRecDepth 100000 in
theorem c_X9_placeFor_p (l : Launch) (D : va_G) (cs : Nat → ClassId) (sz : Nat) (md : Nat) (m_all : Nat) (m_deeds : Nat) (m_trial : Nat) (m_hasImage : Nat) (m_tape : Nat) (m_key : Nat) (m_answered : Nat) (m_goes : Nat) (m_hotOnes : Nat) (m_indexed : Nat) (m_isChanged : Nat) (m_valueNow : Nat) (m_didSome : Nat) (m_sizes : Nat) (m_ends : Nat) (dm : Int32) (th : Int32) (sw : Int32) (zz : Nat) (qq : Nat) (fm : Nat → Int32) (we : Nat → Nat) (hE : ∀ j, j < 24 → fm (7 + j) = nI (we j) ∧ we j ≤ 64) (hzz : 1 ≤ zz ∧ zz ≤ 64) (hF : ∀ j, j < qq → 0 < we j ∧ 64 < we j + zz) (hG : ∀ j, qq < j → j < 24 → we j = 0) (hqz : we qq + zz ≤ 64) (hL : 0 < we qq → fm 1 = nI qq) (hq22 : qq ≤ 22) (h2 : fm 2 = 0) (her : ∀ j, j < 24 → fm (31 + j) = 0) (hc : 0 < we qq) : cMi l yX9_placeFor (Cond.code yX9_placeFor cX9_placeFor 6 (some .int)) (rm_c_X9_placeFor_p) D cs [.ref md, .int (nI zz), .int (-1), .int 2] sz [(md, .inr (9, [.int th, .ref m_all, .ref m_deeds, .ref m_trial, .int dm, .ref m_hasImage, .ref m_tape, .ref m_key, .ref m_answered, .int 0, .int 0, .int 0, .ref m_goes, .int sw, .ref m_hotOnes, .ref m_indexed, .ref m_isChanged, .int 0, .ref m_valueNow, .int 0, .int (-1), .int 0, .ref m_didSome, .ref m_sizes, .ref m_ends])), (m_all, aI cs 51207 fm)] (fun (r : Int32) (u : Unit) => (r = (nI qq))) (fun (u : Unit) => [(md, .inr (9, [.int th, .ref m_all, .ref m_deeds, .ref m_trial, .int dm, .ref m_hasImage, .ref m_tape, .ref m_key, .ref m_answered, .int 0, .int 0, .int 0, .ref m_goes, .int sw, .ref m_hotOnes, .ref m_indexed, .ref m_isChanged, .int 0, .ref m_valueNow, .int 0, .int (-1), .int 0, .ref m_didSome, .ref m_sizes, .ref m_ends])), (m_all, aI cs 51207 fm)]) := by
  refine kMet_i RX9 (by decide) rfl (Nat.le_of_ble_eq_true rfl) ?_
  intro p e s m below meth c ls A Qz H locs hx hb hml hown hin hu hK hsz hA hP hD hS hl hz
  subst hsz
  have hl : lv_has ls 6 [(0, .ref md), (1, .int (nI zz)), (2, .int (-1)), (3, .int 2)] := hl
  refine lv_iconst (v := (-1)) hx hb dX9_placeFor_0 (by decide) ?_
  refine lv_istore (lv' := [(4, .int (-1)), (0, .ref md), (1, .int (nI zz)), (2, .int (-1)), (3, .int 2)]) hx hb dX9_placeFor_1 hl (by decide) rfl (fun ls hl => ?_)
  refine lv_iconst (v := 0) hx hb dX9_placeFor_3 (by decide) ?_
  refine lv_istore (lv' := [(5, .int 0), (4, .int (-1)), (0, .ref md), (1, .int (nI zz)), (2, .int (-1)), (3, .int 2)]) hx hb dX9_placeFor_4 hl (by decide) rfl (fun ls hl => ?_)
  have lp_1 : ∀ (fuel : Nat) (i : Nat) (t : Int32) (hfuel : 24 < i + fuel) (hi : i ≤ 24) (ht : (i ≤ qq → t = -1) ∧ (qq < i → t = nI qq)) (H : Heap) (locs : List Loc) (hP : va_P D vwCl [(md, .inr (9, [.int th, .ref m_all, .ref m_deeds, .ref m_trial, .int dm, .ref m_hasImage, .ref m_tape, .ref m_key, .ref m_answered, .int 0, .int 0, .int 0, .ref m_goes, .int sw, .ref m_hotOnes, .ref m_indexed, .ref m_isChanged, .int 0, .ref m_valueNow, .int 0, .int (-1), .int 0, .ref m_didSome, .ref m_sizes, .ref m_ends])), (m_all, aI cs 51207 fm)] H) (hD : va_D A [(md, .inr (9, [.int th, .ref m_all, .ref m_deeds, .ref m_trial, .int dm, .ref m_hasImage, .ref m_tape, .ref m_key, .ref m_answered, .int 0, .int 0, .int 0, .ref m_goes, .int sw, .ref m_hotOnes, .ref m_indexed, .ref m_isChanged, .int 0, .ref m_valueNow, .int 0, .int (-1), .int 0, .ref m_didSome, .ref m_sizes, .ref m_ends])), (m_all, aI cs 51207 fm)]) (hS : va_S A s.heap H locs) (ls : Array Slot) (hl : lv_has ls 6 [(5, .int (nI i)), (4, .int t), (0, .ref md), (1, .int (nI zz)), (2, .int (-1)), (3, .int 2)]), W p l e rm_c_X9_placeFor_p s m [.ref md, .int (nI zz), .int (-1), .int 2].toArray below meth c H locs 0 0 Qz (F0 m 6 ls []) := by
    intro fuel
    induction fuel with
    | zero =>
      intro i t hfuel hi ht H locs hP hD hS ls hl
      exact absurd hfuel (by omega)
    | succ fuel ih =>
      intro i t hfuel hi ht H locs hP hD hS ls hl
      refine lv_iload hx hb dX9_placeFor_6 (lv_at hl 0 rfl) ?_
      refine lv_bipush (v := 24) hx hb dX9_placeFor_8 (by decide) ?_
      refine lv_icmp_ge (tgt := 120) hx hb dX9_placeFor_10 (by decide) (fun c_2 => ?_) (fun c_2 => ?_)
      · have gc_2 : 24 ≤ i := (nI_leI (a := 24) (b := i) (by omega) (by omega)).mp c_2
        refine lv_iload hx hb dX9_placeFor_120 (lv_at hl 1 rfl) ?_
        refine lv_iconst (v := (-1)) hx hb dX9_placeFor_122 (by decide) ?_
        refine lv_icmp_ne (tgt := 134) hx hb dX9_placeFor_123 (by decide) (fun c_3 => ?_) (fun c_3 => absurd c_3 (by rw [ht.2 (by omega)]; exact nI_nem1 (by omega)))
        refine lv_iload hx hb dX9_placeFor_134 (lv_at hl 1 rfl) ?_
        exact hz () hP hD hS (ht.2 (by omega)) [0, 1] rfl rfl (Nat.le_of_ble_eq_true rfl) (Nat.le_of_ble_eq_true rfl) .int rfl rfl dX9_placeFor_136
      · have gc_2 : ¬ 24 ≤ i := fun h => c_2 ((nI_leI (a := 24) (b := i) (by omega) (by omega)).mpr h)
        refine lv_iload hx hb dX9_placeFor_13 (lv_at hl 0 rfl) ?_
        refine lv_iload_n hx hb dX9_placeFor_15 rfl (lv_at hl 4 rfl) ?_
        refine lv_icmp_eq (tgt := 114) hx hb dX9_placeFor_16 (by decide) (fun c_4 => absurd c_4 (nI_nem1 (by omega))) (fun c_4 => ?_)
        refine lv_aload_n hx hb dX9_placeFor_19 rfl (lv_at hl 2 rfl) ?_
        refine lv_iload hx hb dX9_placeFor_20 (lv_at hl 0 rfl) ?_
        refine kV_i (ci := 9) (As := [.int (nI i)]) (rest := []) (wc := [(md, .inr (9, [.int th, .ref m_all, .ref m_deeds, .ref m_trial, .int dm, .ref m_hasImage, .ref m_tape, .ref m_key, .ref m_answered, .int 0, .int 0, .int 0, .ref m_goes, .int sw, .ref m_hotOnes, .ref m_indexed, .ref m_isChanged, .int 0, .ref m_valueNow, .int 0, .int (-1), .int 0, .ref m_didSome, .ref m_sizes, .ref m_ends])), (m_all, aI cs 51207 fm)]) (wr := []) hx hb hml hown hu hK hP hD hS hA hl.1 (c_X9_isFree_g l D cs H.size md m_all m_deeds m_trial m_hasImage m_tape m_key m_answered m_goes m_hotOnes m_indexed m_isChanged m_valueNow m_didSome m_sizes m_ends dm th sw we i fm hE (by omega)) (gV u_1188 u_1190 u_13 u_76 u_1191) hd_X9_isFree ⟨(Nat.le_of_ble_eq_true rfl), (Nat.le_of_ble_eq_true rfl)⟩ [0, 1] [] rfl rfl rfl rfl (by decide) rfl 0 rfl rfl rfl (Nat.le_of_ble_eq_true rfl) dX9_placeFor_22 ⟨(Nat.le_of_ble_eq_true rfl), (Nat.le_of_ble_eq_true rfl)⟩ (fun r_5 ut_6 H locs hw_7 hP hD hS => ?_)
        have hP : va_P D vwCl [(md, .inr (9, [.int th, .ref m_all, .ref m_deeds, .ref m_trial, .int dm, .ref m_hasImage, .ref m_tape, .ref m_key, .ref m_answered, .int 0, .int 0, .int 0, .ref m_goes, .int sw, .ref m_hotOnes, .ref m_indexed, .ref m_isChanged, .int 0, .ref m_valueNow, .int 0, .int (-1), .int 0, .ref m_didSome, .ref m_sizes, .ref m_ends])), (m_all, aI cs 51207 fm)] H := hP
        have hD : va_D A [(md, .inr (9, [.int th, .ref m_all, .ref m_deeds, .ref m_trial, .int dm, .ref m_hasImage, .ref m_tape, .ref m_key, .ref m_answered, .int 0, .int 0, .int 0, .ref m_goes, .int sw, .ref m_hotOnes, .ref m_indexed, .ref m_isChanged, .int 0, .ref m_valueNow, .int 0, .int (-1), .int 0, .ref m_didSome, .ref m_sizes, .ref m_ends])), (m_all, aI cs 51207 fm)] := hD
        rcases hw_7 with hw_7 | hw_7
        · obtain ⟨er_8, hf_9⟩ := hw_7
          subst er_8
          refine lv_if_ne (tgt := 114) hx hb dX9_placeFor_25 (by decide) (fun c_10 => ?_) (fun c_10 => absurd c_10 (by decide))
          refine lv_iinc (v := nI (i + 1)) (lv' := [(5, .int (nI (i + 1))), (4, .int t), (0, .ref md), (1, .int (nI zz)), (2, .int (-1)), (3, .int 2)]) hx hb dX9_placeFor_114 hl (k := 0) rfl (nI_1 _) (by decide) rfl (fun ls hl => ?_)
          refine lv_goto (tgt := 6) hx hb dX9_placeFor_117 (by decide) ?_
          exact ih (i + 1) t (by omega) (by omega) (by have hne : i ≠ qq := (by intro h; subst h; omega); exact ⟨fun h => ht.1 (by omega), fun h => ht.2 (by omega)⟩) H locs (hP.sub [0, 1] rfl) (hD.sub [0, 1] rfl rfl) hS ls (lv_sub hl [0, 1, 2, 3, 4, 5] rfl)
        · obtain ⟨er_11, hf_12⟩ := hw_7
          subst er_11
          refine lv_if_ne (tgt := 114) hx hb dX9_placeFor_25 (by decide) (fun c_13 => absurd (by decide) c_13) (fun c_13 => ?_)
          refine lv_aload_n hx hb dX9_placeFor_28 rfl (lv_at hl 2 rfl) ?_
          refine va_get (D := D) (ci := 9) (v := .ref m_all) (C := RX9) (T := TX9) (N := 25) hx hb hu in_X9 hown hK.1 hP 0 rfl rfl 1 (by decide) (hu _ u_1081) (fun _ h9 => h9) rfl dX9_placeFor_29 ?_
          refine lv_bipush (v := 7) hx hb dX9_placeFor_32 (by decide) ?_
          refine lv_iload hx hb dX9_placeFor_34 (lv_at hl 0 rfl) ?_
          refine lv_iadd hx hb dX9_placeFor_36 ?_
          refine tpi (y := nI (7 + i)) (nI_add _ _) ?_
          refine va_iald hx hb hK.1 hP 1 0 rfl rfl (vp_in_nI (by omega) (by omega)) dX9_placeFor_37 ?_
          have hw_14 := (hE i (by omega)).2
          refine tpi (y := nI (we i)) ((congrArg fm (nI_clamp (by omega))).trans (hE _ (by omega)).1) ?_
          refine lv_iload_n hx hb dX9_placeFor_38 rfl (lv_at hl 3 rfl) ?_
          refine lv_iadd hx hb dX9_placeFor_39 ?_
          refine tpi (y := nI (we i + zz)) (nI_add _ _) ?_
          refine lv_bipush (v := 64) hx hb dX9_placeFor_40 (by decide) ?_
          refine lv_icmp_le (tgt := 48) hx hb dX9_placeFor_42 (by decide) (fun c_15 => ?_) (fun c_15 => ?_)
          · have gc_15 : we i + zz ≤ 64 := (nI_leI (a := (we i + zz)) (b := 64) (by omega) (by omega)).mp c_15
            refine lv_aload_n hx hb dX9_placeFor_48 rfl (lv_at hl 2 rfl) ?_
            refine va_get (D := D) (ci := 9) (v := .ref m_all) (C := RX9) (T := TX9) (N := 25) hx hb hu in_X9 hown hK.1 hP 0 rfl rfl 1 (by decide) (hu _ u_1081) (fun _ h9 => h9) rfl dX9_placeFor_49 ?_
            refine lv_iconst (v := 2) hx hb dX9_placeFor_52 (by decide) ?_
            refine va_iald hx hb hK.1 hP 1 0 rfl rfl (vin_c _ _ rfl) dX9_placeFor_53 ?_
            refine tpi (y := 0) h2 ?_
            refine lv_if_ne (tgt := 71) hx hb dX9_placeFor_54 (by decide) (fun c_16 => absurd (by decide) c_16) (fun c_16 => ?_)
            refine lv_iload hx hb dX9_placeFor_57 (lv_at hl 0 rfl) ?_
            refine lv_aload_n hx hb dX9_placeFor_59 rfl (lv_at hl 2 rfl) ?_
            refine va_get (D := D) (ci := 9) (v := .ref m_all) (C := RX9) (T := TX9) (N := 25) hx hb hu in_X9 hown hK.1 hP 0 rfl rfl 1 (by decide) (hu _ u_1081) (fun _ h9 => h9) rfl dX9_placeFor_60 ?_
            refine lv_iconst (v := 1) hx hb dX9_placeFor_63 (by decide) ?_
            refine va_iald hx hb hK.1 hP 1 0 rfl rfl (vin_c _ _ rfl) dX9_placeFor_64 ?_
            refine tpi (y := nI qq) (hL hc) ?_
            refine lv_icmp_ne (tgt := 114) hx hb dX9_placeFor_65 (by decide) (fun c_17 => ?_) (fun c_17 => ?_)
            · have gc_17 : ¬ i = qq := fun h => c_17 ((nI_eq (a := i) (b := qq) (by omega) (by omega)).mpr h)
              refine lv_iinc (v := nI (i + 1)) (lv' := [(5, .int (nI (i + 1))), (4, .int t), (0, .ref md), (1, .int (nI zz)), (2, .int (-1)), (3, .int 2)]) hx hb dX9_placeFor_114 hl (k := 0) rfl (nI_1 _) (by decide) rfl (fun ls hl => ?_)
              refine lv_goto (tgt := 6) hx hb dX9_placeFor_117 (by decide) ?_
              exact ih (i + 1) t (by omega) (by omega) (by have hne : i ≠ qq := (by intro h; subst h; omega); exact ⟨fun h => ht.1 (by omega), fun h => ht.2 (by omega)⟩) H locs (hP.sub [0, 1] rfl) (hD.sub [0, 1] rfl rfl) hS ls (lv_sub hl [0, 1, 2, 3, 4, 5] rfl)
            · have gc_17 : i = qq := (nI_eq (a := i) (b := qq) (by omega) (by omega)).mp c_17
              refine lv_goto (tgt := 110) hx hb dX9_placeFor_68 (by decide) ?_
              refine lv_iload hx hb dX9_placeFor_110 (lv_at hl 0 rfl) ?_
              refine lv_istore (lv' := [(4, .int (nI i)), (5, .int (nI i)), (0, .ref md), (1, .int (nI zz)), (2, .int (-1)), (3, .int 2)]) hx hb dX9_placeFor_112 hl (by decide) rfl (fun ls hl => ?_)
              refine lv_iinc (v := nI (i + 1)) (lv' := [(5, .int (nI (i + 1))), (4, .int (nI i)), (0, .ref md), (1, .int (nI zz)), (2, .int (-1)), (3, .int 2)]) hx hb dX9_placeFor_114 hl (k := 1) rfl (nI_1 _) (by decide) rfl (fun ls hl => ?_)
              refine lv_goto (tgt := 6) hx hb dX9_placeFor_117 (by decide) ?_
              exact ih (i + 1) (nI i) (by omega) (by omega) (⟨fun h => absurd h (by omega), fun _ => congrArg nI gc_17⟩) H locs (hP.sub [0, 1] rfl) (hD.sub [0, 1] rfl rfl) hS ls (lv_sub hl [0, 1, 2, 3, 4, 5] rfl)
          · have gc_15 : ¬ (we i + zz) ≤ 64 := fun h => c_15 ((nI_leI (a := (we i + zz)) (b := 64) (by omega) (by omega)).mpr h)
            refine lv_goto (tgt := 114) hx hb dX9_placeFor_45 (by decide) ?_
            refine lv_iinc (v := nI (i + 1)) (lv' := [(5, .int (nI (i + 1))), (4, .int t), (0, .ref md), (1, .int (nI zz)), (2, .int (-1)), (3, .int 2)]) hx hb dX9_placeFor_114 hl (k := 0) rfl (nI_1 _) (by decide) rfl (fun ls hl => ?_)
            refine lv_goto (tgt := 6) hx hb dX9_placeFor_117 (by decide) ?_
            exact ih (i + 1) t (by omega) (by omega) (by have hne : i ≠ qq := (by intro h; subst h; omega); exact ⟨fun h => ht.1 (by omega), fun h => ht.2 (by omega)⟩) H locs (hP.sub [0, 1] rfl) (hD.sub [0, 1] rfl rfl) hS ls (lv_sub hl [0, 1, 2, 3, 4, 5] rfl)
  exact lp_1 (24 + 1) 0 (-1) (by omega) (by omega) (⟨fun _ => rfl, fun h => absurd h (by omega)⟩) H locs (hP.sub [0, 1] rfl) (hD.sub [0, 1] rfl rfl) hS ls (lv_sub hl [0, 1, 2, 3, 4, 5] rfl)
abbrev rm_c_X9_placeFor_z : Room := { frames := 2, cells := 0, slots := 0, locals := 43 }
set_option maxHeartbeats 4000000 in
set_option maxRecDepth 100000 in
theorem c_X9_placeFor_z (l : Launch) (D : va_G) (cs : Nat → ClassId) (sz : Nat) (md : Nat) (m_all : Nat) (m_deeds : Nat) (m_trial : Nat) (m_hasImage : Nat) (m_tape : Nat) (m_key : Nat) (m_answered : Nat) (m_goes : Nat) (m_hotOnes : Nat) (m_indexed : Nat) (m_isChanged : Nat) (m_valueNow : Nat) (m_didSome : Nat) (m_sizes : Nat) (m_ends : Nat) (dm : Int32) (th : Int32) (sw : Int32) (zz : Nat) (qq : Nat) (fm : Nat → Int32) (we : Nat → Nat) (hE : ∀ j, j < 24 → fm (7 + j) = nI (we j) ∧ we j ≤ 64) (hzz : 1 ≤ zz ∧ zz ≤ 64) (hF : ∀ j, j < qq → 0 < we j ∧ 64 < we j + zz) (hG : ∀ j, qq < j → j < 24 → we j = 0) (hqz : we qq + zz ≤ 64) (hL : 0 < we qq → fm 1 = nI qq) (hq22 : qq ≤ 22) (h2 : fm 2 = 0) (her : ∀ j, j < 24 → fm (31 + j) = 0) (hc : we qq = 0) : cMi l yX9_placeFor (Cond.code yX9_placeFor cX9_placeFor 6 (some .int)) (rm_c_X9_placeFor_z) D cs [.ref md, .int (nI zz), .int (-1), .int 2] sz [(md, .inr (9, [.int th, .ref m_all, .ref m_deeds, .ref m_trial, .int dm, .ref m_hasImage, .ref m_tape, .ref m_key, .ref m_answered, .int 0, .int 0, .int 0, .ref m_goes, .int sw, .ref m_hotOnes, .ref m_indexed, .ref m_isChanged, .int 0, .ref m_valueNow, .int 0, .int (-1), .int 0, .ref m_didSome, .ref m_sizes, .ref m_ends])), (m_all, aI cs 51207 fm)] (fun (r : Int32) (u : Unit) => (r = (nI qq))) (fun (u : Unit) => [(md, .inr (9, [.int th, .ref m_all, .ref m_deeds, .ref m_trial, .int dm, .ref m_hasImage, .ref m_tape, .ref m_key, .ref m_answered, .int 0, .int 0, .int 0, .ref m_goes, .int sw, .ref m_hotOnes, .ref m_indexed, .ref m_isChanged, .int 0, .ref m_valueNow, .int 0, .int (-1), .int 0, .ref m_didSome, .ref m_sizes, .ref m_ends])), (m_all, aI cs 51207 fm)]) := by
  refine kMet_i RX9 (by decide) rfl (Nat.le_of_ble_eq_true rfl) ?_
  intro p e s m below meth c ls A Qz H locs hx hb hml hown hin hu hK hsz hA hP hD hS hl hz
  subst hsz
  have hl : lv_has ls 6 [(0, .ref md), (1, .int (nI zz)), (2, .int (-1)), (3, .int 2)] := hl
  refine lv_iconst (v := (-1)) hx hb dX9_placeFor_0 (by decide) ?_
  refine lv_istore (lv' := [(4, .int (-1)), (0, .ref md), (1, .int (nI zz)), (2, .int (-1)), (3, .int 2)]) hx hb dX9_placeFor_1 hl (by decide) rfl (fun ls hl => ?_)
  refine lv_iconst (v := 0) hx hb dX9_placeFor_3 (by decide) ?_
  refine lv_istore (lv' := [(5, .int 0), (4, .int (-1)), (0, .ref md), (1, .int (nI zz)), (2, .int (-1)), (3, .int 2)]) hx hb dX9_placeFor_4 hl (by decide) rfl (fun ls hl => ?_)
  have lp_1 : ∀ (fuel : Nat) (i : Nat) (hfuel : 24 < i + fuel) (hi : i ≤ 24) (H : Heap) (locs : List Loc) (hP : va_P D vwCl [(md, .inr (9, [.int th, .ref m_all, .ref m_deeds, .ref m_trial, .int dm, .ref m_hasImage, .ref m_tape, .ref m_key, .ref m_answered, .int 0, .int 0, .int 0, .ref m_goes, .int sw, .ref m_hotOnes, .ref m_indexed, .ref m_isChanged, .int 0, .ref m_valueNow, .int 0, .int (-1), .int 0, .ref m_didSome, .ref m_sizes, .ref m_ends])), (m_all, aI cs 51207 fm)] H) (hD : va_D A [(md, .inr (9, [.int th, .ref m_all, .ref m_deeds, .ref m_trial, .int dm, .ref m_hasImage, .ref m_tape, .ref m_key, .ref m_answered, .int 0, .int 0, .int 0, .ref m_goes, .int sw, .ref m_hotOnes, .ref m_indexed, .ref m_isChanged, .int 0, .ref m_valueNow, .int 0, .int (-1), .int 0, .ref m_didSome, .ref m_sizes, .ref m_ends])), (m_all, aI cs 51207 fm)]) (hS : va_S A s.heap H locs) (ls : Array Slot) (hl : lv_has ls 6 [(5, .int (nI i)), (4, .int (-1)), (0, .ref md), (1, .int (nI zz)), (2, .int (-1)), (3, .int 2)]), W p l e rm_c_X9_placeFor_z s m [.ref md, .int (nI zz), .int (-1), .int 2].toArray below meth c H locs 0 0 Qz (F0 m 6 ls []) := by
    intro fuel
    induction fuel with
    | zero =>
      intro i hfuel hi H locs hP hD hS ls hl
      exact absurd hfuel (by omega)
    | succ fuel ih =>
      intro i hfuel hi H locs hP hD hS ls hl
      refine lv_iload hx hb dX9_placeFor_6 (lv_at hl 0 rfl) ?_
      refine lv_bipush (v := 24) hx hb dX9_placeFor_8 (by decide) ?_
      refine lv_icmp_ge (tgt := 120) hx hb dX9_placeFor_10 (by decide) (fun c_2 => ?_) (fun c_2 => ?_)
      · have gc_2 : 24 ≤ i := (nI_leI (a := 24) (b := i) (by omega) (by omega)).mp c_2
        refine lv_iload hx hb dX9_placeFor_120 (lv_at hl 1 rfl) ?_
        refine lv_iconst (v := (-1)) hx hb dX9_placeFor_122 (by decide) ?_
        refine lv_icmp_ne (tgt := 134) hx hb dX9_placeFor_123 (by decide) (fun c_3 => absurd (by decide) c_3) (fun c_3 => ?_)
        refine lv_aload_n hx hb dX9_placeFor_126 rfl (lv_at hl 2 rfl) ?_
        refine kV_i (ci := 9) (As := []) (rest := []) (wc := [(md, .inr (9, [.int th, .ref m_all, .ref m_deeds, .ref m_trial, .int dm, .ref m_hasImage, .ref m_tape, .ref m_key, .ref m_answered, .int 0, .int 0, .int 0, .ref m_goes, .int sw, .ref m_hotOnes, .ref m_indexed, .ref m_isChanged, .int 0, .ref m_valueNow, .int 0, .int (-1), .int 0, .ref m_didSome, .ref m_sizes, .ref m_ends])), (m_all, aI cs 51207 fm)]) (wr := []) hx hb hml hown hu hK hP hD hS hA hl.1 (c_X9_freeMany_g l D cs H.size md m_all m_deeds m_trial m_hasImage m_tape m_key m_answered m_goes m_hotOnes m_indexed m_isChanged m_valueNow m_didSome m_sizes m_ends dm th sw we fm hE) (gV u_1192 u_1194 u_14 u_76 u_1195) hd_X9_freeMany ⟨(Nat.le_of_ble_eq_true rfl), (Nat.le_of_ble_eq_true rfl)⟩ [0, 1] [] rfl rfl rfl rfl (by decide) rfl 0 rfl rfl rfl (Nat.le_of_ble_eq_true rfl) dX9_placeFor_127 ⟨(Nat.le_of_ble_eq_true rfl), (Nat.le_of_ble_eq_true rfl)⟩ (fun r_4 ut_5 H locs hw_6 hP hD hS => ?_)
        have hP : va_P D vwCl [(md, .inr (9, [.int th, .ref m_all, .ref m_deeds, .ref m_trial, .int dm, .ref m_hasImage, .ref m_tape, .ref m_key, .ref m_answered, .int 0, .int 0, .int 0, .ref m_goes, .int sw, .ref m_hotOnes, .ref m_indexed, .ref m_isChanged, .int 0, .ref m_valueNow, .int 0, .int (-1), .int 0, .ref m_didSome, .ref m_sizes, .ref m_ends])), (m_all, aI cs 51207 fm)] H := hP
        have hD : va_D A [(md, .inr (9, [.int th, .ref m_all, .ref m_deeds, .ref m_trial, .int dm, .ref m_hasImage, .ref m_tape, .ref m_key, .ref m_answered, .int 0, .int 0, .int 0, .ref m_goes, .int sw, .ref m_hotOnes, .ref m_indexed, .ref m_isChanged, .int 0, .ref m_valueNow, .int 0, .int (-1), .int 0, .ref m_didSome, .ref m_sizes, .ref m_ends])), (m_all, aI cs 51207 fm)] := hD
        have er_7 := hw_6
        subst er_7
        refine lv_iload_n hx hb dX9_placeFor_130 rfl (lv_at hl 5 rfl) ?_
        refine lv_icmp_ge (tgt := 137) hx hb dX9_placeFor_131 (by decide) (fun c_8 => ?_) (fun c_8 => absurd ((nI_leI (a := 2) (by omega) (by have := zc_le we 24; omega)).mpr (by rw [(zc_of (u := qq) (fun j hj => (hF j hj).1) 24 (fun j h1 h2 => by rcases Nat.lt_or_ge qq j with a | a; (exact hG j a h2); (obtain rfl : j = qq := (by omega)); exact hc))]; omega)) c_8)
        refine lv_iconst (v := 0) hx hb dX9_placeFor_137 (by decide) ?_
        refine lv_istore (lv' := [(5, .int 0), (4, .int (-1)), (0, .ref md), (1, .int (nI zz)), (2, .int (-1)), (3, .int 2)]) hx hb dX9_placeFor_138 hl (by decide) rfl (fun ls hl => ?_)
        have lp_9 : ∀ (fuel : Nat) (i : Nat) (t : Int32) (hfuel : 24 < i + fuel) (hi : i ≤ 24) (ht : (i ≤ qq → t = -1) ∧ (qq < i → t = nI qq)) (H : Heap) (locs : List Loc) (hP : va_P D vwCl [(md, .inr (9, [.int th, .ref m_all, .ref m_deeds, .ref m_trial, .int dm, .ref m_hasImage, .ref m_tape, .ref m_key, .ref m_answered, .int 0, .int 0, .int 0, .ref m_goes, .int sw, .ref m_hotOnes, .ref m_indexed, .ref m_isChanged, .int 0, .ref m_valueNow, .int 0, .int (-1), .int 0, .ref m_didSome, .ref m_sizes, .ref m_ends])), (m_all, aI cs 51207 fm)] H) (hD : va_D A [(md, .inr (9, [.int th, .ref m_all, .ref m_deeds, .ref m_trial, .int dm, .ref m_hasImage, .ref m_tape, .ref m_key, .ref m_answered, .int 0, .int 0, .int 0, .ref m_goes, .int sw, .ref m_hotOnes, .ref m_indexed, .ref m_isChanged, .int 0, .ref m_valueNow, .int 0, .int (-1), .int 0, .ref m_didSome, .ref m_sizes, .ref m_ends])), (m_all, aI cs 51207 fm)]) (hS : va_S A s.heap H locs) (ls : Array Slot) (hl : lv_has ls 6 [(5, .int (nI i)), (4, .int t), (0, .ref md), (1, .int (nI zz)), (2, .int (-1)), (3, .int 2)]), W p l e rm_c_X9_placeFor_z s m [.ref md, .int (nI zz), .int (-1), .int 2].toArray below meth c H locs 0 0 Qz (F0 m 140 ls []) := by
          intro fuel
          induction fuel with
          | zero =>
            intro i t hfuel hi ht H locs hP hD hS ls hl
            exact absurd hfuel (by omega)
          | succ fuel ih =>
            intro i t hfuel hi ht H locs hP hD hS ls hl
            refine lv_iload hx hb dX9_placeFor_140 (lv_at hl 0 rfl) ?_
            refine lv_bipush (v := 24) hx hb dX9_placeFor_142 (by decide) ?_
            refine lv_icmp_ge (tgt := 201) hx hb dX9_placeFor_144 (by decide) (fun c_10 => ?_) (fun c_10 => ?_)
            · have gc_10 : 24 ≤ i := (nI_leI (a := 24) (b := i) (by omega) (by omega)).mp c_10
              refine lv_iload hx hb dX9_placeFor_201 (lv_at hl 1 rfl) ?_
              exact hz () hP hD hS (ht.2 (by omega)) [0, 1] rfl rfl (Nat.le_of_ble_eq_true rfl) (Nat.le_of_ble_eq_true rfl) .int rfl rfl dX9_placeFor_203
            · have gc_10 : ¬ 24 ≤ i := fun h => c_10 ((nI_leI (a := 24) (b := i) (by omega) (by omega)).mpr h)
              refine lv_aload_n hx hb dX9_placeFor_147 rfl (lv_at hl 2 rfl) ?_
              refine lv_iload hx hb dX9_placeFor_148 (lv_at hl 0 rfl) ?_
              refine kV_i (ci := 9) (As := [.int (nI i)]) (rest := []) (wc := [(md, .inr (9, [.int th, .ref m_all, .ref m_deeds, .ref m_trial, .int dm, .ref m_hasImage, .ref m_tape, .ref m_key, .ref m_answered, .int 0, .int 0, .int 0, .ref m_goes, .int sw, .ref m_hotOnes, .ref m_indexed, .ref m_isChanged, .int 0, .ref m_valueNow, .int 0, .int (-1), .int 0, .ref m_didSome, .ref m_sizes, .ref m_ends])), (m_all, aI cs 51207 fm)]) (wr := []) hx hb hml hown hu hK hP hD hS hA hl.1 (c_X9_isFree_g l D cs H.size md m_all m_deeds m_trial m_hasImage m_tape m_key m_answered m_goes m_hotOnes m_indexed m_isChanged m_valueNow m_didSome m_sizes m_ends dm th sw we i fm hE (by omega)) (gV u_1188 u_1190 u_13 u_76 u_1191) hd_X9_isFree ⟨(Nat.le_of_ble_eq_true rfl), (Nat.le_of_ble_eq_true rfl)⟩ [0, 1] [] rfl rfl rfl rfl (by decide) rfl 0 rfl rfl rfl (Nat.le_of_ble_eq_true rfl) dX9_placeFor_150 ⟨(Nat.le_of_ble_eq_true rfl), (Nat.le_of_ble_eq_true rfl)⟩ (fun r_11 ut_12 H locs hw_13 hP hD hS => ?_)
              have hP : va_P D vwCl [(md, .inr (9, [.int th, .ref m_all, .ref m_deeds, .ref m_trial, .int dm, .ref m_hasImage, .ref m_tape, .ref m_key, .ref m_answered, .int 0, .int 0, .int 0, .ref m_goes, .int sw, .ref m_hotOnes, .ref m_indexed, .ref m_isChanged, .int 0, .ref m_valueNow, .int 0, .int (-1), .int 0, .ref m_didSome, .ref m_sizes, .ref m_ends])), (m_all, aI cs 51207 fm)] H := hP
              have hD : va_D A [(md, .inr (9, [.int th, .ref m_all, .ref m_deeds, .ref m_trial, .int dm, .ref m_hasImage, .ref m_tape, .ref m_key, .ref m_answered, .int 0, .int 0, .int 0, .ref m_goes, .int sw, .ref m_hotOnes, .ref m_indexed, .ref m_isChanged, .int 0, .ref m_valueNow, .int 0, .int (-1), .int 0, .ref m_didSome, .ref m_sizes, .ref m_ends])), (m_all, aI cs 51207 fm)] := hD
              rcases hw_13 with hw_13 | hw_13
              · obtain ⟨er_14, hf_15⟩ := hw_13
                subst er_14
                refine lv_if_eq (tgt := 195) hx hb dX9_placeFor_153 (by decide) (fun c_16 => absurd c_16 (by decide)) (fun c_16 => ?_)
                refine lv_iload hx hb dX9_placeFor_156 (lv_at hl 0 rfl) ?_
                refine lv_iload_n hx hb dX9_placeFor_158 rfl (lv_at hl 4 rfl) ?_
                refine lv_icmp_eq (tgt := 195) hx hb dX9_placeFor_159 (by decide) (fun c_17 => absurd c_17 (nI_nem1 (by omega))) (fun c_17 => ?_)
                rcases (Nat.lt_or_ge qq i) with hc9 | hc9
                · obtain rfl : t = nI qq := ht.2 hc9
                  refine lv_iload hx hb dX9_placeFor_162 (lv_at hl 1 rfl) ?_
                  refine lv_iconst (v := (-1)) hx hb dX9_placeFor_164 (by decide) ?_
                  refine lv_icmp_eq (tgt := 191) hx hb dX9_placeFor_165 (by decide) (fun c_18 => absurd c_18 (nI_nem1 (by omega))) (fun c_18 => ?_)
                  refine lv_aload_n hx hb dX9_placeFor_168 rfl (lv_at hl 2 rfl) ?_
                  refine va_get (D := D) (ci := 9) (v := .ref m_all) (C := RX9) (T := TX9) (N := 25) hx hb hu in_X9 hown hK.1 hP 0 rfl rfl 1 (by decide) (hu _ u_1081) (fun _ h9 => h9) rfl dX9_placeFor_169 ?_
                  refine lv_bipush (v := 31) hx hb dX9_placeFor_172 (by decide) ?_
                  refine lv_iload hx hb dX9_placeFor_174 (lv_at hl 0 rfl) ?_
                  refine lv_iadd hx hb dX9_placeFor_176 ?_
                  refine tpi (y := nI (31 + i)) (nI_add _ _) ?_
                  refine va_iald hx hb hK.1 hP 1 0 rfl rfl (vp_in_nI (by omega) (by omega)) dX9_placeFor_177 ?_
                  refine tpi (y := 0) ((congrArg fm (nI_clamp (by omega))).trans (her _ (by omega))) ?_
                  refine lv_aload_n hx hb dX9_placeFor_178 rfl (lv_at hl 2 rfl) ?_
                  refine va_get (D := D) (ci := 9) (v := .ref m_all) (C := RX9) (T := TX9) (N := 25) hx hb hu in_X9 hown hK.1 hP 0 rfl rfl 1 (by decide) (hu _ u_1081) (fun _ h9 => h9) rfl dX9_placeFor_179 ?_
                  refine lv_bipush (v := 31) hx hb dX9_placeFor_182 (by decide) ?_
                  refine lv_iload hx hb dX9_placeFor_184 (lv_at hl 1 rfl) ?_
                  refine lv_iadd hx hb dX9_placeFor_186 ?_
                  refine tpi (y := nI (31 + qq)) (nI_add _ _) ?_
                  refine va_iald hx hb hK.1 hP 1 0 rfl rfl (vp_in_nI (by omega) (by omega)) dX9_placeFor_187 ?_
                  refine tpi (y := 0) ((congrArg fm (nI_clamp (by omega))).trans (her _ (by omega))) ?_
                  refine lv_icmp_ge (tgt := 195) hx hb dX9_placeFor_188 (by decide) (fun c_19 => ?_) (fun c_19 => absurd (by decide) c_19)
                  refine lv_iinc (v := nI (i + 1)) (lv' := [(5, .int (nI (i + 1))), (4, .int (nI qq)), (0, .ref md), (1, .int (nI zz)), (2, .int (-1)), (3, .int 2)]) hx hb dX9_placeFor_195 hl (k := 0) rfl (nI_1 _) (by decide) rfl (fun ls hl => ?_)
                  refine lv_goto (tgt := 140) hx hb dX9_placeFor_198 (by decide) ?_
                  exact ih (i + 1) (nI qq) (by omega) (by omega) (⟨fun h => absurd h (by omega), fun _ => rfl⟩) H locs (hP.sub [0, 1] rfl) (hD.sub [0, 1] rfl rfl) hS ls (lv_sub hl [0, 1, 2, 3, 4, 5] rfl)
                · obtain rfl : t = -1 := ht.1 hc9
                  refine lv_iload hx hb dX9_placeFor_162 (lv_at hl 1 rfl) ?_
                  refine lv_iconst (v := (-1)) hx hb dX9_placeFor_164 (by decide) ?_
                  refine lv_icmp_eq (tgt := 191) hx hb dX9_placeFor_165 (by decide) (fun c_20 => ?_) (fun c_20 => absurd (by decide) c_20)
                  refine lv_iload hx hb dX9_placeFor_191 (lv_at hl 0 rfl) ?_
                  refine lv_istore (lv' := [(4, .int (nI i)), (5, .int (nI i)), (0, .ref md), (1, .int (nI zz)), (2, .int (-1)), (3, .int 2)]) hx hb dX9_placeFor_193 hl (by decide) rfl (fun ls hl => ?_)
                  refine lv_iinc (v := nI (i + 1)) (lv' := [(5, .int (nI (i + 1))), (4, .int (nI i)), (0, .ref md), (1, .int (nI zz)), (2, .int (-1)), (3, .int 2)]) hx hb dX9_placeFor_195 hl (k := 1) rfl (nI_1 _) (by decide) rfl (fun ls hl => ?_)
                  refine lv_goto (tgt := 140) hx hb dX9_placeFor_198 (by decide) ?_
                  exact ih (i + 1) (nI i) (by omega) (by omega) (⟨fun h => absurd h (by have h8 := hF i; omega), fun _ => congrArg nI (by have h8 := hF i; omega)⟩) H locs (hP.sub [0, 1] rfl) (hD.sub [0, 1] rfl rfl) hS ls (lv_sub hl [0, 1, 2, 3, 4, 5] rfl)
              · obtain ⟨er_21, hf_22⟩ := hw_13
                subst er_21
                refine lv_if_eq (tgt := 195) hx hb dX9_placeFor_153 (by decide) (fun c_23 => ?_) (fun c_23 => absurd (by decide) c_23)
                refine lv_iinc (v := nI (i + 1)) (lv' := [(5, .int (nI (i + 1))), (4, .int t), (0, .ref md), (1, .int (nI zz)), (2, .int (-1)), (3, .int 2)]) hx hb dX9_placeFor_195 hl (k := 0) rfl (nI_1 _) (by decide) rfl (fun ls hl => ?_)
                refine lv_goto (tgt := 140) hx hb dX9_placeFor_198 (by decide) ?_
                exact ih (i + 1) t (by omega) (by omega) (by have hne : i ≠ qq := (by intro h; subst h; omega); exact ⟨fun h => ht.1 (by omega), fun h => ht.2 (by omega)⟩) H locs (hP.sub [0, 1] rfl) (hD.sub [0, 1] rfl rfl) hS ls (lv_sub hl [0, 1, 2, 3, 4, 5] rfl)
        exact lp_9 (24 + 1) 0 (-1) (by omega) (by omega) (⟨fun _ => rfl, fun h => absurd h (by omega)⟩) H locs (hP.sub [0, 1] rfl) (hD.sub [0, 1] rfl rfl) hS ls (lv_sub hl [0, 1, 2, 3, 4, 5] rfl)
      · have gc_2 : ¬ 24 ≤ i := fun h => c_2 ((nI_leI (a := 24) (b := i) (by omega) (by omega)).mpr h)
        refine lv_iload hx hb dX9_placeFor_13 (lv_at hl 0 rfl) ?_
        refine lv_iload_n hx hb dX9_placeFor_15 rfl (lv_at hl 4 rfl) ?_
        refine lv_icmp_eq (tgt := 114) hx hb dX9_placeFor_16 (by decide) (fun c_24 => absurd c_24 (nI_nem1 (by omega))) (fun c_24 => ?_)
        refine lv_aload_n hx hb dX9_placeFor_19 rfl (lv_at hl 2 rfl) ?_
        refine lv_iload hx hb dX9_placeFor_20 (lv_at hl 0 rfl) ?_
        refine kV_i (ci := 9) (As := [.int (nI i)]) (rest := []) (wc := [(md, .inr (9, [.int th, .ref m_all, .ref m_deeds, .ref m_trial, .int dm, .ref m_hasImage, .ref m_tape, .ref m_key, .ref m_answered, .int 0, .int 0, .int 0, .ref m_goes, .int sw, .ref m_hotOnes, .ref m_indexed, .ref m_isChanged, .int 0, .ref m_valueNow, .int 0, .int (-1), .int 0, .ref m_didSome, .ref m_sizes, .ref m_ends])), (m_all, aI cs 51207 fm)]) (wr := []) hx hb hml hown hu hK hP hD hS hA hl.1 (c_X9_isFree_g l D cs H.size md m_all m_deeds m_trial m_hasImage m_tape m_key m_answered m_goes m_hotOnes m_indexed m_isChanged m_valueNow m_didSome m_sizes m_ends dm th sw we i fm hE (by omega)) (gV u_1188 u_1190 u_13 u_76 u_1191) hd_X9_isFree ⟨(Nat.le_of_ble_eq_true rfl), (Nat.le_of_ble_eq_true rfl)⟩ [0, 1] [] rfl rfl rfl rfl (by decide) rfl 0 rfl rfl rfl (Nat.le_of_ble_eq_true rfl) dX9_placeFor_22 ⟨(Nat.le_of_ble_eq_true rfl), (Nat.le_of_ble_eq_true rfl)⟩ (fun r_25 ut_26 H locs hw_27 hP hD hS => ?_)
        have hP : va_P D vwCl [(md, .inr (9, [.int th, .ref m_all, .ref m_deeds, .ref m_trial, .int dm, .ref m_hasImage, .ref m_tape, .ref m_key, .ref m_answered, .int 0, .int 0, .int 0, .ref m_goes, .int sw, .ref m_hotOnes, .ref m_indexed, .ref m_isChanged, .int 0, .ref m_valueNow, .int 0, .int (-1), .int 0, .ref m_didSome, .ref m_sizes, .ref m_ends])), (m_all, aI cs 51207 fm)] H := hP
        have hD : va_D A [(md, .inr (9, [.int th, .ref m_all, .ref m_deeds, .ref m_trial, .int dm, .ref m_hasImage, .ref m_tape, .ref m_key, .ref m_answered, .int 0, .int 0, .int 0, .ref m_goes, .int sw, .ref m_hotOnes, .ref m_indexed, .ref m_isChanged, .int 0, .ref m_valueNow, .int 0, .int (-1), .int 0, .ref m_didSome, .ref m_sizes, .ref m_ends])), (m_all, aI cs 51207 fm)] := hD
        rcases hw_27 with hw_27 | hw_27
        · obtain ⟨er_28, hf_29⟩ := hw_27
          subst er_28
          refine lv_if_ne (tgt := 114) hx hb dX9_placeFor_25 (by decide) (fun c_30 => ?_) (fun c_30 => absurd c_30 (by decide))
          refine lv_iinc (v := nI (i + 1)) (lv' := [(5, .int (nI (i + 1))), (4, .int (-1)), (0, .ref md), (1, .int (nI zz)), (2, .int (-1)), (3, .int 2)]) hx hb dX9_placeFor_114 hl (k := 0) rfl (nI_1 _) (by decide) rfl (fun ls hl => ?_)
          refine lv_goto (tgt := 6) hx hb dX9_placeFor_117 (by decide) ?_
          exact ih (i + 1) (by omega) (by omega) H locs (hP.sub [0, 1] rfl) (hD.sub [0, 1] rfl rfl) hS ls (lv_sub hl [0, 1, 2, 3, 4, 5] rfl)
        · obtain ⟨er_31, hf_32⟩ := hw_27
          subst er_31
          refine lv_if_ne (tgt := 114) hx hb dX9_placeFor_25 (by decide) (fun c_33 => absurd (by decide) c_33) (fun c_33 => ?_)
          refine lv_aload_n hx hb dX9_placeFor_28 rfl (lv_at hl 2 rfl) ?_
          refine va_get (D := D) (ci := 9) (v := .ref m_all) (C := RX9) (T := TX9) (N := 25) hx hb hu in_X9 hown hK.1 hP 0 rfl rfl 1 (by decide) (hu _ u_1081) (fun _ h9 => h9) rfl dX9_placeFor_29 ?_
          refine lv_bipush (v := 7) hx hb dX9_placeFor_32 (by decide) ?_
          refine lv_iload hx hb dX9_placeFor_34 (lv_at hl 0 rfl) ?_
          refine lv_iadd hx hb dX9_placeFor_36 ?_
          refine tpi (y := nI (7 + i)) (nI_add _ _) ?_
          refine va_iald hx hb hK.1 hP 1 0 rfl rfl (vp_in_nI (by omega) (by omega)) dX9_placeFor_37 ?_
          have hw_34 := (hE i (by omega)).2
          refine tpi (y := nI (we i)) ((congrArg fm (nI_clamp (by omega))).trans (hE _ (by omega)).1) ?_
          refine lv_iload_n hx hb dX9_placeFor_38 rfl (lv_at hl 3 rfl) ?_
          refine lv_iadd hx hb dX9_placeFor_39 ?_
          refine tpi (y := nI (we i + zz)) (nI_add _ _) ?_
          refine lv_bipush (v := 64) hx hb dX9_placeFor_40 (by decide) ?_
          refine lv_icmp_le (tgt := 48) hx hb dX9_placeFor_42 (by decide) (fun c_35 => ?_) (fun c_35 => ?_)
          · have gc_35 : we i + zz ≤ 64 := (nI_leI (a := (we i + zz)) (b := 64) (by omega) (by omega)).mp c_35
            exfalso
            rcases Nat.lt_trichotomy i qq with a | a | a
            · have := hF i a; omega
            · subst a; omega
            · have := hG i a (by omega); omega
          · have gc_35 : ¬ (we i + zz) ≤ 64 := fun h => c_35 ((nI_leI (a := (we i + zz)) (b := 64) (by omega) (by omega)).mpr h)
            refine lv_goto (tgt := 114) hx hb dX9_placeFor_45 (by decide) ?_
            refine lv_iinc (v := nI (i + 1)) (lv' := [(5, .int (nI (i + 1))), (4, .int (-1)), (0, .ref md), (1, .int (nI zz)), (2, .int (-1)), (3, .int 2)]) hx hb dX9_placeFor_114 hl (k := 0) rfl (nI_1 _) (by decide) rfl (fun ls hl => ?_)
            refine lv_goto (tgt := 6) hx hb dX9_placeFor_117 (by decide) ?_
            exact ih (i + 1) (by omega) (by omega) H locs (hP.sub [0, 1] rfl) (hD.sub [0, 1] rfl rfl) hS ls (lv_sub hl [0, 1, 2, 3, 4, 5] rfl)
  exact lp_1 (24 + 1) 0 (by omega) (by omega) H locs (hP.sub [0, 1] rfl) (hD.sub [0, 1] rfl rfl) hS ls (lv_sub hl [0, 1, 2, 3, 4, 5] rfl)
abbrev rm_c_X9_placeFor_n : Room := { frames := 2, cells := 0, slots := 0, locals := 43 }
set_option maxHeartbeats 4000000 in
set_option maxRecDepth 100000 in
theorem c_X9_placeFor_n (l : Launch) (D : va_G) (cs : Nat → ClassId) (sz : Nat) (md : Nat) (m_all : Nat) (m_deeds : Nat) (m_trial : Nat) (m_hasImage : Nat) (m_tape : Nat) (m_key : Nat) (m_answered : Nat) (m_goes : Nat) (m_hotOnes : Nat) (m_indexed : Nat) (m_isChanged : Nat) (m_valueNow : Nat) (m_didSome : Nat) (m_sizes : Nat) (m_ends : Nat) (dm : Int32) (th : Int32) (sw : Int32) (zz : Nat) (fm : Nat → Int32) (we : Nat → Nat) (hE : ∀ j, j < 24 → fm (7 + j) = nI (we j) ∧ we j ≤ 64) (hzz : 1 ≤ zz ∧ zz ≤ 64) (hN : ∀ j, j < 24 → ¬ (0 < we j ∧ we j + zz ≤ 64)) (hz2 : zc we 24 < 2) : cMi l yX9_placeFor (Cond.code yX9_placeFor cX9_placeFor 6 (some .int)) (rm_c_X9_placeFor_n) D cs [.ref md, .int (nI zz), .int (-1), .int 2] sz [(md, .inr (9, [.int th, .ref m_all, .ref m_deeds, .ref m_trial, .int dm, .ref m_hasImage, .ref m_tape, .ref m_key, .ref m_answered, .int 0, .int 0, .int 0, .ref m_goes, .int sw, .ref m_hotOnes, .ref m_indexed, .ref m_isChanged, .int 0, .ref m_valueNow, .int 0, .int (-1), .int 0, .ref m_didSome, .ref m_sizes, .ref m_ends])), (m_all, aI cs 51207 fm)] (fun (r : Int32) (u : Unit) => (r = (-1))) (fun (u : Unit) => [(md, .inr (9, [.int th, .ref m_all, .ref m_deeds, .ref m_trial, .int dm, .ref m_hasImage, .ref m_tape, .ref m_key, .ref m_answered, .int 0, .int 0, .int 0, .ref m_goes, .int sw, .ref m_hotOnes, .ref m_indexed, .ref m_isChanged, .int 0, .ref m_valueNow, .int 0, .int (-1), .int 0, .ref m_didSome, .ref m_sizes, .ref m_ends])), (m_all, aI cs 51207 fm)]) := by
  refine kMet_i RX9 (by decide) rfl (Nat.le_of_ble_eq_true rfl) ?_
  intro p e s m below meth c ls A Qz H locs hx hb hml hown hin hu hK hsz hA hP hD hS hl hz
  subst hsz
  have hl : lv_has ls 6 [(0, .ref md), (1, .int (nI zz)), (2, .int (-1)), (3, .int 2)] := hl
  refine lv_iconst (v := (-1)) hx hb dX9_placeFor_0 (by decide) ?_
  refine lv_istore (lv' := [(4, .int (-1)), (0, .ref md), (1, .int (nI zz)), (2, .int (-1)), (3, .int 2)]) hx hb dX9_placeFor_1 hl (by decide) rfl (fun ls hl => ?_)
  refine lv_iconst (v := 0) hx hb dX9_placeFor_3 (by decide) ?_
  refine lv_istore (lv' := [(5, .int 0), (4, .int (-1)), (0, .ref md), (1, .int (nI zz)), (2, .int (-1)), (3, .int 2)]) hx hb dX9_placeFor_4 hl (by decide) rfl (fun ls hl => ?_)
  have lp_1 : ∀ (fuel : Nat) (i : Nat) (hfuel : 24 < i + fuel) (hi : i ≤ 24) (H : Heap) (locs : List Loc) (hP : va_P D vwCl [(md, .inr (9, [.int th, .ref m_all, .ref m_deeds, .ref m_trial, .int dm, .ref m_hasImage, .ref m_tape, .ref m_key, .ref m_answered, .int 0, .int 0, .int 0, .ref m_goes, .int sw, .ref m_hotOnes, .ref m_indexed, .ref m_isChanged, .int 0, .ref m_valueNow, .int 0, .int (-1), .int 0, .ref m_didSome, .ref m_sizes, .ref m_ends])), (m_all, aI cs 51207 fm)] H) (hD : va_D A [(md, .inr (9, [.int th, .ref m_all, .ref m_deeds, .ref m_trial, .int dm, .ref m_hasImage, .ref m_tape, .ref m_key, .ref m_answered, .int 0, .int 0, .int 0, .ref m_goes, .int sw, .ref m_hotOnes, .ref m_indexed, .ref m_isChanged, .int 0, .ref m_valueNow, .int 0, .int (-1), .int 0, .ref m_didSome, .ref m_sizes, .ref m_ends])), (m_all, aI cs 51207 fm)]) (hS : va_S A s.heap H locs) (ls : Array Slot) (hl : lv_has ls 6 [(5, .int (nI i)), (4, .int (-1)), (0, .ref md), (1, .int (nI zz)), (2, .int (-1)), (3, .int 2)]), W p l e rm_c_X9_placeFor_n s m [.ref md, .int (nI zz), .int (-1), .int 2].toArray below meth c H locs 0 0 Qz (F0 m 6 ls []) := by
    intro fuel
    induction fuel with
    | zero =>
      intro i hfuel hi H locs hP hD hS ls hl
      exact absurd hfuel (by omega)
    | succ fuel ih =>
      intro i hfuel hi H locs hP hD hS ls hl
      refine lv_iload hx hb dX9_placeFor_6 (lv_at hl 0 rfl) ?_
      refine lv_bipush (v := 24) hx hb dX9_placeFor_8 (by decide) ?_
      refine lv_icmp_ge (tgt := 120) hx hb dX9_placeFor_10 (by decide) (fun c_2 => ?_) (fun c_2 => ?_)
      · have gc_2 : 24 ≤ i := (nI_leI (a := 24) (b := i) (by omega) (by omega)).mp c_2
        refine lv_iload hx hb dX9_placeFor_120 (lv_at hl 1 rfl) ?_
        refine lv_iconst (v := (-1)) hx hb dX9_placeFor_122 (by decide) ?_
        refine lv_icmp_ne (tgt := 134) hx hb dX9_placeFor_123 (by decide) (fun c_3 => absurd (by decide) c_3) (fun c_3 => ?_)
        refine lv_aload_n hx hb dX9_placeFor_126 rfl (lv_at hl 2 rfl) ?_
        refine kV_i (ci := 9) (As := []) (rest := []) (wc := [(md, .inr (9, [.int th, .ref m_all, .ref m_deeds, .ref m_trial, .int dm, .ref m_hasImage, .ref m_tape, .ref m_key, .ref m_answered, .int 0, .int 0, .int 0, .ref m_goes, .int sw, .ref m_hotOnes, .ref m_indexed, .ref m_isChanged, .int 0, .ref m_valueNow, .int 0, .int (-1), .int 0, .ref m_didSome, .ref m_sizes, .ref m_ends])), (m_all, aI cs 51207 fm)]) (wr := []) hx hb hml hown hu hK hP hD hS hA hl.1 (c_X9_freeMany_g l D cs H.size md m_all m_deeds m_trial m_hasImage m_tape m_key m_answered m_goes m_hotOnes m_indexed m_isChanged m_valueNow m_didSome m_sizes m_ends dm th sw we fm hE) (gV u_1192 u_1194 u_14 u_76 u_1195) hd_X9_freeMany ⟨(Nat.le_of_ble_eq_true rfl), (Nat.le_of_ble_eq_true rfl)⟩ [0, 1] [] rfl rfl rfl rfl (by decide) rfl 0 rfl rfl rfl (Nat.le_of_ble_eq_true rfl) dX9_placeFor_127 ⟨(Nat.le_of_ble_eq_true rfl), (Nat.le_of_ble_eq_true rfl)⟩ (fun r_4 ut_5 H locs hw_6 hP hD hS => ?_)
        have hP : va_P D vwCl [(md, .inr (9, [.int th, .ref m_all, .ref m_deeds, .ref m_trial, .int dm, .ref m_hasImage, .ref m_tape, .ref m_key, .ref m_answered, .int 0, .int 0, .int 0, .ref m_goes, .int sw, .ref m_hotOnes, .ref m_indexed, .ref m_isChanged, .int 0, .ref m_valueNow, .int 0, .int (-1), .int 0, .ref m_didSome, .ref m_sizes, .ref m_ends])), (m_all, aI cs 51207 fm)] H := hP
        have hD : va_D A [(md, .inr (9, [.int th, .ref m_all, .ref m_deeds, .ref m_trial, .int dm, .ref m_hasImage, .ref m_tape, .ref m_key, .ref m_answered, .int 0, .int 0, .int 0, .ref m_goes, .int sw, .ref m_hotOnes, .ref m_indexed, .ref m_isChanged, .int 0, .ref m_valueNow, .int 0, .int (-1), .int 0, .ref m_didSome, .ref m_sizes, .ref m_ends])), (m_all, aI cs 51207 fm)] := hD
        have er_7 := hw_6
        subst er_7
        refine lv_iload_n hx hb dX9_placeFor_130 rfl (lv_at hl 5 rfl) ?_
        refine lv_icmp_ge (tgt := 137) hx hb dX9_placeFor_131 (by decide) (fun c_8 => absurd c_8 (fun h => absurd ((nI_leI (a := 2) (by omega) (by omega)).mp h) (by omega))) (fun c_8 => ?_)
        refine lv_iload hx hb dX9_placeFor_134 (lv_at hl 1 rfl) ?_
        exact hz () hP hD hS rfl [0, 1] rfl rfl (Nat.le_of_ble_eq_true rfl) (Nat.le_of_ble_eq_true rfl) .int rfl rfl dX9_placeFor_136
      · have gc_2 : ¬ 24 ≤ i := fun h => c_2 ((nI_leI (a := 24) (b := i) (by omega) (by omega)).mpr h)
        refine lv_iload hx hb dX9_placeFor_13 (lv_at hl 0 rfl) ?_
        refine lv_iload_n hx hb dX9_placeFor_15 rfl (lv_at hl 4 rfl) ?_
        refine lv_icmp_eq (tgt := 114) hx hb dX9_placeFor_16 (by decide) (fun c_9 => absurd c_9 (nI_nem1 (by omega))) (fun c_9 => ?_)
        refine lv_aload_n hx hb dX9_placeFor_19 rfl (lv_at hl 2 rfl) ?_
        refine lv_iload hx hb dX9_placeFor_20 (lv_at hl 0 rfl) ?_
        refine kV_i (ci := 9) (As := [.int (nI i)]) (rest := []) (wc := [(md, .inr (9, [.int th, .ref m_all, .ref m_deeds, .ref m_trial, .int dm, .ref m_hasImage, .ref m_tape, .ref m_key, .ref m_answered, .int 0, .int 0, .int 0, .ref m_goes, .int sw, .ref m_hotOnes, .ref m_indexed, .ref m_isChanged, .int 0, .ref m_valueNow, .int 0, .int (-1), .int 0, .ref m_didSome, .ref m_sizes, .ref m_ends])), (m_all, aI cs 51207 fm)]) (wr := []) hx hb hml hown hu hK hP hD hS hA hl.1 (c_X9_isFree_g l D cs H.size md m_all m_deeds m_trial m_hasImage m_tape m_key m_answered m_goes m_hotOnes m_indexed m_isChanged m_valueNow m_didSome m_sizes m_ends dm th sw we i fm hE (by omega)) (gV u_1188 u_1190 u_13 u_76 u_1191) hd_X9_isFree ⟨(Nat.le_of_ble_eq_true rfl), (Nat.le_of_ble_eq_true rfl)⟩ [0, 1] [] rfl rfl rfl rfl (by decide) rfl 0 rfl rfl rfl (Nat.le_of_ble_eq_true rfl) dX9_placeFor_22 ⟨(Nat.le_of_ble_eq_true rfl), (Nat.le_of_ble_eq_true rfl)⟩ (fun r_10 ut_11 H locs hw_12 hP hD hS => ?_)
        have hP : va_P D vwCl [(md, .inr (9, [.int th, .ref m_all, .ref m_deeds, .ref m_trial, .int dm, .ref m_hasImage, .ref m_tape, .ref m_key, .ref m_answered, .int 0, .int 0, .int 0, .ref m_goes, .int sw, .ref m_hotOnes, .ref m_indexed, .ref m_isChanged, .int 0, .ref m_valueNow, .int 0, .int (-1), .int 0, .ref m_didSome, .ref m_sizes, .ref m_ends])), (m_all, aI cs 51207 fm)] H := hP
        have hD : va_D A [(md, .inr (9, [.int th, .ref m_all, .ref m_deeds, .ref m_trial, .int dm, .ref m_hasImage, .ref m_tape, .ref m_key, .ref m_answered, .int 0, .int 0, .int 0, .ref m_goes, .int sw, .ref m_hotOnes, .ref m_indexed, .ref m_isChanged, .int 0, .ref m_valueNow, .int 0, .int (-1), .int 0, .ref m_didSome, .ref m_sizes, .ref m_ends])), (m_all, aI cs 51207 fm)] := hD
        rcases hw_12 with hw_12 | hw_12
        · obtain ⟨er_13, hf_14⟩ := hw_12
          subst er_13
          refine lv_if_ne (tgt := 114) hx hb dX9_placeFor_25 (by decide) (fun c_15 => ?_) (fun c_15 => absurd c_15 (by decide))
          refine lv_iinc (v := nI (i + 1)) (lv' := [(5, .int (nI (i + 1))), (4, .int (-1)), (0, .ref md), (1, .int (nI zz)), (2, .int (-1)), (3, .int 2)]) hx hb dX9_placeFor_114 hl (k := 0) rfl (nI_1 _) (by decide) rfl (fun ls hl => ?_)
          refine lv_goto (tgt := 6) hx hb dX9_placeFor_117 (by decide) ?_
          exact ih (i + 1) (by omega) (by omega) H locs (hP.sub [0, 1] rfl) (hD.sub [0, 1] rfl rfl) hS ls (lv_sub hl [0, 1, 2, 3, 4, 5] rfl)
        · obtain ⟨er_16, hf_17⟩ := hw_12
          subst er_16
          refine lv_if_ne (tgt := 114) hx hb dX9_placeFor_25 (by decide) (fun c_18 => absurd (by decide) c_18) (fun c_18 => ?_)
          refine lv_aload_n hx hb dX9_placeFor_28 rfl (lv_at hl 2 rfl) ?_
          refine va_get (D := D) (ci := 9) (v := .ref m_all) (C := RX9) (T := TX9) (N := 25) hx hb hu in_X9 hown hK.1 hP 0 rfl rfl 1 (by decide) (hu _ u_1081) (fun _ h9 => h9) rfl dX9_placeFor_29 ?_
          refine lv_bipush (v := 7) hx hb dX9_placeFor_32 (by decide) ?_
          refine lv_iload hx hb dX9_placeFor_34 (lv_at hl 0 rfl) ?_
          refine lv_iadd hx hb dX9_placeFor_36 ?_
          refine tpi (y := nI (7 + i)) (nI_add _ _) ?_
          refine va_iald hx hb hK.1 hP 1 0 rfl rfl (vp_in_nI (by omega) (by omega)) dX9_placeFor_37 ?_
          have hw_19 := (hE i (by omega)).2
          refine tpi (y := nI (we i)) ((congrArg fm (nI_clamp (by omega))).trans (hE _ (by omega)).1) ?_
          refine lv_iload_n hx hb dX9_placeFor_38 rfl (lv_at hl 3 rfl) ?_
          refine lv_iadd hx hb dX9_placeFor_39 ?_
          refine tpi (y := nI (we i + zz)) (nI_add _ _) ?_
          refine lv_bipush (v := 64) hx hb dX9_placeFor_40 (by decide) ?_
          refine lv_icmp_le (tgt := 48) hx hb dX9_placeFor_42 (by decide) (fun c_20 => ?_) (fun c_20 => ?_)
          · have gc_20 : we i + zz ≤ 64 := (nI_leI (a := (we i + zz)) (b := 64) (by omega) (by omega)).mp c_20
            exact absurd ⟨by omega, by omega⟩ (hN i (by omega))
          · have gc_20 : ¬ (we i + zz) ≤ 64 := fun h => c_20 ((nI_leI (a := (we i + zz)) (b := 64) (by omega) (by omega)).mpr h)
            refine lv_goto (tgt := 114) hx hb dX9_placeFor_45 (by decide) ?_
            refine lv_iinc (v := nI (i + 1)) (lv' := [(5, .int (nI (i + 1))), (4, .int (-1)), (0, .ref md), (1, .int (nI zz)), (2, .int (-1)), (3, .int 2)]) hx hb dX9_placeFor_114 hl (k := 0) rfl (nI_1 _) (by decide) rfl (fun ls hl => ?_)
            refine lv_goto (tgt := 6) hx hb dX9_placeFor_117 (by decide) ?_
            exact ih (i + 1) (by omega) (by omega) H locs (hP.sub [0, 1] rfl) (hD.sub [0, 1] rfl rfl) hS ls (lv_sub hl [0, 1, 2, 3, 4, 5] rfl)
  exact lp_1 (24 + 1) 0 (by omega) (by omega) H locs (hP.sub [0, 1] rfl) (hD.sub [0, 1] rfl rfl) hS ls (lv_sub hl [0, 1, 2, 3, 4, 5] rfl)
abbrev rm_c_X9_at4 : Room := { frames := 0, cells := 0, slots := 0, locals := 0 }
set_option maxHeartbeats 4000000 in
set_option maxRecDepth 100000 in
theorem c_X9_at4 (l : Launch) (D : va_G) (cs : Nat → ClassId) (sz : Nat) (md : Nat) (m_all : Nat) (m_deeds : Nat) (m_trial : Nat) (m_hasImage : Nat) (m_tape : Nat) (m_key : Nat) (m_answered : Nat) (m_goes : Nat) (m_hotOnes : Nat) (m_indexed : Nat) (m_isChanged : Nat) (m_valueNow : Nat) (m_didSome : Nat) (m_sizes : Nat) (m_ends : Nat) (dm : Int32) (th : Int32) (sw : Int32) (fm : Nat → Int32) (vv : Nat) (hvv : vv < 240) : cMi l yX9_at (Cond.code yX9_at cX9_at 3 (some .int)) (rm_c_X9_at4) D cs [.ref md, .int (nI vv), .int 4] sz [(md, .inr (9, [.int th, .ref m_all, .ref m_deeds, .ref m_trial, .int dm, .ref m_hasImage, .ref m_tape, .ref m_key, .ref m_answered, .int 0, .int 0, .int 0, .ref m_goes, .int sw, .ref m_hotOnes, .ref m_indexed, .ref m_isChanged, .int 0, .ref m_valueNow, .int 0, .int (-1), .int 0, .ref m_didSome, .ref m_sizes, .ref m_ends])), (m_all, aI cs 51207 fm)] (fun (r : Int32) (u : Unit) => (r = (fm (1629 + 8 * vv + 4)))) (fun (u : Unit) => [(md, .inr (9, [.int th, .ref m_all, .ref m_deeds, .ref m_trial, .int dm, .ref m_hasImage, .ref m_tape, .ref m_key, .ref m_answered, .int 0, .int 0, .int 0, .ref m_goes, .int sw, .ref m_hotOnes, .ref m_indexed, .ref m_isChanged, .int 0, .ref m_valueNow, .int 0, .int (-1), .int 0, .ref m_didSome, .ref m_sizes, .ref m_ends])), (m_all, aI cs 51207 fm)]) := by
  refine kMet_i RX9 (by decide) rfl (Nat.le_of_ble_eq_true rfl) ?_
  intro p e s m below meth c ls A Qz H locs hx hb hml hown hin hu hK hsz hA hP hD hS hl hz
  subst hsz
  have hl : lv_has ls 3 [(0, .ref md), (1, .int (nI vv)), (2, .int 4)] := hl
  refine lv_aload_n hx hb dX9_at_0 rfl (lv_at hl 0 rfl) ?_
  refine va_get (D := D) (ci := 9) (v := .ref m_all) (C := RX9) (T := TX9) (N := 25) hx hb hu in_X9 hown hK.1 hP 0 rfl rfl 1 (by decide) (hu _ u_1081) (fun _ h9 => h9) rfl dX9_at_1 ?_
  refine lv_sipush (v := 1629) hx hb dX9_at_4 (by decide) ?_
  refine lv_bipush (v := 8) hx hb dX9_at_7 (by decide) ?_
  refine lv_iload_n hx hb dX9_at_9 rfl (lv_at hl 1 rfl) ?_
  refine lv_imul hx hb dX9_at_10 ?_
  refine tpi (y := nI (8 * vv)) (pk_mul _ _) ?_
  refine lv_iadd hx hb dX9_at_11 ?_
  refine tpi (y := nI (1629 + 8 * vv)) (nI_add _ _) ?_
  refine lv_iload_n hx hb dX9_at_12 rfl (lv_at hl 2 rfl) ?_
  refine lv_iadd hx hb dX9_at_13 ?_
  refine tpi (y := nI (1629 + 8 * vv + 4)) (nI_add _ _) ?_
  refine va_iald hx hb hK.1 hP 1 0 rfl rfl (vp_in_nI (by omega) (by omega)) dX9_at_14 ?_
  refine tpi (y := fm (1629 + 8 * vv + 4)) (congrArg fm (nI_clamp (by omega))) ?_
  exact hz () hP hD hS rfl [0, 1] rfl rfl (Nat.le_of_ble_eq_true rfl) (Nat.le_of_ble_eq_true rfl) .int rfl rfl dX9_at_15
abbrev rm_c_X9_at6 : Room := { frames := 0, cells := 0, slots := 0, locals := 0 }
set_option maxHeartbeats 4000000 in
set_option maxRecDepth 100000 in
theorem c_X9_at6 (l : Launch) (D : va_G) (cs : Nat → ClassId) (sz : Nat) (md : Nat) (m_all : Nat) (m_deeds : Nat) (m_trial : Nat) (m_hasImage : Nat) (m_tape : Nat) (m_key : Nat) (m_answered : Nat) (m_goes : Nat) (m_hotOnes : Nat) (m_indexed : Nat) (m_isChanged : Nat) (m_valueNow : Nat) (m_didSome : Nat) (m_sizes : Nat) (m_ends : Nat) (dm : Int32) (th : Int32) (sw : Int32) (fm : Nat → Int32) (vv : Nat) (hvv : vv < 240) : cMi l yX9_at (Cond.code yX9_at cX9_at 3 (some .int)) (rm_c_X9_at6) D cs [.ref md, .int (nI vv), .int 6] sz [(md, .inr (9, [.int th, .ref m_all, .ref m_deeds, .ref m_trial, .int dm, .ref m_hasImage, .ref m_tape, .ref m_key, .ref m_answered, .int 0, .int 0, .int 0, .ref m_goes, .int sw, .ref m_hotOnes, .ref m_indexed, .ref m_isChanged, .int 0, .ref m_valueNow, .int 0, .int (-1), .int 0, .ref m_didSome, .ref m_sizes, .ref m_ends])), (m_all, aI cs 51207 fm)] (fun (r : Int32) (u : Unit) => (r = (fm (1629 + 8 * vv + 6)))) (fun (u : Unit) => [(md, .inr (9, [.int th, .ref m_all, .ref m_deeds, .ref m_trial, .int dm, .ref m_hasImage, .ref m_tape, .ref m_key, .ref m_answered, .int 0, .int 0, .int 0, .ref m_goes, .int sw, .ref m_hotOnes, .ref m_indexed, .ref m_isChanged, .int 0, .ref m_valueNow, .int 0, .int (-1), .int 0, .ref m_didSome, .ref m_sizes, .ref m_ends])), (m_all, aI cs 51207 fm)]) := by
  refine kMet_i RX9 (by decide) rfl (Nat.le_of_ble_eq_true rfl) ?_
  intro p e s m below meth c ls A Qz H locs hx hb hml hown hin hu hK hsz hA hP hD hS hl hz
  subst hsz
  have hl : lv_has ls 3 [(0, .ref md), (1, .int (nI vv)), (2, .int 6)] := hl
  refine lv_aload_n hx hb dX9_at_0 rfl (lv_at hl 0 rfl) ?_
  refine va_get (D := D) (ci := 9) (v := .ref m_all) (C := RX9) (T := TX9) (N := 25) hx hb hu in_X9 hown hK.1 hP 0 rfl rfl 1 (by decide) (hu _ u_1081) (fun _ h9 => h9) rfl dX9_at_1 ?_
  refine lv_sipush (v := 1629) hx hb dX9_at_4 (by decide) ?_
  refine lv_bipush (v := 8) hx hb dX9_at_7 (by decide) ?_
  refine lv_iload_n hx hb dX9_at_9 rfl (lv_at hl 1 rfl) ?_
  refine lv_imul hx hb dX9_at_10 ?_
  refine tpi (y := nI (8 * vv)) (pk_mul _ _) ?_
  refine lv_iadd hx hb dX9_at_11 ?_
  refine tpi (y := nI (1629 + 8 * vv)) (nI_add _ _) ?_
  refine lv_iload_n hx hb dX9_at_12 rfl (lv_at hl 2 rfl) ?_
  refine lv_iadd hx hb dX9_at_13 ?_
  refine tpi (y := nI (1629 + 8 * vv + 6)) (nI_add _ _) ?_
  refine va_iald hx hb hK.1 hP 1 0 rfl rfl (vp_in_nI (by omega) (by omega)) dX9_at_14 ?_
  refine tpi (y := fm (1629 + 8 * vv + 6)) (congrArg fm (nI_clamp (by omega))) ?_
  exact hz () hP hD hS rfl [0, 1] rfl rfl (Nat.le_of_ble_eq_true rfl) (Nat.le_of_ble_eq_true rfl) .int rfl rfl dX9_at_15
abbrev rm_c_X9_stayingOn_g : Room := { frames := 1, cells := 0, slots := 0, locals := 22 }
set_option maxHeartbeats 4000000 in
set_option maxRecDepth 100000 in
theorem c_X9_stayingOn_g (l : Launch) (D : va_G) (cs : Nat → ClassId) (sz : Nat) (nn : Nat) (md : Nat) (m_all : Nat) (m_deeds : Nat) (m_trial : Nat) (m_hasImage : Nat) (m_tape : Nat) (m_key : Nat) (m_answered : Nat) (m_goes : Nat) (m_hotOnes : Nat) (m_indexed : Nat) (m_isChanged : Nat) (m_valueNow : Nat) (m_didSome : Nat) (m_sizes : Nat) (m_ends : Nat) (dm : Int32) (th : Int32) (sw : Int32) (PP : Nat) (fm : Nat → Int32) (hNn : fm 1628 = nI nn) (hn2 : nn ≤ 240) : cMi l yX9_stayingOn (Cond.code yX9_stayingOn cX9_stayingOn 4 (some .int)) (rm_c_X9_stayingOn_g) D cs [.ref md, .int (nI PP)] sz [(md, .inr (9, [.int th, .ref m_all, .ref m_deeds, .ref m_trial, .int dm, .ref m_hasImage, .ref m_tape, .ref m_key, .ref m_answered, .int 0, .int 0, .int 0, .ref m_goes, .int sw, .ref m_hotOnes, .ref m_indexed, .ref m_isChanged, .int 0, .ref m_valueNow, .int 0, .int (-1), .int 0, .ref m_didSome, .ref m_sizes, .ref m_ends])), (m_all, aI cs 51207 fm)] (fun (r : Int32) (u : Unit) => (r = (smo fm PP nn))) (fun (u : Unit) => [(md, .inr (9, [.int th, .ref m_all, .ref m_deeds, .ref m_trial, .int dm, .ref m_hasImage, .ref m_tape, .ref m_key, .ref m_answered, .int 0, .int 0, .int 0, .ref m_goes, .int sw, .ref m_hotOnes, .ref m_indexed, .ref m_isChanged, .int 0, .ref m_valueNow, .int 0, .int (-1), .int 0, .ref m_didSome, .ref m_sizes, .ref m_ends])), (m_all, aI cs 51207 fm)]) := by
  refine kMet_i RX9 (by decide) rfl (Nat.le_of_ble_eq_true rfl) ?_
  intro p e s m below meth c ls A Qz H locs hx hb hml hown hin hu hK hsz hA hP hD hS hl hz
  subst hsz
  have hl : lv_has ls 4 [(0, .ref md), (1, .int (nI PP))] := hl
  refine lv_iconst (v := 0) hx hb dX9_stayingOn_0 (by decide) ?_
  refine lv_istore_n (lv' := [(2, .int 0), (0, .ref md), (1, .int (nI PP))]) hx hb dX9_stayingOn_1 rfl hl (by decide) rfl (fun ls hl => ?_)
  refine lv_iconst (v := 0) hx hb dX9_stayingOn_2 (by decide) ?_
  refine lv_istore_n (lv' := [(3, .int 0), (2, .int 0), (0, .ref md), (1, .int (nI PP))]) hx hb dX9_stayingOn_3 rfl hl (by decide) rfl (fun ls hl => ?_)
  have lp_1 : ∀ (fuel : Nat) (i : Nat) (acc : Int32) (hfuel : nn < i + fuel) (hi : i ≤ nn) (hacc : acc = smo fm PP i) (H : Heap) (locs : List Loc) (hP : va_P D vwCl [(md, .inr (9, [.int th, .ref m_all, .ref m_deeds, .ref m_trial, .int dm, .ref m_hasImage, .ref m_tape, .ref m_key, .ref m_answered, .int 0, .int 0, .int 0, .ref m_goes, .int sw, .ref m_hotOnes, .ref m_indexed, .ref m_isChanged, .int 0, .ref m_valueNow, .int 0, .int (-1), .int 0, .ref m_didSome, .ref m_sizes, .ref m_ends])), (m_all, aI cs 51207 fm)] H) (hD : va_D A [(md, .inr (9, [.int th, .ref m_all, .ref m_deeds, .ref m_trial, .int dm, .ref m_hasImage, .ref m_tape, .ref m_key, .ref m_answered, .int 0, .int 0, .int 0, .ref m_goes, .int sw, .ref m_hotOnes, .ref m_indexed, .ref m_isChanged, .int 0, .ref m_valueNow, .int 0, .int (-1), .int 0, .ref m_didSome, .ref m_sizes, .ref m_ends])), (m_all, aI cs 51207 fm)]) (hS : va_S A s.heap H locs) (ls : Array Slot) (hl : lv_has ls 4 [(3, .int (nI i)), (2, .int acc), (0, .ref md), (1, .int (nI PP))]), W p l e rm_c_X9_stayingOn_g s m [.ref md, .int (nI PP)].toArray below meth c H locs 0 0 Qz (F0 m 4 ls []) := by
    intro fuel
    induction fuel with
    | zero =>
      intro i acc hfuel hi hacc H locs hP hD hS ls hl
      exact absurd hfuel (by omega)
    | succ fuel ih =>
      intro i acc hfuel hi hacc H locs hP hD hS ls hl
      refine lv_iload_n hx hb dX9_stayingOn_4 rfl (lv_at hl 0 rfl) ?_
      refine lv_aload_n hx hb dX9_stayingOn_5 rfl (lv_at hl 2 rfl) ?_
      refine va_get (D := D) (ci := 9) (v := .ref m_all) (C := RX9) (T := TX9) (N := 25) hx hb hu in_X9 hown hK.1 hP 0 rfl rfl 1 (by decide) (hu _ u_1081) (fun _ h9 => h9) rfl dX9_stayingOn_6 ?_
      refine lv_sipush (v := 1628) hx hb dX9_stayingOn_9 (by decide) ?_
      refine va_iald hx hb hK.1 hP 1 0 rfl rfl (vin_c _ _ rfl) dX9_stayingOn_12 ?_
      refine tpi (y := nI nn) hNn ?_
      refine lv_icmp_ge (tgt := 46) hx hb dX9_stayingOn_13 (by decide) (fun c_2 => ?_) (fun c_2 => ?_)
      · have gc_2 : nn ≤ i := (nI_leI (a := nn) (b := i) (by omega) (by omega)).mp c_2
        refine lv_iload_n hx hb dX9_stayingOn_46 rfl (lv_at hl 1 rfl) ?_
        exact hz () hP hD hS (by have e9 : i = nn := (by omega); rw [hacc, e9]) [0, 1] rfl rfl (Nat.le_of_ble_eq_true rfl) (Nat.le_of_ble_eq_true rfl) .int rfl rfl dX9_stayingOn_47
      · have gc_2 : ¬ nn ≤ i := fun h => c_2 ((nI_leI (a := nn) (b := i) (by omega) (by omega)).mpr h)
        refine lv_iload_n hx hb dX9_stayingOn_16 rfl (lv_at hl 1 rfl) ?_
        refine lv_aload_n hx hb dX9_stayingOn_17 rfl (lv_at hl 2 rfl) ?_
        refine lv_iload_n hx hb dX9_stayingOn_18 rfl (lv_at hl 0 rfl) ?_
        refine lv_iconst (v := 4) hx hb dX9_stayingOn_19 (by decide) ?_
        refine kV_i (ci := 9) (As := [.int (nI i), .int 4]) (rest := [.int acc]) (wc := [(md, .inr (9, [.int th, .ref m_all, .ref m_deeds, .ref m_trial, .int dm, .ref m_hasImage, .ref m_tape, .ref m_key, .ref m_answered, .int 0, .int 0, .int 0, .ref m_goes, .int sw, .ref m_hotOnes, .ref m_indexed, .ref m_isChanged, .int 0, .ref m_valueNow, .int 0, .int (-1), .int 0, .ref m_didSome, .ref m_sizes, .ref m_ends])), (m_all, aI cs 51207 fm)]) (wr := []) hx hb hml hown hu hK hP hD hS hA hl.1 (c_X9_at4 l D cs H.size md m_all m_deeds m_trial m_hasImage m_tape m_key m_answered m_goes m_hotOnes m_indexed m_isChanged m_valueNow m_didSome m_sizes m_ends dm th sw fm i (by omega)) (gV u_1208 u_1210 u_18 u_76 u_1211) hd_X9_at ⟨(Nat.le_of_ble_eq_true rfl), (Nat.le_of_ble_eq_true rfl)⟩ [0, 1] [] rfl rfl rfl rfl (by decide) rfl 0 rfl rfl rfl (Nat.le_of_ble_eq_true rfl) dX9_stayingOn_20 ⟨(Nat.le_of_ble_eq_true rfl), (Nat.le_of_ble_eq_true rfl)⟩ (fun r_3 ut_4 H locs hw_5 hP hD hS => ?_)
        have hP : va_P D vwCl [(md, .inr (9, [.int th, .ref m_all, .ref m_deeds, .ref m_trial, .int dm, .ref m_hasImage, .ref m_tape, .ref m_key, .ref m_answered, .int 0, .int 0, .int 0, .ref m_goes, .int sw, .ref m_hotOnes, .ref m_indexed, .ref m_isChanged, .int 0, .ref m_valueNow, .int 0, .int (-1), .int 0, .ref m_didSome, .ref m_sizes, .ref m_ends])), (m_all, aI cs 51207 fm)] H := hP
        have hD : va_D A [(md, .inr (9, [.int th, .ref m_all, .ref m_deeds, .ref m_trial, .int dm, .ref m_hasImage, .ref m_tape, .ref m_key, .ref m_answered, .int 0, .int 0, .int 0, .ref m_goes, .int sw, .ref m_hotOnes, .ref m_indexed, .ref m_isChanged, .int 0, .ref m_valueNow, .int 0, .int (-1), .int 0, .ref m_didSome, .ref m_sizes, .ref m_ends])), (m_all, aI cs 51207 fm)] := hD
        have er_6 := hw_5
        subst er_6
        refine lv_iload_n hx hb dX9_stayingOn_23 rfl (lv_at hl 3 rfl) ?_
        refine lv_icmp_ne (tgt := 37) hx hb dX9_stayingOn_24 (by decide) (fun c_7 => ?_) (fun c_7 => ?_)
        · refine lv_iconst (v := 0) hx hb dX9_stayingOn_37 (by decide) ?_
          refine lv_iadd hx hb dX9_stayingOn_38 ?_
          refine tpi (y := acc) (i_add0 _) ?_
          refine lv_istore_n (lv' := [(2, .int acc), (3, .int (nI i)), (0, .ref md), (1, .int (nI PP))]) hx hb dX9_stayingOn_39 rfl hl (by decide) rfl (fun ls hl => ?_)
          refine lv_iinc (v := nI (i + 1)) (lv' := [(3, .int (nI (i + 1))), (2, .int acc), (0, .ref md), (1, .int (nI PP))]) hx hb dX9_stayingOn_40 hl (k := 1) rfl (nI_1 _) (by decide) rfl (fun ls hl => ?_)
          refine lv_goto (tgt := 4) hx hb dX9_stayingOn_43 (by decide) ?_
          exact ih (i + 1) acc (by omega) (by omega) (by rw [smo_0 c_7]; exact hacc) H locs (hP.sub [0, 1] rfl) (hD.sub [0, 1] rfl rfl) hS ls (lv_sub hl [0, 1, 2, 3] rfl)
        · refine lv_aload_n hx hb dX9_stayingOn_27 rfl (lv_at hl 2 rfl) ?_
          refine lv_iload_n hx hb dX9_stayingOn_28 rfl (lv_at hl 0 rfl) ?_
          refine lv_bipush (v := 6) hx hb dX9_stayingOn_29 (by decide) ?_
          refine kV_i (ci := 9) (As := [.int (nI i), .int 6]) (rest := [.int acc]) (wc := [(md, .inr (9, [.int th, .ref m_all, .ref m_deeds, .ref m_trial, .int dm, .ref m_hasImage, .ref m_tape, .ref m_key, .ref m_answered, .int 0, .int 0, .int 0, .ref m_goes, .int sw, .ref m_hotOnes, .ref m_indexed, .ref m_isChanged, .int 0, .ref m_valueNow, .int 0, .int (-1), .int 0, .ref m_didSome, .ref m_sizes, .ref m_ends])), (m_all, aI cs 51207 fm)]) (wr := []) hx hb hml hown hu hK hP hD hS hA hl.1 (c_X9_at6 l D cs H.size md m_all m_deeds m_trial m_hasImage m_tape m_key m_answered m_goes m_hotOnes m_indexed m_isChanged m_valueNow m_didSome m_sizes m_ends dm th sw fm i (by omega)) (gV u_1208 u_1210 u_18 u_76 u_1211) hd_X9_at ⟨(Nat.le_of_ble_eq_true rfl), (Nat.le_of_ble_eq_true rfl)⟩ [0, 1] [] rfl rfl rfl rfl (by decide) rfl 0 rfl rfl rfl (Nat.le_of_ble_eq_true rfl) dX9_stayingOn_31 ⟨(Nat.le_of_ble_eq_true rfl), (Nat.le_of_ble_eq_true rfl)⟩ (fun r_8 ut_9 H locs hw_10 hP hD hS => ?_)
          have hP : va_P D vwCl [(md, .inr (9, [.int th, .ref m_all, .ref m_deeds, .ref m_trial, .int dm, .ref m_hasImage, .ref m_tape, .ref m_key, .ref m_answered, .int 0, .int 0, .int 0, .ref m_goes, .int sw, .ref m_hotOnes, .ref m_indexed, .ref m_isChanged, .int 0, .ref m_valueNow, .int 0, .int (-1), .int 0, .ref m_didSome, .ref m_sizes, .ref m_ends])), (m_all, aI cs 51207 fm)] H := hP
          have hD : va_D A [(md, .inr (9, [.int th, .ref m_all, .ref m_deeds, .ref m_trial, .int dm, .ref m_hasImage, .ref m_tape, .ref m_key, .ref m_answered, .int 0, .int 0, .int 0, .ref m_goes, .int sw, .ref m_hotOnes, .ref m_indexed, .ref m_isChanged, .int 0, .ref m_valueNow, .int 0, .int (-1), .int 0, .ref m_didSome, .ref m_sizes, .ref m_ends])), (m_all, aI cs 51207 fm)] := hD
          have er_11 := hw_10
          subst er_11
          refine lv_goto (tgt := 38) hx hb dX9_stayingOn_34 (by decide) ?_
          refine lv_iadd hx hb dX9_stayingOn_38 ?_
          refine lv_istore_n (lv' := [(2, .int (acc + (fm (1629 + 8 * i + 6)))), (3, .int (nI i)), (0, .ref md), (1, .int (nI PP))]) hx hb dX9_stayingOn_39 rfl hl (by decide) rfl (fun ls hl => ?_)
          refine lv_iinc (v := nI (i + 1)) (lv' := [(3, .int (nI (i + 1))), (2, .int (acc + (fm (1629 + 8 * i + 6)))), (0, .ref md), (1, .int (nI PP))]) hx hb dX9_stayingOn_40 hl (k := 1) rfl (nI_1 _) (by decide) rfl (fun ls hl => ?_)
          refine lv_goto (tgt := 4) hx hb dX9_stayingOn_43 (by decide) ?_
          exact ih (i + 1) (acc + (fm (1629 + 8 * i + 6))) (by omega) (by omega) (by rw [smo_1 c_7, ← hacc]) H locs (hP.sub [0, 1] rfl) (hD.sub [0, 1] rfl rfl) hS ls (lv_sub hl [0, 1, 2, 3] rfl)
  exact lp_1 (nn + 1) 0 0 (by omega) (by omega) rfl H locs (hP.sub [0, 1] rfl) (hD.sub [0, 1] rfl rfl) hS ls (lv_sub hl [0, 1, 2, 3] rfl)
abbrev rm_c_X9_deadOn_g : Room := { frames := 2, cells := 0, slots := 0, locals := 45 }
set_option maxHeartbeats 4000000 in
set_option maxRecDepth 100000 in
theorem c_X9_deadOn_g (l : Launch) (D : va_G) (cs : Nat → ClassId) (sz : Nat) (md : Nat) (m_all : Nat) (m_deeds : Nat) (m_trial : Nat) (m_hasImage : Nat) (m_tape : Nat) (m_key : Nat) (m_answered : Nat) (m_goes : Nat) (m_hotOnes : Nat) (m_indexed : Nat) (m_isChanged : Nat) (m_valueNow : Nat) (m_didSome : Nat) (m_sizes : Nat) (m_ends : Nat) (dm : Int32) (th : Int32) (sw : Int32) (PP : Nat) (fm : Nat → Int32) (nn : Nat) (hNn : fm 1628 = nI nn) (hn2 : nn ≤ 240) (hSum : ∀ p, p < 24 → smo fm p nn = fm (7 + p)) (hP24 : PP < 24) : cMi l yX9_deadOn (Cond.code yX9_deadOn cX9_deadOn 2 (some .int)) (rm_c_X9_deadOn_g) D cs [.ref md, .int (nI PP)] sz [(md, .inr (9, [.int th, .ref m_all, .ref m_deeds, .ref m_trial, .int dm, .ref m_hasImage, .ref m_tape, .ref m_key, .ref m_answered, .int 0, .int 0, .int 0, .ref m_goes, .int sw, .ref m_hotOnes, .ref m_indexed, .ref m_isChanged, .int 0, .ref m_valueNow, .int 0, .int (-1), .int 0, .ref m_didSome, .ref m_sizes, .ref m_ends])), (m_all, aI cs 51207 fm)] (fun (r : Int32) (u : Unit) => (r = 0)) (fun (u : Unit) => [(md, .inr (9, [.int th, .ref m_all, .ref m_deeds, .ref m_trial, .int dm, .ref m_hasImage, .ref m_tape, .ref m_key, .ref m_answered, .int 0, .int 0, .int 0, .ref m_goes, .int sw, .ref m_hotOnes, .ref m_indexed, .ref m_isChanged, .int 0, .ref m_valueNow, .int 0, .int (-1), .int 0, .ref m_didSome, .ref m_sizes, .ref m_ends])), (m_all, aI cs 51207 fm)]) := by
  refine kMet_i RX9 (by decide) rfl (Nat.le_of_ble_eq_true rfl) ?_
  intro p e s m below meth c ls A Qz H locs hx hb hml hown hin hu hK hsz hA hP hD hS hl hz
  subst hsz
  have hl : lv_has ls 2 [(0, .ref md), (1, .int (nI PP))] := hl
  refine lv_aload_n hx hb dX9_deadOn_0 rfl (lv_at hl 0 rfl) ?_
  refine va_get (D := D) (ci := 9) (v := .ref m_all) (C := RX9) (T := TX9) (N := 25) hx hb hu in_X9 hown hK.1 hP 0 rfl rfl 1 (by decide) (hu _ u_1081) (fun _ h9 => h9) rfl dX9_deadOn_1 ?_
  refine lv_bipush (v := 7) hx hb dX9_deadOn_4 (by decide) ?_
  refine lv_iload_n hx hb dX9_deadOn_6 rfl (lv_at hl 1 rfl) ?_
  refine lv_iadd hx hb dX9_deadOn_7 ?_
  refine tpi (y := nI (7 + PP)) (nI_add _ _) ?_
  refine va_iald hx hb hK.1 hP 1 0 rfl rfl (vp_in_nI (by omega) (by omega)) dX9_deadOn_8 ?_
  refine tpi (y := fm (7 + PP)) (congrArg fm (nI_clamp (by omega))) ?_
  refine lv_aload_n hx hb dX9_deadOn_9 rfl (lv_at hl 0 rfl) ?_
  refine lv_iload_n hx hb dX9_deadOn_10 rfl (lv_at hl 1 rfl) ?_
  refine kV_i (ci := 9) (As := [.int (nI PP)]) (rest := [.int (fm (7 + PP))]) (wc := [(md, .inr (9, [.int th, .ref m_all, .ref m_deeds, .ref m_trial, .int dm, .ref m_hasImage, .ref m_tape, .ref m_key, .ref m_answered, .int 0, .int 0, .int 0, .ref m_goes, .int sw, .ref m_hotOnes, .ref m_indexed, .ref m_isChanged, .int 0, .ref m_valueNow, .int 0, .int (-1), .int 0, .ref m_didSome, .ref m_sizes, .ref m_ends])), (m_all, aI cs 51207 fm)]) (wr := []) hx hb hml hown hu hK hP hD hS hA hl.1 (c_X9_stayingOn_g l D cs H.size nn md m_all m_deeds m_trial m_hasImage m_tape m_key m_answered m_goes m_hotOnes m_indexed m_isChanged m_valueNow m_didSome m_sizes m_ends dm th sw PP fm hNn hn2) (gV u_1204 u_1206 u_17 u_76 u_1207) hd_X9_stayingOn ⟨(Nat.le_of_ble_eq_true rfl), (Nat.le_of_ble_eq_true rfl)⟩ [0, 1] [] rfl rfl rfl rfl (by decide) rfl 0 rfl rfl rfl (Nat.le_of_ble_eq_true rfl) dX9_deadOn_11 ⟨(Nat.le_of_ble_eq_true rfl), (Nat.le_of_ble_eq_true rfl)⟩ (fun r_1 ut_2 H locs hw_3 hP hD hS => ?_)
  have hP : va_P D vwCl [(md, .inr (9, [.int th, .ref m_all, .ref m_deeds, .ref m_trial, .int dm, .ref m_hasImage, .ref m_tape, .ref m_key, .ref m_answered, .int 0, .int 0, .int 0, .ref m_goes, .int sw, .ref m_hotOnes, .ref m_indexed, .ref m_isChanged, .int 0, .ref m_valueNow, .int 0, .int (-1), .int 0, .ref m_didSome, .ref m_sizes, .ref m_ends])), (m_all, aI cs 51207 fm)] H := hP
  have hD : va_D A [(md, .inr (9, [.int th, .ref m_all, .ref m_deeds, .ref m_trial, .int dm, .ref m_hasImage, .ref m_tape, .ref m_key, .ref m_answered, .int 0, .int 0, .int 0, .ref m_goes, .int sw, .ref m_hotOnes, .ref m_indexed, .ref m_isChanged, .int 0, .ref m_valueNow, .int 0, .int (-1), .int 0, .ref m_didSome, .ref m_sizes, .ref m_ends])), (m_all, aI cs 51207 fm)] := hD
  have er_4 := hw_3
  subst er_4
  refine lv_isub hx hb dX9_deadOn_14 ?_
  refine tpi (y := 0) (by rw [hSum PP hP24]; exact Int32.sub_self _) ?_
  exact hz () hP hD hS rfl [0, 1] rfl rfl (Nat.le_of_ble_eq_true rfl) (Nat.le_of_ble_eq_true rfl) .int rfl rfl dX9_deadOn_15
abbrev rm_c_X9_victimBy_g : Room := { frames := 3, cells := 0, slots := 0, locals := 66 }
set_option maxHeartbeats 4000000 in
set_option maxRecDepth 100000 in
theorem c_X9_victimBy_g (l : Launch) (D : va_G) (cs : Nat → ClassId) (sz : Nat) (md : Nat) (m_all : Nat) (m_deeds : Nat) (m_trial : Nat) (m_hasImage : Nat) (m_tape : Nat) (m_key : Nat) (m_answered : Nat) (m_goes : Nat) (m_hotOnes : Nat) (m_indexed : Nat) (m_isChanged : Nat) (m_valueNow : Nat) (m_didSome : Nat) (m_sizes : Nat) (m_ends : Nat) (dm : Int32) (th : Int32) (sw : Int32) (fm : Nat → Int32) (nn : Nat) (hNn : fm 1628 = nI nn) (hn2 : nn ≤ 240) (hSum : ∀ p, p < 24 → smo fm p nn = fm (7 + p)) : cMi l yX9_victimBy (Cond.code yX9_victimBy cX9_victimBy 7 (some .int)) (rm_c_X9_victimBy_g) D cs [.ref md, .int 0] sz [(md, .inr (9, [.int th, .ref m_all, .ref m_deeds, .ref m_trial, .int dm, .ref m_hasImage, .ref m_tape, .ref m_key, .ref m_answered, .int 0, .int 0, .int 0, .ref m_goes, .int sw, .ref m_hotOnes, .ref m_indexed, .ref m_isChanged, .int 0, .ref m_valueNow, .int 0, .int (-1), .int 0, .ref m_didSome, .ref m_sizes, .ref m_ends])), (m_all, aI cs 51207 fm)] (fun (r : Int32) (u : Unit) => (r = (-1))) (fun (u : Unit) => [(md, .inr (9, [.int th, .ref m_all, .ref m_deeds, .ref m_trial, .int dm, .ref m_hasImage, .ref m_tape, .ref m_key, .ref m_answered, .int 0, .int 0, .int 0, .ref m_goes, .int sw, .ref m_hotOnes, .ref m_indexed, .ref m_isChanged, .int 0, .ref m_valueNow, .int 0, .int (-1), .int 0, .ref m_didSome, .ref m_sizes, .ref m_ends])), (m_all, aI cs 51207 fm)]) := by
  refine kMet_i RX9 (by decide) rfl (Nat.le_of_ble_eq_true rfl) ?_
  intro p e s m below meth c ls A Qz H locs hx hb hml hown hin hu hK hsz hA hP hD hS hl hz
  subst hsz
  have hl : lv_has ls 7 [(0, .ref md), (1, .int 0)] := hl
  refine lv_iconst (v := (-1)) hx hb dX9_victimBy_0 (by decide) ?_
  refine lv_istore_n (lv' := [(2, .int (-1)), (0, .ref md), (1, .int 0)]) hx hb dX9_victimBy_1 rfl hl (by decide) rfl (fun ls hl => ?_)
  refine lv_iconst (v := 0) hx hb dX9_victimBy_2 (by decide) ?_
  refine lv_istore_n (lv' := [(3, .int 0), (2, .int (-1)), (0, .ref md), (1, .int 0)]) hx hb dX9_victimBy_3 rfl hl (by decide) rfl (fun ls hl => ?_)
  refine lv_iconst (v := 0) hx hb dX9_victimBy_4 (by decide) ?_
  refine lv_istore (lv' := [(4, .int 0), (3, .int 0), (2, .int (-1)), (0, .ref md), (1, .int 0)]) hx hb dX9_victimBy_5 hl (by decide) rfl (fun ls hl => ?_)
  have lp_1 : ∀ (fuel : Nat) (i : Nat) (hfuel : 24 < i + fuel) (hi : i ≤ 24) (H : Heap) (locs : List Loc) (hP : va_P D vwCl [(md, .inr (9, [.int th, .ref m_all, .ref m_deeds, .ref m_trial, .int dm, .ref m_hasImage, .ref m_tape, .ref m_key, .ref m_answered, .int 0, .int 0, .int 0, .ref m_goes, .int sw, .ref m_hotOnes, .ref m_indexed, .ref m_isChanged, .int 0, .ref m_valueNow, .int 0, .int (-1), .int 0, .ref m_didSome, .ref m_sizes, .ref m_ends])), (m_all, aI cs 51207 fm)] H) (hD : va_D A [(md, .inr (9, [.int th, .ref m_all, .ref m_deeds, .ref m_trial, .int dm, .ref m_hasImage, .ref m_tape, .ref m_key, .ref m_answered, .int 0, .int 0, .int 0, .ref m_goes, .int sw, .ref m_hotOnes, .ref m_indexed, .ref m_isChanged, .int 0, .ref m_valueNow, .int 0, .int (-1), .int 0, .ref m_didSome, .ref m_sizes, .ref m_ends])), (m_all, aI cs 51207 fm)]) (hS : va_S A s.heap H locs) (ls : Array Slot) (hl : lv_has ls 7 [(4, .int (nI i)), (3, .int 0), (2, .int (-1)), (0, .ref md), (1, .int 0)]), W p l e rm_c_X9_victimBy_g s m [.ref md, .int 0].toArray below meth c H locs 0 0 Qz (F0 m 7 ls []) := by
    intro fuel
    induction fuel with
    | zero =>
      intro i hfuel hi H locs hP hD hS ls hl
      exact absurd hfuel (by omega)
    | succ fuel ih =>
      intro i hfuel hi H locs hP hD hS ls hl
      refine lv_iload hx hb dX9_victimBy_7 (lv_at hl 0 rfl) ?_
      refine lv_bipush (v := 24) hx hb dX9_victimBy_9 (by decide) ?_
      refine lv_icmp_ge (tgt := 93) hx hb dX9_victimBy_11 (by decide) (fun c_2 => ?_) (fun c_2 => ?_)
      · have gc_2 : 24 ≤ i := (nI_leI (a := 24) (b := i) (by omega) (by omega)).mp c_2
        refine lv_iload_n hx hb dX9_victimBy_93 rfl (lv_at hl 2 rfl) ?_
        exact hz () hP hD hS rfl [0, 1] rfl rfl (Nat.le_of_ble_eq_true rfl) (Nat.le_of_ble_eq_true rfl) .int rfl rfl dX9_victimBy_94
      · have gc_2 : ¬ 24 ≤ i := fun h => c_2 ((nI_leI (a := 24) (b := i) (by omega) (by omega)).mpr h)
        refine lv_aload_n hx hb dX9_victimBy_14 rfl (lv_at hl 3 rfl) ?_
        refine lv_iload hx hb dX9_victimBy_15 (lv_at hl 0 rfl) ?_
        refine kV_i (ci := 9) (As := [.int (nI i)]) (rest := []) (wc := [(md, .inr (9, [.int th, .ref m_all, .ref m_deeds, .ref m_trial, .int dm, .ref m_hasImage, .ref m_tape, .ref m_key, .ref m_answered, .int 0, .int 0, .int 0, .ref m_goes, .int sw, .ref m_hotOnes, .ref m_indexed, .ref m_isChanged, .int 0, .ref m_valueNow, .int 0, .int (-1), .int 0, .ref m_didSome, .ref m_sizes, .ref m_ends])), (m_all, aI cs 51207 fm)]) (wr := []) hx hb hml hown hu hK hP hD hS hA hl.1 (c_X9_deadOn_g l D cs H.size md m_all m_deeds m_trial m_hasImage m_tape m_key m_answered m_goes m_hotOnes m_indexed m_isChanged m_valueNow m_didSome m_sizes m_ends dm th sw i fm nn hNn hn2 hSum (by omega)) (gV u_1200 u_1202 u_16 u_76 u_1203) hd_X9_deadOn ⟨(Nat.le_of_ble_eq_true rfl), (Nat.le_of_ble_eq_true rfl)⟩ [0, 1] [] rfl rfl rfl rfl (by decide) rfl 0 rfl rfl rfl (Nat.le_of_ble_eq_true rfl) dX9_victimBy_17 ⟨(Nat.le_of_ble_eq_true rfl), (Nat.le_of_ble_eq_true rfl)⟩ (fun r_3 ut_4 H locs hw_5 hP hD hS => ?_)
        have hP : va_P D vwCl [(md, .inr (9, [.int th, .ref m_all, .ref m_deeds, .ref m_trial, .int dm, .ref m_hasImage, .ref m_tape, .ref m_key, .ref m_answered, .int 0, .int 0, .int 0, .ref m_goes, .int sw, .ref m_hotOnes, .ref m_indexed, .ref m_isChanged, .int 0, .ref m_valueNow, .int 0, .int (-1), .int 0, .ref m_didSome, .ref m_sizes, .ref m_ends])), (m_all, aI cs 51207 fm)] H := hP
        have hD : va_D A [(md, .inr (9, [.int th, .ref m_all, .ref m_deeds, .ref m_trial, .int dm, .ref m_hasImage, .ref m_tape, .ref m_key, .ref m_answered, .int 0, .int 0, .int 0, .ref m_goes, .int sw, .ref m_hotOnes, .ref m_indexed, .ref m_isChanged, .int 0, .ref m_valueNow, .int 0, .int (-1), .int 0, .ref m_didSome, .ref m_sizes, .ref m_ends])), (m_all, aI cs 51207 fm)] := hD
        have er_6 := hw_5
        subst er_6
        refine lv_istore (lv' := [(5, .int 0), (4, .int (nI i)), (3, .int 0), (2, .int (-1)), (0, .ref md), (1, .int 0)]) hx hb dX9_victimBy_20 hl (by decide) rfl (fun ls hl => ?_)
        refine lv_iload hx hb dX9_victimBy_22 (lv_at hl 0 rfl) ?_
        refine lv_if_ne (tgt := 30) hx hb dX9_victimBy_24 (by decide) (fun c_7 => absurd (by decide) c_7) (fun c_7 => ?_)
        refine lv_goto (tgt := 87) hx hb dX9_victimBy_27 (by decide) ?_
        refine lv_iinc (v := nI (i + 1)) (lv' := [(4, .int (nI (i + 1))), (5, .int 0), (3, .int 0), (2, .int (-1)), (0, .ref md), (1, .int 0)]) hx hb dX9_victimBy_87 hl (k := 1) rfl (nI_1 _) (by decide) rfl (fun ls hl => ?_)
        refine lv_goto (tgt := 7) hx hb dX9_victimBy_90 (by decide) ?_
        exact ih (i + 1) (by omega) (by omega) H locs (hP.sub [0, 1] rfl) (hD.sub [0, 1] rfl rfl) hS ls (lv_sub hl [0, 2, 3, 4, 5] rfl)
  exact lp_1 (24 + 1) 0 (by omega) (by omega) H locs (hP.sub [0, 1] rfl) (hD.sub [0, 1] rfl rfl) hS ls (lv_sub hl [0, 1, 2, 3, 4] rfl)
abbrev rm_c_X9_makesPlace_q : Room := { frames := 3, cells := 0, slots := 0, locals := 68 }
set_option maxHeartbeats 4000000 in
set_option maxRecDepth 100000 in
theorem c_X9_makesPlace_q (l : Launch) (D : va_G) (cs : Nat → ClassId) (sz : Nat) (md : Nat) (m_all : Nat) (m_deeds : Nat) (m_trial : Nat) (m_hasImage : Nat) (m_tape : Nat) (m_key : Nat) (m_answered : Nat) (m_goes : Nat) (m_hotOnes : Nat) (m_indexed : Nat) (m_isChanged : Nat) (m_valueNow : Nat) (m_didSome : Nat) (m_sizes : Nat) (m_ends : Nat) (dm : Int32) (th : Int32) (sw : Int32) (zz : Nat) (qq : Nat) (fm : Nat → Int32) (we : Nat → Nat) (hE : ∀ j, j < 24 → fm (7 + j) = nI (we j) ∧ we j ≤ 64) (hzz : 1 ≤ zz ∧ zz ≤ 64) (hF : ∀ j, j < qq → 0 < we j ∧ 64 < we j + zz) (hG : ∀ j, qq < j → j < 24 → we j = 0) (hqz : we qq + zz ≤ 64) (hL : 0 < we qq → fm 1 = nI qq) (hq22 : qq ≤ 22) (h2 : fm 2 = 0) (her : ∀ j, j < 24 → fm (31 + j) = 0) : cMi l yX9_makesPlace (Cond.code yX9_makesPlace cX9_makesPlace 4 (some .int)) (rm_c_X9_makesPlace_q) D cs [.ref md, .int (nI zz)] sz [(md, .inr (9, [.int th, .ref m_all, .ref m_deeds, .ref m_trial, .int dm, .ref m_hasImage, .ref m_tape, .ref m_key, .ref m_answered, .int 0, .int 0, .int 0, .ref m_goes, .int sw, .ref m_hotOnes, .ref m_indexed, .ref m_isChanged, .int 0, .ref m_valueNow, .int 0, .int (-1), .int 0, .ref m_didSome, .ref m_sizes, .ref m_ends])), (m_all, aI cs 51207 fm)] (fun (r : Int32) (u : Unit) => (r = (nI qq))) (fun (u : Unit) => [(md, .inr (9, [.int th, .ref m_all, .ref m_deeds, .ref m_trial, .int dm, .ref m_hasImage, .ref m_tape, .ref m_key, .ref m_answered, .int 0, .int 0, .int 0, .ref m_goes, .int 0, .ref m_hotOnes, .ref m_indexed, .ref m_isChanged, .int 0, .ref m_valueNow, .int 0, .int (-1), .int 0, .ref m_didSome, .ref m_sizes, .ref m_ends])), (m_all, aI cs 51207 fm)]) := by
  refine kMet_i RX9 (by decide) rfl (Nat.le_of_ble_eq_true rfl) ?_
  intro p e s m below meth c ls A Qz H locs hx hb hml hown hin hu hK hsz hA hP hD hS hl hz
  subst hsz
  have hl : lv_has ls 4 [(0, .ref md), (1, .int (nI zz))] := hl
  rcases (Nat.eq_zero_or_pos (we qq)) with hc | hc
  · refine lv_aload_n hx hb dX9_makesPlace_0 rfl (lv_at hl 0 rfl) ?_
    refine lv_iconst (v := 0) hx hb dX9_makesPlace_1 (by decide) ?_
    refine va_put (D := D) (ci := 9) (v := .int 0) (ty := tyX9 13) (C := RX9) (T := TX9) (N := 25) hx hb hu in_X9 tyX9 tyX9_ok nmX9 hown hK.1 hP hD hS 0 rfl rfl 13 (by decide) (hu _ u_1093) (fun _ h9 => h9) rfl (tyX9_ok 13 (by decide)) rfl rfl (Nat.le_of_ble_eq_true rfl) dX9_makesPlace_2 (fun H locs hP hD hS => ?_)
    have hP : va_P D vwCl [(md, .inr (9, [.int th, .ref m_all, .ref m_deeds, .ref m_trial, .int dm, .ref m_hasImage, .ref m_tape, .ref m_key, .ref m_answered, .int 0, .int 0, .int 0, .ref m_goes, .int 0, .ref m_hotOnes, .ref m_indexed, .ref m_isChanged, .int 0, .ref m_valueNow, .int 0, .int (-1), .int 0, .ref m_didSome, .ref m_sizes, .ref m_ends])), (m_all, aI cs 51207 fm)] H := hP
    have hD : va_D A [(md, .inr (9, [.int th, .ref m_all, .ref m_deeds, .ref m_trial, .int dm, .ref m_hasImage, .ref m_tape, .ref m_key, .ref m_answered, .int 0, .int 0, .int 0, .ref m_goes, .int 0, .ref m_hotOnes, .ref m_indexed, .ref m_isChanged, .int 0, .ref m_valueNow, .int 0, .int (-1), .int 0, .ref m_didSome, .ref m_sizes, .ref m_ends])), (m_all, aI cs 51207 fm)] := hD
    refine lv_aload_n hx hb dX9_makesPlace_5 rfl (lv_at hl 0 rfl) ?_
    refine lv_iload_n hx hb dX9_makesPlace_6 rfl (lv_at hl 1 rfl) ?_
    refine lv_iconst (v := (-1)) hx hb dX9_makesPlace_7 (by decide) ?_
    refine lv_iconst (v := 2) hx hb dX9_makesPlace_8 (by decide) ?_
    refine kV_i (ci := 9) (As := [.int (nI zz), .int (-1), .int 2]) (rest := []) (wc := [(md, .inr (9, [.int th, .ref m_all, .ref m_deeds, .ref m_trial, .int dm, .ref m_hasImage, .ref m_tape, .ref m_key, .ref m_answered, .int 0, .int 0, .int 0, .ref m_goes, .int 0, .ref m_hotOnes, .ref m_indexed, .ref m_isChanged, .int 0, .ref m_valueNow, .int 0, .int (-1), .int 0, .ref m_didSome, .ref m_sizes, .ref m_ends])), (m_all, aI cs 51207 fm)]) (wr := []) hx hb hml hown hu hK hP hD hS hA hl.1 (c_X9_placeFor_z l D cs H.size md m_all m_deeds m_trial m_hasImage m_tape m_key m_answered m_goes m_hotOnes m_indexed m_isChanged m_valueNow m_didSome m_sizes m_ends dm th 0 zz qq fm we hE hzz hF hG hqz hL hq22 h2 her hc) (gV u_1184 u_1186 u_12 u_76 u_1187) hd_X9_placeFor ⟨(Nat.le_of_ble_eq_true rfl), (Nat.le_of_ble_eq_true rfl)⟩ [0, 1] [] rfl rfl rfl rfl (by decide) rfl 0 rfl rfl rfl (Nat.le_of_ble_eq_true rfl) dX9_makesPlace_9 ⟨(Nat.le_of_ble_eq_true rfl), (Nat.le_of_ble_eq_true rfl)⟩ (fun r_1 ut_2 H locs hw_3 hP hD hS => ?_)
    have hP : va_P D vwCl [(md, .inr (9, [.int th, .ref m_all, .ref m_deeds, .ref m_trial, .int dm, .ref m_hasImage, .ref m_tape, .ref m_key, .ref m_answered, .int 0, .int 0, .int 0, .ref m_goes, .int 0, .ref m_hotOnes, .ref m_indexed, .ref m_isChanged, .int 0, .ref m_valueNow, .int 0, .int (-1), .int 0, .ref m_didSome, .ref m_sizes, .ref m_ends])), (m_all, aI cs 51207 fm)] H := hP
    have hD : va_D A [(md, .inr (9, [.int th, .ref m_all, .ref m_deeds, .ref m_trial, .int dm, .ref m_hasImage, .ref m_tape, .ref m_key, .ref m_answered, .int 0, .int 0, .int 0, .ref m_goes, .int 0, .ref m_hotOnes, .ref m_indexed, .ref m_isChanged, .int 0, .ref m_valueNow, .int 0, .int (-1), .int 0, .ref m_didSome, .ref m_sizes, .ref m_ends])), (m_all, aI cs 51207 fm)] := hD
    have er_4 := hw_3
    subst er_4
    refine lv_istore_n (lv' := [(2, .int (nI qq)), (0, .ref md), (1, .int (nI zz))]) hx hb dX9_makesPlace_12 rfl hl (by decide) rfl (fun ls hl => ?_)
    refine lv_iload_n hx hb dX9_makesPlace_13 rfl (lv_at hl 0 rfl) ?_
    refine lv_iconst (v := (-1)) hx hb dX9_makesPlace_14 (by decide) ?_
    refine lv_icmp_ne (tgt := 63) hx hb dX9_makesPlace_15 (by decide) (fun c_5 => ?_) (fun c_5 => absurd c_5 (nI_nem1 (by omega)))
    refine lv_iload_n hx hb dX9_makesPlace_63 rfl (lv_at hl 0 rfl) ?_
    exact hz () hP hD hS rfl [0, 1] rfl rfl (Nat.le_of_ble_eq_true rfl) (Nat.le_of_ble_eq_true rfl) .int rfl rfl dX9_makesPlace_64
  · refine lv_aload_n hx hb dX9_makesPlace_0 rfl (lv_at hl 0 rfl) ?_
    refine lv_iconst (v := 0) hx hb dX9_makesPlace_1 (by decide) ?_
    refine va_put (D := D) (ci := 9) (v := .int 0) (ty := tyX9 13) (C := RX9) (T := TX9) (N := 25) hx hb hu in_X9 tyX9 tyX9_ok nmX9 hown hK.1 hP hD hS 0 rfl rfl 13 (by decide) (hu _ u_1093) (fun _ h9 => h9) rfl (tyX9_ok 13 (by decide)) rfl rfl (Nat.le_of_ble_eq_true rfl) dX9_makesPlace_2 (fun H locs hP hD hS => ?_)
    have hP : va_P D vwCl [(md, .inr (9, [.int th, .ref m_all, .ref m_deeds, .ref m_trial, .int dm, .ref m_hasImage, .ref m_tape, .ref m_key, .ref m_answered, .int 0, .int 0, .int 0, .ref m_goes, .int 0, .ref m_hotOnes, .ref m_indexed, .ref m_isChanged, .int 0, .ref m_valueNow, .int 0, .int (-1), .int 0, .ref m_didSome, .ref m_sizes, .ref m_ends])), (m_all, aI cs 51207 fm)] H := hP
    have hD : va_D A [(md, .inr (9, [.int th, .ref m_all, .ref m_deeds, .ref m_trial, .int dm, .ref m_hasImage, .ref m_tape, .ref m_key, .ref m_answered, .int 0, .int 0, .int 0, .ref m_goes, .int 0, .ref m_hotOnes, .ref m_indexed, .ref m_isChanged, .int 0, .ref m_valueNow, .int 0, .int (-1), .int 0, .ref m_didSome, .ref m_sizes, .ref m_ends])), (m_all, aI cs 51207 fm)] := hD
    refine lv_aload_n hx hb dX9_makesPlace_5 rfl (lv_at hl 0 rfl) ?_
    refine lv_iload_n hx hb dX9_makesPlace_6 rfl (lv_at hl 1 rfl) ?_
    refine lv_iconst (v := (-1)) hx hb dX9_makesPlace_7 (by decide) ?_
    refine lv_iconst (v := 2) hx hb dX9_makesPlace_8 (by decide) ?_
    refine kV_i (ci := 9) (As := [.int (nI zz), .int (-1), .int 2]) (rest := []) (wc := [(md, .inr (9, [.int th, .ref m_all, .ref m_deeds, .ref m_trial, .int dm, .ref m_hasImage, .ref m_tape, .ref m_key, .ref m_answered, .int 0, .int 0, .int 0, .ref m_goes, .int 0, .ref m_hotOnes, .ref m_indexed, .ref m_isChanged, .int 0, .ref m_valueNow, .int 0, .int (-1), .int 0, .ref m_didSome, .ref m_sizes, .ref m_ends])), (m_all, aI cs 51207 fm)]) (wr := []) hx hb hml hown hu hK hP hD hS hA hl.1 (c_X9_placeFor_p l D cs H.size md m_all m_deeds m_trial m_hasImage m_tape m_key m_answered m_goes m_hotOnes m_indexed m_isChanged m_valueNow m_didSome m_sizes m_ends dm th 0 zz qq fm we hE hzz hF hG hqz hL hq22 h2 her hc) (gV u_1184 u_1186 u_12 u_76 u_1187) hd_X9_placeFor ⟨(Nat.le_of_ble_eq_true rfl), (Nat.le_of_ble_eq_true rfl)⟩ [0, 1] [] rfl rfl rfl rfl (by decide) rfl 0 rfl rfl rfl (Nat.le_of_ble_eq_true rfl) dX9_makesPlace_9 ⟨(Nat.le_of_ble_eq_true rfl), (Nat.le_of_ble_eq_true rfl)⟩ (fun r_6 ut_7 H locs hw_8 hP hD hS => ?_)
    have hP : va_P D vwCl [(md, .inr (9, [.int th, .ref m_all, .ref m_deeds, .ref m_trial, .int dm, .ref m_hasImage, .ref m_tape, .ref m_key, .ref m_answered, .int 0, .int 0, .int 0, .ref m_goes, .int 0, .ref m_hotOnes, .ref m_indexed, .ref m_isChanged, .int 0, .ref m_valueNow, .int 0, .int (-1), .int 0, .ref m_didSome, .ref m_sizes, .ref m_ends])), (m_all, aI cs 51207 fm)] H := hP
    have hD : va_D A [(md, .inr (9, [.int th, .ref m_all, .ref m_deeds, .ref m_trial, .int dm, .ref m_hasImage, .ref m_tape, .ref m_key, .ref m_answered, .int 0, .int 0, .int 0, .ref m_goes, .int 0, .ref m_hotOnes, .ref m_indexed, .ref m_isChanged, .int 0, .ref m_valueNow, .int 0, .int (-1), .int 0, .ref m_didSome, .ref m_sizes, .ref m_ends])), (m_all, aI cs 51207 fm)] := hD
    have er_9 := hw_8
    subst er_9
    refine lv_istore_n (lv' := [(2, .int (nI qq)), (0, .ref md), (1, .int (nI zz))]) hx hb dX9_makesPlace_12 rfl hl (by decide) rfl (fun ls hl => ?_)
    refine lv_iload_n hx hb dX9_makesPlace_13 rfl (lv_at hl 0 rfl) ?_
    refine lv_iconst (v := (-1)) hx hb dX9_makesPlace_14 (by decide) ?_
    refine lv_icmp_ne (tgt := 63) hx hb dX9_makesPlace_15 (by decide) (fun c_10 => ?_) (fun c_10 => absurd c_10 (nI_nem1 (by omega)))
    refine lv_iload_n hx hb dX9_makesPlace_63 rfl (lv_at hl 0 rfl) ?_
    exact hz () hP hD hS rfl [0, 1] rfl rfl (Nat.le_of_ble_eq_true rfl) (Nat.le_of_ble_eq_true rfl) .int rfl rfl dX9_makesPlace_64
abbrev rm_c_X9_makesPlace_n : Room := { frames := 4, cells := 0, slots := 0, locals := 92 }
set_option maxHeartbeats 4000000 in
set_option maxRecDepth 100000 in
theorem c_X9_makesPlace_n (l : Launch) (D : va_G) (cs : Nat → ClassId) (sz : Nat) (md : Nat) (m_all : Nat) (m_deeds : Nat) (m_trial : Nat) (m_hasImage : Nat) (m_tape : Nat) (m_key : Nat) (m_answered : Nat) (m_goes : Nat) (m_hotOnes : Nat) (m_indexed : Nat) (m_isChanged : Nat) (m_valueNow : Nat) (m_didSome : Nat) (m_sizes : Nat) (m_ends : Nat) (dm : Int32) (th : Int32) (sw : Int32) (zz : Nat) (fm : Nat → Int32) (we : Nat → Nat) (nn : Nat) (hE : ∀ j, j < 24 → fm (7 + j) = nI (we j) ∧ we j ≤ 64) (hzz : 1 ≤ zz ∧ zz ≤ 64) (hN : ∀ j, j < 24 → ¬ (0 < we j ∧ we j + zz ≤ 64)) (hz2 : zc we 24 < 2) (h3 : fm 3 = 0) (hNn : fm 1628 = nI nn) (hn2 : nn ≤ 240) (hSum : ∀ p, p < 24 → smo fm p nn = fm (7 + p)) : cMi l yX9_makesPlace (Cond.code yX9_makesPlace cX9_makesPlace 4 (some .int)) (rm_c_X9_makesPlace_n) D cs [.ref md, .int (nI zz)] sz [(md, .inr (9, [.int th, .ref m_all, .ref m_deeds, .ref m_trial, .int dm, .ref m_hasImage, .ref m_tape, .ref m_key, .ref m_answered, .int 0, .int 0, .int 0, .ref m_goes, .int sw, .ref m_hotOnes, .ref m_indexed, .ref m_isChanged, .int 0, .ref m_valueNow, .int 0, .int (-1), .int 0, .ref m_didSome, .ref m_sizes, .ref m_ends])), (m_all, aI cs 51207 fm)] (fun (r : Int32) (u : Unit) => (r = (-1))) (fun (u : Unit) => [(md, .inr (9, [.int th, .ref m_all, .ref m_deeds, .ref m_trial, .int dm, .ref m_hasImage, .ref m_tape, .ref m_key, .ref m_answered, .int 0, .int 0, .int 0, .ref m_goes, .int 0, .ref m_hotOnes, .ref m_indexed, .ref m_isChanged, .int 0, .ref m_valueNow, .int 0, .int (-1), .int 0, .ref m_didSome, .ref m_sizes, .ref m_ends])), (m_all, aI cs 51207 fm)]) := by
  refine kMet_i RX9 (by decide) rfl (Nat.le_of_ble_eq_true rfl) ?_
  intro p e s m below meth c ls A Qz H locs hx hb hml hown hin hu hK hsz hA hP hD hS hl hz
  subst hsz
  have hl : lv_has ls 4 [(0, .ref md), (1, .int (nI zz))] := hl
  refine lv_aload_n hx hb dX9_makesPlace_0 rfl (lv_at hl 0 rfl) ?_
  refine lv_iconst (v := 0) hx hb dX9_makesPlace_1 (by decide) ?_
  refine va_put (D := D) (ci := 9) (v := .int 0) (ty := tyX9 13) (C := RX9) (T := TX9) (N := 25) hx hb hu in_X9 tyX9 tyX9_ok nmX9 hown hK.1 hP hD hS 0 rfl rfl 13 (by decide) (hu _ u_1093) (fun _ h9 => h9) rfl (tyX9_ok 13 (by decide)) rfl rfl (Nat.le_of_ble_eq_true rfl) dX9_makesPlace_2 (fun H locs hP hD hS => ?_)
  have hP : va_P D vwCl [(md, .inr (9, [.int th, .ref m_all, .ref m_deeds, .ref m_trial, .int dm, .ref m_hasImage, .ref m_tape, .ref m_key, .ref m_answered, .int 0, .int 0, .int 0, .ref m_goes, .int 0, .ref m_hotOnes, .ref m_indexed, .ref m_isChanged, .int 0, .ref m_valueNow, .int 0, .int (-1), .int 0, .ref m_didSome, .ref m_sizes, .ref m_ends])), (m_all, aI cs 51207 fm)] H := hP
  have hD : va_D A [(md, .inr (9, [.int th, .ref m_all, .ref m_deeds, .ref m_trial, .int dm, .ref m_hasImage, .ref m_tape, .ref m_key, .ref m_answered, .int 0, .int 0, .int 0, .ref m_goes, .int 0, .ref m_hotOnes, .ref m_indexed, .ref m_isChanged, .int 0, .ref m_valueNow, .int 0, .int (-1), .int 0, .ref m_didSome, .ref m_sizes, .ref m_ends])), (m_all, aI cs 51207 fm)] := hD
  refine lv_aload_n hx hb dX9_makesPlace_5 rfl (lv_at hl 0 rfl) ?_
  refine lv_iload_n hx hb dX9_makesPlace_6 rfl (lv_at hl 1 rfl) ?_
  refine lv_iconst (v := (-1)) hx hb dX9_makesPlace_7 (by decide) ?_
  refine lv_iconst (v := 2) hx hb dX9_makesPlace_8 (by decide) ?_
  refine kV_i (ci := 9) (As := [.int (nI zz), .int (-1), .int 2]) (rest := []) (wc := [(md, .inr (9, [.int th, .ref m_all, .ref m_deeds, .ref m_trial, .int dm, .ref m_hasImage, .ref m_tape, .ref m_key, .ref m_answered, .int 0, .int 0, .int 0, .ref m_goes, .int 0, .ref m_hotOnes, .ref m_indexed, .ref m_isChanged, .int 0, .ref m_valueNow, .int 0, .int (-1), .int 0, .ref m_didSome, .ref m_sizes, .ref m_ends])), (m_all, aI cs 51207 fm)]) (wr := []) hx hb hml hown hu hK hP hD hS hA hl.1 (c_X9_placeFor_n l D cs H.size md m_all m_deeds m_trial m_hasImage m_tape m_key m_answered m_goes m_hotOnes m_indexed m_isChanged m_valueNow m_didSome m_sizes m_ends dm th 0 zz fm we hE hzz hN hz2) (gV u_1184 u_1186 u_12 u_76 u_1187) hd_X9_placeFor ⟨(Nat.le_of_ble_eq_true rfl), (Nat.le_of_ble_eq_true rfl)⟩ [0, 1] [] rfl rfl rfl rfl (by decide) rfl 0 rfl rfl rfl (Nat.le_of_ble_eq_true rfl) dX9_makesPlace_9 ⟨(Nat.le_of_ble_eq_true rfl), (Nat.le_of_ble_eq_true rfl)⟩ (fun r_1 ut_2 H locs hw_3 hP hD hS => ?_)
  have hP : va_P D vwCl [(md, .inr (9, [.int th, .ref m_all, .ref m_deeds, .ref m_trial, .int dm, .ref m_hasImage, .ref m_tape, .ref m_key, .ref m_answered, .int 0, .int 0, .int 0, .ref m_goes, .int 0, .ref m_hotOnes, .ref m_indexed, .ref m_isChanged, .int 0, .ref m_valueNow, .int 0, .int (-1), .int 0, .ref m_didSome, .ref m_sizes, .ref m_ends])), (m_all, aI cs 51207 fm)] H := hP
  have hD : va_D A [(md, .inr (9, [.int th, .ref m_all, .ref m_deeds, .ref m_trial, .int dm, .ref m_hasImage, .ref m_tape, .ref m_key, .ref m_answered, .int 0, .int 0, .int 0, .ref m_goes, .int 0, .ref m_hotOnes, .ref m_indexed, .ref m_isChanged, .int 0, .ref m_valueNow, .int 0, .int (-1), .int 0, .ref m_didSome, .ref m_sizes, .ref m_ends])), (m_all, aI cs 51207 fm)] := hD
  have er_4 := hw_3
  subst er_4
  refine lv_istore_n (lv' := [(2, .int (-1)), (0, .ref md), (1, .int (nI zz))]) hx hb dX9_makesPlace_12 rfl hl (by decide) rfl (fun ls hl => ?_)
  refine lv_iload_n hx hb dX9_makesPlace_13 rfl (lv_at hl 0 rfl) ?_
  refine lv_iconst (v := (-1)) hx hb dX9_makesPlace_14 (by decide) ?_
  refine lv_icmp_ne (tgt := 63) hx hb dX9_makesPlace_15 (by decide) (fun c_5 => absurd (by decide) c_5) (fun c_5 => ?_)
  refine lv_aload_n hx hb dX9_makesPlace_18 rfl (lv_at hl 1 rfl) ?_
  refine lv_aload_n hx hb dX9_makesPlace_19 rfl (lv_at hl 1 rfl) ?_
  refine va_get (D := D) (ci := 9) (v := .ref m_all) (C := RX9) (T := TX9) (N := 25) hx hb hu in_X9 hown hK.1 hP 0 rfl rfl 1 (by decide) (hu _ u_1081) (fun _ h9 => h9) rfl dX9_makesPlace_20 ?_
  refine lv_iconst (v := 3) hx hb dX9_makesPlace_23 (by decide) ?_
  refine va_iald hx hb hK.1 hP 1 0 rfl rfl (vin_c _ _ rfl) dX9_makesPlace_24 ?_
  refine tpi (y := 0) h3 ?_
  refine kV_i (ci := 9) (As := [.int 0]) (rest := []) (wc := [(md, .inr (9, [.int th, .ref m_all, .ref m_deeds, .ref m_trial, .int dm, .ref m_hasImage, .ref m_tape, .ref m_key, .ref m_answered, .int 0, .int 0, .int 0, .ref m_goes, .int 0, .ref m_hotOnes, .ref m_indexed, .ref m_isChanged, .int 0, .ref m_valueNow, .int 0, .int (-1), .int 0, .ref m_didSome, .ref m_sizes, .ref m_ends])), (m_all, aI cs 51207 fm)]) (wr := []) hx hb hml hown hu hK hP hD hS hA hl.1 (c_X9_victimBy_g l D cs H.size md m_all m_deeds m_trial m_hasImage m_tape m_key m_answered m_goes m_hotOnes m_indexed m_isChanged m_valueNow m_didSome m_sizes m_ends dm th 0 fm nn hNn hn2 hSum) (gV u_1196 u_1198 u_15 u_76 u_1199) hd_X9_victimBy ⟨(Nat.le_of_ble_eq_true rfl), (Nat.le_of_ble_eq_true rfl)⟩ [0, 1] [] rfl rfl rfl rfl (by decide) rfl 0 rfl rfl rfl (Nat.le_of_ble_eq_true rfl) dX9_makesPlace_25 ⟨(Nat.le_of_ble_eq_true rfl), (Nat.le_of_ble_eq_true rfl)⟩ (fun r_6 ut_7 H locs hw_8 hP hD hS => ?_)
  have hP : va_P D vwCl [(md, .inr (9, [.int th, .ref m_all, .ref m_deeds, .ref m_trial, .int dm, .ref m_hasImage, .ref m_tape, .ref m_key, .ref m_answered, .int 0, .int 0, .int 0, .ref m_goes, .int 0, .ref m_hotOnes, .ref m_indexed, .ref m_isChanged, .int 0, .ref m_valueNow, .int 0, .int (-1), .int 0, .ref m_didSome, .ref m_sizes, .ref m_ends])), (m_all, aI cs 51207 fm)] H := hP
  have hD : va_D A [(md, .inr (9, [.int th, .ref m_all, .ref m_deeds, .ref m_trial, .int dm, .ref m_hasImage, .ref m_tape, .ref m_key, .ref m_answered, .int 0, .int 0, .int 0, .ref m_goes, .int 0, .ref m_hotOnes, .ref m_indexed, .ref m_isChanged, .int 0, .ref m_valueNow, .int 0, .int (-1), .int 0, .ref m_didSome, .ref m_sizes, .ref m_ends])), (m_all, aI cs 51207 fm)] := hD
  have er_9 := hw_8
  subst er_9
  refine lv_istore_n (lv' := [(3, .int (-1)), (2, .int (-1)), (0, .ref md), (1, .int (nI zz))]) hx hb dX9_makesPlace_28 rfl hl (by decide) rfl (fun ls hl => ?_)
  refine lv_iload_n hx hb dX9_makesPlace_29 rfl (lv_at hl 0 rfl) ?_
  refine lv_iconst (v := (-1)) hx hb dX9_makesPlace_30 (by decide) ?_
  refine lv_icmp_ne (tgt := 36) hx hb dX9_makesPlace_31 (by decide) (fun c_10 => absurd (by decide) c_10) (fun c_10 => ?_)
  refine lv_iconst (v := (-1)) hx hb dX9_makesPlace_34 (by decide) ?_
  exact hz () hP hD hS rfl [0, 1] rfl rfl (Nat.le_of_ble_eq_true rfl) (Nat.le_of_ble_eq_true rfl) .int rfl rfl dX9_makesPlace_35
