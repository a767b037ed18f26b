theorem u_303 : Cond.fieldLink "KeyDrive$Moments" 9 "KeyDrive$Moments" "held" "[I" ∈ U0 := um 303 (by decide +kernel) (by decide +kernel)
theorem u_836 : Cond.code yX8_isIterator prog_1_method_48_code 1 (some .boolean) ∈ U0 := um 836 (by decide +kernel) (by decide +kernel)
theorem u_835 : Cond.static yX8_isIterator ∈ U0 := um 835 (by decide +kernel) (by decide +kernel)
theorem u_304 : Cond.fieldLink "KeyDrive$Moments" 15 "KeyDrive$Moments" "prefix" "[J" ∈ U0 := um 304 (by decide +kernel) (by decide +kernel)
theorem u_305 : Cond.fieldLink "KeyDrive$Moments" 19 "KeyDrive$Moments" "prefixLength" "[I" ∈ U0 := um 305 (by decide +kernel) (by decide +kernel)
theorem u_306 : Cond.fieldLink "KeyDrive$Moments" 22 "KeyDrive$Moments" "told" "[I" ∈ U0 := um 306 (by decide +kernel) (by decide +kernel)
theorem u_618 : Cond.code yX4_heldAt prog_6_method_3_code 2 (some .int) ∈ U0 := um 618 (by decide +kernel) (by decide +kernel)
theorem u_1071 : Cond.methodLink "KeyDrive$Moments" 35 yX4_heldAt ∈ U0 := um 1071 (by decide +kernel) (by decide +kernel)
theorem u_616 : Cond.instanceMethod yX4_heldAt ∈ U0 := um 616 (by decide +kernel) (by decide +kernel)
theorem u_617 : Cond.selects "KeyDrive$Moments" yX4_heldAt yX4_heldAt ∈ U0 := um 617 (by decide +kernel) (by decide +kernel)
theorem u_75 : Cond.initialized "KeyDrive$Moments" ∈ U0 := um 75 (by decide +kernel) (by decide +kernel)
theorem dX4_heldAt_0 : decode cX4_heldAt 0 = .ok (.iload_n 1, 1) := by decide +kernel
theorem dX4_heldAt_1 : decode cX4_heldAt 1 = .ok (.ifCond .lt 18, 3) := by decide +kernel
theorem dX4_heldAt_4 : decode cX4_heldAt 4 = .ok (.iload_n 1, 1) := by decide +kernel
theorem dX4_heldAt_5 : decode cX4_heldAt 5 = .ok (.bipush 7, 2) := by decide +kernel
theorem dX4_heldAt_7 : decode cX4_heldAt 7 = .ok (.if_icmp .ge 12, 3) := by decide +kernel
theorem dX4_heldAt_10 : decode cX4_heldAt 10 = .ok (.aload_n 0, 1) := by decide +kernel
theorem dX4_heldAt_11 : decode cX4_heldAt 11 = .ok (.getfield 9, 3) := by decide +kernel
theorem dX4_heldAt_14 : decode cX4_heldAt 14 = .ok (.iload_n 1, 1) := by decide +kernel
theorem dX4_heldAt_15 : decode cX4_heldAt 15 = .ok (.iaload, 1) := by decide +kernel
theorem dX4_heldAt_16 : decode cX4_heldAt 16 = .ok (.goto 4, 3) := by decide +kernel
theorem dX4_heldAt_19 : decode cX4_heldAt 19 = .ok (.iconst (-1), 1) := by decide +kernel
theorem dX4_heldAt_20 : decode cX4_heldAt 20 = .ok (.ireturn, 1) := by decide +kernel
theorem dX4_hold_0 : decode cX4_hold 0 = .ok (.iload_n 1, 1) := by decide +kernel
theorem dX4_hold_1 : decode cX4_hold 1 = .ok (.ifCond .lt 16, 3) := by decide +kernel
theorem dX4_hold_4 : decode cX4_hold 4 = .ok (.iload_n 1, 1) := by decide +kernel
theorem dX4_hold_5 : decode cX4_hold 5 = .ok (.bipush 7, 2) := by decide +kernel
theorem dX4_hold_7 : decode cX4_hold 7 = .ok (.if_icmp .ge 10, 3) := by decide +kernel
theorem dX4_hold_10 : decode cX4_hold 10 = .ok (.aload_n 0, 1) := by decide +kernel
theorem dX4_hold_11 : decode cX4_hold 11 = .ok (.getfield 9, 3) := by decide +kernel
theorem dX4_hold_14 : decode cX4_hold 14 = .ok (.iload_n 1, 1) := by decide +kernel
theorem dX4_hold_15 : decode cX4_hold 15 = .ok (.iload_n 2, 1) := by decide +kernel
theorem dX4_hold_16 : decode cX4_hold 16 = .ok (.iastore, 1) := by decide +kernel
theorem dX4_hold_17 : decode cX4_hold 17 = .ok (.return_, 1) := by decide +kernel
theorem dX4_releaseAll_0 : decode cX4_releaseAll 0 = .ok (.iconst 0, 1) := by decide +kernel
theorem dX4_releaseAll_1 : decode cX4_releaseAll 1 = .ok (.istore_n 1, 1) := by decide +kernel
theorem dX4_releaseAll_2 : decode cX4_releaseAll 2 = .ok (.iload_n 1, 1) := by decide +kernel
theorem dX4_releaseAll_3 : decode cX4_releaseAll 3 = .ok (.bipush 7, 2) := by decide +kernel
theorem dX4_releaseAll_5 : decode cX4_releaseAll 5 = .ok (.if_icmp .ge 16, 3) := by decide +kernel
theorem dX4_releaseAll_8 : decode cX4_releaseAll 8 = .ok (.aload_n 0, 1) := by decide +kernel
theorem dX4_releaseAll_9 : decode cX4_releaseAll 9 = .ok (.getfield 9, 3) := by decide +kernel
theorem dX4_releaseAll_12 : decode cX4_releaseAll 12 = .ok (.iload_n 1, 1) := by decide +kernel
theorem dX4_releaseAll_13 : decode cX4_releaseAll 13 = .ok (.iconst (-1), 1) := by decide +kernel
theorem dX4_releaseAll_14 : decode cX4_releaseAll 14 = .ok (.iastore, 1) := by decide +kernel
theorem dX4_releaseAll_15 : decode cX4_releaseAll 15 = .ok (.iinc 1 1, 3) := by decide +kernel
theorem dX4_releaseAll_18 : decode cX4_releaseAll 18 = .ok (.goto (-16), 3) := by decide +kernel
theorem dX4_releaseAll_21 : decode cX4_releaseAll 21 = .ok (.return_, 1) := by decide +kernel
theorem dX4_start_0 : decode cX4_start 0 = .ok (.iload_n 1, 1) := by decide +kernel
theorem dX4_start_1 : decode cX4_start 1 = .ok (.invokestatic 31, 3) := by decide +kernel
theorem dX4_start_4 : decode cX4_start 4 = .ok (.ifCond .eq 34, 3) := by decide +kernel
theorem dX4_start_7 : decode cX4_start 7 = .ok (.aload_n 0, 1) := by decide +kernel
theorem dX4_start_8 : decode cX4_start 8 = .ok (.getfield 9, 3) := by decide +kernel
theorem dX4_start_11 : decode cX4_start 11 = .ok (.iconst 4, 1) := by decide +kernel
theorem dX4_start_12 : decode cX4_start 12 = .ok (.iload_n 1, 1) := by decide +kernel
theorem dX4_start_13 : decode cX4_start 13 = .ok (.iadd, 1) := by decide +kernel
theorem dX4_start_14 : decode cX4_start 14 = .ok (.iload_n 2, 1) := by decide +kernel
theorem dX4_start_15 : decode cX4_start 15 = .ok (.iastore, 1) := by decide +kernel
theorem dX4_start_16 : decode cX4_start 16 = .ok (.aload_n 0, 1) := by decide +kernel
theorem dX4_start_17 : decode cX4_start 17 = .ok (.getfield 15, 3) := by decide +kernel
theorem dX4_start_20 : decode cX4_start 20 = .ok (.iload_n 1, 1) := by decide +kernel
theorem dX4_start_21 : decode cX4_start 21 = .ok (.lload_n 3, 1) := by decide +kernel
theorem dX4_start_22 : decode cX4_start 22 = .ok (.lastore, 1) := by decide +kernel
theorem dX4_start_23 : decode cX4_start 23 = .ok (.aload_n 0, 1) := by decide +kernel
theorem dX4_start_24 : decode cX4_start 24 = .ok (.getfield 19, 3) := by decide +kernel
theorem dX4_start_27 : decode cX4_start 27 = .ok (.iload_n 1, 1) := by decide +kernel
theorem dX4_start_28 : decode cX4_start 28 = .ok (.iload 5, 2) := by decide +kernel
theorem dX4_start_30 : decode cX4_start 30 = .ok (.iastore, 1) := by decide +kernel
theorem dX4_start_31 : decode cX4_start 31 = .ok (.aload_n 0, 1) := by decide +kernel
theorem dX4_start_32 : decode cX4_start 32 = .ok (.getfield 22, 3) := by decide +kernel
theorem dX4_start_35 : decode cX4_start 35 = .ok (.iload_n 1, 1) := by decide +kernel
theorem dX4_start_36 : decode cX4_start 36 = .ok (.iconst 0, 1) := by decide +kernel
theorem dX4_start_37 : decode cX4_start 37 = .ok (.iastore, 1) := by decide +kernel
theorem dX4_start_38 : decode cX4_start 38 = .ok (.return_, 1) := by decide +kernel
theorem dX4_bits_0 : decode cX4_bits 0 = .ok (.iconst 0, 1) := by decide +kernel
theorem dX4_bits_1 : decode cX4_bits 1 = .ok (.istore_n 3, 1) := by decide +kernel
theorem dX4_bits_2 : decode cX4_bits 2 = .ok (.iconst 0, 1) := by decide +kernel
theorem dX4_bits_3 : decode cX4_bits 3 = .ok (.istore 4, 2) := by decide +kernel
theorem dX4_bits_5 : decode cX4_bits 5 = .ok (.iload 4, 2) := by decide +kernel
theorem dX4_bits_7 : decode cX4_bits 7 = .ok (.iload_n 2, 1) := by decide +kernel
theorem dX4_bits_8 : decode cX4_bits 8 = .ok (.if_icmp .ge 28, 3) := by decide +kernel
theorem dX4_bits_11 : decode cX4_bits 11 = .ok (.aload_n 0, 1) := by decide +kernel
theorem dX4_bits_12 : decode cX4_bits 12 = .ok (.iload_n 1, 1) := by decide +kernel
theorem dX4_bits_13 : decode cX4_bits 13 = .ok (.iload 4, 2) := by decide +kernel
theorem dX4_bits_15 : decode cX4_bits 15 = .ok (.iadd, 1) := by decide +kernel
theorem dX4_bits_16 : decode cX4_bits 16 = .ok (.invokevirtual 35, 3) := by decide +kernel
theorem dX4_bits_19 : decode cX4_bits 19 = .ok (.iconst (-1), 1) := by decide +kernel
theorem dX4_bits_20 : decode cX4_bits 20 = .ok (.if_icmp .eq 10, 3) := by decide +kernel
theorem dX4_bits_30 : decode cX4_bits 30 = .ok (.iinc 4 1, 3) := by decide +kernel
theorem dX4_bits_33 : decode cX4_bits 33 = .ok (.goto (-28), 3) := by decide +kernel
theorem dX4_bits_36 : decode cX4_bits 36 = .ok (.iload_n 3, 1) := by decide +kernel
theorem dX4_bits_37 : decode cX4_bits 37 = .ok (.ireturn, 1) := by decide +kernel
theorem hd_X4_heldAt : yX4_heldAt.cls = RX4 ∧ yX4_heldAt.cls ≠ "java/lang/invoke/MethodHandle" ∧ yX4_heldAt.cls ≠ "java/lang/invoke/VarHandle" ∧ (parseMethodDescriptor yX4_heldAt.desc).map (fun d => d.parameters.length) = some 1 := by decide +kernel
theorem hd_X8_isIterator : yX8_isIterator.cls = RX8 ∧ yX8_isIterator.cls ≠ "java/lang/invoke/MethodHandle" ∧ yX8_isIterator.cls ≠ "java/lang/invoke/VarHandle" ∧ (parseMethodDescriptor yX8_isIterator.desc).map (fun d => d.parameters.length) = some 1 := by decide +kernel
abbrev rm_c_X4_heldAt : Room := { frames := 0, cells := 0, slots := 0, locals := 0 }
set_option maxHeartbeats 4000000 in
set_option maxRecDepth 100000 in
theorem c_X4_heldAt (l : Launch) (D : va_G) (cs : Nat → ClassId) (sz : Nat) (drm : Nat) (drm1 : Nat) (f_drm1 : Nat → Int32) (drm2 : Nat) (drm3 : Nat) (drm4 : Nat) (x : Int32) (z_f_drm1 : ∀ j, j < 7 → f_drm1 j = (-1)) : cMi l yX4_heldAt (Cond.code yX4_heldAt cX4_heldAt 2 (some .int)) (rm_c_X4_heldAt) D cs [.ref drm, .int x] sz [(drm, .inr (4, [.ref drm1, .ref drm2, .ref drm3, .ref drm4])), (drm1, aI cs 7 f_drm1)] (fun (r : Int32) (u : Unit) => (r = (-1))) (fun (u : Unit) => [(drm, .inr (4, [.ref drm1, .ref drm2, .ref drm3, .ref drm4])), (drm1, aI cs 7 f_drm1)]) := by
  refine kMet_i RX4 (by decide) rfl (Nat.le_of_ble_eq_true rfl) ?_
  intro p e s m below meth c ls A Qz H locs hx hb hml hown hin hu hK hsz hA hP hD hS hl hz
  subst hsz
  have hl : lv_has ls 2 [(0, .ref drm), (1, .int x)] := hl
  refine lv_iload_n hx hb dX4_heldAt_0 rfl (lv_at hl 1 rfl) ?_
  refine lv_if_lt (tgt := 19) hx hb dX4_heldAt_1 (by decide) (fun c_1 => ?_) (fun c_1 => ?_)
  · refine lv_iconst (v := (-1)) hx hb dX4_heldAt_19 (by decide) ?_
    exact hz () hP hD hS rfl [0, 1] rfl rfl (Nat.le_of_ble_eq_true rfl) (Nat.le_of_ble_eq_true rfl) .int rfl rfl dX4_heldAt_20
  · refine lv_iload_n hx hb dX4_heldAt_4 rfl (lv_at hl 1 rfl) ?_
    refine lv_bipush (v := 7) hx hb dX4_heldAt_5 (by decide) ?_
    refine lv_icmp_ge (tgt := 19) hx hb dX4_heldAt_7 (by decide) (fun c_2 => ?_) (fun c_2 => ?_)
    · refine lv_iconst (v := (-1)) hx hb dX4_heldAt_19 (by decide) ?_
      exact hz () hP hD hS rfl [0, 1] rfl rfl (Nat.le_of_ble_eq_true rfl) (Nat.le_of_ble_eq_true rfl) .int rfl rfl dX4_heldAt_20
    · refine lv_aload_n hx hb dX4_heldAt_10 rfl (lv_at hl 0 rfl) ?_
      refine va_get (D := D) (ci := 4) (v := .ref drm1) (C := RX4) (T := TX4) (N := 4) hx hb hu in_X4 hown hK.1 hP 0 rfl rfl 0 (by decide) (hu _ u_303) (fun _ h9 => h9) rfl dX4_heldAt_11 ?_
      refine lv_iload_n hx hb dX4_heldAt_14 rfl (lv_at hl 1 rfl) ?_
      refine va_iald hx hb hK.1 hP 1 0 rfl rfl (vin_of (N := 7) (by grind) (by grind) rfl) dX4_heldAt_15 ?_
      refine tpi (y := (-1)) (z_f_drm1 _ (cl_lt (vin_of (N := 7) (by grind) (by grind) rfl))) ?_
      refine lv_goto (tgt := 20) hx hb dX4_heldAt_16 (by decide) ?_
      exact hz () hP hD hS rfl [0, 1] rfl rfl (Nat.le_of_ble_eq_true rfl) (Nat.le_of_ble_eq_true rfl) .int rfl rfl dX4_heldAt_20
abbrev rm_c_X4_hold : Room := { frames := 0, cells := 0, slots := 0, locals := 0 }
set_option maxHeartbeats 4000000 in
set_option maxRecDepth 100000 in
theorem c_X4_hold (l : Launch) (D : va_G) (cs : Nat → ClassId) (sz : Nat) (drm : Nat) (drm1 : Nat) (f_drm1 : Nat → Int32) (drm2 : Nat) (drm3 : Nat) (drm4 : Nat) (x : Int32) (y : Int32) (z_f_drm1 : ∀ j, j < 7 → f_drm1 j = (-1)) : cMv l yX4_hold (Cond.code yX4_hold cX4_hold 3 none) (rm_c_X4_hold) D cs [.ref drm, .int x, .int y] sz [(drm, .inr (4, [.ref drm1, .ref drm2, .ref drm3, .ref drm4])), (drm1, aI cs 7 f_drm1)] (fun (u : Unit) => True) (fun (u : Unit) => []) := by
  refine kMet_v RX4 (by decide) rfl (Nat.le_of_ble_eq_true rfl) ?_
  intro p e s m below meth c ls A Qz H locs hx hb hml hown hin hu hK hsz hA hP hD hS hl hz
  subst hsz
  have hl : lv_has ls 3 [(0, .ref drm), (1, .int x), (2, .int y)] := hl
  refine lv_iload_n hx hb dX4_hold_0 rfl (lv_at hl 1 rfl) ?_
  refine lv_if_lt (tgt := 17) hx hb dX4_hold_1 (by decide) (fun c_1 => ?_) (fun c_1 => ?_)
  · exact hz () hP hD hS trivial [] rfl rfl (Nat.le_of_ble_eq_true rfl) (Nat.le_of_ble_eq_true rfl) rfl dX4_hold_17
  · refine lv_iload_n hx hb dX4_hold_4 rfl (lv_at hl 1 rfl) ?_
    refine lv_bipush (v := 7) hx hb dX4_hold_5 (by decide) ?_
    refine lv_icmp_ge (tgt := 17) hx hb dX4_hold_7 (by decide) (fun c_2 => ?_) (fun c_2 => ?_)
    · exact hz () hP hD hS trivial [] rfl rfl (Nat.le_of_ble_eq_true rfl) (Nat.le_of_ble_eq_true rfl) rfl dX4_hold_17
    · refine lv_aload_n hx hb dX4_hold_10 rfl (lv_at hl 0 rfl) ?_
      refine va_get (D := D) (ci := 4) (v := .ref drm1) (C := RX4) (T := TX4) (N := 4) hx hb hu in_X4 hown hK.1 hP 0 rfl rfl 0 (by decide) (hu _ u_303) (fun _ h9 => h9) rfl dX4_hold_11 ?_
      refine lv_iload_n hx hb dX4_hold_14 rfl (lv_at hl 1 rfl) ?_
      refine lv_iload_n hx hb dX4_hold_15 rfl (lv_at hl 2 rfl) ?_
      refine va_iast hx hb hK.1 hP hD hS 1 0 rfl rfl (vin_of (N := 7) (by grind) (by grind) rfl) dX4_hold_16 (fun H locs hP hD hS => ?_)
      have hP : va_P D vwCl [(drm, .inr (4, [.ref drm1, .ref drm2, .ref drm3, .ref drm4])), (drm1, aI cs 7 (upd f_drm1 x.toNatClampNeg y))] H := hP
      have hD : va_D A [(drm, .inr (4, [.ref drm1, .ref drm2, .ref drm3, .ref drm4])), (drm1, aI cs 7 (upd f_drm1 x.toNatClampNeg y))] := hD
      exact hz () hP hD hS trivial [] rfl rfl (Nat.le_of_ble_eq_true rfl) (Nat.le_of_ble_eq_true rfl) rfl dX4_hold_17
abbrev rm_c_X4_releaseAll : Room := { frames := 0, cells := 0, slots := 0, locals := 0 }
set_option maxHeartbeats 4000000 in
set_option maxRecDepth 100000 in
theorem c_X4_releaseAll (l : Launch) (D : va_G) (cs : Nat → ClassId) (sz : Nat) (drm : Nat) (drm1 : Nat) (f_drm1 : Nat → Int32) (drm2 : Nat) (drm3 : Nat) (drm4 : Nat) (z_f_drm1 : ∀ j, j < 7 → f_drm1 j = (-1)) : cMv l yX4_releaseAll (Cond.code yX4_releaseAll cX4_releaseAll 2 none) (rm_c_X4_releaseAll) D cs [.ref drm] sz [(drm, .inr (4, [.ref drm1, .ref drm2, .ref drm3, .ref drm4])), (drm1, aI cs 7 f_drm1)] (fun (u : Unit) => True) (fun (u : Unit) => []) := by
  refine kMet_v RX4 (by decide) rfl (Nat.le_of_ble_eq_true rfl) ?_
  intro p e s m below meth c ls A Qz H locs hx hb hml hown hin hu hK hsz hA hP hD hS hl hz
  subst hsz
  have hl : lv_has ls 2 [(0, .ref drm)] := hl
  refine lv_iconst (v := 0) hx hb dX4_releaseAll_0 (by decide) ?_
  refine lv_istore_n (lv' := [(1, .int 0), (0, .ref drm)]) hx hb dX4_releaseAll_1 rfl hl (by decide) rfl (fun ls hl => ?_)
  refine lv_iload_n hx hb dX4_releaseAll_2 rfl (lv_at hl 0 rfl) ?_
  refine lv_bipush (v := 7) hx hb dX4_releaseAll_3 (by decide) ?_
  refine lv_icmp_ge (tgt := 21) hx hb dX4_releaseAll_5 (by decide) (fun c_1 => absurd c_1 (by decide)) (fun c_1 => ?_)
  refine lv_aload_n hx hb dX4_releaseAll_8 rfl (lv_at hl 1 rfl) ?_
  refine va_get (D := D) (ci := 4) (v := .ref drm1) (C := RX4) (T := TX4) (N := 4) hx hb hu in_X4 hown hK.1 hP 0 rfl rfl 0 (by decide) (hu _ u_303) (fun _ h9 => h9) rfl dX4_releaseAll_9 ?_
  refine lv_iload_n hx hb dX4_releaseAll_12 rfl (lv_at hl 0 rfl) ?_
  refine lv_iconst (v := (-1)) hx hb dX4_releaseAll_13 (by decide) ?_
  refine va_iast hx hb hK.1 hP hD hS 1 0 rfl rfl (vin_c _ _ rfl) dX4_releaseAll_14 (fun H locs hP hD hS => ?_)
  have hP : va_P D vwCl [(drm, .inr (4, [.ref drm1, .ref drm2, .ref drm3, .ref drm4])), (drm1, aI cs 7 (upd f_drm1 (0 : Int32).toNatClampNeg (-1)))] H := hP
  have hD : va_D A [(drm, .inr (4, [.ref drm1, .ref drm2, .ref drm3, .ref drm4])), (drm1, aI cs 7 (upd f_drm1 (0 : Int32).toNatClampNeg (-1)))] := hD
  refine lv_iinc (v := 1) (lv' := [(1, .int 1), (0, .ref drm)]) hx hb dX4_releaseAll_15 hl (k := 0) rfl (by decide) (by decide) rfl (fun ls hl => ?_)
  refine lv_goto (tgt := 2) hx hb dX4_releaseAll_18 (by decide) ?_
  refine lv_iload_n hx hb dX4_releaseAll_2 rfl (lv_at hl 0 rfl) ?_
  refine lv_bipush (v := 7) hx hb dX4_releaseAll_3 (by decide) ?_
  refine lv_icmp_ge (tgt := 21) hx hb dX4_releaseAll_5 (by decide) (fun c_2 => absurd c_2 (by decide)) (fun c_2 => ?_)
  refine lv_aload_n hx hb dX4_releaseAll_8 rfl (lv_at hl 1 rfl) ?_
  refine va_get (D := D) (ci := 4) (v := .ref drm1) (C := RX4) (T := TX4) (N := 4) hx hb hu in_X4 hown hK.1 hP 0 rfl rfl 0 (by decide) (hu _ u_303) (fun _ h9 => h9) rfl dX4_releaseAll_9 ?_
  refine lv_iload_n hx hb dX4_releaseAll_12 rfl (lv_at hl 0 rfl) ?_
  refine lv_iconst (v := (-1)) hx hb dX4_releaseAll_13 (by decide) ?_
  refine va_iast hx hb hK.1 hP hD hS 1 0 rfl rfl (vin_c _ _ rfl) dX4_releaseAll_14 (fun H locs hP hD hS => ?_)
  have hP : va_P D vwCl [(drm, .inr (4, [.ref drm1, .ref drm2, .ref drm3, .ref drm4])), (drm1, aI cs 7 (upd (upd f_drm1 (0 : Int32).toNatClampNeg (-1)) (1 : Int32).toNatClampNeg (-1)))] H := hP
  have hD : va_D A [(drm, .inr (4, [.ref drm1, .ref drm2, .ref drm3, .ref drm4])), (drm1, aI cs 7 (upd (upd f_drm1 (0 : Int32).toNatClampNeg (-1)) (1 : Int32).toNatClampNeg (-1)))] := hD
  refine lv_iinc (v := 2) (lv' := [(1, .int 2), (0, .ref drm)]) hx hb dX4_releaseAll_15 hl (k := 0) rfl (by decide) (by decide) rfl (fun ls hl => ?_)
  refine lv_goto (tgt := 2) hx hb dX4_releaseAll_18 (by decide) ?_
  refine lv_iload_n hx hb dX4_releaseAll_2 rfl (lv_at hl 0 rfl) ?_
  refine lv_bipush (v := 7) hx hb dX4_releaseAll_3 (by decide) ?_
  refine lv_icmp_ge (tgt := 21) hx hb dX4_releaseAll_5 (by decide) (fun c_3 => absurd c_3 (by decide)) (fun c_3 => ?_)
  refine lv_aload_n hx hb dX4_releaseAll_8 rfl (lv_at hl 1 rfl) ?_
  refine va_get (D := D) (ci := 4) (v := .ref drm1) (C := RX4) (T := TX4) (N := 4) hx hb hu in_X4 hown hK.1 hP 0 rfl rfl 0 (by decide) (hu _ u_303) (fun _ h9 => h9) rfl dX4_releaseAll_9 ?_
  refine lv_iload_n hx hb dX4_releaseAll_12 rfl (lv_at hl 0 rfl) ?_
  refine lv_iconst (v := (-1)) hx hb dX4_releaseAll_13 (by decide) ?_
  refine va_iast hx hb hK.1 hP hD hS 1 0 rfl rfl (vin_c _ _ rfl) dX4_releaseAll_14 (fun H locs hP hD hS => ?_)
  have hP : va_P D vwCl [(drm, .inr (4, [.ref drm1, .ref drm2, .ref drm3, .ref drm4])), (drm1, aI cs 7 (upd (upd (upd f_drm1 (0 : Int32).toNatClampNeg (-1)) (1 : Int32).toNatClampNeg (-1)) (2 : Int32).toNatClampNeg (-1)))] H := hP
  have hD : va_D A [(drm, .inr (4, [.ref drm1, .ref drm2, .ref drm3, .ref drm4])), (drm1, aI cs 7 (upd (upd (upd f_drm1 (0 : Int32).toNatClampNeg (-1)) (1 : Int32).toNatClampNeg (-1)) (2 : Int32).toNatClampNeg (-1)))] := hD
  refine lv_iinc (v := 3) (lv' := [(1, .int 3), (0, .ref drm)]) hx hb dX4_releaseAll_15 hl (k := 0) rfl (by decide) (by decide) rfl (fun ls hl => ?_)
  refine lv_goto (tgt := 2) hx hb dX4_releaseAll_18 (by decide) ?_
  refine lv_iload_n hx hb dX4_releaseAll_2 rfl (lv_at hl 0 rfl) ?_
  refine lv_bipush (v := 7) hx hb dX4_releaseAll_3 (by decide) ?_
  refine lv_icmp_ge (tgt := 21) hx hb dX4_releaseAll_5 (by decide) (fun c_4 => absurd c_4 (by decide)) (fun c_4 => ?_)
  refine lv_aload_n hx hb dX4_releaseAll_8 rfl (lv_at hl 1 rfl) ?_
  refine va_get (D := D) (ci := 4) (v := .ref drm1) (C := RX4) (T := TX4) (N := 4) hx hb hu in_X4 hown hK.1 hP 0 rfl rfl 0 (by decide) (hu _ u_303) (fun _ h9 => h9) rfl dX4_releaseAll_9 ?_
  refine lv_iload_n hx hb dX4_releaseAll_12 rfl (lv_at hl 0 rfl) ?_
  refine lv_iconst (v := (-1)) hx hb dX4_releaseAll_13 (by decide) ?_
  refine va_iast hx hb hK.1 hP hD hS 1 0 rfl rfl (vin_c _ _ rfl) dX4_releaseAll_14 (fun H locs hP hD hS => ?_)
  have hP : va_P D vwCl [(drm, .inr (4, [.ref drm1, .ref drm2, .ref drm3, .ref drm4])), (drm1, aI cs 7 (upd (upd (upd (upd f_drm1 (0 : Int32).toNatClampNeg (-1)) (1 : Int32).toNatClampNeg (-1)) (2 : Int32).toNatClampNeg (-1)) (3 : Int32).toNatClampNeg (-1)))] H := hP
  have hD : va_D A [(drm, .inr (4, [.ref drm1, .ref drm2, .ref drm3, .ref drm4])), (drm1, aI cs 7 (upd (upd (upd (upd f_drm1 (0 : Int32).toNatClampNeg (-1)) (1 : Int32).toNatClampNeg (-1)) (2 : Int32).toNatClampNeg (-1)) (3 : Int32).toNatClampNeg (-1)))] := hD
  refine lv_iinc (v := 4) (lv' := [(1, .int 4), (0, .ref drm)]) hx hb dX4_releaseAll_15 hl (k := 0) rfl (by decide) (by decide) rfl (fun ls hl => ?_)
  refine lv_goto (tgt := 2) hx hb dX4_releaseAll_18 (by decide) ?_
  refine lv_iload_n hx hb dX4_releaseAll_2 rfl (lv_at hl 0 rfl) ?_
  refine lv_bipush (v := 7) hx hb dX4_releaseAll_3 (by decide) ?_
  refine lv_icmp_ge (tgt := 21) hx hb dX4_releaseAll_5 (by decide) (fun c_5 => absurd c_5 (by decide)) (fun c_5 => ?_)
  refine lv_aload_n hx hb dX4_releaseAll_8 rfl (lv_at hl 1 rfl) ?_
  refine va_get (D := D) (ci := 4) (v := .ref drm1) (C := RX4) (T := TX4) (N := 4) hx hb hu in_X4 hown hK.1 hP 0 rfl rfl 0 (by decide) (hu _ u_303) (fun _ h9 => h9) rfl dX4_releaseAll_9 ?_
  refine lv_iload_n hx hb dX4_releaseAll_12 rfl (lv_at hl 0 rfl) ?_
  refine lv_iconst (v := (-1)) hx hb dX4_releaseAll_13 (by decide) ?_
  refine va_iast hx hb hK.1 hP hD hS 1 0 rfl rfl (vin_c _ _ rfl) dX4_releaseAll_14 (fun H locs hP hD hS => ?_)
  have hP : va_P D vwCl [(drm, .inr (4, [.ref drm1, .ref drm2, .ref drm3, .ref drm4])), (drm1, aI cs 7 (upd (upd (upd (upd (upd f_drm1 (0 : Int32).toNatClampNeg (-1)) (1 : Int32).toNatClampNeg (-1)) (2 : Int32).toNatClampNeg (-1)) (3 : Int32).toNatClampNeg (-1)) (4 : Int32).toNatClampNeg (-1)))] H := hP
  have hD : va_D A [(drm, .inr (4, [.ref drm1, .ref drm2, .ref drm3, .ref drm4])), (drm1, aI cs 7 (upd (upd (upd (upd (upd f_drm1 (0 : Int32).toNatClampNeg (-1)) (1 : Int32).toNatClampNeg (-1)) (2 : Int32).toNatClampNeg (-1)) (3 : Int32).toNatClampNeg (-1)) (4 : Int32).toNatClampNeg (-1)))] := hD
  refine lv_iinc (v := 5) (lv' := [(1, .int 5), (0, .ref drm)]) hx hb dX4_releaseAll_15 hl (k := 0) rfl (by decide) (by decide) rfl (fun ls hl => ?_)
  refine lv_goto (tgt := 2) hx hb dX4_releaseAll_18 (by decide) ?_
  refine lv_iload_n hx hb dX4_releaseAll_2 rfl (lv_at hl 0 rfl) ?_
  refine lv_bipush (v := 7) hx hb dX4_releaseAll_3 (by decide) ?_
  refine lv_icmp_ge (tgt := 21) hx hb dX4_releaseAll_5 (by decide) (fun c_6 => absurd c_6 (by decide)) (fun c_6 => ?_)
  refine lv_aload_n hx hb dX4_releaseAll_8 rfl (lv_at hl 1 rfl) ?_
  refine va_get (D := D) (ci := 4) (v := .ref drm1) (C := RX4) (T := TX4) (N := 4) hx hb hu in_X4 hown hK.1 hP 0 rfl rfl 0 (by decide) (hu _ u_303) (fun _ h9 => h9) rfl dX4_releaseAll_9 ?_
  refine lv_iload_n hx hb dX4_releaseAll_12 rfl (lv_at hl 0 rfl) ?_
  refine lv_iconst (v := (-1)) hx hb dX4_releaseAll_13 (by decide) ?_
  refine va_iast hx hb hK.1 hP hD hS 1 0 rfl rfl (vin_c _ _ rfl) dX4_releaseAll_14 (fun H locs hP hD hS => ?_)
  have hP : va_P D vwCl [(drm, .inr (4, [.ref drm1, .ref drm2, .ref drm3, .ref drm4])), (drm1, aI cs 7 (upd (upd (upd (upd (upd (upd f_drm1 (0 : Int32).toNatClampNeg (-1)) (1 : Int32).toNatClampNeg (-1)) (2 : Int32).toNatClampNeg (-1)) (3 : Int32).toNatClampNeg (-1)) (4 : Int32).toNatClampNeg (-1)) (5 : Int32).toNatClampNeg (-1)))] H := hP
  have hD : va_D A [(drm, .inr (4, [.ref drm1, .ref drm2, .ref drm3, .ref drm4])), (drm1, aI cs 7 (upd (upd (upd (upd (upd (upd f_drm1 (0 : Int32).toNatClampNeg (-1)) (1 : Int32).toNatClampNeg (-1)) (2 : Int32).toNatClampNeg (-1)) (3 : Int32).toNatClampNeg (-1)) (4 : Int32).toNatClampNeg (-1)) (5 : Int32).toNatClampNeg (-1)))] := hD
  refine lv_iinc (v := 6) (lv' := [(1, .int 6), (0, .ref drm)]) hx hb dX4_releaseAll_15 hl (k := 0) rfl (by decide) (by decide) rfl (fun ls hl => ?_)
  refine lv_goto (tgt := 2) hx hb dX4_releaseAll_18 (by decide) ?_
  refine lv_iload_n hx hb dX4_releaseAll_2 rfl (lv_at hl 0 rfl) ?_
  refine lv_bipush (v := 7) hx hb dX4_releaseAll_3 (by decide) ?_
  refine lv_icmp_ge (tgt := 21) hx hb dX4_releaseAll_5 (by decide) (fun c_7 => absurd c_7 (by decide)) (fun c_7 => ?_)
  refine lv_aload_n hx hb dX4_releaseAll_8 rfl (lv_at hl 1 rfl) ?_
  refine va_get (D := D) (ci := 4) (v := .ref drm1) (C := RX4) (T := TX4) (N := 4) hx hb hu in_X4 hown hK.1 hP 0 rfl rfl 0 (by decide) (hu _ u_303) (fun _ h9 => h9) rfl dX4_releaseAll_9 ?_
  refine lv_iload_n hx hb dX4_releaseAll_12 rfl (lv_at hl 0 rfl) ?_
  refine lv_iconst (v := (-1)) hx hb dX4_releaseAll_13 (by decide) ?_
  refine va_iast hx hb hK.1 hP hD hS 1 0 rfl rfl (vin_c _ _ rfl) dX4_releaseAll_14 (fun H locs hP hD hS => ?_)
  have hP : va_P D vwCl [(drm, .inr (4, [.ref drm1, .ref drm2, .ref drm3, .ref drm4])), (drm1, aI cs 7 (upd (upd (upd (upd (upd (upd (upd f_drm1 (0 : Int32).toNatClampNeg (-1)) (1 : Int32).toNatClampNeg (-1)) (2 : Int32).toNatClampNeg (-1)) (3 : Int32).toNatClampNeg (-1)) (4 : Int32).toNatClampNeg (-1)) (5 : Int32).toNatClampNeg (-1)) (6 : Int32).toNatClampNeg (-1)))] H := hP
  have hD : va_D A [(drm, .inr (4, [.ref drm1, .ref drm2, .ref drm3, .ref drm4])), (drm1, aI cs 7 (upd (upd (upd (upd (upd (upd (upd f_drm1 (0 : Int32).toNatClampNeg (-1)) (1 : Int32).toNatClampNeg (-1)) (2 : Int32).toNatClampNeg (-1)) (3 : Int32).toNatClampNeg (-1)) (4 : Int32).toNatClampNeg (-1)) (5 : Int32).toNatClampNeg (-1)) (6 : Int32).toNatClampNeg (-1)))] := hD
  refine lv_iinc (v := 7) (lv' := [(1, .int 7), (0, .ref drm)]) hx hb dX4_releaseAll_15 hl (k := 0) rfl (by decide) (by decide) rfl (fun ls hl => ?_)
  refine lv_goto (tgt := 2) hx hb dX4_releaseAll_18 (by decide) ?_
  refine lv_iload_n hx hb dX4_releaseAll_2 rfl (lv_at hl 0 rfl) ?_
  refine lv_bipush (v := 7) hx hb dX4_releaseAll_3 (by decide) ?_
  refine lv_icmp_ge (tgt := 21) hx hb dX4_releaseAll_5 (by decide) (fun c_8 => ?_) (fun c_8 => absurd (by decide) c_8)
  exact hz () hP hD hS trivial [] rfl rfl (Nat.le_of_ble_eq_true rfl) (Nat.le_of_ble_eq_true rfl) rfl dX4_releaseAll_21
abbrev rm_c_X4_start : Room := { frames := 1, cells := 0, slots := 0, locals := 20 }
set_option maxHeartbeats 4000000 in
set_option maxRecDepth 100000 in
theorem c_X4_start (l : Launch) (D : va_G) (cs : Nat → ClassId) (sz : Nat) (drm : Nat) (drm1 : Nat) (f_drm1 : Nat → Int32) (drm2 : Nat) (f_drm2 : Nat → Int64) (drm3 : Nat) (f_drm3 : Nat → Int32) (drm4 : Nat) (f_drm4 : Nat → Int32) (x : Int32) (y : Int32) (z : Int32) (xl : Int64) (z_f_drm1 : ∀ j, j < 7 → f_drm1 j = (-1)) (z_f_drm3 : ∀ j, j < 3 → f_drm3 j = 0) (z_f_drm4 : ∀ j, j < 3 → f_drm4 j = 0) : cMv l yX4_start (Cond.code yX4_start cX4_start 6 none) (rm_c_X4_start) D cs [.ref drm, .int x, .int y, .long xl, .int z] sz [(drm, .inr (4, [.ref drm1, .ref drm2, .ref drm3, .ref drm4])), (drm1, aI cs 7 f_drm1), (drm2, aJ cs 3 f_drm2), (drm3, aI cs 3 f_drm3), (drm4, aI cs 3 f_drm4)] (fun (u : Unit) => True) (fun (u : Unit) => []) := by
  refine kMet_v RX4 (by decide) rfl (Nat.le_of_ble_eq_true rfl) ?_
  intro p e s m below meth c ls A Qz H locs hx hb hml hown hin hu hK hsz hA hP hD hS hl hz
  subst hsz
  have hl : lv_has ls 6 [(0, .ref drm), (1, .int x), (2, .int y), (3, .long xl), (5, .int z)] := hl
  refine lv_iload_n hx hb dX4_start_0 rfl (lv_at hl 1 rfl) ?_
  refine kN_i  (As := [.int x]) (rest := []) (wc := []) (wr := [(drm, .inr (4, [.ref drm1, .ref drm2, .ref drm3, .ref drm4])), (drm1, aI cs 7 f_drm1), (drm2, aJ cs 3 f_drm2), (drm3, aI cs 3 f_drm3), (drm4, aI cs 3 f_drm4)]) hx hb hml hown hu hK hP hD hS hA hl.1 (c_X8_isIterator l D cs H.size x) u_836 (nest_9) u_835 u_66 hd_X8_isIterator.2 ⟨(Nat.le_of_ble_eq_true rfl), (Nat.le_of_ble_eq_true rfl)⟩ [] [0, 1, 2, 3, 4] rfl rfl rfl rfl (by decide) rfl rfl (Nat.le_of_ble_eq_true rfl) dX4_start_1 ⟨(Nat.le_of_ble_eq_true rfl), (Nat.le_of_ble_eq_true rfl)⟩ (fun r_1 ut_2 H locs hw_3 hP hD hS => ?_)
  have hP : va_P D vwCl [(drm, .inr (4, [.ref drm1, .ref drm2, .ref drm3, .ref drm4])), (drm1, aI cs 7 f_drm1), (drm2, aJ cs 3 f_drm2), (drm3, aI cs 3 f_drm3), (drm4, aI cs 3 f_drm4)] H := hP
  have hD : va_D A [(drm, .inr (4, [.ref drm1, .ref drm2, .ref drm3, .ref drm4])), (drm1, aI cs 7 f_drm1), (drm2, aJ cs 3 f_drm2), (drm3, aI cs 3 f_drm3), (drm4, aI cs 3 f_drm4)] := hD
  rcases hw_3 with hw_3 | hw_3
  · obtain ⟨er_4, hf_5⟩ := hw_3
    subst er_4
    refine lv_if_eq (tgt := 38) hx hb dX4_start_4 (by decide) (fun c_6 => absurd c_6 (by decide)) (fun c_6 => ?_)
    refine lv_aload_n hx hb dX4_start_7 rfl (lv_at hl 0 rfl) ?_
    refine va_get (D := D) (ci := 4) (v := .ref drm1) (C := RX4) (T := TX4) (N := 4) hx hb hu in_X4 hown hK.1 hP 0 rfl rfl 0 (by decide) (hu _ u_303) (fun _ h9 => h9) rfl dX4_start_8 ?_
    refine lv_iconst (v := 4) hx hb dX4_start_11 (by decide) ?_
    refine lv_iload_n hx hb dX4_start_12 rfl (lv_at hl 1 rfl) ?_
    refine lv_iadd hx hb dX4_start_13 ?_
    refine lv_iload_n hx hb dX4_start_14 rfl (lv_at hl 2 rfl) ?_
    refine va_iast hx hb hK.1 hP hD hS 1 0 rfl rfl (vin_of (N := 7) (by grind) (by grind) rfl) dX4_start_15 (fun H locs hP hD hS => ?_)
    have hP : va_P D vwCl [(drm, .inr (4, [.ref drm1, .ref drm2, .ref drm3, .ref drm4])), (drm1, aI cs 7 (upd f_drm1 (4 + x).toNatClampNeg y)), (drm2, aJ cs 3 f_drm2), (drm3, aI cs 3 f_drm3), (drm4, aI cs 3 f_drm4)] H := hP
    have hD : va_D A [(drm, .inr (4, [.ref drm1, .ref drm2, .ref drm3, .ref drm4])), (drm1, aI cs 7 (upd f_drm1 (4 + x).toNatClampNeg y)), (drm2, aJ cs 3 f_drm2), (drm3, aI cs 3 f_drm3), (drm4, aI cs 3 f_drm4)] := hD
    refine lv_aload_n hx hb dX4_start_16 rfl (lv_at hl 0 rfl) ?_
    refine va_get (D := D) (ci := 4) (v := .ref drm2) (C := RX4) (T := TX4) (N := 4) hx hb hu in_X4 hown hK.1 hP 0 rfl rfl 1 (by decide) (hu _ u_304) (fun _ h9 => h9) rfl dX4_start_17 ?_
    refine lv_iload_n hx hb dX4_start_20 rfl (lv_at hl 1 rfl) ?_
    refine lv_lload_n hx hb dX4_start_21 rfl (lv_at hl 3 rfl) ?_
    refine va_last hx hb hK.1 hP hD hS 2 3 rfl rfl (vin_of (N := 3) (by grind) (by grind) rfl) dX4_start_22 (fun H locs hP hD hS => ?_)
    have hP : va_P D vwCl [(drm, .inr (4, [.ref drm1, .ref drm2, .ref drm3, .ref drm4])), (drm1, aI cs 7 (upd f_drm1 (4 + x).toNatClampNeg y)), (drm2, aJ cs 3 (vp_updL f_drm2 x.toNatClampNeg xl)), (drm3, aI cs 3 f_drm3), (drm4, aI cs 3 f_drm4)] H := hP
    have hD : va_D A [(drm, .inr (4, [.ref drm1, .ref drm2, .ref drm3, .ref drm4])), (drm1, aI cs 7 (upd f_drm1 (4 + x).toNatClampNeg y)), (drm2, aJ cs 3 (vp_updL f_drm2 x.toNatClampNeg xl)), (drm3, aI cs 3 f_drm3), (drm4, aI cs 3 f_drm4)] := hD
    refine lv_aload_n hx hb dX4_start_23 rfl (lv_at hl 0 rfl) ?_
    refine va_get (D := D) (ci := 4) (v := .ref drm3) (C := RX4) (T := TX4) (N := 4) hx hb hu in_X4 hown hK.1 hP 0 rfl rfl 2 (by decide) (hu _ u_305) (fun _ h9 => h9) rfl dX4_start_24 ?_
    refine lv_iload_n hx hb dX4_start_27 rfl (lv_at hl 1 rfl) ?_
    refine lv_iload hx hb dX4_start_28 (lv_at hl 4 rfl) ?_
    refine va_iast hx hb hK.1 hP hD hS 3 0 rfl rfl (vin_of (N := 3) (by grind) (by grind) rfl) dX4_start_30 (fun H locs hP hD hS => ?_)
    have hP : va_P D vwCl [(drm, .inr (4, [.ref drm1, .ref drm2, .ref drm3, .ref drm4])), (drm1, aI cs 7 (upd f_drm1 (4 + x).toNatClampNeg y)), (drm2, aJ cs 3 (vp_updL f_drm2 x.toNatClampNeg xl)), (drm3, aI cs 3 (upd f_drm3 x.toNatClampNeg z)), (drm4, aI cs 3 f_drm4)] H := hP
    have hD : va_D A [(drm, .inr (4, [.ref drm1, .ref drm2, .ref drm3, .ref drm4])), (drm1, aI cs 7 (upd f_drm1 (4 + x).toNatClampNeg y)), (drm2, aJ cs 3 (vp_updL f_drm2 x.toNatClampNeg xl)), (drm3, aI cs 3 (upd f_drm3 x.toNatClampNeg z)), (drm4, aI cs 3 f_drm4)] := hD
    refine lv_aload_n hx hb dX4_start_31 rfl (lv_at hl 0 rfl) ?_
    refine va_get (D := D) (ci := 4) (v := .ref drm4) (C := RX4) (T := TX4) (N := 4) hx hb hu in_X4 hown hK.1 hP 0 rfl rfl 3 (by decide) (hu _ u_306) (fun _ h9 => h9) rfl dX4_start_32 ?_
    refine lv_iload_n hx hb dX4_start_35 rfl (lv_at hl 1 rfl) ?_
    refine lv_iconst (v := 0) hx hb dX4_start_36 (by decide) ?_
    refine va_iast hx hb hK.1 hP hD hS 4 0 rfl rfl (vin_of (N := 3) (by grind) (by grind) rfl) dX4_start_37 (fun H locs hP hD hS => ?_)
    have hP : va_P D vwCl [(drm, .inr (4, [.ref drm1, .ref drm2, .ref drm3, .ref drm4])), (drm1, aI cs 7 (upd f_drm1 (4 + x).toNatClampNeg y)), (drm2, aJ cs 3 (vp_updL f_drm2 x.toNatClampNeg xl)), (drm3, aI cs 3 (upd f_drm3 x.toNatClampNeg z)), (drm4, aI cs 3 (upd f_drm4 x.toNatClampNeg 0))] H := hP
    have hD : va_D A [(drm, .inr (4, [.ref drm1, .ref drm2, .ref drm3, .ref drm4])), (drm1, aI cs 7 (upd f_drm1 (4 + x).toNatClampNeg y)), (drm2, aJ cs 3 (vp_updL f_drm2 x.toNatClampNeg xl)), (drm3, aI cs 3 (upd f_drm3 x.toNatClampNeg z)), (drm4, aI cs 3 (upd f_drm4 x.toNatClampNeg 0))] := hD
    exact hz () hP hD hS trivial [] rfl rfl (Nat.le_of_ble_eq_true rfl) (Nat.le_of_ble_eq_true rfl) rfl dX4_start_38
  · obtain ⟨er_7, hf_8⟩ := hw_3
    subst er_7
    refine lv_if_eq (tgt := 38) hx hb dX4_start_4 (by decide) (fun c_9 => ?_) (fun c_9 => absurd (by decide) c_9)
    exact hz () hP hD hS trivial [] rfl rfl (Nat.le_of_ble_eq_true rfl) (Nat.le_of_ble_eq_true rfl) rfl dX4_start_38
abbrev rm_c_X4_bits_s : Room := { frames := 1, cells := 0, slots := 0, locals := 21 }
set_option maxHeartbeats 4000000 in
set_option maxRecDepth 100000 in
theorem c_X4_bits_s (l : Launch) (D : va_G) (cs : Nat → ClassId) (sz : Nat) (drm : Nat) (drm1 : Nat) (f_drm1 : Nat → Int32) (drm2 : Nat) (drm3 : Nat) (drm4 : Nat) (z_f_drm1 : ∀ j, j < 7 → f_drm1 j = (-1)) : cMi l yX4_bits (Cond.code yX4_bits cX4_bits 5 (some .int)) (rm_c_X4_bits_s) D cs [.ref drm, .int 0, .int 4] sz [(drm, .inr (4, [.ref drm1, .ref drm2, .ref drm3, .ref drm4])), (drm1, aI cs 7 f_drm1)] (fun (r : Int32) (u : Unit) => (r = 0)) (fun (u : Unit) => [(drm, .inr (4, [.ref drm1, .ref drm2, .ref drm3, .ref drm4])), (drm1, aI cs 7 f_drm1)]) := by
  refine kMet_i RX4 (by decide) rfl (Nat.le_of_ble_eq_true rfl) ?_
  intro p e s m below meth c ls A Qz H locs hx hb hml hown hin hu hK hsz hA hP hD hS hl hz
  subst hsz
  have hl : lv_has ls 5 [(0, .ref drm), (1, .int 0), (2, .int 4)] := hl
  refine lv_iconst (v := 0) hx hb dX4_bits_0 (by decide) ?_
  refine lv_istore_n (lv' := [(3, .int 0), (0, .ref drm), (1, .int 0), (2, .int 4)]) hx hb dX4_bits_1 rfl hl (by decide) rfl (fun ls hl => ?_)
  refine lv_iconst (v := 0) hx hb dX4_bits_2 (by decide) ?_
  refine lv_istore (lv' := [(4, .int 0), (3, .int 0), (0, .ref drm), (1, .int 0), (2, .int 4)]) hx hb dX4_bits_3 hl (by decide) rfl (fun ls hl => ?_)
  refine lv_iload hx hb dX4_bits_5 (lv_at hl 0 rfl) ?_
  refine lv_iload_n hx hb dX4_bits_7 rfl (lv_at hl 4 rfl) ?_
  refine lv_icmp_ge (tgt := 36) hx hb dX4_bits_8 (by decide) (fun c_1 => absurd c_1 (by decide)) (fun c_1 => ?_)
  refine lv_aload_n hx hb dX4_bits_11 rfl (lv_at hl 2 rfl) ?_
  refine lv_iload_n hx hb dX4_bits_12 rfl (lv_at hl 3 rfl) ?_
  refine lv_iload hx hb dX4_bits_13 (lv_at hl 0 rfl) ?_
  refine lv_iadd hx hb dX4_bits_15 ?_
  refine tpi (y := 0) (by decide) ?_
  refine kV_i (ci := 4) (As := [.int 0]) (rest := []) (wc := [(drm, .inr (4, [.ref drm1, .ref drm2, .ref drm3, .ref drm4])), (drm1, aI cs 7 f_drm1)]) (wr := []) hx hb hml hown hu hK hP hD hS hA hl.1 (c_X4_heldAt l D cs H.size drm drm1 f_drm1 drm2 drm3 drm4 0 z_f_drm1) (gV u_1071 u_616 u_617 u_75 u_618) hd_X4_heldAt ⟨(Nat.le_of_ble_eq_true rfl), (Nat.le_of_ble_eq_true rfl)⟩ [0, 1] [] rfl rfl rfl rfl (by decide) rfl 0 rfl rfl rfl (Nat.le_of_ble_eq_true rfl) dX4_bits_16 ⟨(Nat.le_of_ble_eq_true rfl), (Nat.le_of_ble_eq_true rfl)⟩ (fun r_2 ut_3 H locs hw_4 hP hD hS => ?_)
  have hP : va_P D vwCl [(drm, .inr (4, [.ref drm1, .ref drm2, .ref drm3, .ref drm4])), (drm1, aI cs 7 f_drm1)] H := hP
  have hD : va_D A [(drm, .inr (4, [.ref drm1, .ref drm2, .ref drm3, .ref drm4])), (drm1, aI cs 7 f_drm1)] := hD
  have er_5 := hw_4
  subst er_5
  refine lv_iconst (v := (-1)) hx hb dX4_bits_19 (by decide) ?_
  refine lv_icmp_eq (tgt := 30) hx hb dX4_bits_20 (by decide) (fun c_6 => ?_) (fun c_6 => absurd (by decide) c_6)
  refine lv_iinc (v := 1) (lv' := [(4, .int 1), (3, .int 0), (0, .ref drm), (1, .int 0), (2, .int 4)]) hx hb dX4_bits_30 hl (k := 0) rfl (by decide) (by decide) rfl (fun ls hl => ?_)
  refine lv_goto (tgt := 5) hx hb dX4_bits_33 (by decide) ?_
  refine lv_iload hx hb dX4_bits_5 (lv_at hl 0 rfl) ?_
  refine lv_iload_n hx hb dX4_bits_7 rfl (lv_at hl 4 rfl) ?_
  refine lv_icmp_ge (tgt := 36) hx hb dX4_bits_8 (by decide) (fun c_7 => absurd c_7 (by decide)) (fun c_7 => ?_)
  refine lv_aload_n hx hb dX4_bits_11 rfl (lv_at hl 2 rfl) ?_
  refine lv_iload_n hx hb dX4_bits_12 rfl (lv_at hl 3 rfl) ?_
  refine lv_iload hx hb dX4_bits_13 (lv_at hl 0 rfl) ?_
  refine lv_iadd hx hb dX4_bits_15 ?_
  refine tpi (y := 1) (by decide) ?_
  refine kV_i (ci := 4) (As := [.int 1]) (rest := []) (wc := [(drm, .inr (4, [.ref drm1, .ref drm2, .ref drm3, .ref drm4])), (drm1, aI cs 7 f_drm1)]) (wr := []) hx hb hml hown hu hK hP hD hS hA hl.1 (c_X4_heldAt l D cs H.size drm drm1 f_drm1 drm2 drm3 drm4 1 z_f_drm1) (gV u_1071 u_616 u_617 u_75 u_618) hd_X4_heldAt ⟨(Nat.le_of_ble_eq_true rfl), (Nat.le_of_ble_eq_true rfl)⟩ [0, 1] [] rfl rfl rfl rfl (by decide) rfl 0 rfl rfl rfl (Nat.le_of_ble_eq_true rfl) dX4_bits_16 ⟨(Nat.le_of_ble_eq_true rfl), (Nat.le_of_ble_eq_true rfl)⟩ (fun r_8 ut_9 H locs hw_10 hP hD hS => ?_)
  have hP : va_P D vwCl [(drm, .inr (4, [.ref drm1, .ref drm2, .ref drm3, .ref drm4])), (drm1, aI cs 7 f_drm1)] H := hP
  have hD : va_D A [(drm, .inr (4, [.ref drm1, .ref drm2, .ref drm3, .ref drm4])), (drm1, aI cs 7 f_drm1)] := hD
  have er_11 := hw_10
  subst er_11
  refine lv_iconst (v := (-1)) hx hb dX4_bits_19 (by decide) ?_
  refine lv_icmp_eq (tgt := 30) hx hb dX4_bits_20 (by decide) (fun c_12 => ?_) (fun c_12 => absurd (by decide) c_12)
  refine lv_iinc (v := 2) (lv' := [(4, .int 2), (3, .int 0), (0, .ref drm), (1, .int 0), (2, .int 4)]) hx hb dX4_bits_30 hl (k := 0) rfl (by decide) (by decide) rfl (fun ls hl => ?_)
  refine lv_goto (tgt := 5) hx hb dX4_bits_33 (by decide) ?_
  refine lv_iload hx hb dX4_bits_5 (lv_at hl 0 rfl) ?_
  refine lv_iload_n hx hb dX4_bits_7 rfl (lv_at hl 4 rfl) ?_
  refine lv_icmp_ge (tgt := 36) hx hb dX4_bits_8 (by decide) (fun c_13 => absurd c_13 (by decide)) (fun c_13 => ?_)
  refine lv_aload_n hx hb dX4_bits_11 rfl (lv_at hl 2 rfl) ?_
  refine lv_iload_n hx hb dX4_bits_12 rfl (lv_at hl 3 rfl) ?_
  refine lv_iload hx hb dX4_bits_13 (lv_at hl 0 rfl) ?_
  refine lv_iadd hx hb dX4_bits_15 ?_
  refine tpi (y := 2) (by decide) ?_
  refine kV_i (ci := 4) (As := [.int 2]) (rest := []) (wc := [(drm, .inr (4, [.ref drm1, .ref drm2, .ref drm3, .ref drm4])), (drm1, aI cs 7 f_drm1)]) (wr := []) hx hb hml hown hu hK hP hD hS hA hl.1 (c_X4_heldAt l D cs H.size drm drm1 f_drm1 drm2 drm3 drm4 2 z_f_drm1) (gV u_1071 u_616 u_617 u_75 u_618) hd_X4_heldAt ⟨(Nat.le_of_ble_eq_true rfl), (Nat.le_of_ble_eq_true rfl)⟩ [0, 1] [] rfl rfl rfl rfl (by decide) rfl 0 rfl rfl rfl (Nat.le_of_ble_eq_true rfl) dX4_bits_16 ⟨(Nat.le_of_ble_eq_true rfl), (Nat.le_of_ble_eq_true rfl)⟩ (fun r_14 ut_15 H locs hw_16 hP hD hS => ?_)
  have hP : va_P D vwCl [(drm, .inr (4, [.ref drm1, .ref drm2, .ref drm3, .ref drm4])), (drm1, aI cs 7 f_drm1)] H := hP
  have hD : va_D A [(drm, .inr (4, [.ref drm1, .ref drm2, .ref drm3, .ref drm4])), (drm1, aI cs 7 f_drm1)] := hD
  have er_17 := hw_16
  subst er_17
  refine lv_iconst (v := (-1)) hx hb dX4_bits_19 (by decide) ?_
  refine lv_icmp_eq (tgt := 30) hx hb dX4_bits_20 (by decide) (fun c_18 => ?_) (fun c_18 => absurd (by decide) c_18)
  refine lv_iinc (v := 3) (lv' := [(4, .int 3), (3, .int 0), (0, .ref drm), (1, .int 0), (2, .int 4)]) hx hb dX4_bits_30 hl (k := 0) rfl (by decide) (by decide) rfl (fun ls hl => ?_)
  refine lv_goto (tgt := 5) hx hb dX4_bits_33 (by decide) ?_
  refine lv_iload hx hb dX4_bits_5 (lv_at hl 0 rfl) ?_
  refine lv_iload_n hx hb dX4_bits_7 rfl (lv_at hl 4 rfl) ?_
  refine lv_icmp_ge (tgt := 36) hx hb dX4_bits_8 (by decide) (fun c_19 => absurd c_19 (by decide)) (fun c_19 => ?_)
  refine lv_aload_n hx hb dX4_bits_11 rfl (lv_at hl 2 rfl) ?_
  refine lv_iload_n hx hb dX4_bits_12 rfl (lv_at hl 3 rfl) ?_
  refine lv_iload hx hb dX4_bits_13 (lv_at hl 0 rfl) ?_
  refine lv_iadd hx hb dX4_bits_15 ?_
  refine tpi (y := 3) (by decide) ?_
  refine kV_i (ci := 4) (As := [.int 3]) (rest := []) (wc := [(drm, .inr (4, [.ref drm1, .ref drm2, .ref drm3, .ref drm4])), (drm1, aI cs 7 f_drm1)]) (wr := []) hx hb hml hown hu hK hP hD hS hA hl.1 (c_X4_heldAt l D cs H.size drm drm1 f_drm1 drm2 drm3 drm4 3 z_f_drm1) (gV u_1071 u_616 u_617 u_75 u_618) hd_X4_heldAt ⟨(Nat.le_of_ble_eq_true rfl), (Nat.le_of_ble_eq_true rfl)⟩ [0, 1] [] rfl rfl rfl rfl (by decide) rfl 0 rfl rfl rfl (Nat.le_of_ble_eq_true rfl) dX4_bits_16 ⟨(Nat.le_of_ble_eq_true rfl), (Nat.le_of_ble_eq_true rfl)⟩ (fun r_20 ut_21 H locs hw_22 hP hD hS => ?_)
  have hP : va_P D vwCl [(drm, .inr (4, [.ref drm1, .ref drm2, .ref drm3, .ref drm4])), (drm1, aI cs 7 f_drm1)] H := hP
  have hD : va_D A [(drm, .inr (4, [.ref drm1, .ref drm2, .ref drm3, .ref drm4])), (drm1, aI cs 7 f_drm1)] := hD
  have er_23 := hw_22
  subst er_23
  refine lv_iconst (v := (-1)) hx hb dX4_bits_19 (by decide) ?_
  refine lv_icmp_eq (tgt := 30) hx hb dX4_bits_20 (by decide) (fun c_24 => ?_) (fun c_24 => absurd (by decide) c_24)
  refine lv_iinc (v := 4) (lv' := [(4, .int 4), (3, .int 0), (0, .ref drm), (1, .int 0), (2, .int 4)]) hx hb dX4_bits_30 hl (k := 0) rfl (by decide) (by decide) rfl (fun ls hl => ?_)
  refine lv_goto (tgt := 5) hx hb dX4_bits_33 (by decide) ?_
  refine lv_iload hx hb dX4_bits_5 (lv_at hl 0 rfl) ?_
  refine lv_iload_n hx hb dX4_bits_7 rfl (lv_at hl 4 rfl) ?_
  refine lv_icmp_ge (tgt := 36) hx hb dX4_bits_8 (by decide) (fun c_25 => ?_) (fun c_25 => absurd (by decide) c_25)
  refine lv_iload_n hx hb dX4_bits_36 rfl (lv_at hl 1 rfl) ?_
  exact hz () hP hD hS rfl [0, 1] rfl rfl (Nat.le_of_ble_eq_true rfl) (Nat.le_of_ble_eq_true rfl) .int rfl rfl dX4_bits_37
abbrev rm_c_X4_bits_i : Room := { frames := 1, cells := 0, slots := 0, locals := 21 }
set_option maxHeartbeats 4000000 in
set_option maxRecDepth 100000 in
theorem c_X4_bits_i (l : Launch) (D : va_G) (cs : Nat → ClassId) (sz : Nat) (drm : Nat) (drm1 : Nat) (f_drm1 : Nat → Int32) (drm2 : Nat) (drm3 : Nat) (drm4 : Nat) (z_f_drm1 : ∀ j, j < 7 → f_drm1 j = (-1)) : cMi l yX4_bits (Cond.code yX4_bits cX4_bits 5 (some .int)) (rm_c_X4_bits_i) D cs [.ref drm, .int 4, .int 3] sz [(drm, .inr (4, [.ref drm1, .ref drm2, .ref drm3, .ref drm4])), (drm1, aI cs 7 f_drm1)] (fun (r : Int32) (u : Unit) => (r = 0)) (fun (u : Unit) => [(drm, .inr (4, [.ref drm1, .ref drm2, .ref drm3, .ref drm4])), (drm1, aI cs 7 f_drm1)]) := by
  refine kMet_i RX4 (by decide) rfl (Nat.le_of_ble_eq_true rfl) ?_
  intro p e s m below meth c ls A Qz H locs hx hb hml hown hin hu hK hsz hA hP hD hS hl hz
  subst hsz
  have hl : lv_has ls 5 [(0, .ref drm), (1, .int 4), (2, .int 3)] := hl
  refine lv_iconst (v := 0) hx hb dX4_bits_0 (by decide) ?_
  refine lv_istore_n (lv' := [(3, .int 0), (0, .ref drm), (1, .int 4), (2, .int 3)]) hx hb dX4_bits_1 rfl hl (by decide) rfl (fun ls hl => ?_)
  refine lv_iconst (v := 0) hx hb dX4_bits_2 (by decide) ?_
  refine lv_istore (lv' := [(4, .int 0), (3, .int 0), (0, .ref drm), (1, .int 4), (2, .int 3)]) hx hb dX4_bits_3 hl (by decide) rfl (fun ls hl => ?_)
  refine lv_iload hx hb dX4_bits_5 (lv_at hl 0 rfl) ?_
  refine lv_iload_n hx hb dX4_bits_7 rfl (lv_at hl 4 rfl) ?_
  refine lv_icmp_ge (tgt := 36) hx hb dX4_bits_8 (by decide) (fun c_1 => absurd c_1 (by decide)) (fun c_1 => ?_)
  refine lv_aload_n hx hb dX4_bits_11 rfl (lv_at hl 2 rfl) ?_
  refine lv_iload_n hx hb dX4_bits_12 rfl (lv_at hl 3 rfl) ?_
  refine lv_iload hx hb dX4_bits_13 (lv_at hl 0 rfl) ?_
  refine lv_iadd hx hb dX4_bits_15 ?_
  refine tpi (y := 4) (by decide) ?_
  refine kV_i (ci := 4) (As := [.int 4]) (rest := []) (wc := [(drm, .inr (4, [.ref drm1, .ref drm2, .ref drm3, .ref drm4])), (drm1, aI cs 7 f_drm1)]) (wr := []) hx hb hml hown hu hK hP hD hS hA hl.1 (c_X4_heldAt l D cs H.size drm drm1 f_drm1 drm2 drm3 drm4 4 z_f_drm1) (gV u_1071 u_616 u_617 u_75 u_618) hd_X4_heldAt ⟨(Nat.le_of_ble_eq_true rfl), (Nat.le_of_ble_eq_true rfl)⟩ [0, 1] [] rfl rfl rfl rfl (by decide) rfl 0 rfl rfl rfl (Nat.le_of_ble_eq_true rfl) dX4_bits_16 ⟨(Nat.le_of_ble_eq_true rfl), (Nat.le_of_ble_eq_true rfl)⟩ (fun r_2 ut_3 H locs hw_4 hP hD hS => ?_)
  have hP : va_P D vwCl [(drm, .inr (4, [.ref drm1, .ref drm2, .ref drm3, .ref drm4])), (drm1, aI cs 7 f_drm1)] H := hP
  have hD : va_D A [(drm, .inr (4, [.ref drm1, .ref drm2, .ref drm3, .ref drm4])), (drm1, aI cs 7 f_drm1)] := hD
  have er_5 := hw_4
  subst er_5
  refine lv_iconst (v := (-1)) hx hb dX4_bits_19 (by decide) ?_
  refine lv_icmp_eq (tgt := 30) hx hb dX4_bits_20 (by decide) (fun c_6 => ?_) (fun c_6 => absurd (by decide) c_6)
  refine lv_iinc (v := 1) (lv' := [(4, .int 1), (3, .int 0), (0, .ref drm), (1, .int 4), (2, .int 3)]) hx hb dX4_bits_30 hl (k := 0) rfl (by decide) (by decide) rfl (fun ls hl => ?_)
  refine lv_goto (tgt := 5) hx hb dX4_bits_33 (by decide) ?_
  refine lv_iload hx hb dX4_bits_5 (lv_at hl 0 rfl) ?_
  refine lv_iload_n hx hb dX4_bits_7 rfl (lv_at hl 4 rfl) ?_
  refine lv_icmp_ge (tgt := 36) hx hb dX4_bits_8 (by decide) (fun c_7 => absurd c_7 (by decide)) (fun c_7 => ?_)
  refine lv_aload_n hx hb dX4_bits_11 rfl (lv_at hl 2 rfl) ?_
  refine lv_iload_n hx hb dX4_bits_12 rfl (lv_at hl 3 rfl) ?_
  refine lv_iload hx hb dX4_bits_13 (lv_at hl 0 rfl) ?_
  refine lv_iadd hx hb dX4_bits_15 ?_
  refine tpi (y := 5) (by decide) ?_
  refine kV_i (ci := 4) (As := [.int 5]) (rest := []) (wc := [(drm, .inr (4, [.ref drm1, .ref drm2, .ref drm3, .ref drm4])), (drm1, aI cs 7 f_drm1)]) (wr := []) hx hb hml hown hu hK hP hD hS hA hl.1 (c_X4_heldAt l D cs H.size drm drm1 f_drm1 drm2 drm3 drm4 5 z_f_drm1) (gV u_1071 u_616 u_617 u_75 u_618) hd_X4_heldAt ⟨(Nat.le_of_ble_eq_true rfl), (Nat.le_of_ble_eq_true rfl)⟩ [0, 1] [] rfl rfl rfl rfl (by decide) rfl 0 rfl rfl rfl (Nat.le_of_ble_eq_true rfl) dX4_bits_16 ⟨(Nat.le_of_ble_eq_true rfl), (Nat.le_of_ble_eq_true rfl)⟩ (fun r_8 ut_9 H locs hw_10 hP hD hS => ?_)
  have hP : va_P D vwCl [(drm, .inr (4, [.ref drm1, .ref drm2, .ref drm3, .ref drm4])), (drm1, aI cs 7 f_drm1)] H := hP
  have hD : va_D A [(drm, .inr (4, [.ref drm1, .ref drm2, .ref drm3, .ref drm4])), (drm1, aI cs 7 f_drm1)] := hD
  have er_11 := hw_10
  subst er_11
  refine lv_iconst (v := (-1)) hx hb dX4_bits_19 (by decide) ?_
  refine lv_icmp_eq (tgt := 30) hx hb dX4_bits_20 (by decide) (fun c_12 => ?_) (fun c_12 => absurd (by decide) c_12)
  refine lv_iinc (v := 2) (lv' := [(4, .int 2), (3, .int 0), (0, .ref drm), (1, .int 4), (2, .int 3)]) hx hb dX4_bits_30 hl (k := 0) rfl (by decide) (by decide) rfl (fun ls hl => ?_)
  refine lv_goto (tgt := 5) hx hb dX4_bits_33 (by decide) ?_
  refine lv_iload hx hb dX4_bits_5 (lv_at hl 0 rfl) ?_
  refine lv_iload_n hx hb dX4_bits_7 rfl (lv_at hl 4 rfl) ?_
  refine lv_icmp_ge (tgt := 36) hx hb dX4_bits_8 (by decide) (fun c_13 => absurd c_13 (by decide)) (fun c_13 => ?_)
  refine lv_aload_n hx hb dX4_bits_11 rfl (lv_at hl 2 rfl) ?_
  refine lv_iload_n hx hb dX4_bits_12 rfl (lv_at hl 3 rfl) ?_
  refine lv_iload hx hb dX4_bits_13 (lv_at hl 0 rfl) ?_
  refine lv_iadd hx hb dX4_bits_15 ?_
  refine tpi (y := 6) (by decide) ?_
  refine kV_i (ci := 4) (As := [.int 6]) (rest := []) (wc := [(drm, .inr (4, [.ref drm1, .ref drm2, .ref drm3, .ref drm4])), (drm1, aI cs 7 f_drm1)]) (wr := []) hx hb hml hown hu hK hP hD hS hA hl.1 (c_X4_heldAt l D cs H.size drm drm1 f_drm1 drm2 drm3 drm4 6 z_f_drm1) (gV u_1071 u_616 u_617 u_75 u_618) hd_X4_heldAt ⟨(Nat.le_of_ble_eq_true rfl), (Nat.le_of_ble_eq_true rfl)⟩ [0, 1] [] rfl rfl rfl rfl (by decide) rfl 0 rfl rfl rfl (Nat.le_of_ble_eq_true rfl) dX4_bits_16 ⟨(Nat.le_of_ble_eq_true rfl), (Nat.le_of_ble_eq_true rfl)⟩ (fun r_14 ut_15 H locs hw_16 hP hD hS => ?_)
  have hP : va_P D vwCl [(drm, .inr (4, [.ref drm1, .ref drm2, .ref drm3, .ref drm4])), (drm1, aI cs 7 f_drm1)] H := hP
  have hD : va_D A [(drm, .inr (4, [.ref drm1, .ref drm2, .ref drm3, .ref drm4])), (drm1, aI cs 7 f_drm1)] := hD
  have er_17 := hw_16
  subst er_17
  refine lv_iconst (v := (-1)) hx hb dX4_bits_19 (by decide) ?_
  refine lv_icmp_eq (tgt := 30) hx hb dX4_bits_20 (by decide) (fun c_18 => ?_) (fun c_18 => absurd (by decide) c_18)
  refine lv_iinc (v := 3) (lv' := [(4, .int 3), (3, .int 0), (0, .ref drm), (1, .int 4), (2, .int 3)]) hx hb dX4_bits_30 hl (k := 0) rfl (by decide) (by decide) rfl (fun ls hl => ?_)
  refine lv_goto (tgt := 5) hx hb dX4_bits_33 (by decide) ?_
  refine lv_iload hx hb dX4_bits_5 (lv_at hl 0 rfl) ?_
  refine lv_iload_n hx hb dX4_bits_7 rfl (lv_at hl 4 rfl) ?_
  refine lv_icmp_ge (tgt := 36) hx hb dX4_bits_8 (by decide) (fun c_19 => ?_) (fun c_19 => absurd (by decide) c_19)
  refine lv_iload_n hx hb dX4_bits_36 rfl (lv_at hl 1 rfl) ?_
  exact hz () hP hD hS rfl [0, 1] rfl rfl (Nat.le_of_ble_eq_true rfl) (Nat.le_of_ble_eq_true rfl) .int rfl rfl dX4_bits_37
