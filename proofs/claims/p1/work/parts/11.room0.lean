theorem u_444 : Cond.code yX6_fitting prog_8_method_13_code 7 (some .int) ∈ U0 := um 444 (by decide +kernel) (by decide +kernel)
theorem u_441 : Cond.methodLink "KeyDrive$Pages" 91 yX6_fitting ∈ U0 := um 441 (by decide +kernel) (by decide +kernel)
theorem u_442 : Cond.instanceMethod yX6_fitting ∈ U0 := um 442 (by decide +kernel) (by decide +kernel)
theorem u_443 : Cond.selects "KeyDrive$Pages" yX6_fitting yX6_fitting ∈ U0 := um 443 (by decide +kernel) (by decide +kernel)
theorem u_452 : Cond.code yX6_leastWornFree prog_8_method_14_code 4 (some .int) ∈ U0 := um 452 (by decide +kernel) (by decide +kernel)
theorem u_449 : Cond.methodLink "KeyDrive$Pages" 98 yX6_leastWornFree ∈ U0 := um 449 (by decide +kernel) (by decide +kernel)
theorem u_450 : Cond.instanceMethod yX6_leastWornFree ∈ U0 := um 450 (by decide +kernel) (by decide +kernel)
theorem u_451 : Cond.selects "KeyDrive$Pages" yX6_leastWornFree yX6_leastWornFree ∈ U0 := um 451 (by decide +kernel) (by decide +kernel)
theorem u_440 : Cond.code yX6_placeToPut prog_8_method_15_code 3 (some .int) ∈ U0 := um 440 (by decide +kernel) (by decide +kernel)
theorem u_437 : Cond.methodLink "KeyDrive$Pages" 101 yX6_placeToPut ∈ U0 := um 437 (by decide +kernel) (by decide +kernel)
theorem u_438 : Cond.instanceMethod yX6_placeToPut ∈ U0 := um 438 (by decide +kernel) (by decide +kernel)
theorem u_439 : Cond.selects "KeyDrive$Pages" yX6_placeToPut yX6_placeToPut ∈ U0 := um 439 (by decide +kernel) (by decide +kernel)
theorem dX6_fitting_0 : decode cX6_fitting 0 = .ok (.iconst (-1), 1) := by decide +kernel
theorem dX6_fitting_1 : decode cX6_fitting 1 = .ok (.istore_n 3, 1) := by decide +kernel
theorem dX6_fitting_2 : decode cX6_fitting 2 = .ok (.iconst 0, 1) := by decide +kernel
theorem dX6_fitting_3 : decode cX6_fitting 3 = .ok (.istore 4, 2) := by decide +kernel
theorem dX6_fitting_5 : decode cX6_fitting 5 = .ok (.iconst 0, 1) := by decide +kernel
theorem dX6_fitting_6 : decode cX6_fitting 6 = .ok (.istore 5, 2) := by decide +kernel
theorem dX6_fitting_8 : decode cX6_fitting 8 = .ok (.iload 5, 2) := by decide +kernel
theorem dX6_fitting_10 : decode cX6_fitting 10 = .ok (.bipush 24, 2) := by decide +kernel
theorem dX6_fitting_12 : decode cX6_fitting 12 = .ok (.if_icmp .ge 105, 3) := by decide +kernel
theorem dX6_fitting_15 : decode cX6_fitting 15 = .ok (.aload_n 0, 1) := by decide +kernel
theorem dX6_fitting_16 : decode cX6_fitting 16 = .ok (.getfield 18, 3) := by decide +kernel
theorem dX6_fitting_19 : decode cX6_fitting 19 = .ok (.iload 5, 2) := by decide +kernel
theorem dX6_fitting_21 : decode cX6_fitting 21 = .ok (.iaload, 1) := by decide +kernel
theorem dX6_fitting_22 : decode cX6_fitting 22 = .ok (.ifCond .le 27, 3) := by decide +kernel
theorem dX6_fitting_49 : decode cX6_fitting 49 = .ok (.iconst 0, 1) := by decide +kernel
theorem dX6_fitting_50 : decode cX6_fitting 50 = .ok (.istore 6, 2) := by decide +kernel
theorem dX6_fitting_52 : decode cX6_fitting 52 = .ok (.iload 6, 2) := by decide +kernel
theorem dX6_fitting_54 : decode cX6_fitting 54 = .ok (.ifCond .eq 57, 3) := by decide +kernel
theorem dX6_fitting_111 : decode cX6_fitting 111 = .ok (.iinc 5 1, 3) := by decide +kernel
theorem dX6_fitting_114 : decode cX6_fitting 114 = .ok (.goto (-106), 3) := by decide +kernel
theorem dX6_fitting_117 : decode cX6_fitting 117 = .ok (.iload_n 3, 1) := by decide +kernel
theorem dX6_fitting_118 : decode cX6_fitting 118 = .ok (.ireturn, 1) := by decide +kernel
theorem dX6_leastWornFree_0 : decode cX6_leastWornFree 0 = .ok (.iconst (-1), 1) := by decide +kernel
theorem dX6_leastWornFree_1 : decode cX6_leastWornFree 1 = .ok (.istore_n 1, 1) := by decide +kernel
theorem dX6_leastWornFree_2 : decode cX6_leastWornFree 2 = .ok (.iconst 0, 1) := by decide +kernel
theorem dX6_leastWornFree_3 : decode cX6_leastWornFree 3 = .ok (.istore_n 2, 1) := by decide +kernel
theorem dX6_leastWornFree_4 : decode cX6_leastWornFree 4 = .ok (.iconst 0, 1) := by decide +kernel
theorem dX6_leastWornFree_5 : decode cX6_leastWornFree 5 = .ok (.istore_n 3, 1) := by decide +kernel
theorem dX6_leastWornFree_6 : decode cX6_leastWornFree 6 = .ok (.iload_n 3, 1) := by decide +kernel
theorem dX6_leastWornFree_7 : decode cX6_leastWornFree 7 = .ok (.bipush 24, 2) := by decide +kernel
theorem dX6_leastWornFree_9 : decode cX6_leastWornFree 9 = .ok (.if_icmp .ge 42, 3) := by decide +kernel
theorem dX6_leastWornFree_12 : decode cX6_leastWornFree 12 = .ok (.aload_n 0, 1) := by decide +kernel
theorem dX6_leastWornFree_13 : decode cX6_leastWornFree 13 = .ok (.getfield 18, 3) := by decide +kernel
theorem dX6_leastWornFree_16 : decode cX6_leastWornFree 16 = .ok (.iload_n 3, 1) := by decide +kernel
theorem dX6_leastWornFree_17 : decode cX6_leastWornFree 17 = .ok (.iaload, 1) := by decide +kernel
theorem dX6_leastWornFree_18 : decode cX6_leastWornFree 18 = .ok (.ifCond .ne 27, 3) := by decide +kernel
theorem dX6_leastWornFree_21 : decode cX6_leastWornFree 21 = .ok (.iload_n 1, 1) := by decide +kernel
theorem dX6_leastWornFree_22 : decode cX6_leastWornFree 22 = .ok (.iconst (-1), 1) := by decide +kernel
theorem dX6_leastWornFree_23 : decode cX6_leastWornFree 23 = .ok (.if_icmp .eq 13, 3) := by decide +kernel
theorem dX6_leastWornFree_26 : decode cX6_leastWornFree 26 = .ok (.aload_n 0, 1) := by decide +kernel
theorem dX6_leastWornFree_27 : decode cX6_leastWornFree 27 = .ok (.getfield 22, 3) := by decide +kernel
theorem dX6_leastWornFree_30 : decode cX6_leastWornFree 30 = .ok (.iload_n 3, 1) := by decide +kernel
theorem dX6_leastWornFree_31 : decode cX6_leastWornFree 31 = .ok (.iaload, 1) := by decide +kernel
theorem dX6_leastWornFree_32 : decode cX6_leastWornFree 32 = .ok (.iload_n 2, 1) := by decide +kernel
theorem dX6_leastWornFree_33 : decode cX6_leastWornFree 33 = .ok (.if_icmp .ge 12, 3) := by decide +kernel
theorem dX6_leastWornFree_36 : decode cX6_leastWornFree 36 = .ok (.iload_n 3, 1) := by decide +kernel
theorem dX6_leastWornFree_37 : decode cX6_leastWornFree 37 = .ok (.istore_n 1, 1) := by decide +kernel
theorem dX6_leastWornFree_38 : decode cX6_leastWornFree 38 = .ok (.aload_n 0, 1) := by decide +kernel
theorem dX6_leastWornFree_39 : decode cX6_leastWornFree 39 = .ok (.getfield 22, 3) := by decide +kernel
theorem dX6_leastWornFree_42 : decode cX6_leastWornFree 42 = .ok (.iload_n 3, 1) := by decide +kernel
theorem dX6_leastWornFree_43 : decode cX6_leastWornFree 43 = .ok (.iaload, 1) := by decide +kernel
theorem dX6_leastWornFree_44 : decode cX6_leastWornFree 44 = .ok (.istore_n 2, 1) := by decide +kernel
theorem dX6_leastWornFree_45 : decode cX6_leastWornFree 45 = .ok (.iinc 3 1, 3) := by decide +kernel
theorem dX6_leastWornFree_48 : decode cX6_leastWornFree 48 = .ok (.goto (-42), 3) := by decide +kernel
theorem dX6_leastWornFree_51 : decode cX6_leastWornFree 51 = .ok (.iload_n 1, 1) := by decide +kernel
theorem dX6_leastWornFree_52 : decode cX6_leastWornFree 52 = .ok (.ireturn, 1) := by decide +kernel
theorem dX6_placeToPut_0 : decode cX6_placeToPut 0 = .ok (.aload_n 0, 1) := by decide +kernel
theorem dX6_placeToPut_1 : decode cX6_placeToPut 1 = .ok (.iload_n 1, 1) := by decide +kernel
theorem dX6_placeToPut_2 : decode cX6_placeToPut 2 = .ok (.iconst (-1), 1) := by decide +kernel
theorem dX6_placeToPut_3 : decode cX6_placeToPut 3 = .ok (.invokevirtual 91, 3) := by decide +kernel
theorem dX6_placeToPut_6 : decode cX6_placeToPut 6 = .ok (.istore_n 2, 1) := by decide +kernel
theorem dX6_placeToPut_7 : decode cX6_placeToPut 7 = .ok (.iload_n 2, 1) := by decide +kernel
theorem dX6_placeToPut_8 : decode cX6_placeToPut 8 = .ok (.iconst (-1), 1) := by decide +kernel
theorem dX6_placeToPut_9 : decode cX6_placeToPut 9 = .ok (.if_icmp .ne 11, 3) := by decide +kernel
theorem dX6_placeToPut_12 : decode cX6_placeToPut 12 = .ok (.aload_n 0, 1) := by decide +kernel
theorem dX6_placeToPut_13 : decode cX6_placeToPut 13 = .ok (.invokevirtual 94, 3) := by decide +kernel
theorem dX6_placeToPut_16 : decode cX6_placeToPut 16 = .ok (.iconst 2, 1) := by decide +kernel
theorem dX6_placeToPut_17 : decode cX6_placeToPut 17 = .ok (.if_icmp .ge 7, 3) := by decide +kernel
theorem dX6_placeToPut_24 : decode cX6_placeToPut 24 = .ok (.aload_n 0, 1) := by decide +kernel
theorem dX6_placeToPut_25 : decode cX6_placeToPut 25 = .ok (.invokevirtual 98, 3) := by decide +kernel
theorem dX6_placeToPut_28 : decode cX6_placeToPut 28 = .ok (.ireturn, 1) := by decide +kernel
theorem dX6_makeRoom_0 : decode cX6_makeRoom 0 = .ok (.aload_n 0, 1) := by decide +kernel
theorem dX6_makeRoom_1 : decode cX6_makeRoom 1 = .ok (.iload_n 1, 1) := by decide +kernel
theorem dX6_makeRoom_2 : decode cX6_makeRoom 2 = .ok (.invokevirtual 101, 3) := by decide +kernel
theorem dX6_makeRoom_5 : decode cX6_makeRoom 5 = .ok (.istore_n 2, 1) := by decide +kernel
theorem dX6_makeRoom_6 : decode cX6_makeRoom 6 = .ok (.iconst 0, 1) := by decide +kernel
theorem dX6_makeRoom_7 : decode cX6_makeRoom 7 = .ok (.istore_n 3, 1) := by decide +kernel
theorem dX6_makeRoom_8 : decode cX6_makeRoom 8 = .ok (.iload_n 3, 1) := by decide +kernel
theorem dX6_makeRoom_9 : decode cX6_makeRoom 9 = .ok (.bipush 24, 2) := by decide +kernel
theorem dX6_makeRoom_11 : decode cX6_makeRoom 11 = .ok (.if_icmp .ge 45, 3) := by decide +kernel
theorem dX6_makeRoom_14 : decode cX6_makeRoom 14 = .ok (.iload_n 2, 1) := by decide +kernel
theorem dX6_makeRoom_15 : decode cX6_makeRoom 15 = .ok (.iconst (-1), 1) := by decide +kernel
theorem dX6_makeRoom_16 : decode cX6_makeRoom 16 = .ok (.if_icmp .ne 40, 3) := by decide +kernel
theorem dX6_makeRoom_56 : decode cX6_makeRoom 56 = .ok (.iload_n 2, 1) := by decide +kernel
theorem dX6_makeRoom_57 : decode cX6_makeRoom 57 = .ok (.ireturn, 1) := by decide +kernel
theorem dX6_surelyFit_0 : decode cX6_surelyFit 0 = .ok (.iload_n 1, 1) := by decide +kernel
theorem dX6_surelyFit_1 : decode cX6_surelyFit 1 = .ok (.iconst 1, 1) := by decide +kernel
theorem dX6_surelyFit_2 : decode cX6_surelyFit 2 = .ok (.if_icmp .ge 5, 3) := by decide +kernel
theorem dX6_surelyFit_5 : decode cX6_surelyFit 5 = .ok (.iconst 0, 1) := by decide +kernel
theorem dX6_surelyFit_6 : decode cX6_surelyFit 6 = .ok (.ireturn, 1) := by decide +kernel
theorem dX6_surelyFit_7 : decode cX6_surelyFit 7 = .ok (.iconst 0, 1) := by decide +kernel
theorem dX6_surelyFit_8 : decode cX6_surelyFit 8 = .ok (.aload_n 0, 1) := by decide +kernel
theorem dX6_surelyFit_9 : decode cX6_surelyFit 9 = .ok (.invokevirtual 94, 3) := by decide +kernel
theorem dX6_surelyFit_12 : decode cX6_surelyFit 12 = .ok (.iconst 1, 1) := by decide +kernel
theorem dX6_surelyFit_13 : decode cX6_surelyFit 13 = .ok (.isub, 1) := by decide +kernel
theorem dX6_surelyFit_14 : decode cX6_surelyFit 14 = .ok (.invokestatic 79, 3) := by decide +kernel
theorem dX6_surelyFit_17 : decode cX6_surelyFit 17 = .ok (.bipush 64, 2) := by decide +kernel
theorem dX6_surelyFit_19 : decode cX6_surelyFit 19 = .ok (.iload_n 1, 1) := by decide +kernel
theorem dX6_surelyFit_20 : decode cX6_surelyFit 20 = .ok (.idiv, 1) := by decide +kernel
theorem dX6_surelyFit_21 : decode cX6_surelyFit 21 = .ok (.imul, 1) := by decide +kernel
theorem dX6_surelyFit_22 : decode cX6_surelyFit 22 = .ok (.istore_n 2, 1) := by decide +kernel
theorem dX6_surelyFit_23 : decode cX6_surelyFit 23 = .ok (.iconst 0, 1) := by decide +kernel
theorem dX6_surelyFit_24 : decode cX6_surelyFit 24 = .ok (.istore_n 3, 1) := by decide +kernel
theorem dX6_surelyFit_25 : decode cX6_surelyFit 25 = .ok (.iload_n 3, 1) := by decide +kernel
theorem dX6_surelyFit_26 : decode cX6_surelyFit 26 = .ok (.bipush 24, 2) := by decide +kernel
theorem dX6_surelyFit_28 : decode cX6_surelyFit 28 = .ok (.if_icmp .ge 47, 3) := by decide +kernel
theorem dX6_surelyFit_31 : decode cX6_surelyFit 31 = .ok (.aload_n 0, 1) := by decide +kernel
theorem dX6_surelyFit_32 : decode cX6_surelyFit 32 = .ok (.getfield 18, 3) := by decide +kernel
theorem dX6_surelyFit_35 : decode cX6_surelyFit 35 = .ok (.iload_n 3, 1) := by decide +kernel
theorem dX6_surelyFit_36 : decode cX6_surelyFit 36 = .ok (.iaload, 1) := by decide +kernel
theorem dX6_surelyFit_37 : decode cX6_surelyFit 37 = .ok (.ifCond .le 32, 3) := by decide +kernel
theorem dX6_surelyFit_69 : decode cX6_surelyFit 69 = .ok (.iinc 3 1, 3) := by decide +kernel
theorem dX6_surelyFit_72 : decode cX6_surelyFit 72 = .ok (.goto (-47), 3) := by decide +kernel
theorem dX6_surelyFit_75 : decode cX6_surelyFit 75 = .ok (.iload_n 2, 1) := by decide +kernel
theorem dX6_surelyFit_76 : decode cX6_surelyFit 76 = .ok (.ireturn, 1) := by decide +kernel
theorem hd_X6_fitting : yX6_fitting.cls = RX6 ∧ yX6_fitting.cls ≠ "java/lang/invoke/MethodHandle" ∧ yX6_fitting.cls ≠ "java/lang/invoke/VarHandle" ∧ (parseMethodDescriptor yX6_fitting.desc).map (fun d => d.parameters.length) = some 2 := by decide +kernel
theorem hd_X6_leastWornFree : yX6_leastWornFree.cls = RX6 ∧ yX6_leastWornFree.cls ≠ "java/lang/invoke/MethodHandle" ∧ yX6_leastWornFree.cls ≠ "java/lang/invoke/VarHandle" ∧ (parseMethodDescriptor yX6_leastWornFree.desc).map (fun d => d.parameters.length) = some 0 := by decide +kernel
theorem hd_X6_placeToPut : yX6_placeToPut.cls = RX6 ∧ yX6_placeToPut.cls ≠ "java/lang/invoke/MethodHandle" ∧ yX6_placeToPut.cls ≠ "java/lang/invoke/VarHandle" ∧ (parseMethodDescriptor yX6_placeToPut.desc).map (fun d => d.parameters.length) = some 1 := by decide +kernel
abbrev rm_c_X6_fitting : Room := { frames := 0, cells := 0, slots := 0, locals := 0 }
set_option maxHeartbeats 4000000 in
set_option maxRecDepth 100000 in
theorem c_X6_fitting (l : Launch) (D : va_G) (cs : Nat → ClassId) (sz : Nat) (drp : Nat) (drp1 : Nat) (f_drp1 : Nat → Int32) (drp2 : Nat) (drp3 : Nat) (drp4 : Nat) (drp5 : Nat) (drp6 : Nat) (drp7 : Nat) (drp8 : Nat) (drp9 : Nat) (drp10 : Nat) (x : Int32) (z_f_drp1 : ∀ j, j < 24 → f_drp1 j = 0) : cMi l yX6_fitting (Cond.code yX6_fitting cX6_fitting 7 (some .int)) (rm_c_X6_fitting) D cs [.ref drp, .int x, .int (-1)] sz [(drp, .inr (6, [.int 0, .int 0, .int (-1), .int 0, .int 0, .int 0, .int 240, .ref drp1, .ref drp2, .ref drp3, .ref drp4, .ref drp5, .ref drp6, .ref drp7, .ref drp8, .ref drp9, .ref drp10])), (drp1, aI cs 24 f_drp1)] (fun (r : Int32) (u : Unit) => (r = (-1))) (fun (u : Unit) => [(drp, .inr (6, [.int 0, .int 0, .int (-1), .int 0, .int 0, .int 0, .int 240, .ref drp1, .ref drp2, .ref drp3, .ref drp4, .ref drp5, .ref drp6, .ref drp7, .ref drp8, .ref drp9, .ref drp10])), (drp1, aI cs 24 f_drp1)]) := by
  refine kMet_i RX6 (by decide) rfl (Nat.le_of_ble_eq_true rfl) ?_
  intro p e s m below meth c ls A Qz H locs hx hb hml hown hin hu hK hsz hA hP hD hS hl hz
  subst hsz
  have hl : lv_has ls 7 [(0, .ref drp), (1, .int x), (2, .int (-1))] := hl
  refine lv_iconst (v := (-1)) hx hb dX6_fitting_0 (by decide) ?_
  refine lv_istore_n (lv' := [(3, .int (-1)), (0, .ref drp), (1, .int x), (2, .int (-1))]) hx hb dX6_fitting_1 rfl hl (by decide) rfl (fun ls hl => ?_)
  refine lv_iconst (v := 0) hx hb dX6_fitting_2 (by decide) ?_
  refine lv_istore (lv' := [(4, .int 0), (3, .int (-1)), (0, .ref drp), (1, .int x), (2, .int (-1))]) hx hb dX6_fitting_3 hl (by decide) rfl (fun ls hl => ?_)
  refine lv_iconst (v := 0) hx hb dX6_fitting_5 (by decide) ?_
  refine lv_istore (lv' := [(5, .int 0), (4, .int 0), (3, .int (-1)), (0, .ref drp), (1, .int x), (2, .int (-1))]) hx hb dX6_fitting_6 hl (by decide) rfl (fun ls hl => ?_)
  refine lv_iload hx hb dX6_fitting_8 (lv_at hl 0 rfl) ?_
  refine lv_bipush (v := 24) hx hb dX6_fitting_10 (by decide) ?_
  refine lv_icmp_ge (tgt := 117) hx hb dX6_fitting_12 (by decide) (fun c_1 => absurd c_1 (by decide)) (fun c_1 => ?_)
  refine lv_aload_n hx hb dX6_fitting_15 rfl (lv_at hl 3 rfl) ?_
  refine va_get (D := D) (ci := 6) (v := .ref drp1) (C := RX6) (T := TX6) (N := 17) hx hb hu in_X6 hown hK.1 hP 0 rfl rfl 7 (by decide) (hu _ u_210) (fun _ h9 => h9) rfl dX6_fitting_16 ?_
  refine lv_iload hx hb dX6_fitting_19 (lv_at hl 0 rfl) ?_
  refine va_iald hx hb hK.1 hP 1 0 rfl rfl (vin_c _ _ rfl) dX6_fitting_21 ?_
  refine tpi (y := 0) (z_f_drp1 _ (cl_lt (vin_c _ _ rfl))) ?_
  refine lv_if_le (tgt := 49) hx hb dX6_fitting_22 (by decide) (fun c_2 => ?_) (fun c_2 => absurd (by decide) c_2)
  refine lv_iconst (v := 0) hx hb dX6_fitting_49 (by decide) ?_
  refine lv_istore (lv' := [(6, .int 0), (5, .int 0), (4, .int 0), (3, .int (-1)), (0, .ref drp), (1, .int x), (2, .int (-1))]) hx hb dX6_fitting_50 hl (by decide) rfl (fun ls hl => ?_)
  refine lv_iload hx hb dX6_fitting_52 (lv_at hl 0 rfl) ?_
  refine lv_if_eq (tgt := 111) hx hb dX6_fitting_54 (by decide) (fun c_3 => ?_) (fun c_3 => absurd (by decide) c_3)
  refine lv_iinc (v := 1) (lv' := [(5, .int 1), (6, .int 0), (4, .int 0), (3, .int (-1)), (0, .ref drp), (1, .int x), (2, .int (-1))]) hx hb dX6_fitting_111 hl (k := 1) rfl (by decide) (by decide) rfl (fun ls hl => ?_)
  refine lv_goto (tgt := 8) hx hb dX6_fitting_114 (by decide) ?_
  refine lv_iload hx hb dX6_fitting_8 (lv_at hl 0 rfl) ?_
  refine lv_bipush (v := 24) hx hb dX6_fitting_10 (by decide) ?_
  refine lv_icmp_ge (tgt := 117) hx hb dX6_fitting_12 (by decide) (fun c_4 => absurd c_4 (by decide)) (fun c_4 => ?_)
  refine lv_aload_n hx hb dX6_fitting_15 rfl (lv_at hl 4 rfl) ?_
  refine va_get (D := D) (ci := 6) (v := .ref drp1) (C := RX6) (T := TX6) (N := 17) hx hb hu in_X6 hown hK.1 hP 0 rfl rfl 7 (by decide) (hu _ u_210) (fun _ h9 => h9) rfl dX6_fitting_16 ?_
  refine lv_iload hx hb dX6_fitting_19 (lv_at hl 0 rfl) ?_
  refine va_iald hx hb hK.1 hP 1 0 rfl rfl (vin_c _ _ rfl) dX6_fitting_21 ?_
  refine tpi (y := 0) (z_f_drp1 _ (cl_lt (vin_c _ _ rfl))) ?_
  refine lv_if_le (tgt := 49) hx hb dX6_fitting_22 (by decide) (fun c_5 => ?_) (fun c_5 => absurd (by decide) c_5)
  refine lv_iconst (v := 0) hx hb dX6_fitting_49 (by decide) ?_
  refine lv_istore (lv' := [(6, .int 0), (5, .int 1), (4, .int 0), (3, .int (-1)), (0, .ref drp), (1, .int x), (2, .int (-1))]) hx hb dX6_fitting_50 hl (by decide) rfl (fun ls hl => ?_)
  refine lv_iload hx hb dX6_fitting_52 (lv_at hl 0 rfl) ?_
  refine lv_if_eq (tgt := 111) hx hb dX6_fitting_54 (by decide) (fun c_6 => ?_) (fun c_6 => absurd (by decide) c_6)
  refine lv_iinc (v := 2) (lv' := [(5, .int 2), (6, .int 0), (4, .int 0), (3, .int (-1)), (0, .ref drp), (1, .int x), (2, .int (-1))]) hx hb dX6_fitting_111 hl (k := 1) rfl (by decide) (by decide) rfl (fun ls hl => ?_)
  refine lv_goto (tgt := 8) hx hb dX6_fitting_114 (by decide) ?_
  refine lv_iload hx hb dX6_fitting_8 (lv_at hl 0 rfl) ?_
  refine lv_bipush (v := 24) hx hb dX6_fitting_10 (by decide) ?_
  refine lv_icmp_ge (tgt := 117) hx hb dX6_fitting_12 (by decide) (fun c_7 => absurd c_7 (by decide)) (fun c_7 => ?_)
  refine lv_aload_n hx hb dX6_fitting_15 rfl (lv_at hl 4 rfl) ?_
  refine va_get (D := D) (ci := 6) (v := .ref drp1) (C := RX6) (T := TX6) (N := 17) hx hb hu in_X6 hown hK.1 hP 0 rfl rfl 7 (by decide) (hu _ u_210) (fun _ h9 => h9) rfl dX6_fitting_16 ?_
  refine lv_iload hx hb dX6_fitting_19 (lv_at hl 0 rfl) ?_
  refine va_iald hx hb hK.1 hP 1 0 rfl rfl (vin_c _ _ rfl) dX6_fitting_21 ?_
  refine tpi (y := 0) (z_f_drp1 _ (cl_lt (vin_c _ _ rfl))) ?_
  refine lv_if_le (tgt := 49) hx hb dX6_fitting_22 (by decide) (fun c_8 => ?_) (fun c_8 => absurd (by decide) c_8)
  refine lv_iconst (v := 0) hx hb dX6_fitting_49 (by decide) ?_
  refine lv_istore (lv' := [(6, .int 0), (5, .int 2), (4, .int 0), (3, .int (-1)), (0, .ref drp), (1, .int x), (2, .int (-1))]) hx hb dX6_fitting_50 hl (by decide) rfl (fun ls hl => ?_)
  refine lv_iload hx hb dX6_fitting_52 (lv_at hl 0 rfl) ?_
  refine lv_if_eq (tgt := 111) hx hb dX6_fitting_54 (by decide) (fun c_9 => ?_) (fun c_9 => absurd (by decide) c_9)
  refine lv_iinc (v := 3) (lv' := [(5, .int 3), (6, .int 0), (4, .int 0), (3, .int (-1)), (0, .ref drp), (1, .int x), (2, .int (-1))]) hx hb dX6_fitting_111 hl (k := 1) rfl (by decide) (by decide) rfl (fun ls hl => ?_)
  refine lv_goto (tgt := 8) hx hb dX6_fitting_114 (by decide) ?_
  refine lv_iload hx hb dX6_fitting_8 (lv_at hl 0 rfl) ?_
  refine lv_bipush (v := 24) hx hb dX6_fitting_10 (by decide) ?_
  refine lv_icmp_ge (tgt := 117) hx hb dX6_fitting_12 (by decide) (fun c_10 => absurd c_10 (by decide)) (fun c_10 => ?_)
  refine lv_aload_n hx hb dX6_fitting_15 rfl (lv_at hl 4 rfl) ?_
  refine va_get (D := D) (ci := 6) (v := .ref drp1) (C := RX6) (T := TX6) (N := 17) hx hb hu in_X6 hown hK.1 hP 0 rfl rfl 7 (by decide) (hu _ u_210) (fun _ h9 => h9) rfl dX6_fitting_16 ?_
  refine lv_iload hx hb dX6_fitting_19 (lv_at hl 0 rfl) ?_
  refine va_iald hx hb hK.1 hP 1 0 rfl rfl (vin_c _ _ rfl) dX6_fitting_21 ?_
  refine tpi (y := 0) (z_f_drp1 _ (cl_lt (vin_c _ _ rfl))) ?_
  refine lv_if_le (tgt := 49) hx hb dX6_fitting_22 (by decide) (fun c_11 => ?_) (fun c_11 => absurd (by decide) c_11)
  refine lv_iconst (v := 0) hx hb dX6_fitting_49 (by decide) ?_
  refine lv_istore (lv' := [(6, .int 0), (5, .int 3), (4, .int 0), (3, .int (-1)), (0, .ref drp), (1, .int x), (2, .int (-1))]) hx hb dX6_fitting_50 hl (by decide) rfl (fun ls hl => ?_)
  refine lv_iload hx hb dX6_fitting_52 (lv_at hl 0 rfl) ?_
  refine lv_if_eq (tgt := 111) hx hb dX6_fitting_54 (by decide) (fun c_12 => ?_) (fun c_12 => absurd (by decide) c_12)
  refine lv_iinc (v := 4) (lv' := [(5, .int 4), (6, .int 0), (4, .int 0), (3, .int (-1)), (0, .ref drp), (1, .int x), (2, .int (-1))]) hx hb dX6_fitting_111 hl (k := 1) rfl (by decide) (by decide) rfl (fun ls hl => ?_)
  refine lv_goto (tgt := 8) hx hb dX6_fitting_114 (by decide) ?_
  refine lv_iload hx hb dX6_fitting_8 (lv_at hl 0 rfl) ?_
  refine lv_bipush (v := 24) hx hb dX6_fitting_10 (by decide) ?_
  refine lv_icmp_ge (tgt := 117) hx hb dX6_fitting_12 (by decide) (fun c_13 => absurd c_13 (by decide)) (fun c_13 => ?_)
  refine lv_aload_n hx hb dX6_fitting_15 rfl (lv_at hl 4 rfl) ?_
  refine va_get (D := D) (ci := 6) (v := .ref drp1) (C := RX6) (T := TX6) (N := 17) hx hb hu in_X6 hown hK.1 hP 0 rfl rfl 7 (by decide) (hu _ u_210) (fun _ h9 => h9) rfl dX6_fitting_16 ?_
  refine lv_iload hx hb dX6_fitting_19 (lv_at hl 0 rfl) ?_
  refine va_iald hx hb hK.1 hP 1 0 rfl rfl (vin_c _ _ rfl) dX6_fitting_21 ?_
  refine tpi (y := 0) (z_f_drp1 _ (cl_lt (vin_c _ _ rfl))) ?_
  refine lv_if_le (tgt := 49) hx hb dX6_fitting_22 (by decide) (fun c_14 => ?_) (fun c_14 => absurd (by decide) c_14)
  refine lv_iconst (v := 0) hx hb dX6_fitting_49 (by decide) ?_
  refine lv_istore (lv' := [(6, .int 0), (5, .int 4), (4, .int 0), (3, .int (-1)), (0, .ref drp), (1, .int x), (2, .int (-1))]) hx hb dX6_fitting_50 hl (by decide) rfl (fun ls hl => ?_)
  refine lv_iload hx hb dX6_fitting_52 (lv_at hl 0 rfl) ?_
  refine lv_if_eq (tgt := 111) hx hb dX6_fitting_54 (by decide) (fun c_15 => ?_) (fun c_15 => absurd (by decide) c_15)
  refine lv_iinc (v := 5) (lv' := [(5, .int 5), (6, .int 0), (4, .int 0), (3, .int (-1)), (0, .ref drp), (1, .int x), (2, .int (-1))]) hx hb dX6_fitting_111 hl (k := 1) rfl (by decide) (by decide) rfl (fun ls hl => ?_)
  refine lv_goto (tgt := 8) hx hb dX6_fitting_114 (by decide) ?_
  refine lv_iload hx hb dX6_fitting_8 (lv_at hl 0 rfl) ?_
  refine lv_bipush (v := 24) hx hb dX6_fitting_10 (by decide) ?_
  refine lv_icmp_ge (tgt := 117) hx hb dX6_fitting_12 (by decide) (fun c_16 => absurd c_16 (by decide)) (fun c_16 => ?_)
  refine lv_aload_n hx hb dX6_fitting_15 rfl (lv_at hl 4 rfl) ?_
  refine va_get (D := D) (ci := 6) (v := .ref drp1) (C := RX6) (T := TX6) (N := 17) hx hb hu in_X6 hown hK.1 hP 0 rfl rfl 7 (by decide) (hu _ u_210) (fun _ h9 => h9) rfl dX6_fitting_16 ?_
  refine lv_iload hx hb dX6_fitting_19 (lv_at hl 0 rfl) ?_
  refine va_iald hx hb hK.1 hP 1 0 rfl rfl (vin_c _ _ rfl) dX6_fitting_21 ?_
  refine tpi (y := 0) (z_f_drp1 _ (cl_lt (vin_c _ _ rfl))) ?_
  refine lv_if_le (tgt := 49) hx hb dX6_fitting_22 (by decide) (fun c_17 => ?_) (fun c_17 => absurd (by decide) c_17)
  refine lv_iconst (v := 0) hx hb dX6_fitting_49 (by decide) ?_
  refine lv_istore (lv' := [(6, .int 0), (5, .int 5), (4, .int 0), (3, .int (-1)), (0, .ref drp), (1, .int x), (2, .int (-1))]) hx hb dX6_fitting_50 hl (by decide) rfl (fun ls hl => ?_)
  refine lv_iload hx hb dX6_fitting_52 (lv_at hl 0 rfl) ?_
  refine lv_if_eq (tgt := 111) hx hb dX6_fitting_54 (by decide) (fun c_18 => ?_) (fun c_18 => absurd (by decide) c_18)
  refine lv_iinc (v := 6) (lv' := [(5, .int 6), (6, .int 0), (4, .int 0), (3, .int (-1)), (0, .ref drp), (1, .int x), (2, .int (-1))]) hx hb dX6_fitting_111 hl (k := 1) rfl (by decide) (by decide) rfl (fun ls hl => ?_)
  refine lv_goto (tgt := 8) hx hb dX6_fitting_114 (by decide) ?_
  refine lv_iload hx hb dX6_fitting_8 (lv_at hl 0 rfl) ?_
  refine lv_bipush (v := 24) hx hb dX6_fitting_10 (by decide) ?_
  refine lv_icmp_ge (tgt := 117) hx hb dX6_fitting_12 (by decide) (fun c_19 => absurd c_19 (by decide)) (fun c_19 => ?_)
  refine lv_aload_n hx hb dX6_fitting_15 rfl (lv_at hl 4 rfl) ?_
  refine va_get (D := D) (ci := 6) (v := .ref drp1) (C := RX6) (T := TX6) (N := 17) hx hb hu in_X6 hown hK.1 hP 0 rfl rfl 7 (by decide) (hu _ u_210) (fun _ h9 => h9) rfl dX6_fitting_16 ?_
  refine lv_iload hx hb dX6_fitting_19 (lv_at hl 0 rfl) ?_
  refine va_iald hx hb hK.1 hP 1 0 rfl rfl (vin_c _ _ rfl) dX6_fitting_21 ?_
  refine tpi (y := 0) (z_f_drp1 _ (cl_lt (vin_c _ _ rfl))) ?_
  refine lv_if_le (tgt := 49) hx hb dX6_fitting_22 (by decide) (fun c_20 => ?_) (fun c_20 => absurd (by decide) c_20)
  refine lv_iconst (v := 0) hx hb dX6_fitting_49 (by decide) ?_
  refine lv_istore (lv' := [(6, .int 0), (5, .int 6), (4, .int 0), (3, .int (-1)), (0, .ref drp), (1, .int x), (2, .int (-1))]) hx hb dX6_fitting_50 hl (by decide) rfl (fun ls hl => ?_)
  refine lv_iload hx hb dX6_fitting_52 (lv_at hl 0 rfl) ?_
  refine lv_if_eq (tgt := 111) hx hb dX6_fitting_54 (by decide) (fun c_21 => ?_) (fun c_21 => absurd (by decide) c_21)
  refine lv_iinc (v := 7) (lv' := [(5, .int 7), (6, .int 0), (4, .int 0), (3, .int (-1)), (0, .ref drp), (1, .int x), (2, .int (-1))]) hx hb dX6_fitting_111 hl (k := 1) rfl (by decide) (by decide) rfl (fun ls hl => ?_)
  refine lv_goto (tgt := 8) hx hb dX6_fitting_114 (by decide) ?_
  refine lv_iload hx hb dX6_fitting_8 (lv_at hl 0 rfl) ?_
  refine lv_bipush (v := 24) hx hb dX6_fitting_10 (by decide) ?_
  refine lv_icmp_ge (tgt := 117) hx hb dX6_fitting_12 (by decide) (fun c_22 => absurd c_22 (by decide)) (fun c_22 => ?_)
  refine lv_aload_n hx hb dX6_fitting_15 rfl (lv_at hl 4 rfl) ?_
  refine va_get (D := D) (ci := 6) (v := .ref drp1) (C := RX6) (T := TX6) (N := 17) hx hb hu in_X6 hown hK.1 hP 0 rfl rfl 7 (by decide) (hu _ u_210) (fun _ h9 => h9) rfl dX6_fitting_16 ?_
  refine lv_iload hx hb dX6_fitting_19 (lv_at hl 0 rfl) ?_
  refine va_iald hx hb hK.1 hP 1 0 rfl rfl (vin_c _ _ rfl) dX6_fitting_21 ?_
  refine tpi (y := 0) (z_f_drp1 _ (cl_lt (vin_c _ _ rfl))) ?_
  refine lv_if_le (tgt := 49) hx hb dX6_fitting_22 (by decide) (fun c_23 => ?_) (fun c_23 => absurd (by decide) c_23)
  refine lv_iconst (v := 0) hx hb dX6_fitting_49 (by decide) ?_
  refine lv_istore (lv' := [(6, .int 0), (5, .int 7), (4, .int 0), (3, .int (-1)), (0, .ref drp), (1, .int x), (2, .int (-1))]) hx hb dX6_fitting_50 hl (by decide) rfl (fun ls hl => ?_)
  refine lv_iload hx hb dX6_fitting_52 (lv_at hl 0 rfl) ?_
  refine lv_if_eq (tgt := 111) hx hb dX6_fitting_54 (by decide) (fun c_24 => ?_) (fun c_24 => absurd (by decide) c_24)
  refine lv_iinc (v := 8) (lv' := [(5, .int 8), (6, .int 0), (4, .int 0), (3, .int (-1)), (0, .ref drp), (1, .int x), (2, .int (-1))]) hx hb dX6_fitting_111 hl (k := 1) rfl (by decide) (by decide) rfl (fun ls hl => ?_)
  refine lv_goto (tgt := 8) hx hb dX6_fitting_114 (by decide) ?_
  refine lv_iload hx hb dX6_fitting_8 (lv_at hl 0 rfl) ?_
  refine lv_bipush (v := 24) hx hb dX6_fitting_10 (by decide) ?_
  refine lv_icmp_ge (tgt := 117) hx hb dX6_fitting_12 (by decide) (fun c_25 => absurd c_25 (by decide)) (fun c_25 => ?_)
  refine lv_aload_n hx hb dX6_fitting_15 rfl (lv_at hl 4 rfl) ?_
  refine va_get (D := D) (ci := 6) (v := .ref drp1) (C := RX6) (T := TX6) (N := 17) hx hb hu in_X6 hown hK.1 hP 0 rfl rfl 7 (by decide) (hu _ u_210) (fun _ h9 => h9) rfl dX6_fitting_16 ?_
  refine lv_iload hx hb dX6_fitting_19 (lv_at hl 0 rfl) ?_
  refine va_iald hx hb hK.1 hP 1 0 rfl rfl (vin_c _ _ rfl) dX6_fitting_21 ?_
  refine tpi (y := 0) (z_f_drp1 _ (cl_lt (vin_c _ _ rfl))) ?_
  refine lv_if_le (tgt := 49) hx hb dX6_fitting_22 (by decide) (fun c_26 => ?_) (fun c_26 => absurd (by decide) c_26)
  refine lv_iconst (v := 0) hx hb dX6_fitting_49 (by decide) ?_
  refine lv_istore (lv' := [(6, .int 0), (5, .int 8), (4, .int 0), (3, .int (-1)), (0, .ref drp), (1, .int x), (2, .int (-1))]) hx hb dX6_fitting_50 hl (by decide) rfl (fun ls hl => ?_)
  refine lv_iload hx hb dX6_fitting_52 (lv_at hl 0 rfl) ?_
  refine lv_if_eq (tgt := 111) hx hb dX6_fitting_54 (by decide) (fun c_27 => ?_) (fun c_27 => absurd (by decide) c_27)
  refine lv_iinc (v := 9) (lv' := [(5, .int 9), (6, .int 0), (4, .int 0), (3, .int (-1)), (0, .ref drp), (1, .int x), (2, .int (-1))]) hx hb dX6_fitting_111 hl (k := 1) rfl (by decide) (by decide) rfl (fun ls hl => ?_)
  refine lv_goto (tgt := 8) hx hb dX6_fitting_114 (by decide) ?_
  refine lv_iload hx hb dX6_fitting_8 (lv_at hl 0 rfl) ?_
  refine lv_bipush (v := 24) hx hb dX6_fitting_10 (by decide) ?_
  refine lv_icmp_ge (tgt := 117) hx hb dX6_fitting_12 (by decide) (fun c_28 => absurd c_28 (by decide)) (fun c_28 => ?_)
  refine lv_aload_n hx hb dX6_fitting_15 rfl (lv_at hl 4 rfl) ?_
  refine va_get (D := D) (ci := 6) (v := .ref drp1) (C := RX6) (T := TX6) (N := 17) hx hb hu in_X6 hown hK.1 hP 0 rfl rfl 7 (by decide) (hu _ u_210) (fun _ h9 => h9) rfl dX6_fitting_16 ?_
  refine lv_iload hx hb dX6_fitting_19 (lv_at hl 0 rfl) ?_
  refine va_iald hx hb hK.1 hP 1 0 rfl rfl (vin_c _ _ rfl) dX6_fitting_21 ?_
  refine tpi (y := 0) (z_f_drp1 _ (cl_lt (vin_c _ _ rfl))) ?_
  refine lv_if_le (tgt := 49) hx hb dX6_fitting_22 (by decide) (fun c_29 => ?_) (fun c_29 => absurd (by decide) c_29)
  refine lv_iconst (v := 0) hx hb dX6_fitting_49 (by decide) ?_
  refine lv_istore (lv' := [(6, .int 0), (5, .int 9), (4, .int 0), (3, .int (-1)), (0, .ref drp), (1, .int x), (2, .int (-1))]) hx hb dX6_fitting_50 hl (by decide) rfl (fun ls hl => ?_)
  refine lv_iload hx hb dX6_fitting_52 (lv_at hl 0 rfl) ?_
  refine lv_if_eq (tgt := 111) hx hb dX6_fitting_54 (by decide) (fun c_30 => ?_) (fun c_30 => absurd (by decide) c_30)
  refine lv_iinc (v := 10) (lv' := [(5, .int 10), (6, .int 0), (4, .int 0), (3, .int (-1)), (0, .ref drp), (1, .int x), (2, .int (-1))]) hx hb dX6_fitting_111 hl (k := 1) rfl (by decide) (by decide) rfl (fun ls hl => ?_)
  refine lv_goto (tgt := 8) hx hb dX6_fitting_114 (by decide) ?_
  refine lv_iload hx hb dX6_fitting_8 (lv_at hl 0 rfl) ?_
  refine lv_bipush (v := 24) hx hb dX6_fitting_10 (by decide) ?_
  refine lv_icmp_ge (tgt := 117) hx hb dX6_fitting_12 (by decide) (fun c_31 => absurd c_31 (by decide)) (fun c_31 => ?_)
  refine lv_aload_n hx hb dX6_fitting_15 rfl (lv_at hl 4 rfl) ?_
  refine va_get (D := D) (ci := 6) (v := .ref drp1) (C := RX6) (T := TX6) (N := 17) hx hb hu in_X6 hown hK.1 hP 0 rfl rfl 7 (by decide) (hu _ u_210) (fun _ h9 => h9) rfl dX6_fitting_16 ?_
  refine lv_iload hx hb dX6_fitting_19 (lv_at hl 0 rfl) ?_
  refine va_iald hx hb hK.1 hP 1 0 rfl rfl (vin_c _ _ rfl) dX6_fitting_21 ?_
  refine tpi (y := 0) (z_f_drp1 _ (cl_lt (vin_c _ _ rfl))) ?_
  refine lv_if_le (tgt := 49) hx hb dX6_fitting_22 (by decide) (fun c_32 => ?_) (fun c_32 => absurd (by decide) c_32)
  refine lv_iconst (v := 0) hx hb dX6_fitting_49 (by decide) ?_
  refine lv_istore (lv' := [(6, .int 0), (5, .int 10), (4, .int 0), (3, .int (-1)), (0, .ref drp), (1, .int x), (2, .int (-1))]) hx hb dX6_fitting_50 hl (by decide) rfl (fun ls hl => ?_)
  refine lv_iload hx hb dX6_fitting_52 (lv_at hl 0 rfl) ?_
  refine lv_if_eq (tgt := 111) hx hb dX6_fitting_54 (by decide) (fun c_33 => ?_) (fun c_33 => absurd (by decide) c_33)
  refine lv_iinc (v := 11) (lv' := [(5, .int 11), (6, .int 0), (4, .int 0), (3, .int (-1)), (0, .ref drp), (1, .int x), (2, .int (-1))]) hx hb dX6_fitting_111 hl (k := 1) rfl (by decide) (by decide) rfl (fun ls hl => ?_)
  refine lv_goto (tgt := 8) hx hb dX6_fitting_114 (by decide) ?_
  refine lv_iload hx hb dX6_fitting_8 (lv_at hl 0 rfl) ?_
  refine lv_bipush (v := 24) hx hb dX6_fitting_10 (by decide) ?_
  refine lv_icmp_ge (tgt := 117) hx hb dX6_fitting_12 (by decide) (fun c_34 => absurd c_34 (by decide)) (fun c_34 => ?_)
  refine lv_aload_n hx hb dX6_fitting_15 rfl (lv_at hl 4 rfl) ?_
  refine va_get (D := D) (ci := 6) (v := .ref drp1) (C := RX6) (T := TX6) (N := 17) hx hb hu in_X6 hown hK.1 hP 0 rfl rfl 7 (by decide) (hu _ u_210) (fun _ h9 => h9) rfl dX6_fitting_16 ?_
  refine lv_iload hx hb dX6_fitting_19 (lv_at hl 0 rfl) ?_
  refine va_iald hx hb hK.1 hP 1 0 rfl rfl (vin_c _ _ rfl) dX6_fitting_21 ?_
  refine tpi (y := 0) (z_f_drp1 _ (cl_lt (vin_c _ _ rfl))) ?_
  refine lv_if_le (tgt := 49) hx hb dX6_fitting_22 (by decide) (fun c_35 => ?_) (fun c_35 => absurd (by decide) c_35)
  refine lv_iconst (v := 0) hx hb dX6_fitting_49 (by decide) ?_
  refine lv_istore (lv' := [(6, .int 0), (5, .int 11), (4, .int 0), (3, .int (-1)), (0, .ref drp), (1, .int x), (2, .int (-1))]) hx hb dX6_fitting_50 hl (by decide) rfl (fun ls hl => ?_)
  refine lv_iload hx hb dX6_fitting_52 (lv_at hl 0 rfl) ?_
  refine lv_if_eq (tgt := 111) hx hb dX6_fitting_54 (by decide) (fun c_36 => ?_) (fun c_36 => absurd (by decide) c_36)
  refine lv_iinc (v := 12) (lv' := [(5, .int 12), (6, .int 0), (4, .int 0), (3, .int (-1)), (0, .ref drp), (1, .int x), (2, .int (-1))]) hx hb dX6_fitting_111 hl (k := 1) rfl (by decide) (by decide) rfl (fun ls hl => ?_)
  refine lv_goto (tgt := 8) hx hb dX6_fitting_114 (by decide) ?_
  refine lv_iload hx hb dX6_fitting_8 (lv_at hl 0 rfl) ?_
  refine lv_bipush (v := 24) hx hb dX6_fitting_10 (by decide) ?_
  refine lv_icmp_ge (tgt := 117) hx hb dX6_fitting_12 (by decide) (fun c_37 => absurd c_37 (by decide)) (fun c_37 => ?_)
  refine lv_aload_n hx hb dX6_fitting_15 rfl (lv_at hl 4 rfl) ?_
  refine va_get (D := D) (ci := 6) (v := .ref drp1) (C := RX6) (T := TX6) (N := 17) hx hb hu in_X6 hown hK.1 hP 0 rfl rfl 7 (by decide) (hu _ u_210) (fun _ h9 => h9) rfl dX6_fitting_16 ?_
  refine lv_iload hx hb dX6_fitting_19 (lv_at hl 0 rfl) ?_
  refine va_iald hx hb hK.1 hP 1 0 rfl rfl (vin_c _ _ rfl) dX6_fitting_21 ?_
  refine tpi (y := 0) (z_f_drp1 _ (cl_lt (vin_c _ _ rfl))) ?_
  refine lv_if_le (tgt := 49) hx hb dX6_fitting_22 (by decide) (fun c_38 => ?_) (fun c_38 => absurd (by decide) c_38)
  refine lv_iconst (v := 0) hx hb dX6_fitting_49 (by decide) ?_
  refine lv_istore (lv' := [(6, .int 0), (5, .int 12), (4, .int 0), (3, .int (-1)), (0, .ref drp), (1, .int x), (2, .int (-1))]) hx hb dX6_fitting_50 hl (by decide) rfl (fun ls hl => ?_)
  refine lv_iload hx hb dX6_fitting_52 (lv_at hl 0 rfl) ?_
  refine lv_if_eq (tgt := 111) hx hb dX6_fitting_54 (by decide) (fun c_39 => ?_) (fun c_39 => absurd (by decide) c_39)
  refine lv_iinc (v := 13) (lv' := [(5, .int 13), (6, .int 0), (4, .int 0), (3, .int (-1)), (0, .ref drp), (1, .int x), (2, .int (-1))]) hx hb dX6_fitting_111 hl (k := 1) rfl (by decide) (by decide) rfl (fun ls hl => ?_)
  refine lv_goto (tgt := 8) hx hb dX6_fitting_114 (by decide) ?_
  refine lv_iload hx hb dX6_fitting_8 (lv_at hl 0 rfl) ?_
  refine lv_bipush (v := 24) hx hb dX6_fitting_10 (by decide) ?_
  refine lv_icmp_ge (tgt := 117) hx hb dX6_fitting_12 (by decide) (fun c_40 => absurd c_40 (by decide)) (fun c_40 => ?_)
  refine lv_aload_n hx hb dX6_fitting_15 rfl (lv_at hl 4 rfl) ?_
  refine va_get (D := D) (ci := 6) (v := .ref drp1) (C := RX6) (T := TX6) (N := 17) hx hb hu in_X6 hown hK.1 hP 0 rfl rfl 7 (by decide) (hu _ u_210) (fun _ h9 => h9) rfl dX6_fitting_16 ?_
  refine lv_iload hx hb dX6_fitting_19 (lv_at hl 0 rfl) ?_
  refine va_iald hx hb hK.1 hP 1 0 rfl rfl (vin_c _ _ rfl) dX6_fitting_21 ?_
  refine tpi (y := 0) (z_f_drp1 _ (cl_lt (vin_c _ _ rfl))) ?_
  refine lv_if_le (tgt := 49) hx hb dX6_fitting_22 (by decide) (fun c_41 => ?_) (fun c_41 => absurd (by decide) c_41)
  refine lv_iconst (v := 0) hx hb dX6_fitting_49 (by decide) ?_
  refine lv_istore (lv' := [(6, .int 0), (5, .int 13), (4, .int 0), (3, .int (-1)), (0, .ref drp), (1, .int x), (2, .int (-1))]) hx hb dX6_fitting_50 hl (by decide) rfl (fun ls hl => ?_)
  refine lv_iload hx hb dX6_fitting_52 (lv_at hl 0 rfl) ?_
  refine lv_if_eq (tgt := 111) hx hb dX6_fitting_54 (by decide) (fun c_42 => ?_) (fun c_42 => absurd (by decide) c_42)
  refine lv_iinc (v := 14) (lv' := [(5, .int 14), (6, .int 0), (4, .int 0), (3, .int (-1)), (0, .ref drp), (1, .int x), (2, .int (-1))]) hx hb dX6_fitting_111 hl (k := 1) rfl (by decide) (by decide) rfl (fun ls hl => ?_)
  refine lv_goto (tgt := 8) hx hb dX6_fitting_114 (by decide) ?_
  refine lv_iload hx hb dX6_fitting_8 (lv_at hl 0 rfl) ?_
  refine lv_bipush (v := 24) hx hb dX6_fitting_10 (by decide) ?_
  refine lv_icmp_ge (tgt := 117) hx hb dX6_fitting_12 (by decide) (fun c_43 => absurd c_43 (by decide)) (fun c_43 => ?_)
  refine lv_aload_n hx hb dX6_fitting_15 rfl (lv_at hl 4 rfl) ?_
  refine va_get (D := D) (ci := 6) (v := .ref drp1) (C := RX6) (T := TX6) (N := 17) hx hb hu in_X6 hown hK.1 hP 0 rfl rfl 7 (by decide) (hu _ u_210) (fun _ h9 => h9) rfl dX6_fitting_16 ?_
  refine lv_iload hx hb dX6_fitting_19 (lv_at hl 0 rfl) ?_
  refine va_iald hx hb hK.1 hP 1 0 rfl rfl (vin_c _ _ rfl) dX6_fitting_21 ?_
  refine tpi (y := 0) (z_f_drp1 _ (cl_lt (vin_c _ _ rfl))) ?_
  refine lv_if_le (tgt := 49) hx hb dX6_fitting_22 (by decide) (fun c_44 => ?_) (fun c_44 => absurd (by decide) c_44)
  refine lv_iconst (v := 0) hx hb dX6_fitting_49 (by decide) ?_
  refine lv_istore (lv' := [(6, .int 0), (5, .int 14), (4, .int 0), (3, .int (-1)), (0, .ref drp), (1, .int x), (2, .int (-1))]) hx hb dX6_fitting_50 hl (by decide) rfl (fun ls hl => ?_)
  refine lv_iload hx hb dX6_fitting_52 (lv_at hl 0 rfl) ?_
  refine lv_if_eq (tgt := 111) hx hb dX6_fitting_54 (by decide) (fun c_45 => ?_) (fun c_45 => absurd (by decide) c_45)
  refine lv_iinc (v := 15) (lv' := [(5, .int 15), (6, .int 0), (4, .int 0), (3, .int (-1)), (0, .ref drp), (1, .int x), (2, .int (-1))]) hx hb dX6_fitting_111 hl (k := 1) rfl (by decide) (by decide) rfl (fun ls hl => ?_)
  refine lv_goto (tgt := 8) hx hb dX6_fitting_114 (by decide) ?_
  refine lv_iload hx hb dX6_fitting_8 (lv_at hl 0 rfl) ?_
  refine lv_bipush (v := 24) hx hb dX6_fitting_10 (by decide) ?_
  refine lv_icmp_ge (tgt := 117) hx hb dX6_fitting_12 (by decide) (fun c_46 => absurd c_46 (by decide)) (fun c_46 => ?_)
  refine lv_aload_n hx hb dX6_fitting_15 rfl (lv_at hl 4 rfl) ?_
  refine va_get (D := D) (ci := 6) (v := .ref drp1) (C := RX6) (T := TX6) (N := 17) hx hb hu in_X6 hown hK.1 hP 0 rfl rfl 7 (by decide) (hu _ u_210) (fun _ h9 => h9) rfl dX6_fitting_16 ?_
  refine lv_iload hx hb dX6_fitting_19 (lv_at hl 0 rfl) ?_
  refine va_iald hx hb hK.1 hP 1 0 rfl rfl (vin_c _ _ rfl) dX6_fitting_21 ?_
  refine tpi (y := 0) (z_f_drp1 _ (cl_lt (vin_c _ _ rfl))) ?_
  refine lv_if_le (tgt := 49) hx hb dX6_fitting_22 (by decide) (fun c_47 => ?_) (fun c_47 => absurd (by decide) c_47)
  refine lv_iconst (v := 0) hx hb dX6_fitting_49 (by decide) ?_
  refine lv_istore (lv' := [(6, .int 0), (5, .int 15), (4, .int 0), (3, .int (-1)), (0, .ref drp), (1, .int x), (2, .int (-1))]) hx hb dX6_fitting_50 hl (by decide) rfl (fun ls hl => ?_)
  refine lv_iload hx hb dX6_fitting_52 (lv_at hl 0 rfl) ?_
  refine lv_if_eq (tgt := 111) hx hb dX6_fitting_54 (by decide) (fun c_48 => ?_) (fun c_48 => absurd (by decide) c_48)
  refine lv_iinc (v := 16) (lv' := [(5, .int 16), (6, .int 0), (4, .int 0), (3, .int (-1)), (0, .ref drp), (1, .int x), (2, .int (-1))]) hx hb dX6_fitting_111 hl (k := 1) rfl (by decide) (by decide) rfl (fun ls hl => ?_)
  refine lv_goto (tgt := 8) hx hb dX6_fitting_114 (by decide) ?_
  refine lv_iload hx hb dX6_fitting_8 (lv_at hl 0 rfl) ?_
  refine lv_bipush (v := 24) hx hb dX6_fitting_10 (by decide) ?_
  refine lv_icmp_ge (tgt := 117) hx hb dX6_fitting_12 (by decide) (fun c_49 => absurd c_49 (by decide)) (fun c_49 => ?_)
  refine lv_aload_n hx hb dX6_fitting_15 rfl (lv_at hl 4 rfl) ?_
  refine va_get (D := D) (ci := 6) (v := .ref drp1) (C := RX6) (T := TX6) (N := 17) hx hb hu in_X6 hown hK.1 hP 0 rfl rfl 7 (by decide) (hu _ u_210) (fun _ h9 => h9) rfl dX6_fitting_16 ?_
  refine lv_iload hx hb dX6_fitting_19 (lv_at hl 0 rfl) ?_
  refine va_iald hx hb hK.1 hP 1 0 rfl rfl (vin_c _ _ rfl) dX6_fitting_21 ?_
  refine tpi (y := 0) (z_f_drp1 _ (cl_lt (vin_c _ _ rfl))) ?_
  refine lv_if_le (tgt := 49) hx hb dX6_fitting_22 (by decide) (fun c_50 => ?_) (fun c_50 => absurd (by decide) c_50)
  refine lv_iconst (v := 0) hx hb dX6_fitting_49 (by decide) ?_
  refine lv_istore (lv' := [(6, .int 0), (5, .int 16), (4, .int 0), (3, .int (-1)), (0, .ref drp), (1, .int x), (2, .int (-1))]) hx hb dX6_fitting_50 hl (by decide) rfl (fun ls hl => ?_)
  refine lv_iload hx hb dX6_fitting_52 (lv_at hl 0 rfl) ?_
  refine lv_if_eq (tgt := 111) hx hb dX6_fitting_54 (by decide) (fun c_51 => ?_) (fun c_51 => absurd (by decide) c_51)
  refine lv_iinc (v := 17) (lv' := [(5, .int 17), (6, .int 0), (4, .int 0), (3, .int (-1)), (0, .ref drp), (1, .int x), (2, .int (-1))]) hx hb dX6_fitting_111 hl (k := 1) rfl (by decide) (by decide) rfl (fun ls hl => ?_)
  refine lv_goto (tgt := 8) hx hb dX6_fitting_114 (by decide) ?_
  refine lv_iload hx hb dX6_fitting_8 (lv_at hl 0 rfl) ?_
  refine lv_bipush (v := 24) hx hb dX6_fitting_10 (by decide) ?_
  refine lv_icmp_ge (tgt := 117) hx hb dX6_fitting_12 (by decide) (fun c_52 => absurd c_52 (by decide)) (fun c_52 => ?_)
  refine lv_aload_n hx hb dX6_fitting_15 rfl (lv_at hl 4 rfl) ?_
  refine va_get (D := D) (ci := 6) (v := .ref drp1) (C := RX6) (T := TX6) (N := 17) hx hb hu in_X6 hown hK.1 hP 0 rfl rfl 7 (by decide) (hu _ u_210) (fun _ h9 => h9) rfl dX6_fitting_16 ?_
  refine lv_iload hx hb dX6_fitting_19 (lv_at hl 0 rfl) ?_
  refine va_iald hx hb hK.1 hP 1 0 rfl rfl (vin_c _ _ rfl) dX6_fitting_21 ?_
  refine tpi (y := 0) (z_f_drp1 _ (cl_lt (vin_c _ _ rfl))) ?_
  refine lv_if_le (tgt := 49) hx hb dX6_fitting_22 (by decide) (fun c_53 => ?_) (fun c_53 => absurd (by decide) c_53)
  refine lv_iconst (v := 0) hx hb dX6_fitting_49 (by decide) ?_
  refine lv_istore (lv' := [(6, .int 0), (5, .int 17), (4, .int 0), (3, .int (-1)), (0, .ref drp), (1, .int x), (2, .int (-1))]) hx hb dX6_fitting_50 hl (by decide) rfl (fun ls hl => ?_)
  refine lv_iload hx hb dX6_fitting_52 (lv_at hl 0 rfl) ?_
  refine lv_if_eq (tgt := 111) hx hb dX6_fitting_54 (by decide) (fun c_54 => ?_) (fun c_54 => absurd (by decide) c_54)
  refine lv_iinc (v := 18) (lv' := [(5, .int 18), (6, .int 0), (4, .int 0), (3, .int (-1)), (0, .ref drp), (1, .int x), (2, .int (-1))]) hx hb dX6_fitting_111 hl (k := 1) rfl (by decide) (by decide) rfl (fun ls hl => ?_)
  refine lv_goto (tgt := 8) hx hb dX6_fitting_114 (by decide) ?_
  refine lv_iload hx hb dX6_fitting_8 (lv_at hl 0 rfl) ?_
  refine lv_bipush (v := 24) hx hb dX6_fitting_10 (by decide) ?_
  refine lv_icmp_ge (tgt := 117) hx hb dX6_fitting_12 (by decide) (fun c_55 => absurd c_55 (by decide)) (fun c_55 => ?_)
  refine lv_aload_n hx hb dX6_fitting_15 rfl (lv_at hl 4 rfl) ?_
  refine va_get (D := D) (ci := 6) (v := .ref drp1) (C := RX6) (T := TX6) (N := 17) hx hb hu in_X6 hown hK.1 hP 0 rfl rfl 7 (by decide) (hu _ u_210) (fun _ h9 => h9) rfl dX6_fitting_16 ?_
  refine lv_iload hx hb dX6_fitting_19 (lv_at hl 0 rfl) ?_
  refine va_iald hx hb hK.1 hP 1 0 rfl rfl (vin_c _ _ rfl) dX6_fitting_21 ?_
  refine tpi (y := 0) (z_f_drp1 _ (cl_lt (vin_c _ _ rfl))) ?_
  refine lv_if_le (tgt := 49) hx hb dX6_fitting_22 (by decide) (fun c_56 => ?_) (fun c_56 => absurd (by decide) c_56)
  refine lv_iconst (v := 0) hx hb dX6_fitting_49 (by decide) ?_
  refine lv_istore (lv' := [(6, .int 0), (5, .int 18), (4, .int 0), (3, .int (-1)), (0, .ref drp), (1, .int x), (2, .int (-1))]) hx hb dX6_fitting_50 hl (by decide) rfl (fun ls hl => ?_)
  refine lv_iload hx hb dX6_fitting_52 (lv_at hl 0 rfl) ?_
  refine lv_if_eq (tgt := 111) hx hb dX6_fitting_54 (by decide) (fun c_57 => ?_) (fun c_57 => absurd (by decide) c_57)
  refine lv_iinc (v := 19) (lv' := [(5, .int 19), (6, .int 0), (4, .int 0), (3, .int (-1)), (0, .ref drp), (1, .int x), (2, .int (-1))]) hx hb dX6_fitting_111 hl (k := 1) rfl (by decide) (by decide) rfl (fun ls hl => ?_)
  refine lv_goto (tgt := 8) hx hb dX6_fitting_114 (by decide) ?_
  refine lv_iload hx hb dX6_fitting_8 (lv_at hl 0 rfl) ?_
  refine lv_bipush (v := 24) hx hb dX6_fitting_10 (by decide) ?_
  refine lv_icmp_ge (tgt := 117) hx hb dX6_fitting_12 (by decide) (fun c_58 => absurd c_58 (by decide)) (fun c_58 => ?_)
  refine lv_aload_n hx hb dX6_fitting_15 rfl (lv_at hl 4 rfl) ?_
  refine va_get (D := D) (ci := 6) (v := .ref drp1) (C := RX6) (T := TX6) (N := 17) hx hb hu in_X6 hown hK.1 hP 0 rfl rfl 7 (by decide) (hu _ u_210) (fun _ h9 => h9) rfl dX6_fitting_16 ?_
  refine lv_iload hx hb dX6_fitting_19 (lv_at hl 0 rfl) ?_
  refine va_iald hx hb hK.1 hP 1 0 rfl rfl (vin_c _ _ rfl) dX6_fitting_21 ?_
  refine tpi (y := 0) (z_f_drp1 _ (cl_lt (vin_c _ _ rfl))) ?_
  refine lv_if_le (tgt := 49) hx hb dX6_fitting_22 (by decide) (fun c_59 => ?_) (fun c_59 => absurd (by decide) c_59)
  refine lv_iconst (v := 0) hx hb dX6_fitting_49 (by decide) ?_
  refine lv_istore (lv' := [(6, .int 0), (5, .int 19), (4, .int 0), (3, .int (-1)), (0, .ref drp), (1, .int x), (2, .int (-1))]) hx hb dX6_fitting_50 hl (by decide) rfl (fun ls hl => ?_)
  refine lv_iload hx hb dX6_fitting_52 (lv_at hl 0 rfl) ?_
  refine lv_if_eq (tgt := 111) hx hb dX6_fitting_54 (by decide) (fun c_60 => ?_) (fun c_60 => absurd (by decide) c_60)
  refine lv_iinc (v := 20) (lv' := [(5, .int 20), (6, .int 0), (4, .int 0), (3, .int (-1)), (0, .ref drp), (1, .int x), (2, .int (-1))]) hx hb dX6_fitting_111 hl (k := 1) rfl (by decide) (by decide) rfl (fun ls hl => ?_)
  refine lv_goto (tgt := 8) hx hb dX6_fitting_114 (by decide) ?_
  refine lv_iload hx hb dX6_fitting_8 (lv_at hl 0 rfl) ?_
  refine lv_bipush (v := 24) hx hb dX6_fitting_10 (by decide) ?_
  refine lv_icmp_ge (tgt := 117) hx hb dX6_fitting_12 (by decide) (fun c_61 => absurd c_61 (by decide)) (fun c_61 => ?_)
  refine lv_aload_n hx hb dX6_fitting_15 rfl (lv_at hl 4 rfl) ?_
  refine va_get (D := D) (ci := 6) (v := .ref drp1) (C := RX6) (T := TX6) (N := 17) hx hb hu in_X6 hown hK.1 hP 0 rfl rfl 7 (by decide) (hu _ u_210) (fun _ h9 => h9) rfl dX6_fitting_16 ?_
  refine lv_iload hx hb dX6_fitting_19 (lv_at hl 0 rfl) ?_
  refine va_iald hx hb hK.1 hP 1 0 rfl rfl (vin_c _ _ rfl) dX6_fitting_21 ?_
  refine tpi (y := 0) (z_f_drp1 _ (cl_lt (vin_c _ _ rfl))) ?_
  refine lv_if_le (tgt := 49) hx hb dX6_fitting_22 (by decide) (fun c_62 => ?_) (fun c_62 => absurd (by decide) c_62)
  refine lv_iconst (v := 0) hx hb dX6_fitting_49 (by decide) ?_
  refine lv_istore (lv' := [(6, .int 0), (5, .int 20), (4, .int 0), (3, .int (-1)), (0, .ref drp), (1, .int x), (2, .int (-1))]) hx hb dX6_fitting_50 hl (by decide) rfl (fun ls hl => ?_)
  refine lv_iload hx hb dX6_fitting_52 (lv_at hl 0 rfl) ?_
  refine lv_if_eq (tgt := 111) hx hb dX6_fitting_54 (by decide) (fun c_63 => ?_) (fun c_63 => absurd (by decide) c_63)
  refine lv_iinc (v := 21) (lv' := [(5, .int 21), (6, .int 0), (4, .int 0), (3, .int (-1)), (0, .ref drp), (1, .int x), (2, .int (-1))]) hx hb dX6_fitting_111 hl (k := 1) rfl (by decide) (by decide) rfl (fun ls hl => ?_)
  refine lv_goto (tgt := 8) hx hb dX6_fitting_114 (by decide) ?_
  refine lv_iload hx hb dX6_fitting_8 (lv_at hl 0 rfl) ?_
  refine lv_bipush (v := 24) hx hb dX6_fitting_10 (by decide) ?_
  refine lv_icmp_ge (tgt := 117) hx hb dX6_fitting_12 (by decide) (fun c_64 => absurd c_64 (by decide)) (fun c_64 => ?_)
  refine lv_aload_n hx hb dX6_fitting_15 rfl (lv_at hl 4 rfl) ?_
  refine va_get (D := D) (ci := 6) (v := .ref drp1) (C := RX6) (T := TX6) (N := 17) hx hb hu in_X6 hown hK.1 hP 0 rfl rfl 7 (by decide) (hu _ u_210) (fun _ h9 => h9) rfl dX6_fitting_16 ?_
  refine lv_iload hx hb dX6_fitting_19 (lv_at hl 0 rfl) ?_
  refine va_iald hx hb hK.1 hP 1 0 rfl rfl (vin_c _ _ rfl) dX6_fitting_21 ?_
  refine tpi (y := 0) (z_f_drp1 _ (cl_lt (vin_c _ _ rfl))) ?_
  refine lv_if_le (tgt := 49) hx hb dX6_fitting_22 (by decide) (fun c_65 => ?_) (fun c_65 => absurd (by decide) c_65)
  refine lv_iconst (v := 0) hx hb dX6_fitting_49 (by decide) ?_
  refine lv_istore (lv' := [(6, .int 0), (5, .int 21), (4, .int 0), (3, .int (-1)), (0, .ref drp), (1, .int x), (2, .int (-1))]) hx hb dX6_fitting_50 hl (by decide) rfl (fun ls hl => ?_)
  refine lv_iload hx hb dX6_fitting_52 (lv_at hl 0 rfl) ?_
  refine lv_if_eq (tgt := 111) hx hb dX6_fitting_54 (by decide) (fun c_66 => ?_) (fun c_66 => absurd (by decide) c_66)
  refine lv_iinc (v := 22) (lv' := [(5, .int 22), (6, .int 0), (4, .int 0), (3, .int (-1)), (0, .ref drp), (1, .int x), (2, .int (-1))]) hx hb dX6_fitting_111 hl (k := 1) rfl (by decide) (by decide) rfl (fun ls hl => ?_)
  refine lv_goto (tgt := 8) hx hb dX6_fitting_114 (by decide) ?_
  refine lv_iload hx hb dX6_fitting_8 (lv_at hl 0 rfl) ?_
  refine lv_bipush (v := 24) hx hb dX6_fitting_10 (by decide) ?_
  refine lv_icmp_ge (tgt := 117) hx hb dX6_fitting_12 (by decide) (fun c_67 => absurd c_67 (by decide)) (fun c_67 => ?_)
  refine lv_aload_n hx hb dX6_fitting_15 rfl (lv_at hl 4 rfl) ?_
  refine va_get (D := D) (ci := 6) (v := .ref drp1) (C := RX6) (T := TX6) (N := 17) hx hb hu in_X6 hown hK.1 hP 0 rfl rfl 7 (by decide) (hu _ u_210) (fun _ h9 => h9) rfl dX6_fitting_16 ?_
  refine lv_iload hx hb dX6_fitting_19 (lv_at hl 0 rfl) ?_
  refine va_iald hx hb hK.1 hP 1 0 rfl rfl (vin_c _ _ rfl) dX6_fitting_21 ?_
  refine tpi (y := 0) (z_f_drp1 _ (cl_lt (vin_c _ _ rfl))) ?_
  refine lv_if_le (tgt := 49) hx hb dX6_fitting_22 (by decide) (fun c_68 => ?_) (fun c_68 => absurd (by decide) c_68)
  refine lv_iconst (v := 0) hx hb dX6_fitting_49 (by decide) ?_
  refine lv_istore (lv' := [(6, .int 0), (5, .int 22), (4, .int 0), (3, .int (-1)), (0, .ref drp), (1, .int x), (2, .int (-1))]) hx hb dX6_fitting_50 hl (by decide) rfl (fun ls hl => ?_)
  refine lv_iload hx hb dX6_fitting_52 (lv_at hl 0 rfl) ?_
  refine lv_if_eq (tgt := 111) hx hb dX6_fitting_54 (by decide) (fun c_69 => ?_) (fun c_69 => absurd (by decide) c_69)
  refine lv_iinc (v := 23) (lv' := [(5, .int 23), (6, .int 0), (4, .int 0), (3, .int (-1)), (0, .ref drp), (1, .int x), (2, .int (-1))]) hx hb dX6_fitting_111 hl (k := 1) rfl (by decide) (by decide) rfl (fun ls hl => ?_)
  refine lv_goto (tgt := 8) hx hb dX6_fitting_114 (by decide) ?_
  refine lv_iload hx hb dX6_fitting_8 (lv_at hl 0 rfl) ?_
  refine lv_bipush (v := 24) hx hb dX6_fitting_10 (by decide) ?_
  refine lv_icmp_ge (tgt := 117) hx hb dX6_fitting_12 (by decide) (fun c_70 => absurd c_70 (by decide)) (fun c_70 => ?_)
  refine lv_aload_n hx hb dX6_fitting_15 rfl (lv_at hl 4 rfl) ?_
  refine va_get (D := D) (ci := 6) (v := .ref drp1) (C := RX6) (T := TX6) (N := 17) hx hb hu in_X6 hown hK.1 hP 0 rfl rfl 7 (by decide) (hu _ u_210) (fun _ h9 => h9) rfl dX6_fitting_16 ?_
  refine lv_iload hx hb dX6_fitting_19 (lv_at hl 0 rfl) ?_
  refine va_iald hx hb hK.1 hP 1 0 rfl rfl (vin_c _ _ rfl) dX6_fitting_21 ?_
  refine tpi (y := 0) (z_f_drp1 _ (cl_lt (vin_c _ _ rfl))) ?_
  refine lv_if_le (tgt := 49) hx hb dX6_fitting_22 (by decide) (fun c_71 => ?_) (fun c_71 => absurd (by decide) c_71)
  refine lv_iconst (v := 0) hx hb dX6_fitting_49 (by decide) ?_
  refine lv_istore (lv' := [(6, .int 0), (5, .int 23), (4, .int 0), (3, .int (-1)), (0, .ref drp), (1, .int x), (2, .int (-1))]) hx hb dX6_fitting_50 hl (by decide) rfl (fun ls hl => ?_)
  refine lv_iload hx hb dX6_fitting_52 (lv_at hl 0 rfl) ?_
  refine lv_if_eq (tgt := 111) hx hb dX6_fitting_54 (by decide) (fun c_72 => ?_) (fun c_72 => absurd (by decide) c_72)
  refine lv_iinc (v := 24) (lv' := [(5, .int 24), (6, .int 0), (4, .int 0), (3, .int (-1)), (0, .ref drp), (1, .int x), (2, .int (-1))]) hx hb dX6_fitting_111 hl (k := 1) rfl (by decide) (by decide) rfl (fun ls hl => ?_)
  refine lv_goto (tgt := 8) hx hb dX6_fitting_114 (by decide) ?_
  refine lv_iload hx hb dX6_fitting_8 (lv_at hl 0 rfl) ?_
  refine lv_bipush (v := 24) hx hb dX6_fitting_10 (by decide) ?_
  refine lv_icmp_ge (tgt := 117) hx hb dX6_fitting_12 (by decide) (fun c_73 => ?_) (fun c_73 => absurd (by decide) c_73)
  refine lv_iload_n hx hb dX6_fitting_117 rfl (lv_at hl 3 rfl) ?_
  exact hz () hP hD hS rfl [0, 1] rfl rfl (Nat.le_of_ble_eq_true rfl) (Nat.le_of_ble_eq_true rfl) .int rfl rfl dX6_fitting_118
abbrev rm_c_X6_leastWornFree : Room := { frames := 0, cells := 0, slots := 0, locals := 0 }
set_option maxHeartbeats 4000000 in
set_option maxRecDepth 100000 in
theorem c_X6_leastWornFree (l : Launch) (D : va_G) (cs : Nat → ClassId) (sz : Nat) (drp : Nat) (drp1 : Nat) (f_drp1 : Nat → Int32) (drp2 : Nat) (f_drp2 : Nat → Int32) (drp3 : Nat) (drp4 : Nat) (drp5 : Nat) (drp6 : Nat) (drp7 : Nat) (drp8 : Nat) (drp9 : Nat) (drp10 : Nat) (z_f_drp1 : ∀ j, j < 24 → f_drp1 j = 0) (z_f_drp2 : ∀ j, j < 24 → f_drp2 j = 0) : cMi l yX6_leastWornFree (Cond.code yX6_leastWornFree cX6_leastWornFree 4 (some .int)) (rm_c_X6_leastWornFree) D cs [.ref drp] sz [(drp, .inr (6, [.int 0, .int 0, .int (-1), .int 0, .int 0, .int 0, .int 240, .ref drp1, .ref drp2, .ref drp3, .ref drp4, .ref drp5, .ref drp6, .ref drp7, .ref drp8, .ref drp9, .ref drp10])), (drp1, aI cs 24 f_drp1), (drp2, aI cs 24 f_drp2)] (fun (r : Int32) (u : Unit) => (r = 0)) (fun (u : Unit) => [(drp, .inr (6, [.int 0, .int 0, .int (-1), .int 0, .int 0, .int 0, .int 240, .ref drp1, .ref drp2, .ref drp3, .ref drp4, .ref drp5, .ref drp6, .ref drp7, .ref drp8, .ref drp9, .ref drp10])), (drp1, aI cs 24 f_drp1), (drp2, aI cs 24 f_drp2)]) := by
  refine kMet_i RX6 (by decide) rfl (Nat.le_of_ble_eq_true rfl) ?_
  intro p e s m below meth c ls A Qz H locs hx hb hml hown hin hu hK hsz hA hP hD hS hl hz
  subst hsz
  have hl : lv_has ls 4 [(0, .ref drp)] := hl
  refine lv_iconst (v := (-1)) hx hb dX6_leastWornFree_0 (by decide) ?_
  refine lv_istore_n (lv' := [(1, .int (-1)), (0, .ref drp)]) hx hb dX6_leastWornFree_1 rfl hl (by decide) rfl (fun ls hl => ?_)
  refine lv_iconst (v := 0) hx hb dX6_leastWornFree_2 (by decide) ?_
  refine lv_istore_n (lv' := [(2, .int 0), (1, .int (-1)), (0, .ref drp)]) hx hb dX6_leastWornFree_3 rfl hl (by decide) rfl (fun ls hl => ?_)
  refine lv_iconst (v := 0) hx hb dX6_leastWornFree_4 (by decide) ?_
  refine lv_istore_n (lv' := [(3, .int 0), (2, .int 0), (1, .int (-1)), (0, .ref drp)]) hx hb dX6_leastWornFree_5 rfl hl (by decide) rfl (fun ls hl => ?_)
  refine lv_iload_n hx hb dX6_leastWornFree_6 rfl (lv_at hl 0 rfl) ?_
  refine lv_bipush (v := 24) hx hb dX6_leastWornFree_7 (by decide) ?_
  refine lv_icmp_ge (tgt := 51) hx hb dX6_leastWornFree_9 (by decide) (fun c_1 => absurd c_1 (by decide)) (fun c_1 => ?_)
  refine lv_aload_n hx hb dX6_leastWornFree_12 rfl (lv_at hl 3 rfl) ?_
  refine va_get (D := D) (ci := 6) (v := .ref drp1) (C := RX6) (T := TX6) (N := 17) hx hb hu in_X6 hown hK.1 hP 0 rfl rfl 7 (by decide) (hu _ u_210) (fun _ h9 => h9) rfl dX6_leastWornFree_13 ?_
  refine lv_iload_n hx hb dX6_leastWornFree_16 rfl (lv_at hl 0 rfl) ?_
  refine va_iald hx hb hK.1 hP 1 0 rfl rfl (vin_c _ _ rfl) dX6_leastWornFree_17 ?_
  refine tpi (y := 0) (z_f_drp1 _ (cl_lt (vin_c _ _ rfl))) ?_
  refine lv_if_ne (tgt := 45) hx hb dX6_leastWornFree_18 (by decide) (fun c_2 => absurd (by decide) c_2) (fun c_2 => ?_)
  refine lv_iload_n hx hb dX6_leastWornFree_21 rfl (lv_at hl 2 rfl) ?_
  refine lv_iconst (v := (-1)) hx hb dX6_leastWornFree_22 (by decide) ?_
  refine lv_icmp_eq (tgt := 36) hx hb dX6_leastWornFree_23 (by decide) (fun c_3 => ?_) (fun c_3 => absurd (by decide) c_3)
  refine lv_iload_n hx hb dX6_leastWornFree_36 rfl (lv_at hl 0 rfl) ?_
  refine lv_istore_n (lv' := [(1, .int 0), (3, .int 0), (2, .int 0), (0, .ref drp)]) hx hb dX6_leastWornFree_37 rfl hl (by decide) rfl (fun ls hl => ?_)
  refine lv_aload_n hx hb dX6_leastWornFree_38 rfl (lv_at hl 3 rfl) ?_
  refine va_get (D := D) (ci := 6) (v := .ref drp2) (C := RX6) (T := TX6) (N := 17) hx hb hu in_X6 hown hK.1 hP 0 rfl rfl 8 (by decide) (hu _ u_211) (fun _ h9 => h9) rfl dX6_leastWornFree_39 ?_
  refine lv_iload_n hx hb dX6_leastWornFree_42 rfl (lv_at hl 1 rfl) ?_
  refine va_iald hx hb hK.1 hP 2 0 rfl rfl (vin_c _ _ rfl) dX6_leastWornFree_43 ?_
  refine tpi (y := 0) (z_f_drp2 _ (cl_lt (vin_c _ _ rfl))) ?_
  refine lv_istore_n (lv' := [(2, .int 0), (1, .int 0), (3, .int 0), (0, .ref drp)]) hx hb dX6_leastWornFree_44 rfl hl (by decide) rfl (fun ls hl => ?_)
  refine lv_iinc (v := 1) (lv' := [(3, .int 1), (2, .int 0), (1, .int 0), (0, .ref drp)]) hx hb dX6_leastWornFree_45 hl (k := 2) rfl (by decide) (by decide) rfl (fun ls hl => ?_)
  refine lv_goto (tgt := 6) hx hb dX6_leastWornFree_48 (by decide) ?_
  refine lv_iload_n hx hb dX6_leastWornFree_6 rfl (lv_at hl 0 rfl) ?_
  refine lv_bipush (v := 24) hx hb dX6_leastWornFree_7 (by decide) ?_
  refine lv_icmp_ge (tgt := 51) hx hb dX6_leastWornFree_9 (by decide) (fun c_4 => absurd c_4 (by decide)) (fun c_4 => ?_)
  refine lv_aload_n hx hb dX6_leastWornFree_12 rfl (lv_at hl 3 rfl) ?_
  refine va_get (D := D) (ci := 6) (v := .ref drp1) (C := RX6) (T := TX6) (N := 17) hx hb hu in_X6 hown hK.1 hP 0 rfl rfl 7 (by decide) (hu _ u_210) (fun _ h9 => h9) rfl dX6_leastWornFree_13 ?_
  refine lv_iload_n hx hb dX6_leastWornFree_16 rfl (lv_at hl 0 rfl) ?_
  refine va_iald hx hb hK.1 hP 1 0 rfl rfl (vin_c _ _ rfl) dX6_leastWornFree_17 ?_
  refine tpi (y := 0) (z_f_drp1 _ (cl_lt (vin_c _ _ rfl))) ?_
  refine lv_if_ne (tgt := 45) hx hb dX6_leastWornFree_18 (by decide) (fun c_5 => absurd (by decide) c_5) (fun c_5 => ?_)
  refine lv_iload_n hx hb dX6_leastWornFree_21 rfl (lv_at hl 2 rfl) ?_
  refine lv_iconst (v := (-1)) hx hb dX6_leastWornFree_22 (by decide) ?_
  refine lv_icmp_eq (tgt := 36) hx hb dX6_leastWornFree_23 (by decide) (fun c_6 => absurd c_6 (by decide)) (fun c_6 => ?_)
  refine lv_aload_n hx hb dX6_leastWornFree_26 rfl (lv_at hl 3 rfl) ?_
  refine va_get (D := D) (ci := 6) (v := .ref drp2) (C := RX6) (T := TX6) (N := 17) hx hb hu in_X6 hown hK.1 hP 0 rfl rfl 8 (by decide) (hu _ u_211) (fun _ h9 => h9) rfl dX6_leastWornFree_27 ?_
  refine lv_iload_n hx hb dX6_leastWornFree_30 rfl (lv_at hl 0 rfl) ?_
  refine va_iald hx hb hK.1 hP 2 0 rfl rfl (vin_c _ _ rfl) dX6_leastWornFree_31 ?_
  refine tpi (y := 0) (z_f_drp2 _ (cl_lt (vin_c _ _ rfl))) ?_
  refine lv_iload_n hx hb dX6_leastWornFree_32 rfl (lv_at hl 1 rfl) ?_
  refine lv_icmp_ge (tgt := 45) hx hb dX6_leastWornFree_33 (by decide) (fun c_7 => ?_) (fun c_7 => absurd (by decide) c_7)
  refine lv_iinc (v := 2) (lv' := [(3, .int 2), (2, .int 0), (1, .int 0), (0, .ref drp)]) hx hb dX6_leastWornFree_45 hl (k := 0) rfl (by decide) (by decide) rfl (fun ls hl => ?_)
  refine lv_goto (tgt := 6) hx hb dX6_leastWornFree_48 (by decide) ?_
  refine lv_iload_n hx hb dX6_leastWornFree_6 rfl (lv_at hl 0 rfl) ?_
  refine lv_bipush (v := 24) hx hb dX6_leastWornFree_7 (by decide) ?_
  refine lv_icmp_ge (tgt := 51) hx hb dX6_leastWornFree_9 (by decide) (fun c_8 => absurd c_8 (by decide)) (fun c_8 => ?_)
  refine lv_aload_n hx hb dX6_leastWornFree_12 rfl (lv_at hl 3 rfl) ?_
  refine va_get (D := D) (ci := 6) (v := .ref drp1) (C := RX6) (T := TX6) (N := 17) hx hb hu in_X6 hown hK.1 hP 0 rfl rfl 7 (by decide) (hu _ u_210) (fun _ h9 => h9) rfl dX6_leastWornFree_13 ?_
  refine lv_iload_n hx hb dX6_leastWornFree_16 rfl (lv_at hl 0 rfl) ?_
  refine va_iald hx hb hK.1 hP 1 0 rfl rfl (vin_c _ _ rfl) dX6_leastWornFree_17 ?_
  refine tpi (y := 0) (z_f_drp1 _ (cl_lt (vin_c _ _ rfl))) ?_
  refine lv_if_ne (tgt := 45) hx hb dX6_leastWornFree_18 (by decide) (fun c_9 => absurd (by decide) c_9) (fun c_9 => ?_)
  refine lv_iload_n hx hb dX6_leastWornFree_21 rfl (lv_at hl 2 rfl) ?_
  refine lv_iconst (v := (-1)) hx hb dX6_leastWornFree_22 (by decide) ?_
  refine lv_icmp_eq (tgt := 36) hx hb dX6_leastWornFree_23 (by decide) (fun c_10 => absurd c_10 (by decide)) (fun c_10 => ?_)
  refine lv_aload_n hx hb dX6_leastWornFree_26 rfl (lv_at hl 3 rfl) ?_
  refine va_get (D := D) (ci := 6) (v := .ref drp2) (C := RX6) (T := TX6) (N := 17) hx hb hu in_X6 hown hK.1 hP 0 rfl rfl 8 (by decide) (hu _ u_211) (fun _ h9 => h9) rfl dX6_leastWornFree_27 ?_
  refine lv_iload_n hx hb dX6_leastWornFree_30 rfl (lv_at hl 0 rfl) ?_
  refine va_iald hx hb hK.1 hP 2 0 rfl rfl (vin_c _ _ rfl) dX6_leastWornFree_31 ?_
  refine tpi (y := 0) (z_f_drp2 _ (cl_lt (vin_c _ _ rfl))) ?_
  refine lv_iload_n hx hb dX6_leastWornFree_32 rfl (lv_at hl 1 rfl) ?_
  refine lv_icmp_ge (tgt := 45) hx hb dX6_leastWornFree_33 (by decide) (fun c_11 => ?_) (fun c_11 => absurd (by decide) c_11)
  refine lv_iinc (v := 3) (lv' := [(3, .int 3), (2, .int 0), (1, .int 0), (0, .ref drp)]) hx hb dX6_leastWornFree_45 hl (k := 0) rfl (by decide) (by decide) rfl (fun ls hl => ?_)
  refine lv_goto (tgt := 6) hx hb dX6_leastWornFree_48 (by decide) ?_
  refine lv_iload_n hx hb dX6_leastWornFree_6 rfl (lv_at hl 0 rfl) ?_
  refine lv_bipush (v := 24) hx hb dX6_leastWornFree_7 (by decide) ?_
  refine lv_icmp_ge (tgt := 51) hx hb dX6_leastWornFree_9 (by decide) (fun c_12 => absurd c_12 (by decide)) (fun c_12 => ?_)
  refine lv_aload_n hx hb dX6_leastWornFree_12 rfl (lv_at hl 3 rfl) ?_
  refine va_get (D := D) (ci := 6) (v := .ref drp1) (C := RX6) (T := TX6) (N := 17) hx hb hu in_X6 hown hK.1 hP 0 rfl rfl 7 (by decide) (hu _ u_210) (fun _ h9 => h9) rfl dX6_leastWornFree_13 ?_
  refine lv_iload_n hx hb dX6_leastWornFree_16 rfl (lv_at hl 0 rfl) ?_
  refine va_iald hx hb hK.1 hP 1 0 rfl rfl (vin_c _ _ rfl) dX6_leastWornFree_17 ?_
  refine tpi (y := 0) (z_f_drp1 _ (cl_lt (vin_c _ _ rfl))) ?_
  refine lv_if_ne (tgt := 45) hx hb dX6_leastWornFree_18 (by decide) (fun c_13 => absurd (by decide) c_13) (fun c_13 => ?_)
  refine lv_iload_n hx hb dX6_leastWornFree_21 rfl (lv_at hl 2 rfl) ?_
  refine lv_iconst (v := (-1)) hx hb dX6_leastWornFree_22 (by decide) ?_
  refine lv_icmp_eq (tgt := 36) hx hb dX6_leastWornFree_23 (by decide) (fun c_14 => absurd c_14 (by decide)) (fun c_14 => ?_)
  refine lv_aload_n hx hb dX6_leastWornFree_26 rfl (lv_at hl 3 rfl) ?_
  refine va_get (D := D) (ci := 6) (v := .ref drp2) (C := RX6) (T := TX6) (N := 17) hx hb hu in_X6 hown hK.1 hP 0 rfl rfl 8 (by decide) (hu _ u_211) (fun _ h9 => h9) rfl dX6_leastWornFree_27 ?_
  refine lv_iload_n hx hb dX6_leastWornFree_30 rfl (lv_at hl 0 rfl) ?_
  refine va_iald hx hb hK.1 hP 2 0 rfl rfl (vin_c _ _ rfl) dX6_leastWornFree_31 ?_
  refine tpi (y := 0) (z_f_drp2 _ (cl_lt (vin_c _ _ rfl))) ?_
  refine lv_iload_n hx hb dX6_leastWornFree_32 rfl (lv_at hl 1 rfl) ?_
  refine lv_icmp_ge (tgt := 45) hx hb dX6_leastWornFree_33 (by decide) (fun c_15 => ?_) (fun c_15 => absurd (by decide) c_15)
  refine lv_iinc (v := 4) (lv' := [(3, .int 4), (2, .int 0), (1, .int 0), (0, .ref drp)]) hx hb dX6_leastWornFree_45 hl (k := 0) rfl (by decide) (by decide) rfl (fun ls hl => ?_)
  refine lv_goto (tgt := 6) hx hb dX6_leastWornFree_48 (by decide) ?_
  refine lv_iload_n hx hb dX6_leastWornFree_6 rfl (lv_at hl 0 rfl) ?_
  refine lv_bipush (v := 24) hx hb dX6_leastWornFree_7 (by decide) ?_
  refine lv_icmp_ge (tgt := 51) hx hb dX6_leastWornFree_9 (by decide) (fun c_16 => absurd c_16 (by decide)) (fun c_16 => ?_)
  refine lv_aload_n hx hb dX6_leastWornFree_12 rfl (lv_at hl 3 rfl) ?_
  refine va_get (D := D) (ci := 6) (v := .ref drp1) (C := RX6) (T := TX6) (N := 17) hx hb hu in_X6 hown hK.1 hP 0 rfl rfl 7 (by decide) (hu _ u_210) (fun _ h9 => h9) rfl dX6_leastWornFree_13 ?_
  refine lv_iload_n hx hb dX6_leastWornFree_16 rfl (lv_at hl 0 rfl) ?_
  refine va_iald hx hb hK.1 hP 1 0 rfl rfl (vin_c _ _ rfl) dX6_leastWornFree_17 ?_
  refine tpi (y := 0) (z_f_drp1 _ (cl_lt (vin_c _ _ rfl))) ?_
  refine lv_if_ne (tgt := 45) hx hb dX6_leastWornFree_18 (by decide) (fun c_17 => absurd (by decide) c_17) (fun c_17 => ?_)
  refine lv_iload_n hx hb dX6_leastWornFree_21 rfl (lv_at hl 2 rfl) ?_
  refine lv_iconst (v := (-1)) hx hb dX6_leastWornFree_22 (by decide) ?_
  refine lv_icmp_eq (tgt := 36) hx hb dX6_leastWornFree_23 (by decide) (fun c_18 => absurd c_18 (by decide)) (fun c_18 => ?_)
  refine lv_aload_n hx hb dX6_leastWornFree_26 rfl (lv_at hl 3 rfl) ?_
  refine va_get (D := D) (ci := 6) (v := .ref drp2) (C := RX6) (T := TX6) (N := 17) hx hb hu in_X6 hown hK.1 hP 0 rfl rfl 8 (by decide) (hu _ u_211) (fun _ h9 => h9) rfl dX6_leastWornFree_27 ?_
  refine lv_iload_n hx hb dX6_leastWornFree_30 rfl (lv_at hl 0 rfl) ?_
  refine va_iald hx hb hK.1 hP 2 0 rfl rfl (vin_c _ _ rfl) dX6_leastWornFree_31 ?_
  refine tpi (y := 0) (z_f_drp2 _ (cl_lt (vin_c _ _ rfl))) ?_
  refine lv_iload_n hx hb dX6_leastWornFree_32 rfl (lv_at hl 1 rfl) ?_
  refine lv_icmp_ge (tgt := 45) hx hb dX6_leastWornFree_33 (by decide) (fun c_19 => ?_) (fun c_19 => absurd (by decide) c_19)
  refine lv_iinc (v := 5) (lv' := [(3, .int 5), (2, .int 0), (1, .int 0), (0, .ref drp)]) hx hb dX6_leastWornFree_45 hl (k := 0) rfl (by decide) (by decide) rfl (fun ls hl => ?_)
  refine lv_goto (tgt := 6) hx hb dX6_leastWornFree_48 (by decide) ?_
  refine lv_iload_n hx hb dX6_leastWornFree_6 rfl (lv_at hl 0 rfl) ?_
  refine lv_bipush (v := 24) hx hb dX6_leastWornFree_7 (by decide) ?_
  refine lv_icmp_ge (tgt := 51) hx hb dX6_leastWornFree_9 (by decide) (fun c_20 => absurd c_20 (by decide)) (fun c_20 => ?_)
  refine lv_aload_n hx hb dX6_leastWornFree_12 rfl (lv_at hl 3 rfl) ?_
  refine va_get (D := D) (ci := 6) (v := .ref drp1) (C := RX6) (T := TX6) (N := 17) hx hb hu in_X6 hown hK.1 hP 0 rfl rfl 7 (by decide) (hu _ u_210) (fun _ h9 => h9) rfl dX6_leastWornFree_13 ?_
  refine lv_iload_n hx hb dX6_leastWornFree_16 rfl (lv_at hl 0 rfl) ?_
  refine va_iald hx hb hK.1 hP 1 0 rfl rfl (vin_c _ _ rfl) dX6_leastWornFree_17 ?_
  refine tpi (y := 0) (z_f_drp1 _ (cl_lt (vin_c _ _ rfl))) ?_
  refine lv_if_ne (tgt := 45) hx hb dX6_leastWornFree_18 (by decide) (fun c_21 => absurd (by decide) c_21) (fun c_21 => ?_)
  refine lv_iload_n hx hb dX6_leastWornFree_21 rfl (lv_at hl 2 rfl) ?_
  refine lv_iconst (v := (-1)) hx hb dX6_leastWornFree_22 (by decide) ?_
  refine lv_icmp_eq (tgt := 36) hx hb dX6_leastWornFree_23 (by decide) (fun c_22 => absurd c_22 (by decide)) (fun c_22 => ?_)
  refine lv_aload_n hx hb dX6_leastWornFree_26 rfl (lv_at hl 3 rfl) ?_
  refine va_get (D := D) (ci := 6) (v := .ref drp2) (C := RX6) (T := TX6) (N := 17) hx hb hu in_X6 hown hK.1 hP 0 rfl rfl 8 (by decide) (hu _ u_211) (fun _ h9 => h9) rfl dX6_leastWornFree_27 ?_
  refine lv_iload_n hx hb dX6_leastWornFree_30 rfl (lv_at hl 0 rfl) ?_
  refine va_iald hx hb hK.1 hP 2 0 rfl rfl (vin_c _ _ rfl) dX6_leastWornFree_31 ?_
  refine tpi (y := 0) (z_f_drp2 _ (cl_lt (vin_c _ _ rfl))) ?_
  refine lv_iload_n hx hb dX6_leastWornFree_32 rfl (lv_at hl 1 rfl) ?_
  refine lv_icmp_ge (tgt := 45) hx hb dX6_leastWornFree_33 (by decide) (fun c_23 => ?_) (fun c_23 => absurd (by decide) c_23)
  refine lv_iinc (v := 6) (lv' := [(3, .int 6), (2, .int 0), (1, .int 0), (0, .ref drp)]) hx hb dX6_leastWornFree_45 hl (k := 0) rfl (by decide) (by decide) rfl (fun ls hl => ?_)
  refine lv_goto (tgt := 6) hx hb dX6_leastWornFree_48 (by decide) ?_
  refine lv_iload_n hx hb dX6_leastWornFree_6 rfl (lv_at hl 0 rfl) ?_
  refine lv_bipush (v := 24) hx hb dX6_leastWornFree_7 (by decide) ?_
  refine lv_icmp_ge (tgt := 51) hx hb dX6_leastWornFree_9 (by decide) (fun c_24 => absurd c_24 (by decide)) (fun c_24 => ?_)
  refine lv_aload_n hx hb dX6_leastWornFree_12 rfl (lv_at hl 3 rfl) ?_
  refine va_get (D := D) (ci := 6) (v := .ref drp1) (C := RX6) (T := TX6) (N := 17) hx hb hu in_X6 hown hK.1 hP 0 rfl rfl 7 (by decide) (hu _ u_210) (fun _ h9 => h9) rfl dX6_leastWornFree_13 ?_
  refine lv_iload_n hx hb dX6_leastWornFree_16 rfl (lv_at hl 0 rfl) ?_
  refine va_iald hx hb hK.1 hP 1 0 rfl rfl (vin_c _ _ rfl) dX6_leastWornFree_17 ?_
  refine tpi (y := 0) (z_f_drp1 _ (cl_lt (vin_c _ _ rfl))) ?_
  refine lv_if_ne (tgt := 45) hx hb dX6_leastWornFree_18 (by decide) (fun c_25 => absurd (by decide) c_25) (fun c_25 => ?_)
  refine lv_iload_n hx hb dX6_leastWornFree_21 rfl (lv_at hl 2 rfl) ?_
  refine lv_iconst (v := (-1)) hx hb dX6_leastWornFree_22 (by decide) ?_
  refine lv_icmp_eq (tgt := 36) hx hb dX6_leastWornFree_23 (by decide) (fun c_26 => absurd c_26 (by decide)) (fun c_26 => ?_)
  refine lv_aload_n hx hb dX6_leastWornFree_26 rfl (lv_at hl 3 rfl) ?_
  refine va_get (D := D) (ci := 6) (v := .ref drp2) (C := RX6) (T := TX6) (N := 17) hx hb hu in_X6 hown hK.1 hP 0 rfl rfl 8 (by decide) (hu _ u_211) (fun _ h9 => h9) rfl dX6_leastWornFree_27 ?_
  refine lv_iload_n hx hb dX6_leastWornFree_30 rfl (lv_at hl 0 rfl) ?_
  refine va_iald hx hb hK.1 hP 2 0 rfl rfl (vin_c _ _ rfl) dX6_leastWornFree_31 ?_
  refine tpi (y := 0) (z_f_drp2 _ (cl_lt (vin_c _ _ rfl))) ?_
  refine lv_iload_n hx hb dX6_leastWornFree_32 rfl (lv_at hl 1 rfl) ?_
  refine lv_icmp_ge (tgt := 45) hx hb dX6_leastWornFree_33 (by decide) (fun c_27 => ?_) (fun c_27 => absurd (by decide) c_27)
  refine lv_iinc (v := 7) (lv' := [(3, .int 7), (2, .int 0), (1, .int 0), (0, .ref drp)]) hx hb dX6_leastWornFree_45 hl (k := 0) rfl (by decide) (by decide) rfl (fun ls hl => ?_)
  refine lv_goto (tgt := 6) hx hb dX6_leastWornFree_48 (by decide) ?_
  refine lv_iload_n hx hb dX6_leastWornFree_6 rfl (lv_at hl 0 rfl) ?_
  refine lv_bipush (v := 24) hx hb dX6_leastWornFree_7 (by decide) ?_
  refine lv_icmp_ge (tgt := 51) hx hb dX6_leastWornFree_9 (by decide) (fun c_28 => absurd c_28 (by decide)) (fun c_28 => ?_)
  refine lv_aload_n hx hb dX6_leastWornFree_12 rfl (lv_at hl 3 rfl) ?_
  refine va_get (D := D) (ci := 6) (v := .ref drp1) (C := RX6) (T := TX6) (N := 17) hx hb hu in_X6 hown hK.1 hP 0 rfl rfl 7 (by decide) (hu _ u_210) (fun _ h9 => h9) rfl dX6_leastWornFree_13 ?_
  refine lv_iload_n hx hb dX6_leastWornFree_16 rfl (lv_at hl 0 rfl) ?_
  refine va_iald hx hb hK.1 hP 1 0 rfl rfl (vin_c _ _ rfl) dX6_leastWornFree_17 ?_
  refine tpi (y := 0) (z_f_drp1 _ (cl_lt (vin_c _ _ rfl))) ?_
  refine lv_if_ne (tgt := 45) hx hb dX6_leastWornFree_18 (by decide) (fun c_29 => absurd (by decide) c_29) (fun c_29 => ?_)
  refine lv_iload_n hx hb dX6_leastWornFree_21 rfl (lv_at hl 2 rfl) ?_
  refine lv_iconst (v := (-1)) hx hb dX6_leastWornFree_22 (by decide) ?_
  refine lv_icmp_eq (tgt := 36) hx hb dX6_leastWornFree_23 (by decide) (fun c_30 => absurd c_30 (by decide)) (fun c_30 => ?_)
  refine lv_aload_n hx hb dX6_leastWornFree_26 rfl (lv_at hl 3 rfl) ?_
  refine va_get (D := D) (ci := 6) (v := .ref drp2) (C := RX6) (T := TX6) (N := 17) hx hb hu in_X6 hown hK.1 hP 0 rfl rfl 8 (by decide) (hu _ u_211) (fun _ h9 => h9) rfl dX6_leastWornFree_27 ?_
  refine lv_iload_n hx hb dX6_leastWornFree_30 rfl (lv_at hl 0 rfl) ?_
  refine va_iald hx hb hK.1 hP 2 0 rfl rfl (vin_c _ _ rfl) dX6_leastWornFree_31 ?_
  refine tpi (y := 0) (z_f_drp2 _ (cl_lt (vin_c _ _ rfl))) ?_
  refine lv_iload_n hx hb dX6_leastWornFree_32 rfl (lv_at hl 1 rfl) ?_
  refine lv_icmp_ge (tgt := 45) hx hb dX6_leastWornFree_33 (by decide) (fun c_31 => ?_) (fun c_31 => absurd (by decide) c_31)
  refine lv_iinc (v := 8) (lv' := [(3, .int 8), (2, .int 0), (1, .int 0), (0, .ref drp)]) hx hb dX6_leastWornFree_45 hl (k := 0) rfl (by decide) (by decide) rfl (fun ls hl => ?_)
  refine lv_goto (tgt := 6) hx hb dX6_leastWornFree_48 (by decide) ?_
  refine lv_iload_n hx hb dX6_leastWornFree_6 rfl (lv_at hl 0 rfl) ?_
  refine lv_bipush (v := 24) hx hb dX6_leastWornFree_7 (by decide) ?_
  refine lv_icmp_ge (tgt := 51) hx hb dX6_leastWornFree_9 (by decide) (fun c_32 => absurd c_32 (by decide)) (fun c_32 => ?_)
  refine lv_aload_n hx hb dX6_leastWornFree_12 rfl (lv_at hl 3 rfl) ?_
  refine va_get (D := D) (ci := 6) (v := .ref drp1) (C := RX6) (T := TX6) (N := 17) hx hb hu in_X6 hown hK.1 hP 0 rfl rfl 7 (by decide) (hu _ u_210) (fun _ h9 => h9) rfl dX6_leastWornFree_13 ?_
  refine lv_iload_n hx hb dX6_leastWornFree_16 rfl (lv_at hl 0 rfl) ?_
  refine va_iald hx hb hK.1 hP 1 0 rfl rfl (vin_c _ _ rfl) dX6_leastWornFree_17 ?_
  refine tpi (y := 0) (z_f_drp1 _ (cl_lt (vin_c _ _ rfl))) ?_
  refine lv_if_ne (tgt := 45) hx hb dX6_leastWornFree_18 (by decide) (fun c_33 => absurd (by decide) c_33) (fun c_33 => ?_)
  refine lv_iload_n hx hb dX6_leastWornFree_21 rfl (lv_at hl 2 rfl) ?_
  refine lv_iconst (v := (-1)) hx hb dX6_leastWornFree_22 (by decide) ?_
  refine lv_icmp_eq (tgt := 36) hx hb dX6_leastWornFree_23 (by decide) (fun c_34 => absurd c_34 (by decide)) (fun c_34 => ?_)
  refine lv_aload_n hx hb dX6_leastWornFree_26 rfl (lv_at hl 3 rfl) ?_
  refine va_get (D := D) (ci := 6) (v := .ref drp2) (C := RX6) (T := TX6) (N := 17) hx hb hu in_X6 hown hK.1 hP 0 rfl rfl 8 (by decide) (hu _ u_211) (fun _ h9 => h9) rfl dX6_leastWornFree_27 ?_
  refine lv_iload_n hx hb dX6_leastWornFree_30 rfl (lv_at hl 0 rfl) ?_
  refine va_iald hx hb hK.1 hP 2 0 rfl rfl (vin_c _ _ rfl) dX6_leastWornFree_31 ?_
  refine tpi (y := 0) (z_f_drp2 _ (cl_lt (vin_c _ _ rfl))) ?_
  refine lv_iload_n hx hb dX6_leastWornFree_32 rfl (lv_at hl 1 rfl) ?_
  refine lv_icmp_ge (tgt := 45) hx hb dX6_leastWornFree_33 (by decide) (fun c_35 => ?_) (fun c_35 => absurd (by decide) c_35)
  refine lv_iinc (v := 9) (lv' := [(3, .int 9), (2, .int 0), (1, .int 0), (0, .ref drp)]) hx hb dX6_leastWornFree_45 hl (k := 0) rfl (by decide) (by decide) rfl (fun ls hl => ?_)
  refine lv_goto (tgt := 6) hx hb dX6_leastWornFree_48 (by decide) ?_
  refine lv_iload_n hx hb dX6_leastWornFree_6 rfl (lv_at hl 0 rfl) ?_
  refine lv_bipush (v := 24) hx hb dX6_leastWornFree_7 (by decide) ?_
  refine lv_icmp_ge (tgt := 51) hx hb dX6_leastWornFree_9 (by decide) (fun c_36 => absurd c_36 (by decide)) (fun c_36 => ?_)
  refine lv_aload_n hx hb dX6_leastWornFree_12 rfl (lv_at hl 3 rfl) ?_
  refine va_get (D := D) (ci := 6) (v := .ref drp1) (C := RX6) (T := TX6) (N := 17) hx hb hu in_X6 hown hK.1 hP 0 rfl rfl 7 (by decide) (hu _ u_210) (fun _ h9 => h9) rfl dX6_leastWornFree_13 ?_
  refine lv_iload_n hx hb dX6_leastWornFree_16 rfl (lv_at hl 0 rfl) ?_
  refine va_iald hx hb hK.1 hP 1 0 rfl rfl (vin_c _ _ rfl) dX6_leastWornFree_17 ?_
  refine tpi (y := 0) (z_f_drp1 _ (cl_lt (vin_c _ _ rfl))) ?_
  refine lv_if_ne (tgt := 45) hx hb dX6_leastWornFree_18 (by decide) (fun c_37 => absurd (by decide) c_37) (fun c_37 => ?_)
  refine lv_iload_n hx hb dX6_leastWornFree_21 rfl (lv_at hl 2 rfl) ?_
  refine lv_iconst (v := (-1)) hx hb dX6_leastWornFree_22 (by decide) ?_
  refine lv_icmp_eq (tgt := 36) hx hb dX6_leastWornFree_23 (by decide) (fun c_38 => absurd c_38 (by decide)) (fun c_38 => ?_)
  refine lv_aload_n hx hb dX6_leastWornFree_26 rfl (lv_at hl 3 rfl) ?_
  refine va_get (D := D) (ci := 6) (v := .ref drp2) (C := RX6) (T := TX6) (N := 17) hx hb hu in_X6 hown hK.1 hP 0 rfl rfl 8 (by decide) (hu _ u_211) (fun _ h9 => h9) rfl dX6_leastWornFree_27 ?_
  refine lv_iload_n hx hb dX6_leastWornFree_30 rfl (lv_at hl 0 rfl) ?_
  refine va_iald hx hb hK.1 hP 2 0 rfl rfl (vin_c _ _ rfl) dX6_leastWornFree_31 ?_
  refine tpi (y := 0) (z_f_drp2 _ (cl_lt (vin_c _ _ rfl))) ?_
  refine lv_iload_n hx hb dX6_leastWornFree_32 rfl (lv_at hl 1 rfl) ?_
  refine lv_icmp_ge (tgt := 45) hx hb dX6_leastWornFree_33 (by decide) (fun c_39 => ?_) (fun c_39 => absurd (by decide) c_39)
  refine lv_iinc (v := 10) (lv' := [(3, .int 10), (2, .int 0), (1, .int 0), (0, .ref drp)]) hx hb dX6_leastWornFree_45 hl (k := 0) rfl (by decide) (by decide) rfl (fun ls hl => ?_)
  refine lv_goto (tgt := 6) hx hb dX6_leastWornFree_48 (by decide) ?_
  refine lv_iload_n hx hb dX6_leastWornFree_6 rfl (lv_at hl 0 rfl) ?_
  refine lv_bipush (v := 24) hx hb dX6_leastWornFree_7 (by decide) ?_
  refine lv_icmp_ge (tgt := 51) hx hb dX6_leastWornFree_9 (by decide) (fun c_40 => absurd c_40 (by decide)) (fun c_40 => ?_)
  refine lv_aload_n hx hb dX6_leastWornFree_12 rfl (lv_at hl 3 rfl) ?_
  refine va_get (D := D) (ci := 6) (v := .ref drp1) (C := RX6) (T := TX6) (N := 17) hx hb hu in_X6 hown hK.1 hP 0 rfl rfl 7 (by decide) (hu _ u_210) (fun _ h9 => h9) rfl dX6_leastWornFree_13 ?_
  refine lv_iload_n hx hb dX6_leastWornFree_16 rfl (lv_at hl 0 rfl) ?_
  refine va_iald hx hb hK.1 hP 1 0 rfl rfl (vin_c _ _ rfl) dX6_leastWornFree_17 ?_
  refine tpi (y := 0) (z_f_drp1 _ (cl_lt (vin_c _ _ rfl))) ?_
  refine lv_if_ne (tgt := 45) hx hb dX6_leastWornFree_18 (by decide) (fun c_41 => absurd (by decide) c_41) (fun c_41 => ?_)
  refine lv_iload_n hx hb dX6_leastWornFree_21 rfl (lv_at hl 2 rfl) ?_
  refine lv_iconst (v := (-1)) hx hb dX6_leastWornFree_22 (by decide) ?_
  refine lv_icmp_eq (tgt := 36) hx hb dX6_leastWornFree_23 (by decide) (fun c_42 => absurd c_42 (by decide)) (fun c_42 => ?_)
  refine lv_aload_n hx hb dX6_leastWornFree_26 rfl (lv_at hl 3 rfl) ?_
  refine va_get (D := D) (ci := 6) (v := .ref drp2) (C := RX6) (T := TX6) (N := 17) hx hb hu in_X6 hown hK.1 hP 0 rfl rfl 8 (by decide) (hu _ u_211) (fun _ h9 => h9) rfl dX6_leastWornFree_27 ?_
  refine lv_iload_n hx hb dX6_leastWornFree_30 rfl (lv_at hl 0 rfl) ?_
  refine va_iald hx hb hK.1 hP 2 0 rfl rfl (vin_c _ _ rfl) dX6_leastWornFree_31 ?_
  refine tpi (y := 0) (z_f_drp2 _ (cl_lt (vin_c _ _ rfl))) ?_
  refine lv_iload_n hx hb dX6_leastWornFree_32 rfl (lv_at hl 1 rfl) ?_
  refine lv_icmp_ge (tgt := 45) hx hb dX6_leastWornFree_33 (by decide) (fun c_43 => ?_) (fun c_43 => absurd (by decide) c_43)
  refine lv_iinc (v := 11) (lv' := [(3, .int 11), (2, .int 0), (1, .int 0), (0, .ref drp)]) hx hb dX6_leastWornFree_45 hl (k := 0) rfl (by decide) (by decide) rfl (fun ls hl => ?_)
  refine lv_goto (tgt := 6) hx hb dX6_leastWornFree_48 (by decide) ?_
  refine lv_iload_n hx hb dX6_leastWornFree_6 rfl (lv_at hl 0 rfl) ?_
  refine lv_bipush (v := 24) hx hb dX6_leastWornFree_7 (by decide) ?_
  refine lv_icmp_ge (tgt := 51) hx hb dX6_leastWornFree_9 (by decide) (fun c_44 => absurd c_44 (by decide)) (fun c_44 => ?_)
  refine lv_aload_n hx hb dX6_leastWornFree_12 rfl (lv_at hl 3 rfl) ?_
  refine va_get (D := D) (ci := 6) (v := .ref drp1) (C := RX6) (T := TX6) (N := 17) hx hb hu in_X6 hown hK.1 hP 0 rfl rfl 7 (by decide) (hu _ u_210) (fun _ h9 => h9) rfl dX6_leastWornFree_13 ?_
  refine lv_iload_n hx hb dX6_leastWornFree_16 rfl (lv_at hl 0 rfl) ?_
  refine va_iald hx hb hK.1 hP 1 0 rfl rfl (vin_c _ _ rfl) dX6_leastWornFree_17 ?_
  refine tpi (y := 0) (z_f_drp1 _ (cl_lt (vin_c _ _ rfl))) ?_
  refine lv_if_ne (tgt := 45) hx hb dX6_leastWornFree_18 (by decide) (fun c_45 => absurd (by decide) c_45) (fun c_45 => ?_)
  refine lv_iload_n hx hb dX6_leastWornFree_21 rfl (lv_at hl 2 rfl) ?_
  refine lv_iconst (v := (-1)) hx hb dX6_leastWornFree_22 (by decide) ?_
  refine lv_icmp_eq (tgt := 36) hx hb dX6_leastWornFree_23 (by decide) (fun c_46 => absurd c_46 (by decide)) (fun c_46 => ?_)
  refine lv_aload_n hx hb dX6_leastWornFree_26 rfl (lv_at hl 3 rfl) ?_
  refine va_get (D := D) (ci := 6) (v := .ref drp2) (C := RX6) (T := TX6) (N := 17) hx hb hu in_X6 hown hK.1 hP 0 rfl rfl 8 (by decide) (hu _ u_211) (fun _ h9 => h9) rfl dX6_leastWornFree_27 ?_
  refine lv_iload_n hx hb dX6_leastWornFree_30 rfl (lv_at hl 0 rfl) ?_
  refine va_iald hx hb hK.1 hP 2 0 rfl rfl (vin_c _ _ rfl) dX6_leastWornFree_31 ?_
  refine tpi (y := 0) (z_f_drp2 _ (cl_lt (vin_c _ _ rfl))) ?_
  refine lv_iload_n hx hb dX6_leastWornFree_32 rfl (lv_at hl 1 rfl) ?_
  refine lv_icmp_ge (tgt := 45) hx hb dX6_leastWornFree_33 (by decide) (fun c_47 => ?_) (fun c_47 => absurd (by decide) c_47)
  refine lv_iinc (v := 12) (lv' := [(3, .int 12), (2, .int 0), (1, .int 0), (0, .ref drp)]) hx hb dX6_leastWornFree_45 hl (k := 0) rfl (by decide) (by decide) rfl (fun ls hl => ?_)
  refine lv_goto (tgt := 6) hx hb dX6_leastWornFree_48 (by decide) ?_
  refine lv_iload_n hx hb dX6_leastWornFree_6 rfl (lv_at hl 0 rfl) ?_
  refine lv_bipush (v := 24) hx hb dX6_leastWornFree_7 (by decide) ?_
  refine lv_icmp_ge (tgt := 51) hx hb dX6_leastWornFree_9 (by decide) (fun c_48 => absurd c_48 (by decide)) (fun c_48 => ?_)
  refine lv_aload_n hx hb dX6_leastWornFree_12 rfl (lv_at hl 3 rfl) ?_
  refine va_get (D := D) (ci := 6) (v := .ref drp1) (C := RX6) (T := TX6) (N := 17) hx hb hu in_X6 hown hK.1 hP 0 rfl rfl 7 (by decide) (hu _ u_210) (fun _ h9 => h9) rfl dX6_leastWornFree_13 ?_
  refine lv_iload_n hx hb dX6_leastWornFree_16 rfl (lv_at hl 0 rfl) ?_
  refine va_iald hx hb hK.1 hP 1 0 rfl rfl (vin_c _ _ rfl) dX6_leastWornFree_17 ?_
  refine tpi (y := 0) (z_f_drp1 _ (cl_lt (vin_c _ _ rfl))) ?_
  refine lv_if_ne (tgt := 45) hx hb dX6_leastWornFree_18 (by decide) (fun c_49 => absurd (by decide) c_49) (fun c_49 => ?_)
  refine lv_iload_n hx hb dX6_leastWornFree_21 rfl (lv_at hl 2 rfl) ?_
  refine lv_iconst (v := (-1)) hx hb dX6_leastWornFree_22 (by decide) ?_
  refine lv_icmp_eq (tgt := 36) hx hb dX6_leastWornFree_23 (by decide) (fun c_50 => absurd c_50 (by decide)) (fun c_50 => ?_)
  refine lv_aload_n hx hb dX6_leastWornFree_26 rfl (lv_at hl 3 rfl) ?_
  refine va_get (D := D) (ci := 6) (v := .ref drp2) (C := RX6) (T := TX6) (N := 17) hx hb hu in_X6 hown hK.1 hP 0 rfl rfl 8 (by decide) (hu _ u_211) (fun _ h9 => h9) rfl dX6_leastWornFree_27 ?_
  refine lv_iload_n hx hb dX6_leastWornFree_30 rfl (lv_at hl 0 rfl) ?_
  refine va_iald hx hb hK.1 hP 2 0 rfl rfl (vin_c _ _ rfl) dX6_leastWornFree_31 ?_
  refine tpi (y := 0) (z_f_drp2 _ (cl_lt (vin_c _ _ rfl))) ?_
  refine lv_iload_n hx hb dX6_leastWornFree_32 rfl (lv_at hl 1 rfl) ?_
  refine lv_icmp_ge (tgt := 45) hx hb dX6_leastWornFree_33 (by decide) (fun c_51 => ?_) (fun c_51 => absurd (by decide) c_51)
  refine lv_iinc (v := 13) (lv' := [(3, .int 13), (2, .int 0), (1, .int 0), (0, .ref drp)]) hx hb dX6_leastWornFree_45 hl (k := 0) rfl (by decide) (by decide) rfl (fun ls hl => ?_)
  refine lv_goto (tgt := 6) hx hb dX6_leastWornFree_48 (by decide) ?_
  refine lv_iload_n hx hb dX6_leastWornFree_6 rfl (lv_at hl 0 rfl) ?_
  refine lv_bipush (v := 24) hx hb dX6_leastWornFree_7 (by decide) ?_
  refine lv_icmp_ge (tgt := 51) hx hb dX6_leastWornFree_9 (by decide) (fun c_52 => absurd c_52 (by decide)) (fun c_52 => ?_)
  refine lv_aload_n hx hb dX6_leastWornFree_12 rfl (lv_at hl 3 rfl) ?_
  refine va_get (D := D) (ci := 6) (v := .ref drp1) (C := RX6) (T := TX6) (N := 17) hx hb hu in_X6 hown hK.1 hP 0 rfl rfl 7 (by decide) (hu _ u_210) (fun _ h9 => h9) rfl dX6_leastWornFree_13 ?_
  refine lv_iload_n hx hb dX6_leastWornFree_16 rfl (lv_at hl 0 rfl) ?_
  refine va_iald hx hb hK.1 hP 1 0 rfl rfl (vin_c _ _ rfl) dX6_leastWornFree_17 ?_
  refine tpi (y := 0) (z_f_drp1 _ (cl_lt (vin_c _ _ rfl))) ?_
  refine lv_if_ne (tgt := 45) hx hb dX6_leastWornFree_18 (by decide) (fun c_53 => absurd (by decide) c_53) (fun c_53 => ?_)
  refine lv_iload_n hx hb dX6_leastWornFree_21 rfl (lv_at hl 2 rfl) ?_
  refine lv_iconst (v := (-1)) hx hb dX6_leastWornFree_22 (by decide) ?_
  refine lv_icmp_eq (tgt := 36) hx hb dX6_leastWornFree_23 (by decide) (fun c_54 => absurd c_54 (by decide)) (fun c_54 => ?_)
  refine lv_aload_n hx hb dX6_leastWornFree_26 rfl (lv_at hl 3 rfl) ?_
  refine va_get (D := D) (ci := 6) (v := .ref drp2) (C := RX6) (T := TX6) (N := 17) hx hb hu in_X6 hown hK.1 hP 0 rfl rfl 8 (by decide) (hu _ u_211) (fun _ h9 => h9) rfl dX6_leastWornFree_27 ?_
  refine lv_iload_n hx hb dX6_leastWornFree_30 rfl (lv_at hl 0 rfl) ?_
  refine va_iald hx hb hK.1 hP 2 0 rfl rfl (vin_c _ _ rfl) dX6_leastWornFree_31 ?_
  refine tpi (y := 0) (z_f_drp2 _ (cl_lt (vin_c _ _ rfl))) ?_
  refine lv_iload_n hx hb dX6_leastWornFree_32 rfl (lv_at hl 1 rfl) ?_
  refine lv_icmp_ge (tgt := 45) hx hb dX6_leastWornFree_33 (by decide) (fun c_55 => ?_) (fun c_55 => absurd (by decide) c_55)
  refine lv_iinc (v := 14) (lv' := [(3, .int 14), (2, .int 0), (1, .int 0), (0, .ref drp)]) hx hb dX6_leastWornFree_45 hl (k := 0) rfl (by decide) (by decide) rfl (fun ls hl => ?_)
  refine lv_goto (tgt := 6) hx hb dX6_leastWornFree_48 (by decide) ?_
  refine lv_iload_n hx hb dX6_leastWornFree_6 rfl (lv_at hl 0 rfl) ?_
  refine lv_bipush (v := 24) hx hb dX6_leastWornFree_7 (by decide) ?_
  refine lv_icmp_ge (tgt := 51) hx hb dX6_leastWornFree_9 (by decide) (fun c_56 => absurd c_56 (by decide)) (fun c_56 => ?_)
  refine lv_aload_n hx hb dX6_leastWornFree_12 rfl (lv_at hl 3 rfl) ?_
  refine va_get (D := D) (ci := 6) (v := .ref drp1) (C := RX6) (T := TX6) (N := 17) hx hb hu in_X6 hown hK.1 hP 0 rfl rfl 7 (by decide) (hu _ u_210) (fun _ h9 => h9) rfl dX6_leastWornFree_13 ?_
  refine lv_iload_n hx hb dX6_leastWornFree_16 rfl (lv_at hl 0 rfl) ?_
  refine va_iald hx hb hK.1 hP 1 0 rfl rfl (vin_c _ _ rfl) dX6_leastWornFree_17 ?_
  refine tpi (y := 0) (z_f_drp1 _ (cl_lt (vin_c _ _ rfl))) ?_
  refine lv_if_ne (tgt := 45) hx hb dX6_leastWornFree_18 (by decide) (fun c_57 => absurd (by decide) c_57) (fun c_57 => ?_)
  refine lv_iload_n hx hb dX6_leastWornFree_21 rfl (lv_at hl 2 rfl) ?_
  refine lv_iconst (v := (-1)) hx hb dX6_leastWornFree_22 (by decide) ?_
  refine lv_icmp_eq (tgt := 36) hx hb dX6_leastWornFree_23 (by decide) (fun c_58 => absurd c_58 (by decide)) (fun c_58 => ?_)
  refine lv_aload_n hx hb dX6_leastWornFree_26 rfl (lv_at hl 3 rfl) ?_
  refine va_get (D := D) (ci := 6) (v := .ref drp2) (C := RX6) (T := TX6) (N := 17) hx hb hu in_X6 hown hK.1 hP 0 rfl rfl 8 (by decide) (hu _ u_211) (fun _ h9 => h9) rfl dX6_leastWornFree_27 ?_
  refine lv_iload_n hx hb dX6_leastWornFree_30 rfl (lv_at hl 0 rfl) ?_
  refine va_iald hx hb hK.1 hP 2 0 rfl rfl (vin_c _ _ rfl) dX6_leastWornFree_31 ?_
  refine tpi (y := 0) (z_f_drp2 _ (cl_lt (vin_c _ _ rfl))) ?_
  refine lv_iload_n hx hb dX6_leastWornFree_32 rfl (lv_at hl 1 rfl) ?_
  refine lv_icmp_ge (tgt := 45) hx hb dX6_leastWornFree_33 (by decide) (fun c_59 => ?_) (fun c_59 => absurd (by decide) c_59)
  refine lv_iinc (v := 15) (lv' := [(3, .int 15), (2, .int 0), (1, .int 0), (0, .ref drp)]) hx hb dX6_leastWornFree_45 hl (k := 0) rfl (by decide) (by decide) rfl (fun ls hl => ?_)
  refine lv_goto (tgt := 6) hx hb dX6_leastWornFree_48 (by decide) ?_
  refine lv_iload_n hx hb dX6_leastWornFree_6 rfl (lv_at hl 0 rfl) ?_
  refine lv_bipush (v := 24) hx hb dX6_leastWornFree_7 (by decide) ?_
  refine lv_icmp_ge (tgt := 51) hx hb dX6_leastWornFree_9 (by decide) (fun c_60 => absurd c_60 (by decide)) (fun c_60 => ?_)
  refine lv_aload_n hx hb dX6_leastWornFree_12 rfl (lv_at hl 3 rfl) ?_
  refine va_get (D := D) (ci := 6) (v := .ref drp1) (C := RX6) (T := TX6) (N := 17) hx hb hu in_X6 hown hK.1 hP 0 rfl rfl 7 (by decide) (hu _ u_210) (fun _ h9 => h9) rfl dX6_leastWornFree_13 ?_
  refine lv_iload_n hx hb dX6_leastWornFree_16 rfl (lv_at hl 0 rfl) ?_
  refine va_iald hx hb hK.1 hP 1 0 rfl rfl (vin_c _ _ rfl) dX6_leastWornFree_17 ?_
  refine tpi (y := 0) (z_f_drp1 _ (cl_lt (vin_c _ _ rfl))) ?_
  refine lv_if_ne (tgt := 45) hx hb dX6_leastWornFree_18 (by decide) (fun c_61 => absurd (by decide) c_61) (fun c_61 => ?_)
  refine lv_iload_n hx hb dX6_leastWornFree_21 rfl (lv_at hl 2 rfl) ?_
  refine lv_iconst (v := (-1)) hx hb dX6_leastWornFree_22 (by decide) ?_
  refine lv_icmp_eq (tgt := 36) hx hb dX6_leastWornFree_23 (by decide) (fun c_62 => absurd c_62 (by decide)) (fun c_62 => ?_)
  refine lv_aload_n hx hb dX6_leastWornFree_26 rfl (lv_at hl 3 rfl) ?_
  refine va_get (D := D) (ci := 6) (v := .ref drp2) (C := RX6) (T := TX6) (N := 17) hx hb hu in_X6 hown hK.1 hP 0 rfl rfl 8 (by decide) (hu _ u_211) (fun _ h9 => h9) rfl dX6_leastWornFree_27 ?_
  refine lv_iload_n hx hb dX6_leastWornFree_30 rfl (lv_at hl 0 rfl) ?_
  refine va_iald hx hb hK.1 hP 2 0 rfl rfl (vin_c _ _ rfl) dX6_leastWornFree_31 ?_
  refine tpi (y := 0) (z_f_drp2 _ (cl_lt (vin_c _ _ rfl))) ?_
  refine lv_iload_n hx hb dX6_leastWornFree_32 rfl (lv_at hl 1 rfl) ?_
  refine lv_icmp_ge (tgt := 45) hx hb dX6_leastWornFree_33 (by decide) (fun c_63 => ?_) (fun c_63 => absurd (by decide) c_63)
  refine lv_iinc (v := 16) (lv' := [(3, .int 16), (2, .int 0), (1, .int 0), (0, .ref drp)]) hx hb dX6_leastWornFree_45 hl (k := 0) rfl (by decide) (by decide) rfl (fun ls hl => ?_)
  refine lv_goto (tgt := 6) hx hb dX6_leastWornFree_48 (by decide) ?_
  refine lv_iload_n hx hb dX6_leastWornFree_6 rfl (lv_at hl 0 rfl) ?_
  refine lv_bipush (v := 24) hx hb dX6_leastWornFree_7 (by decide) ?_
  refine lv_icmp_ge (tgt := 51) hx hb dX6_leastWornFree_9 (by decide) (fun c_64 => absurd c_64 (by decide)) (fun c_64 => ?_)
  refine lv_aload_n hx hb dX6_leastWornFree_12 rfl (lv_at hl 3 rfl) ?_
  refine va_get (D := D) (ci := 6) (v := .ref drp1) (C := RX6) (T := TX6) (N := 17) hx hb hu in_X6 hown hK.1 hP 0 rfl rfl 7 (by decide) (hu _ u_210) (fun _ h9 => h9) rfl dX6_leastWornFree_13 ?_
  refine lv_iload_n hx hb dX6_leastWornFree_16 rfl (lv_at hl 0 rfl) ?_
  refine va_iald hx hb hK.1 hP 1 0 rfl rfl (vin_c _ _ rfl) dX6_leastWornFree_17 ?_
  refine tpi (y := 0) (z_f_drp1 _ (cl_lt (vin_c _ _ rfl))) ?_
  refine lv_if_ne (tgt := 45) hx hb dX6_leastWornFree_18 (by decide) (fun c_65 => absurd (by decide) c_65) (fun c_65 => ?_)
  refine lv_iload_n hx hb dX6_leastWornFree_21 rfl (lv_at hl 2 rfl) ?_
  refine lv_iconst (v := (-1)) hx hb dX6_leastWornFree_22 (by decide) ?_
  refine lv_icmp_eq (tgt := 36) hx hb dX6_leastWornFree_23 (by decide) (fun c_66 => absurd c_66 (by decide)) (fun c_66 => ?_)
  refine lv_aload_n hx hb dX6_leastWornFree_26 rfl (lv_at hl 3 rfl) ?_
  refine va_get (D := D) (ci := 6) (v := .ref drp2) (C := RX6) (T := TX6) (N := 17) hx hb hu in_X6 hown hK.1 hP 0 rfl rfl 8 (by decide) (hu _ u_211) (fun _ h9 => h9) rfl dX6_leastWornFree_27 ?_
  refine lv_iload_n hx hb dX6_leastWornFree_30 rfl (lv_at hl 0 rfl) ?_
  refine va_iald hx hb hK.1 hP 2 0 rfl rfl (vin_c _ _ rfl) dX6_leastWornFree_31 ?_
  refine tpi (y := 0) (z_f_drp2 _ (cl_lt (vin_c _ _ rfl))) ?_
  refine lv_iload_n hx hb dX6_leastWornFree_32 rfl (lv_at hl 1 rfl) ?_
  refine lv_icmp_ge (tgt := 45) hx hb dX6_leastWornFree_33 (by decide) (fun c_67 => ?_) (fun c_67 => absurd (by decide) c_67)
  refine lv_iinc (v := 17) (lv' := [(3, .int 17), (2, .int 0), (1, .int 0), (0, .ref drp)]) hx hb dX6_leastWornFree_45 hl (k := 0) rfl (by decide) (by decide) rfl (fun ls hl => ?_)
  refine lv_goto (tgt := 6) hx hb dX6_leastWornFree_48 (by decide) ?_
  refine lv_iload_n hx hb dX6_leastWornFree_6 rfl (lv_at hl 0 rfl) ?_
  refine lv_bipush (v := 24) hx hb dX6_leastWornFree_7 (by decide) ?_
  refine lv_icmp_ge (tgt := 51) hx hb dX6_leastWornFree_9 (by decide) (fun c_68 => absurd c_68 (by decide)) (fun c_68 => ?_)
  refine lv_aload_n hx hb dX6_leastWornFree_12 rfl (lv_at hl 3 rfl) ?_
  refine va_get (D := D) (ci := 6) (v := .ref drp1) (C := RX6) (T := TX6) (N := 17) hx hb hu in_X6 hown hK.1 hP 0 rfl rfl 7 (by decide) (hu _ u_210) (fun _ h9 => h9) rfl dX6_leastWornFree_13 ?_
  refine lv_iload_n hx hb dX6_leastWornFree_16 rfl (lv_at hl 0 rfl) ?_
  refine va_iald hx hb hK.1 hP 1 0 rfl rfl (vin_c _ _ rfl) dX6_leastWornFree_17 ?_
  refine tpi (y := 0) (z_f_drp1 _ (cl_lt (vin_c _ _ rfl))) ?_
  refine lv_if_ne (tgt := 45) hx hb dX6_leastWornFree_18 (by decide) (fun c_69 => absurd (by decide) c_69) (fun c_69 => ?_)
  refine lv_iload_n hx hb dX6_leastWornFree_21 rfl (lv_at hl 2 rfl) ?_
  refine lv_iconst (v := (-1)) hx hb dX6_leastWornFree_22 (by decide) ?_
  refine lv_icmp_eq (tgt := 36) hx hb dX6_leastWornFree_23 (by decide) (fun c_70 => absurd c_70 (by decide)) (fun c_70 => ?_)
  refine lv_aload_n hx hb dX6_leastWornFree_26 rfl (lv_at hl 3 rfl) ?_
  refine va_get (D := D) (ci := 6) (v := .ref drp2) (C := RX6) (T := TX6) (N := 17) hx hb hu in_X6 hown hK.1 hP 0 rfl rfl 8 (by decide) (hu _ u_211) (fun _ h9 => h9) rfl dX6_leastWornFree_27 ?_
  refine lv_iload_n hx hb dX6_leastWornFree_30 rfl (lv_at hl 0 rfl) ?_
  refine va_iald hx hb hK.1 hP 2 0 rfl rfl (vin_c _ _ rfl) dX6_leastWornFree_31 ?_
  refine tpi (y := 0) (z_f_drp2 _ (cl_lt (vin_c _ _ rfl))) ?_
  refine lv_iload_n hx hb dX6_leastWornFree_32 rfl (lv_at hl 1 rfl) ?_
  refine lv_icmp_ge (tgt := 45) hx hb dX6_leastWornFree_33 (by decide) (fun c_71 => ?_) (fun c_71 => absurd (by decide) c_71)
  refine lv_iinc (v := 18) (lv' := [(3, .int 18), (2, .int 0), (1, .int 0), (0, .ref drp)]) hx hb dX6_leastWornFree_45 hl (k := 0) rfl (by decide) (by decide) rfl (fun ls hl => ?_)
  refine lv_goto (tgt := 6) hx hb dX6_leastWornFree_48 (by decide) ?_
  refine lv_iload_n hx hb dX6_leastWornFree_6 rfl (lv_at hl 0 rfl) ?_
  refine lv_bipush (v := 24) hx hb dX6_leastWornFree_7 (by decide) ?_
  refine lv_icmp_ge (tgt := 51) hx hb dX6_leastWornFree_9 (by decide) (fun c_72 => absurd c_72 (by decide)) (fun c_72 => ?_)
  refine lv_aload_n hx hb dX6_leastWornFree_12 rfl (lv_at hl 3 rfl) ?_
  refine va_get (D := D) (ci := 6) (v := .ref drp1) (C := RX6) (T := TX6) (N := 17) hx hb hu in_X6 hown hK.1 hP 0 rfl rfl 7 (by decide) (hu _ u_210) (fun _ h9 => h9) rfl dX6_leastWornFree_13 ?_
  refine lv_iload_n hx hb dX6_leastWornFree_16 rfl (lv_at hl 0 rfl) ?_
  refine va_iald hx hb hK.1 hP 1 0 rfl rfl (vin_c _ _ rfl) dX6_leastWornFree_17 ?_
  refine tpi (y := 0) (z_f_drp1 _ (cl_lt (vin_c _ _ rfl))) ?_
  refine lv_if_ne (tgt := 45) hx hb dX6_leastWornFree_18 (by decide) (fun c_73 => absurd (by decide) c_73) (fun c_73 => ?_)
  refine lv_iload_n hx hb dX6_leastWornFree_21 rfl (lv_at hl 2 rfl) ?_
  refine lv_iconst (v := (-1)) hx hb dX6_leastWornFree_22 (by decide) ?_
  refine lv_icmp_eq (tgt := 36) hx hb dX6_leastWornFree_23 (by decide) (fun c_74 => absurd c_74 (by decide)) (fun c_74 => ?_)
  refine lv_aload_n hx hb dX6_leastWornFree_26 rfl (lv_at hl 3 rfl) ?_
  refine va_get (D := D) (ci := 6) (v := .ref drp2) (C := RX6) (T := TX6) (N := 17) hx hb hu in_X6 hown hK.1 hP 0 rfl rfl 8 (by decide) (hu _ u_211) (fun _ h9 => h9) rfl dX6_leastWornFree_27 ?_
  refine lv_iload_n hx hb dX6_leastWornFree_30 rfl (lv_at hl 0 rfl) ?_
  refine va_iald hx hb hK.1 hP 2 0 rfl rfl (vin_c _ _ rfl) dX6_leastWornFree_31 ?_
  refine tpi (y := 0) (z_f_drp2 _ (cl_lt (vin_c _ _ rfl))) ?_
  refine lv_iload_n hx hb dX6_leastWornFree_32 rfl (lv_at hl 1 rfl) ?_
  refine lv_icmp_ge (tgt := 45) hx hb dX6_leastWornFree_33 (by decide) (fun c_75 => ?_) (fun c_75 => absurd (by decide) c_75)
  refine lv_iinc (v := 19) (lv' := [(3, .int 19), (2, .int 0), (1, .int 0), (0, .ref drp)]) hx hb dX6_leastWornFree_45 hl (k := 0) rfl (by decide) (by decide) rfl (fun ls hl => ?_)
  refine lv_goto (tgt := 6) hx hb dX6_leastWornFree_48 (by decide) ?_
  refine lv_iload_n hx hb dX6_leastWornFree_6 rfl (lv_at hl 0 rfl) ?_
  refine lv_bipush (v := 24) hx hb dX6_leastWornFree_7 (by decide) ?_
  refine lv_icmp_ge (tgt := 51) hx hb dX6_leastWornFree_9 (by decide) (fun c_76 => absurd c_76 (by decide)) (fun c_76 => ?_)
  refine lv_aload_n hx hb dX6_leastWornFree_12 rfl (lv_at hl 3 rfl) ?_
  refine va_get (D := D) (ci := 6) (v := .ref drp1) (C := RX6) (T := TX6) (N := 17) hx hb hu in_X6 hown hK.1 hP 0 rfl rfl 7 (by decide) (hu _ u_210) (fun _ h9 => h9) rfl dX6_leastWornFree_13 ?_
  refine lv_iload_n hx hb dX6_leastWornFree_16 rfl (lv_at hl 0 rfl) ?_
  refine va_iald hx hb hK.1 hP 1 0 rfl rfl (vin_c _ _ rfl) dX6_leastWornFree_17 ?_
  refine tpi (y := 0) (z_f_drp1 _ (cl_lt (vin_c _ _ rfl))) ?_
  refine lv_if_ne (tgt := 45) hx hb dX6_leastWornFree_18 (by decide) (fun c_77 => absurd (by decide) c_77) (fun c_77 => ?_)
  refine lv_iload_n hx hb dX6_leastWornFree_21 rfl (lv_at hl 2 rfl) ?_
  refine lv_iconst (v := (-1)) hx hb dX6_leastWornFree_22 (by decide) ?_
  refine lv_icmp_eq (tgt := 36) hx hb dX6_leastWornFree_23 (by decide) (fun c_78 => absurd c_78 (by decide)) (fun c_78 => ?_)
  refine lv_aload_n hx hb dX6_leastWornFree_26 rfl (lv_at hl 3 rfl) ?_
  refine va_get (D := D) (ci := 6) (v := .ref drp2) (C := RX6) (T := TX6) (N := 17) hx hb hu in_X6 hown hK.1 hP 0 rfl rfl 8 (by decide) (hu _ u_211) (fun _ h9 => h9) rfl dX6_leastWornFree_27 ?_
  refine lv_iload_n hx hb dX6_leastWornFree_30 rfl (lv_at hl 0 rfl) ?_
  refine va_iald hx hb hK.1 hP 2 0 rfl rfl (vin_c _ _ rfl) dX6_leastWornFree_31 ?_
  refine tpi (y := 0) (z_f_drp2 _ (cl_lt (vin_c _ _ rfl))) ?_
  refine lv_iload_n hx hb dX6_leastWornFree_32 rfl (lv_at hl 1 rfl) ?_
  refine lv_icmp_ge (tgt := 45) hx hb dX6_leastWornFree_33 (by decide) (fun c_79 => ?_) (fun c_79 => absurd (by decide) c_79)
  refine lv_iinc (v := 20) (lv' := [(3, .int 20), (2, .int 0), (1, .int 0), (0, .ref drp)]) hx hb dX6_leastWornFree_45 hl (k := 0) rfl (by decide) (by decide) rfl (fun ls hl => ?_)
  refine lv_goto (tgt := 6) hx hb dX6_leastWornFree_48 (by decide) ?_
  refine lv_iload_n hx hb dX6_leastWornFree_6 rfl (lv_at hl 0 rfl) ?_
  refine lv_bipush (v := 24) hx hb dX6_leastWornFree_7 (by decide) ?_
  refine lv_icmp_ge (tgt := 51) hx hb dX6_leastWornFree_9 (by decide) (fun c_80 => absurd c_80 (by decide)) (fun c_80 => ?_)
  refine lv_aload_n hx hb dX6_leastWornFree_12 rfl (lv_at hl 3 rfl) ?_
  refine va_get (D := D) (ci := 6) (v := .ref drp1) (C := RX6) (T := TX6) (N := 17) hx hb hu in_X6 hown hK.1 hP 0 rfl rfl 7 (by decide) (hu _ u_210) (fun _ h9 => h9) rfl dX6_leastWornFree_13 ?_
  refine lv_iload_n hx hb dX6_leastWornFree_16 rfl (lv_at hl 0 rfl) ?_
  refine va_iald hx hb hK.1 hP 1 0 rfl rfl (vin_c _ _ rfl) dX6_leastWornFree_17 ?_
  refine tpi (y := 0) (z_f_drp1 _ (cl_lt (vin_c _ _ rfl))) ?_
  refine lv_if_ne (tgt := 45) hx hb dX6_leastWornFree_18 (by decide) (fun c_81 => absurd (by decide) c_81) (fun c_81 => ?_)
  refine lv_iload_n hx hb dX6_leastWornFree_21 rfl (lv_at hl 2 rfl) ?_
  refine lv_iconst (v := (-1)) hx hb dX6_leastWornFree_22 (by decide) ?_
  refine lv_icmp_eq (tgt := 36) hx hb dX6_leastWornFree_23 (by decide) (fun c_82 => absurd c_82 (by decide)) (fun c_82 => ?_)
  refine lv_aload_n hx hb dX6_leastWornFree_26 rfl (lv_at hl 3 rfl) ?_
  refine va_get (D := D) (ci := 6) (v := .ref drp2) (C := RX6) (T := TX6) (N := 17) hx hb hu in_X6 hown hK.1 hP 0 rfl rfl 8 (by decide) (hu _ u_211) (fun _ h9 => h9) rfl dX6_leastWornFree_27 ?_
  refine lv_iload_n hx hb dX6_leastWornFree_30 rfl (lv_at hl 0 rfl) ?_
  refine va_iald hx hb hK.1 hP 2 0 rfl rfl (vin_c _ _ rfl) dX6_leastWornFree_31 ?_
  refine tpi (y := 0) (z_f_drp2 _ (cl_lt (vin_c _ _ rfl))) ?_
  refine lv_iload_n hx hb dX6_leastWornFree_32 rfl (lv_at hl 1 rfl) ?_
  refine lv_icmp_ge (tgt := 45) hx hb dX6_leastWornFree_33 (by decide) (fun c_83 => ?_) (fun c_83 => absurd (by decide) c_83)
  refine lv_iinc (v := 21) (lv' := [(3, .int 21), (2, .int 0), (1, .int 0), (0, .ref drp)]) hx hb dX6_leastWornFree_45 hl (k := 0) rfl (by decide) (by decide) rfl (fun ls hl => ?_)
  refine lv_goto (tgt := 6) hx hb dX6_leastWornFree_48 (by decide) ?_
  refine lv_iload_n hx hb dX6_leastWornFree_6 rfl (lv_at hl 0 rfl) ?_
  refine lv_bipush (v := 24) hx hb dX6_leastWornFree_7 (by decide) ?_
  refine lv_icmp_ge (tgt := 51) hx hb dX6_leastWornFree_9 (by decide) (fun c_84 => absurd c_84 (by decide)) (fun c_84 => ?_)
  refine lv_aload_n hx hb dX6_leastWornFree_12 rfl (lv_at hl 3 rfl) ?_
  refine va_get (D := D) (ci := 6) (v := .ref drp1) (C := RX6) (T := TX6) (N := 17) hx hb hu in_X6 hown hK.1 hP 0 rfl rfl 7 (by decide) (hu _ u_210) (fun _ h9 => h9) rfl dX6_leastWornFree_13 ?_
  refine lv_iload_n hx hb dX6_leastWornFree_16 rfl (lv_at hl 0 rfl) ?_
  refine va_iald hx hb hK.1 hP 1 0 rfl rfl (vin_c _ _ rfl) dX6_leastWornFree_17 ?_
  refine tpi (y := 0) (z_f_drp1 _ (cl_lt (vin_c _ _ rfl))) ?_
  refine lv_if_ne (tgt := 45) hx hb dX6_leastWornFree_18 (by decide) (fun c_85 => absurd (by decide) c_85) (fun c_85 => ?_)
  refine lv_iload_n hx hb dX6_leastWornFree_21 rfl (lv_at hl 2 rfl) ?_
  refine lv_iconst (v := (-1)) hx hb dX6_leastWornFree_22 (by decide) ?_
  refine lv_icmp_eq (tgt := 36) hx hb dX6_leastWornFree_23 (by decide) (fun c_86 => absurd c_86 (by decide)) (fun c_86 => ?_)
  refine lv_aload_n hx hb dX6_leastWornFree_26 rfl (lv_at hl 3 rfl) ?_
  refine va_get (D := D) (ci := 6) (v := .ref drp2) (C := RX6) (T := TX6) (N := 17) hx hb hu in_X6 hown hK.1 hP 0 rfl rfl 8 (by decide) (hu _ u_211) (fun _ h9 => h9) rfl dX6_leastWornFree_27 ?_
  refine lv_iload_n hx hb dX6_leastWornFree_30 rfl (lv_at hl 0 rfl) ?_
  refine va_iald hx hb hK.1 hP 2 0 rfl rfl (vin_c _ _ rfl) dX6_leastWornFree_31 ?_
  refine tpi (y := 0) (z_f_drp2 _ (cl_lt (vin_c _ _ rfl))) ?_
  refine lv_iload_n hx hb dX6_leastWornFree_32 rfl (lv_at hl 1 rfl) ?_
  refine lv_icmp_ge (tgt := 45) hx hb dX6_leastWornFree_33 (by decide) (fun c_87 => ?_) (fun c_87 => absurd (by decide) c_87)
  refine lv_iinc (v := 22) (lv' := [(3, .int 22), (2, .int 0), (1, .int 0), (0, .ref drp)]) hx hb dX6_leastWornFree_45 hl (k := 0) rfl (by decide) (by decide) rfl (fun ls hl => ?_)
  refine lv_goto (tgt := 6) hx hb dX6_leastWornFree_48 (by decide) ?_
  refine lv_iload_n hx hb dX6_leastWornFree_6 rfl (lv_at hl 0 rfl) ?_
  refine lv_bipush (v := 24) hx hb dX6_leastWornFree_7 (by decide) ?_
  refine lv_icmp_ge (tgt := 51) hx hb dX6_leastWornFree_9 (by decide) (fun c_88 => absurd c_88 (by decide)) (fun c_88 => ?_)
  refine lv_aload_n hx hb dX6_leastWornFree_12 rfl (lv_at hl 3 rfl) ?_
  refine va_get (D := D) (ci := 6) (v := .ref drp1) (C := RX6) (T := TX6) (N := 17) hx hb hu in_X6 hown hK.1 hP 0 rfl rfl 7 (by decide) (hu _ u_210) (fun _ h9 => h9) rfl dX6_leastWornFree_13 ?_
  refine lv_iload_n hx hb dX6_leastWornFree_16 rfl (lv_at hl 0 rfl) ?_
  refine va_iald hx hb hK.1 hP 1 0 rfl rfl (vin_c _ _ rfl) dX6_leastWornFree_17 ?_
  refine tpi (y := 0) (z_f_drp1 _ (cl_lt (vin_c _ _ rfl))) ?_
  refine lv_if_ne (tgt := 45) hx hb dX6_leastWornFree_18 (by decide) (fun c_89 => absurd (by decide) c_89) (fun c_89 => ?_)
  refine lv_iload_n hx hb dX6_leastWornFree_21 rfl (lv_at hl 2 rfl) ?_
  refine lv_iconst (v := (-1)) hx hb dX6_leastWornFree_22 (by decide) ?_
  refine lv_icmp_eq (tgt := 36) hx hb dX6_leastWornFree_23 (by decide) (fun c_90 => absurd c_90 (by decide)) (fun c_90 => ?_)
  refine lv_aload_n hx hb dX6_leastWornFree_26 rfl (lv_at hl 3 rfl) ?_
  refine va_get (D := D) (ci := 6) (v := .ref drp2) (C := RX6) (T := TX6) (N := 17) hx hb hu in_X6 hown hK.1 hP 0 rfl rfl 8 (by decide) (hu _ u_211) (fun _ h9 => h9) rfl dX6_leastWornFree_27 ?_
  refine lv_iload_n hx hb dX6_leastWornFree_30 rfl (lv_at hl 0 rfl) ?_
  refine va_iald hx hb hK.1 hP 2 0 rfl rfl (vin_c _ _ rfl) dX6_leastWornFree_31 ?_
  refine tpi (y := 0) (z_f_drp2 _ (cl_lt (vin_c _ _ rfl))) ?_
  refine lv_iload_n hx hb dX6_leastWornFree_32 rfl (lv_at hl 1 rfl) ?_
  refine lv_icmp_ge (tgt := 45) hx hb dX6_leastWornFree_33 (by decide) (fun c_91 => ?_) (fun c_91 => absurd (by decide) c_91)
  refine lv_iinc (v := 23) (lv' := [(3, .int 23), (2, .int 0), (1, .int 0), (0, .ref drp)]) hx hb dX6_leastWornFree_45 hl (k := 0) rfl (by decide) (by decide) rfl (fun ls hl => ?_)
  refine lv_goto (tgt := 6) hx hb dX6_leastWornFree_48 (by decide) ?_
  refine lv_iload_n hx hb dX6_leastWornFree_6 rfl (lv_at hl 0 rfl) ?_
  refine lv_bipush (v := 24) hx hb dX6_leastWornFree_7 (by decide) ?_
  refine lv_icmp_ge (tgt := 51) hx hb dX6_leastWornFree_9 (by decide) (fun c_92 => absurd c_92 (by decide)) (fun c_92 => ?_)
  refine lv_aload_n hx hb dX6_leastWornFree_12 rfl (lv_at hl 3 rfl) ?_
  refine va_get (D := D) (ci := 6) (v := .ref drp1) (C := RX6) (T := TX6) (N := 17) hx hb hu in_X6 hown hK.1 hP 0 rfl rfl 7 (by decide) (hu _ u_210) (fun _ h9 => h9) rfl dX6_leastWornFree_13 ?_
  refine lv_iload_n hx hb dX6_leastWornFree_16 rfl (lv_at hl 0 rfl) ?_
  refine va_iald hx hb hK.1 hP 1 0 rfl rfl (vin_c _ _ rfl) dX6_leastWornFree_17 ?_
  refine tpi (y := 0) (z_f_drp1 _ (cl_lt (vin_c _ _ rfl))) ?_
  refine lv_if_ne (tgt := 45) hx hb dX6_leastWornFree_18 (by decide) (fun c_93 => absurd (by decide) c_93) (fun c_93 => ?_)
  refine lv_iload_n hx hb dX6_leastWornFree_21 rfl (lv_at hl 2 rfl) ?_
  refine lv_iconst (v := (-1)) hx hb dX6_leastWornFree_22 (by decide) ?_
  refine lv_icmp_eq (tgt := 36) hx hb dX6_leastWornFree_23 (by decide) (fun c_94 => absurd c_94 (by decide)) (fun c_94 => ?_)
  refine lv_aload_n hx hb dX6_leastWornFree_26 rfl (lv_at hl 3 rfl) ?_
  refine va_get (D := D) (ci := 6) (v := .ref drp2) (C := RX6) (T := TX6) (N := 17) hx hb hu in_X6 hown hK.1 hP 0 rfl rfl 8 (by decide) (hu _ u_211) (fun _ h9 => h9) rfl dX6_leastWornFree_27 ?_
  refine lv_iload_n hx hb dX6_leastWornFree_30 rfl (lv_at hl 0 rfl) ?_
  refine va_iald hx hb hK.1 hP 2 0 rfl rfl (vin_c _ _ rfl) dX6_leastWornFree_31 ?_
  refine tpi (y := 0) (z_f_drp2 _ (cl_lt (vin_c _ _ rfl))) ?_
  refine lv_iload_n hx hb dX6_leastWornFree_32 rfl (lv_at hl 1 rfl) ?_
  refine lv_icmp_ge (tgt := 45) hx hb dX6_leastWornFree_33 (by decide) (fun c_95 => ?_) (fun c_95 => absurd (by decide) c_95)
  refine lv_iinc (v := 24) (lv' := [(3, .int 24), (2, .int 0), (1, .int 0), (0, .ref drp)]) hx hb dX6_leastWornFree_45 hl (k := 0) rfl (by decide) (by decide) rfl (fun ls hl => ?_)
  refine lv_goto (tgt := 6) hx hb dX6_leastWornFree_48 (by decide) ?_
  refine lv_iload_n hx hb dX6_leastWornFree_6 rfl (lv_at hl 0 rfl) ?_
  refine lv_bipush (v := 24) hx hb dX6_leastWornFree_7 (by decide) ?_
  refine lv_icmp_ge (tgt := 51) hx hb dX6_leastWornFree_9 (by decide) (fun c_96 => ?_) (fun c_96 => absurd (by decide) c_96)
  refine lv_iload_n hx hb dX6_leastWornFree_51 rfl (lv_at hl 2 rfl) ?_
  exact hz () hP hD hS rfl [0, 1, 2] rfl rfl (Nat.le_of_ble_eq_true rfl) (Nat.le_of_ble_eq_true rfl) .int rfl rfl dX6_leastWornFree_52
abbrev rm_c_X6_placeToPut : Room := { frames := 1, cells := 0, slots := 0, locals := 26 }
set_option maxHeartbeats 4000000 in
set_option maxRecDepth 100000 in
theorem c_X6_placeToPut (l : Launch) (D : va_G) (cs : Nat → ClassId) (sz : Nat) (drp : Nat) (drp1 : Nat) (f_drp1 : Nat → Int32) (drp2 : Nat) (f_drp2 : Nat → Int32) (drp3 : Nat) (drp4 : Nat) (drp5 : Nat) (drp6 : Nat) (drp7 : Nat) (drp8 : Nat) (drp9 : Nat) (drp10 : Nat) (x : Int32) (z_f_drp1 : ∀ j, j < 24 → f_drp1 j = 0) (z_f_drp2 : ∀ j, j < 24 → f_drp2 j = 0) : cMi l yX6_placeToPut (Cond.code yX6_placeToPut cX6_placeToPut 3 (some .int)) (rm_c_X6_placeToPut) D cs [.ref drp, .int x] sz [(drp, .inr (6, [.int 0, .int 0, .int (-1), .int 0, .int 0, .int 0, .int 240, .ref drp1, .ref drp2, .ref drp3, .ref drp4, .ref drp5, .ref drp6, .ref drp7, .ref drp8, .ref drp9, .ref drp10])), (drp1, aI cs 24 f_drp1), (drp2, aI cs 24 f_drp2)] (fun (r : Int32) (u : Unit) => (r = 0)) (fun (u : Unit) => [(drp, .inr (6, [.int 0, .int 0, .int (-1), .int 0, .int 0, .int 0, .int 240, .ref drp1, .ref drp2, .ref drp3, .ref drp4, .ref drp5, .ref drp6, .ref drp7, .ref drp8, .ref drp9, .ref drp10])), (drp1, aI cs 24 f_drp1), (drp2, aI cs 24 f_drp2)]) := by
  refine kMet_i RX6 (by decide) rfl (Nat.le_of_ble_eq_true rfl) ?_
  intro p e s m below meth c ls A Qz H locs hx hb hml hown hin hu hK hsz hA hP hD hS hl hz
  subst hsz
  have hl : lv_has ls 3 [(0, .ref drp), (1, .int x)] := hl
  refine lv_aload_n hx hb dX6_placeToPut_0 rfl (lv_at hl 0 rfl) ?_
  refine lv_iload_n hx hb dX6_placeToPut_1 rfl (lv_at hl 1 rfl) ?_
  refine lv_iconst (v := (-1)) hx hb dX6_placeToPut_2 (by decide) ?_
  refine kV_i (ci := 6) (As := [.int x, .int (-1)]) (rest := []) (wc := [(drp, .inr (6, [.int 0, .int 0, .int (-1), .int 0, .int 0, .int 0, .int 240, .ref drp1, .ref drp2, .ref drp3, .ref drp4, .ref drp5, .ref drp6, .ref drp7, .ref drp8, .ref drp9, .ref drp10])), (drp1, aI cs 24 f_drp1)]) (wr := [(drp2, aI cs 24 f_drp2)]) hx hb hml hown hu hK hP hD hS hA hl.1 (c_X6_fitting l D cs H.size drp drp1 f_drp1 drp2 drp3 drp4 drp5 drp6 drp7 drp8 drp9 drp10 x z_f_drp1) (gV u_441 u_442 u_443 u_72 u_444) hd_X6_fitting ⟨(Nat.le_of_ble_eq_true rfl), (Nat.le_of_ble_eq_true rfl)⟩ [0, 1] [2] rfl rfl rfl rfl (by decide) rfl 0 rfl rfl rfl (Nat.le_of_ble_eq_true rfl) dX6_placeToPut_3 ⟨(Nat.le_of_ble_eq_true rfl), (Nat.le_of_ble_eq_true rfl)⟩ (fun r_1 ut_2 H locs hw_3 hP hD hS => ?_)
  have hP : va_P D vwCl [(drp2, aI cs 24 f_drp2), (drp, .inr (6, [.int 0, .int 0, .int (-1), .int 0, .int 0, .int 0, .int 240, .ref drp1, .ref drp2, .ref drp3, .ref drp4, .ref drp5, .ref drp6, .ref drp7, .ref drp8, .ref drp9, .ref drp10])), (drp1, aI cs 24 f_drp1)] H := hP
  have hD : va_D A [(drp2, aI cs 24 f_drp2), (drp, .inr (6, [.int 0, .int 0, .int (-1), .int 0, .int 0, .int 0, .int 240, .ref drp1, .ref drp2, .ref drp3, .ref drp4, .ref drp5, .ref drp6, .ref drp7, .ref drp8, .ref drp9, .ref drp10])), (drp1, aI cs 24 f_drp1)] := hD
  have er_4 := hw_3
  subst er_4
  refine lv_istore_n (lv' := [(2, .int (-1)), (0, .ref drp), (1, .int x)]) hx hb dX6_placeToPut_6 rfl hl (by decide) rfl (fun ls hl => ?_)
  refine lv_iload_n hx hb dX6_placeToPut_7 rfl (lv_at hl 0 rfl) ?_
  refine lv_iconst (v := (-1)) hx hb dX6_placeToPut_8 (by decide) ?_
  refine lv_icmp_ne (tgt := 20) hx hb dX6_placeToPut_9 (by decide) (fun c_5 => absurd (by decide) c_5) (fun c_5 => ?_)
  refine lv_aload_n hx hb dX6_placeToPut_12 rfl (lv_at hl 1 rfl) ?_
  refine kV_i (ci := 6) (As := []) (rest := []) (wc := [(drp, .inr (6, [.int 0, .int 0, .int (-1), .int 0, .int 0, .int 0, .int 240, .ref drp1, .ref drp2, .ref drp3, .ref drp4, .ref drp5, .ref drp6, .ref drp7, .ref drp8, .ref drp9, .ref drp10])), (drp1, aI cs 24 f_drp1)]) (wr := [(drp2, aI cs 24 f_drp2)]) hx hb hml hown hu hK hP hD hS hA hl.1 (c_X6_freePages l D cs H.size drp drp1 f_drp1 drp2 drp3 drp4 drp5 drp6 drp7 drp8 drp9 drp10 0 0 (-1) 0 0 0 240 z_f_drp1) (gV u_445 u_446 u_447 u_72 u_448) hd_X6_freePages ⟨(Nat.le_of_ble_eq_true rfl), (Nat.le_of_ble_eq_true rfl)⟩ [1, 2] [0] rfl rfl rfl rfl (by decide) rfl 0 rfl rfl rfl (Nat.le_of_ble_eq_true rfl) dX6_placeToPut_13 ⟨(Nat.le_of_ble_eq_true rfl), (Nat.le_of_ble_eq_true rfl)⟩ (fun r_6 ut_7 H locs hw_8 hP hD hS => ?_)
  have hP : va_P D vwCl [(drp2, aI cs 24 f_drp2), (drp, .inr (6, [.int 0, .int 0, .int (-1), .int 0, .int 0, .int 0, .int 240, .ref drp1, .ref drp2, .ref drp3, .ref drp4, .ref drp5, .ref drp6, .ref drp7, .ref drp8, .ref drp9, .ref drp10])), (drp1, aI cs 24 f_drp1)] H := hP
  have hD : va_D A [(drp2, aI cs 24 f_drp2), (drp, .inr (6, [.int 0, .int 0, .int (-1), .int 0, .int 0, .int 0, .int 240, .ref drp1, .ref drp2, .ref drp3, .ref drp4, .ref drp5, .ref drp6, .ref drp7, .ref drp8, .ref drp9, .ref drp10])), (drp1, aI cs 24 f_drp1)] := hD
  have er_9 := hw_8
  subst er_9
  refine lv_iconst (v := 2) hx hb dX6_placeToPut_16 (by decide) ?_
  refine lv_icmp_ge (tgt := 24) hx hb dX6_placeToPut_17 (by decide) (fun c_10 => ?_) (fun c_10 => absurd (by decide) c_10)
  refine lv_aload_n hx hb dX6_placeToPut_24 rfl (lv_at hl 1 rfl) ?_
  refine kV_i (ci := 6) (As := []) (rest := []) (wc := [(drp, .inr (6, [.int 0, .int 0, .int (-1), .int 0, .int 0, .int 0, .int 240, .ref drp1, .ref drp2, .ref drp3, .ref drp4, .ref drp5, .ref drp6, .ref drp7, .ref drp8, .ref drp9, .ref drp10])), (drp1, aI cs 24 f_drp1), (drp2, aI cs 24 f_drp2)]) (wr := []) hx hb hml hown hu hK hP hD hS hA hl.1 (c_X6_leastWornFree l D cs H.size drp drp1 f_drp1 drp2 f_drp2 drp3 drp4 drp5 drp6 drp7 drp8 drp9 drp10 z_f_drp1 z_f_drp2) (gV u_449 u_450 u_451 u_72 u_452) hd_X6_leastWornFree ⟨(Nat.le_of_ble_eq_true rfl), (Nat.le_of_ble_eq_true rfl)⟩ [1, 2, 0] [] rfl rfl rfl rfl (by decide) rfl 0 rfl rfl rfl (Nat.le_of_ble_eq_true rfl) dX6_placeToPut_25 ⟨(Nat.le_of_ble_eq_true rfl), (Nat.le_of_ble_eq_true rfl)⟩ (fun r_11 ut_12 H locs hw_13 hP hD hS => ?_)
  have hP : va_P D vwCl [(drp, .inr (6, [.int 0, .int 0, .int (-1), .int 0, .int 0, .int 0, .int 240, .ref drp1, .ref drp2, .ref drp3, .ref drp4, .ref drp5, .ref drp6, .ref drp7, .ref drp8, .ref drp9, .ref drp10])), (drp1, aI cs 24 f_drp1), (drp2, aI cs 24 f_drp2)] H := hP
  have hD : va_D A [(drp, .inr (6, [.int 0, .int 0, .int (-1), .int 0, .int 0, .int 0, .int 240, .ref drp1, .ref drp2, .ref drp3, .ref drp4, .ref drp5, .ref drp6, .ref drp7, .ref drp8, .ref drp9, .ref drp10])), (drp1, aI cs 24 f_drp1), (drp2, aI cs 24 f_drp2)] := hD
  have er_14 := hw_13
  subst er_14
  exact hz () hP hD hS rfl [0, 1, 2] rfl rfl (Nat.le_of_ble_eq_true rfl) (Nat.le_of_ble_eq_true rfl) .int rfl rfl dX6_placeToPut_28
abbrev rm_c_X6_makeRoom : Room := { frames := 2, cells := 0, slots := 0, locals := 48 }
set_option maxHeartbeats 4000000 in
set_option maxRecDepth 100000 in
theorem c_X6_makeRoom (l : Launch) (D : va_G) (cs : Nat → ClassId) (sz : Nat) (drp : Nat) (drp1 : Nat) (f_drp1 : Nat → Int32) (drp2 : Nat) (f_drp2 : Nat → Int32) (drp3 : Nat) (drp4 : Nat) (drp5 : Nat) (drp6 : Nat) (drp7 : Nat) (drp8 : Nat) (drp9 : Nat) (drp10 : Nat) (x : Int32) (z_f_drp1 : ∀ j, j < 24 → f_drp1 j = 0) (z_f_drp2 : ∀ j, j < 24 → f_drp2 j = 0) : cMi l yX6_makeRoom (Cond.code yX6_makeRoom cX6_makeRoom 5 (some .int)) (rm_c_X6_makeRoom) D cs [.ref drp, .int x] sz [(drp, .inr (6, [.int 0, .int 0, .int (-1), .int 0, .int 0, .int 0, .int 240, .ref drp1, .ref drp2, .ref drp3, .ref drp4, .ref drp5, .ref drp6, .ref drp7, .ref drp8, .ref drp9, .ref drp10])), (drp1, aI cs 24 f_drp1), (drp2, aI cs 24 f_drp2)] (fun (r : Int32) (u : Unit) => (r = 0)) (fun (u : Unit) => [(drp, .inr (6, [.int 0, .int 0, .int (-1), .int 0, .int 0, .int 0, .int 240, .ref drp1, .ref drp2, .ref drp3, .ref drp4, .ref drp5, .ref drp6, .ref drp7, .ref drp8, .ref drp9, .ref drp10])), (drp1, aI cs 24 f_drp1), (drp2, aI cs 24 f_drp2)]) := by
  refine kMet_i RX6 (by decide) rfl (Nat.le_of_ble_eq_true rfl) ?_
  intro p e s m below meth c ls A Qz H locs hx hb hml hown hin hu hK hsz hA hP hD hS hl hz
  subst hsz
  have hl : lv_has ls 5 [(0, .ref drp), (1, .int x)] := hl
  refine lv_aload_n hx hb dX6_makeRoom_0 rfl (lv_at hl 0 rfl) ?_
  refine lv_iload_n hx hb dX6_makeRoom_1 rfl (lv_at hl 1 rfl) ?_
  refine kV_i (ci := 6) (As := [.int x]) (rest := []) (wc := [(drp, .inr (6, [.int 0, .int 0, .int (-1), .int 0, .int 0, .int 0, .int 240, .ref drp1, .ref drp2, .ref drp3, .ref drp4, .ref drp5, .ref drp6, .ref drp7, .ref drp8, .ref drp9, .ref drp10])), (drp1, aI cs 24 f_drp1), (drp2, aI cs 24 f_drp2)]) (wr := []) hx hb hml hown hu hK hP hD hS hA hl.1 (c_X6_placeToPut l D cs H.size drp drp1 f_drp1 drp2 f_drp2 drp3 drp4 drp5 drp6 drp7 drp8 drp9 drp10 x z_f_drp1 z_f_drp2) (gV u_437 u_438 u_439 u_72 u_440) hd_X6_placeToPut ⟨(Nat.le_of_ble_eq_true rfl), (Nat.le_of_ble_eq_true rfl)⟩ [0, 1, 2] [] rfl rfl rfl rfl (by decide) rfl 0 rfl rfl rfl (Nat.le_of_ble_eq_true rfl) dX6_makeRoom_2 ⟨(Nat.le_of_ble_eq_true rfl), (Nat.le_of_ble_eq_true rfl)⟩ (fun r_1 ut_2 H locs hw_3 hP hD hS => ?_)
  have hP : va_P D vwCl [(drp, .inr (6, [.int 0, .int 0, .int (-1), .int 0, .int 0, .int 0, .int 240, .ref drp1, .ref drp2, .ref drp3, .ref drp4, .ref drp5, .ref drp6, .ref drp7, .ref drp8, .ref drp9, .ref drp10])), (drp1, aI cs 24 f_drp1), (drp2, aI cs 24 f_drp2)] H := hP
  have hD : va_D A [(drp, .inr (6, [.int 0, .int 0, .int (-1), .int 0, .int 0, .int 0, .int 240, .ref drp1, .ref drp2, .ref drp3, .ref drp4, .ref drp5, .ref drp6, .ref drp7, .ref drp8, .ref drp9, .ref drp10])), (drp1, aI cs 24 f_drp1), (drp2, aI cs 24 f_drp2)] := hD
  have er_4 := hw_3
  subst er_4
  refine lv_istore_n (lv' := [(2, .int 0), (0, .ref drp), (1, .int x)]) hx hb dX6_makeRoom_5 rfl hl (by decide) rfl (fun ls hl => ?_)
  refine lv_iconst (v := 0) hx hb dX6_makeRoom_6 (by decide) ?_
  refine lv_istore_n (lv' := [(3, .int 0), (2, .int 0), (0, .ref drp), (1, .int x)]) hx hb dX6_makeRoom_7 rfl hl (by decide) rfl (fun ls hl => ?_)
  refine lv_iload_n hx hb dX6_makeRoom_8 rfl (lv_at hl 0 rfl) ?_
  refine lv_bipush (v := 24) hx hb dX6_makeRoom_9 (by decide) ?_
  refine lv_icmp_ge (tgt := 56) hx hb dX6_makeRoom_11 (by decide) (fun c_5 => absurd c_5 (by decide)) (fun c_5 => ?_)
  refine lv_iload_n hx hb dX6_makeRoom_14 rfl (lv_at hl 1 rfl) ?_
  refine lv_iconst (v := (-1)) hx hb dX6_makeRoom_15 (by decide) ?_
  refine lv_icmp_ne (tgt := 56) hx hb dX6_makeRoom_16 (by decide) (fun c_6 => ?_) (fun c_6 => absurd c_6 (by decide))
  refine lv_iload_n hx hb dX6_makeRoom_56 rfl (lv_at hl 1 rfl) ?_
  exact hz () hP hD hS rfl [0, 1, 2] rfl rfl (Nat.le_of_ble_eq_true rfl) (Nat.le_of_ble_eq_true rfl) .int rfl rfl dX6_makeRoom_57
abbrev rm_c_X6_surelyFit : Room := { frames := 1, cells := 0, slots := 0, locals := 22 }
set_option maxHeartbeats 4000000 in
set_option maxRecDepth 100000 in
theorem c_X6_surelyFit (l : Launch) (D : va_G) (cs : Nat → ClassId) (sz : Nat) (drp : Nat) (drp1 : Nat) (f_drp1 : Nat → Int32) (drp2 : Nat) (drp3 : Nat) (drp4 : Nat) (drp5 : Nat) (drp6 : Nat) (drp7 : Nat) (drp8 : Nat) (drp9 : Nat) (drp10 : Nat) (x : Int32) (z_f_drp1 : ∀ j, j < 24 → f_drp1 j = 0) : cMi l yX6_surelyFit (Cond.code yX6_surelyFit cX6_surelyFit 4 (some .int)) (rm_c_X6_surelyFit) D cs [.ref drp, .int x] sz [(drp, .inr (6, [.int 0, .int 0, .int (-1), .int 0, .int 0, .int 0, .int 240, .ref drp1, .ref drp2, .ref drp3, .ref drp4, .ref drp5, .ref drp6, .ref drp7, .ref drp8, .ref drp9, .ref drp10])), (drp1, aI cs 24 f_drp1)] (fun (r : Int32) (u : Unit) => ((r = 0) ∧ (x < 1)) ∨ ((r = (23 * (64 / x))) ∧ (¬ x < 1))) (fun (u : Unit) => [(drp, .inr (6, [.int 0, .int 0, .int (-1), .int 0, .int 0, .int 0, .int 240, .ref drp1, .ref drp2, .ref drp3, .ref drp4, .ref drp5, .ref drp6, .ref drp7, .ref drp8, .ref drp9, .ref drp10])), (drp1, aI cs 24 f_drp1)]) := by
  refine kMet_i RX6 (by decide) rfl (Nat.le_of_ble_eq_true rfl) ?_
  intro p e s m below meth c ls A Qz H locs hx hb hml hown hin hu hK hsz hA hP hD hS hl hz
  subst hsz
  have hl : lv_has ls 4 [(0, .ref drp), (1, .int x)] := hl
  refine lv_iload_n hx hb dX6_surelyFit_0 rfl (lv_at hl 1 rfl) ?_
  refine lv_iconst (v := 1) hx hb dX6_surelyFit_1 (by decide) ?_
  refine lv_icmp_ge (tgt := 7) hx hb dX6_surelyFit_2 (by decide) (fun c_1 => ?_) (fun c_1 => ?_)
  · refine lv_iconst (v := 0) hx hb dX6_surelyFit_7 (by decide) ?_
    refine lv_aload_n hx hb dX6_surelyFit_8 rfl (lv_at hl 0 rfl) ?_
    refine kV_i (ci := 6) (As := []) (rest := [.int 0]) (wc := [(drp, .inr (6, [.int 0, .int 0, .int (-1), .int 0, .int 0, .int 0, .int 240, .ref drp1, .ref drp2, .ref drp3, .ref drp4, .ref drp5, .ref drp6, .ref drp7, .ref drp8, .ref drp9, .ref drp10])), (drp1, aI cs 24 f_drp1)]) (wr := []) hx hb hml hown hu hK hP hD hS hA hl.1 (c_X6_freePages l D cs H.size drp drp1 f_drp1 drp2 drp3 drp4 drp5 drp6 drp7 drp8 drp9 drp10 0 0 (-1) 0 0 0 240 z_f_drp1) (gV u_445 u_446 u_447 u_72 u_448) hd_X6_freePages ⟨(Nat.le_of_ble_eq_true rfl), (Nat.le_of_ble_eq_true rfl)⟩ [0, 1] [] rfl rfl rfl rfl (by decide) rfl 0 rfl rfl rfl (Nat.le_of_ble_eq_true rfl) dX6_surelyFit_9 ⟨(Nat.le_of_ble_eq_true rfl), (Nat.le_of_ble_eq_true rfl)⟩ (fun r_2 ut_3 H locs hw_4 hP hD hS => ?_)
    have hP : va_P D vwCl [(drp, .inr (6, [.int 0, .int 0, .int (-1), .int 0, .int 0, .int 0, .int 240, .ref drp1, .ref drp2, .ref drp3, .ref drp4, .ref drp5, .ref drp6, .ref drp7, .ref drp8, .ref drp9, .ref drp10])), (drp1, aI cs 24 f_drp1)] H := hP
    have hD : va_D A [(drp, .inr (6, [.int 0, .int 0, .int (-1), .int 0, .int 0, .int 0, .int 240, .ref drp1, .ref drp2, .ref drp3, .ref drp4, .ref drp5, .ref drp6, .ref drp7, .ref drp8, .ref drp9, .ref drp10])), (drp1, aI cs 24 f_drp1)] := hD
    have er_5 := hw_4
    subst er_5
    refine lv_iconst (v := 1) hx hb dX6_surelyFit_12 (by decide) ?_
    refine lv_isub hx hb dX6_surelyFit_13 ?_
    refine tpi (y := 23) (by decide) ?_
    refine va_mmax hx hb (hml.trans hl.1.symm) hown (hu _ u_976) (hu _ u_93) (hu _ u_68) (hu _ u_94) (Nat.le_of_ble_eq_true rfl) (Nat.le_of_ble_eq_true rfl) (Nat.le_of_ble_eq_true rfl) (Nat.le_of_ble_eq_true rfl) dX6_surelyFit_14 ?_
    refine tpi (y := 23) (by decide) ?_
    refine lv_bipush (v := 64) hx hb dX6_surelyFit_17 (by decide) ?_
    refine lv_iload_n hx hb dX6_surelyFit_19 rfl (lv_at hl 1 rfl) ?_
    refine lv_idiv hx hb dX6_surelyFit_20 (by grind) ?_
    refine lv_imul hx hb dX6_surelyFit_21 ?_
    refine lv_istore_n (lv' := [(2, .int (23 * (64 / x))), (0, .ref drp), (1, .int x)]) hx hb dX6_surelyFit_22 rfl hl (by decide) rfl (fun ls hl => ?_)
    refine lv_iconst (v := 0) hx hb dX6_surelyFit_23 (by decide) ?_
    refine lv_istore_n (lv' := [(3, .int 0), (2, .int (23 * (64 / x))), (0, .ref drp), (1, .int x)]) hx hb dX6_surelyFit_24 rfl hl (by decide) rfl (fun ls hl => ?_)
    refine lv_iload_n hx hb dX6_surelyFit_25 rfl (lv_at hl 0 rfl) ?_
    refine lv_bipush (v := 24) hx hb dX6_surelyFit_26 (by decide) ?_
    refine lv_icmp_ge (tgt := 75) hx hb dX6_surelyFit_28 (by decide) (fun c_6 => absurd c_6 (by decide)) (fun c_6 => ?_)
    refine lv_aload_n hx hb dX6_surelyFit_31 rfl (lv_at hl 2 rfl) ?_
    refine va_get (D := D) (ci := 6) (v := .ref drp1) (C := RX6) (T := TX6) (N := 17) hx hb hu in_X6 hown hK.1 hP 0 rfl rfl 7 (by decide) (hu _ u_210) (fun _ h9 => h9) rfl dX6_surelyFit_32 ?_
    refine lv_iload_n hx hb dX6_surelyFit_35 rfl (lv_at hl 0 rfl) ?_
    refine va_iald hx hb hK.1 hP 1 0 rfl rfl (vin_c _ _ rfl) dX6_surelyFit_36 ?_
    refine tpi (y := 0) (z_f_drp1 _ (cl_lt (vin_c _ _ rfl))) ?_
    refine lv_if_le (tgt := 69) hx hb dX6_surelyFit_37 (by decide) (fun c_7 => ?_) (fun c_7 => absurd (by decide) c_7)
    refine lv_iinc (v := 1) (lv' := [(3, .int 1), (2, .int (23 * (64 / x))), (0, .ref drp), (1, .int x)]) hx hb dX6_surelyFit_69 hl (k := 0) rfl (by decide) (by decide) rfl (fun ls hl => ?_)
    refine lv_goto (tgt := 25) hx hb dX6_surelyFit_72 (by decide) ?_
    refine lv_iload_n hx hb dX6_surelyFit_25 rfl (lv_at hl 0 rfl) ?_
    refine lv_bipush (v := 24) hx hb dX6_surelyFit_26 (by decide) ?_
    refine lv_icmp_ge (tgt := 75) hx hb dX6_surelyFit_28 (by decide) (fun c_8 => absurd c_8 (by decide)) (fun c_8 => ?_)
    refine lv_aload_n hx hb dX6_surelyFit_31 rfl (lv_at hl 2 rfl) ?_
    refine va_get (D := D) (ci := 6) (v := .ref drp1) (C := RX6) (T := TX6) (N := 17) hx hb hu in_X6 hown hK.1 hP 0 rfl rfl 7 (by decide) (hu _ u_210) (fun _ h9 => h9) rfl dX6_surelyFit_32 ?_
    refine lv_iload_n hx hb dX6_surelyFit_35 rfl (lv_at hl 0 rfl) ?_
    refine va_iald hx hb hK.1 hP 1 0 rfl rfl (vin_c _ _ rfl) dX6_surelyFit_36 ?_
    refine tpi (y := 0) (z_f_drp1 _ (cl_lt (vin_c _ _ rfl))) ?_
    refine lv_if_le (tgt := 69) hx hb dX6_surelyFit_37 (by decide) (fun c_9 => ?_) (fun c_9 => absurd (by decide) c_9)
    refine lv_iinc (v := 2) (lv' := [(3, .int 2), (2, .int (23 * (64 / x))), (0, .ref drp), (1, .int x)]) hx hb dX6_surelyFit_69 hl (k := 0) rfl (by decide) (by decide) rfl (fun ls hl => ?_)
    refine lv_goto (tgt := 25) hx hb dX6_surelyFit_72 (by decide) ?_
    refine lv_iload_n hx hb dX6_surelyFit_25 rfl (lv_at hl 0 rfl) ?_
    refine lv_bipush (v := 24) hx hb dX6_surelyFit_26 (by decide) ?_
    refine lv_icmp_ge (tgt := 75) hx hb dX6_surelyFit_28 (by decide) (fun c_10 => absurd c_10 (by decide)) (fun c_10 => ?_)
    refine lv_aload_n hx hb dX6_surelyFit_31 rfl (lv_at hl 2 rfl) ?_
    refine va_get (D := D) (ci := 6) (v := .ref drp1) (C := RX6) (T := TX6) (N := 17) hx hb hu in_X6 hown hK.1 hP 0 rfl rfl 7 (by decide) (hu _ u_210) (fun _ h9 => h9) rfl dX6_surelyFit_32 ?_
    refine lv_iload_n hx hb dX6_surelyFit_35 rfl (lv_at hl 0 rfl) ?_
    refine va_iald hx hb hK.1 hP 1 0 rfl rfl (vin_c _ _ rfl) dX6_surelyFit_36 ?_
    refine tpi (y := 0) (z_f_drp1 _ (cl_lt (vin_c _ _ rfl))) ?_
    refine lv_if_le (tgt := 69) hx hb dX6_surelyFit_37 (by decide) (fun c_11 => ?_) (fun c_11 => absurd (by decide) c_11)
    refine lv_iinc (v := 3) (lv' := [(3, .int 3), (2, .int (23 * (64 / x))), (0, .ref drp), (1, .int x)]) hx hb dX6_surelyFit_69 hl (k := 0) rfl (by decide) (by decide) rfl (fun ls hl => ?_)
    refine lv_goto (tgt := 25) hx hb dX6_surelyFit_72 (by decide) ?_
    refine lv_iload_n hx hb dX6_surelyFit_25 rfl (lv_at hl 0 rfl) ?_
    refine lv_bipush (v := 24) hx hb dX6_surelyFit_26 (by decide) ?_
    refine lv_icmp_ge (tgt := 75) hx hb dX6_surelyFit_28 (by decide) (fun c_12 => absurd c_12 (by decide)) (fun c_12 => ?_)
    refine lv_aload_n hx hb dX6_surelyFit_31 rfl (lv_at hl 2 rfl) ?_
    refine va_get (D := D) (ci := 6) (v := .ref drp1) (C := RX6) (T := TX6) (N := 17) hx hb hu in_X6 hown hK.1 hP 0 rfl rfl 7 (by decide) (hu _ u_210) (fun _ h9 => h9) rfl dX6_surelyFit_32 ?_
    refine lv_iload_n hx hb dX6_surelyFit_35 rfl (lv_at hl 0 rfl) ?_
    refine va_iald hx hb hK.1 hP 1 0 rfl rfl (vin_c _ _ rfl) dX6_surelyFit_36 ?_
    refine tpi (y := 0) (z_f_drp1 _ (cl_lt (vin_c _ _ rfl))) ?_
    refine lv_if_le (tgt := 69) hx hb dX6_surelyFit_37 (by decide) (fun c_13 => ?_) (fun c_13 => absurd (by decide) c_13)
    refine lv_iinc (v := 4) (lv' := [(3, .int 4), (2, .int (23 * (64 / x))), (0, .ref drp), (1, .int x)]) hx hb dX6_surelyFit_69 hl (k := 0) rfl (by decide) (by decide) rfl (fun ls hl => ?_)
    refine lv_goto (tgt := 25) hx hb dX6_surelyFit_72 (by decide) ?_
    refine lv_iload_n hx hb dX6_surelyFit_25 rfl (lv_at hl 0 rfl) ?_
    refine lv_bipush (v := 24) hx hb dX6_surelyFit_26 (by decide) ?_
    refine lv_icmp_ge (tgt := 75) hx hb dX6_surelyFit_28 (by decide) (fun c_14 => absurd c_14 (by decide)) (fun c_14 => ?_)
    refine lv_aload_n hx hb dX6_surelyFit_31 rfl (lv_at hl 2 rfl) ?_
    refine va_get (D := D) (ci := 6) (v := .ref drp1) (C := RX6) (T := TX6) (N := 17) hx hb hu in_X6 hown hK.1 hP 0 rfl rfl 7 (by decide) (hu _ u_210) (fun _ h9 => h9) rfl dX6_surelyFit_32 ?_
    refine lv_iload_n hx hb dX6_surelyFit_35 rfl (lv_at hl 0 rfl) ?_
    refine va_iald hx hb hK.1 hP 1 0 rfl rfl (vin_c _ _ rfl) dX6_surelyFit_36 ?_
    refine tpi (y := 0) (z_f_drp1 _ (cl_lt (vin_c _ _ rfl))) ?_
    refine lv_if_le (tgt := 69) hx hb dX6_surelyFit_37 (by decide) (fun c_15 => ?_) (fun c_15 => absurd (by decide) c_15)
    refine lv_iinc (v := 5) (lv' := [(3, .int 5), (2, .int (23 * (64 / x))), (0, .ref drp), (1, .int x)]) hx hb dX6_surelyFit_69 hl (k := 0) rfl (by decide) (by decide) rfl (fun ls hl => ?_)
    refine lv_goto (tgt := 25) hx hb dX6_surelyFit_72 (by decide) ?_
    refine lv_iload_n hx hb dX6_surelyFit_25 rfl (lv_at hl 0 rfl) ?_
    refine lv_bipush (v := 24) hx hb dX6_surelyFit_26 (by decide) ?_
    refine lv_icmp_ge (tgt := 75) hx hb dX6_surelyFit_28 (by decide) (fun c_16 => absurd c_16 (by decide)) (fun c_16 => ?_)
    refine lv_aload_n hx hb dX6_surelyFit_31 rfl (lv_at hl 2 rfl) ?_
    refine va_get (D := D) (ci := 6) (v := .ref drp1) (C := RX6) (T := TX6) (N := 17) hx hb hu in_X6 hown hK.1 hP 0 rfl rfl 7 (by decide) (hu _ u_210) (fun _ h9 => h9) rfl dX6_surelyFit_32 ?_
    refine lv_iload_n hx hb dX6_surelyFit_35 rfl (lv_at hl 0 rfl) ?_
    refine va_iald hx hb hK.1 hP 1 0 rfl rfl (vin_c _ _ rfl) dX6_surelyFit_36 ?_
    refine tpi (y := 0) (z_f_drp1 _ (cl_lt (vin_c _ _ rfl))) ?_
    refine lv_if_le (tgt := 69) hx hb dX6_surelyFit_37 (by decide) (fun c_17 => ?_) (fun c_17 => absurd (by decide) c_17)
    refine lv_iinc (v := 6) (lv' := [(3, .int 6), (2, .int (23 * (64 / x))), (0, .ref drp), (1, .int x)]) hx hb dX6_surelyFit_69 hl (k := 0) rfl (by decide) (by decide) rfl (fun ls hl => ?_)
    refine lv_goto (tgt := 25) hx hb dX6_surelyFit_72 (by decide) ?_
    refine lv_iload_n hx hb dX6_surelyFit_25 rfl (lv_at hl 0 rfl) ?_
    refine lv_bipush (v := 24) hx hb dX6_surelyFit_26 (by decide) ?_
    refine lv_icmp_ge (tgt := 75) hx hb dX6_surelyFit_28 (by decide) (fun c_18 => absurd c_18 (by decide)) (fun c_18 => ?_)
    refine lv_aload_n hx hb dX6_surelyFit_31 rfl (lv_at hl 2 rfl) ?_
    refine va_get (D := D) (ci := 6) (v := .ref drp1) (C := RX6) (T := TX6) (N := 17) hx hb hu in_X6 hown hK.1 hP 0 rfl rfl 7 (by decide) (hu _ u_210) (fun _ h9 => h9) rfl dX6_surelyFit_32 ?_
    refine lv_iload_n hx hb dX6_surelyFit_35 rfl (lv_at hl 0 rfl) ?_
    refine va_iald hx hb hK.1 hP 1 0 rfl rfl (vin_c _ _ rfl) dX6_surelyFit_36 ?_
    refine tpi (y := 0) (z_f_drp1 _ (cl_lt (vin_c _ _ rfl))) ?_
    refine lv_if_le (tgt := 69) hx hb dX6_surelyFit_37 (by decide) (fun c_19 => ?_) (fun c_19 => absurd (by decide) c_19)
    refine lv_iinc (v := 7) (lv' := [(3, .int 7), (2, .int (23 * (64 / x))), (0, .ref drp), (1, .int x)]) hx hb dX6_surelyFit_69 hl (k := 0) rfl (by decide) (by decide) rfl (fun ls hl => ?_)
    refine lv_goto (tgt := 25) hx hb dX6_surelyFit_72 (by decide) ?_
    refine lv_iload_n hx hb dX6_surelyFit_25 rfl (lv_at hl 0 rfl) ?_
    refine lv_bipush (v := 24) hx hb dX6_surelyFit_26 (by decide) ?_
    refine lv_icmp_ge (tgt := 75) hx hb dX6_surelyFit_28 (by decide) (fun c_20 => absurd c_20 (by decide)) (fun c_20 => ?_)
    refine lv_aload_n hx hb dX6_surelyFit_31 rfl (lv_at hl 2 rfl) ?_
    refine va_get (D := D) (ci := 6) (v := .ref drp1) (C := RX6) (T := TX6) (N := 17) hx hb hu in_X6 hown hK.1 hP 0 rfl rfl 7 (by decide) (hu _ u_210) (fun _ h9 => h9) rfl dX6_surelyFit_32 ?_
    refine lv_iload_n hx hb dX6_surelyFit_35 rfl (lv_at hl 0 rfl) ?_
    refine va_iald hx hb hK.1 hP 1 0 rfl rfl (vin_c _ _ rfl) dX6_surelyFit_36 ?_
    refine tpi (y := 0) (z_f_drp1 _ (cl_lt (vin_c _ _ rfl))) ?_
    refine lv_if_le (tgt := 69) hx hb dX6_surelyFit_37 (by decide) (fun c_21 => ?_) (fun c_21 => absurd (by decide) c_21)
    refine lv_iinc (v := 8) (lv' := [(3, .int 8), (2, .int (23 * (64 / x))), (0, .ref drp), (1, .int x)]) hx hb dX6_surelyFit_69 hl (k := 0) rfl (by decide) (by decide) rfl (fun ls hl => ?_)
    refine lv_goto (tgt := 25) hx hb dX6_surelyFit_72 (by decide) ?_
    refine lv_iload_n hx hb dX6_surelyFit_25 rfl (lv_at hl 0 rfl) ?_
    refine lv_bipush (v := 24) hx hb dX6_surelyFit_26 (by decide) ?_
    refine lv_icmp_ge (tgt := 75) hx hb dX6_surelyFit_28 (by decide) (fun c_22 => absurd c_22 (by decide)) (fun c_22 => ?_)
    refine lv_aload_n hx hb dX6_surelyFit_31 rfl (lv_at hl 2 rfl) ?_
    refine va_get (D := D) (ci := 6) (v := .ref drp1) (C := RX6) (T := TX6) (N := 17) hx hb hu in_X6 hown hK.1 hP 0 rfl rfl 7 (by decide) (hu _ u_210) (fun _ h9 => h9) rfl dX6_surelyFit_32 ?_
    refine lv_iload_n hx hb dX6_surelyFit_35 rfl (lv_at hl 0 rfl) ?_
    refine va_iald hx hb hK.1 hP 1 0 rfl rfl (vin_c _ _ rfl) dX6_surelyFit_36 ?_
    refine tpi (y := 0) (z_f_drp1 _ (cl_lt (vin_c _ _ rfl))) ?_
    refine lv_if_le (tgt := 69) hx hb dX6_surelyFit_37 (by decide) (fun c_23 => ?_) (fun c_23 => absurd (by decide) c_23)
    refine lv_iinc (v := 9) (lv' := [(3, .int 9), (2, .int (23 * (64 / x))), (0, .ref drp), (1, .int x)]) hx hb dX6_surelyFit_69 hl (k := 0) rfl (by decide) (by decide) rfl (fun ls hl => ?_)
    refine lv_goto (tgt := 25) hx hb dX6_surelyFit_72 (by decide) ?_
    refine lv_iload_n hx hb dX6_surelyFit_25 rfl (lv_at hl 0 rfl) ?_
    refine lv_bipush (v := 24) hx hb dX6_surelyFit_26 (by decide) ?_
    refine lv_icmp_ge (tgt := 75) hx hb dX6_surelyFit_28 (by decide) (fun c_24 => absurd c_24 (by decide)) (fun c_24 => ?_)
    refine lv_aload_n hx hb dX6_surelyFit_31 rfl (lv_at hl 2 rfl) ?_
    refine va_get (D := D) (ci := 6) (v := .ref drp1) (C := RX6) (T := TX6) (N := 17) hx hb hu in_X6 hown hK.1 hP 0 rfl rfl 7 (by decide) (hu _ u_210) (fun _ h9 => h9) rfl dX6_surelyFit_32 ?_
    refine lv_iload_n hx hb dX6_surelyFit_35 rfl (lv_at hl 0 rfl) ?_
    refine va_iald hx hb hK.1 hP 1 0 rfl rfl (vin_c _ _ rfl) dX6_surelyFit_36 ?_
    refine tpi (y := 0) (z_f_drp1 _ (cl_lt (vin_c _ _ rfl))) ?_
    refine lv_if_le (tgt := 69) hx hb dX6_surelyFit_37 (by decide) (fun c_25 => ?_) (fun c_25 => absurd (by decide) c_25)
    refine lv_iinc (v := 10) (lv' := [(3, .int 10), (2, .int (23 * (64 / x))), (0, .ref drp), (1, .int x)]) hx hb dX6_surelyFit_69 hl (k := 0) rfl (by decide) (by decide) rfl (fun ls hl => ?_)
    refine lv_goto (tgt := 25) hx hb dX6_surelyFit_72 (by decide) ?_
    refine lv_iload_n hx hb dX6_surelyFit_25 rfl (lv_at hl 0 rfl) ?_
    refine lv_bipush (v := 24) hx hb dX6_surelyFit_26 (by decide) ?_
    refine lv_icmp_ge (tgt := 75) hx hb dX6_surelyFit_28 (by decide) (fun c_26 => absurd c_26 (by decide)) (fun c_26 => ?_)
    refine lv_aload_n hx hb dX6_surelyFit_31 rfl (lv_at hl 2 rfl) ?_
    refine va_get (D := D) (ci := 6) (v := .ref drp1) (C := RX6) (T := TX6) (N := 17) hx hb hu in_X6 hown hK.1 hP 0 rfl rfl 7 (by decide) (hu _ u_210) (fun _ h9 => h9) rfl dX6_surelyFit_32 ?_
    refine lv_iload_n hx hb dX6_surelyFit_35 rfl (lv_at hl 0 rfl) ?_
    refine va_iald hx hb hK.1 hP 1 0 rfl rfl (vin_c _ _ rfl) dX6_surelyFit_36 ?_
    refine tpi (y := 0) (z_f_drp1 _ (cl_lt (vin_c _ _ rfl))) ?_
    refine lv_if_le (tgt := 69) hx hb dX6_surelyFit_37 (by decide) (fun c_27 => ?_) (fun c_27 => absurd (by decide) c_27)
    refine lv_iinc (v := 11) (lv' := [(3, .int 11), (2, .int (23 * (64 / x))), (0, .ref drp), (1, .int x)]) hx hb dX6_surelyFit_69 hl (k := 0) rfl (by decide) (by decide) rfl (fun ls hl => ?_)
    refine lv_goto (tgt := 25) hx hb dX6_surelyFit_72 (by decide) ?_
    refine lv_iload_n hx hb dX6_surelyFit_25 rfl (lv_at hl 0 rfl) ?_
    refine lv_bipush (v := 24) hx hb dX6_surelyFit_26 (by decide) ?_
    refine lv_icmp_ge (tgt := 75) hx hb dX6_surelyFit_28 (by decide) (fun c_28 => absurd c_28 (by decide)) (fun c_28 => ?_)
    refine lv_aload_n hx hb dX6_surelyFit_31 rfl (lv_at hl 2 rfl) ?_
    refine va_get (D := D) (ci := 6) (v := .ref drp1) (C := RX6) (T := TX6) (N := 17) hx hb hu in_X6 hown hK.1 hP 0 rfl rfl 7 (by decide) (hu _ u_210) (fun _ h9 => h9) rfl dX6_surelyFit_32 ?_
    refine lv_iload_n hx hb dX6_surelyFit_35 rfl (lv_at hl 0 rfl) ?_
    refine va_iald hx hb hK.1 hP 1 0 rfl rfl (vin_c _ _ rfl) dX6_surelyFit_36 ?_
    refine tpi (y := 0) (z_f_drp1 _ (cl_lt (vin_c _ _ rfl))) ?_
    refine lv_if_le (tgt := 69) hx hb dX6_surelyFit_37 (by decide) (fun c_29 => ?_) (fun c_29 => absurd (by decide) c_29)
    refine lv_iinc (v := 12) (lv' := [(3, .int 12), (2, .int (23 * (64 / x))), (0, .ref drp), (1, .int x)]) hx hb dX6_surelyFit_69 hl (k := 0) rfl (by decide) (by decide) rfl (fun ls hl => ?_)
    refine lv_goto (tgt := 25) hx hb dX6_surelyFit_72 (by decide) ?_
    refine lv_iload_n hx hb dX6_surelyFit_25 rfl (lv_at hl 0 rfl) ?_
    refine lv_bipush (v := 24) hx hb dX6_surelyFit_26 (by decide) ?_
    refine lv_icmp_ge (tgt := 75) hx hb dX6_surelyFit_28 (by decide) (fun c_30 => absurd c_30 (by decide)) (fun c_30 => ?_)
    refine lv_aload_n hx hb dX6_surelyFit_31 rfl (lv_at hl 2 rfl) ?_
    refine va_get (D := D) (ci := 6) (v := .ref drp1) (C := RX6) (T := TX6) (N := 17) hx hb hu in_X6 hown hK.1 hP 0 rfl rfl 7 (by decide) (hu _ u_210) (fun _ h9 => h9) rfl dX6_surelyFit_32 ?_
    refine lv_iload_n hx hb dX6_surelyFit_35 rfl (lv_at hl 0 rfl) ?_
    refine va_iald hx hb hK.1 hP 1 0 rfl rfl (vin_c _ _ rfl) dX6_surelyFit_36 ?_
    refine tpi (y := 0) (z_f_drp1 _ (cl_lt (vin_c _ _ rfl))) ?_
    refine lv_if_le (tgt := 69) hx hb dX6_surelyFit_37 (by decide) (fun c_31 => ?_) (fun c_31 => absurd (by decide) c_31)
    refine lv_iinc (v := 13) (lv' := [(3, .int 13), (2, .int (23 * (64 / x))), (0, .ref drp), (1, .int x)]) hx hb dX6_surelyFit_69 hl (k := 0) rfl (by decide) (by decide) rfl (fun ls hl => ?_)
    refine lv_goto (tgt := 25) hx hb dX6_surelyFit_72 (by decide) ?_
    refine lv_iload_n hx hb dX6_surelyFit_25 rfl (lv_at hl 0 rfl) ?_
    refine lv_bipush (v := 24) hx hb dX6_surelyFit_26 (by decide) ?_
    refine lv_icmp_ge (tgt := 75) hx hb dX6_surelyFit_28 (by decide) (fun c_32 => absurd c_32 (by decide)) (fun c_32 => ?_)
    refine lv_aload_n hx hb dX6_surelyFit_31 rfl (lv_at hl 2 rfl) ?_
    refine va_get (D := D) (ci := 6) (v := .ref drp1) (C := RX6) (T := TX6) (N := 17) hx hb hu in_X6 hown hK.1 hP 0 rfl rfl 7 (by decide) (hu _ u_210) (fun _ h9 => h9) rfl dX6_surelyFit_32 ?_
    refine lv_iload_n hx hb dX6_surelyFit_35 rfl (lv_at hl 0 rfl) ?_
    refine va_iald hx hb hK.1 hP 1 0 rfl rfl (vin_c _ _ rfl) dX6_surelyFit_36 ?_
    refine tpi (y := 0) (z_f_drp1 _ (cl_lt (vin_c _ _ rfl))) ?_
    refine lv_if_le (tgt := 69) hx hb dX6_surelyFit_37 (by decide) (fun c_33 => ?_) (fun c_33 => absurd (by decide) c_33)
    refine lv_iinc (v := 14) (lv' := [(3, .int 14), (2, .int (23 * (64 / x))), (0, .ref drp), (1, .int x)]) hx hb dX6_surelyFit_69 hl (k := 0) rfl (by decide) (by decide) rfl (fun ls hl => ?_)
    refine lv_goto (tgt := 25) hx hb dX6_surelyFit_72 (by decide) ?_
    refine lv_iload_n hx hb dX6_surelyFit_25 rfl (lv_at hl 0 rfl) ?_
    refine lv_bipush (v := 24) hx hb dX6_surelyFit_26 (by decide) ?_
    refine lv_icmp_ge (tgt := 75) hx hb dX6_surelyFit_28 (by decide) (fun c_34 => absurd c_34 (by decide)) (fun c_34 => ?_)
    refine lv_aload_n hx hb dX6_surelyFit_31 rfl (lv_at hl 2 rfl) ?_
    refine va_get (D := D) (ci := 6) (v := .ref drp1) (C := RX6) (T := TX6) (N := 17) hx hb hu in_X6 hown hK.1 hP 0 rfl rfl 7 (by decide) (hu _ u_210) (fun _ h9 => h9) rfl dX6_surelyFit_32 ?_
    refine lv_iload_n hx hb dX6_surelyFit_35 rfl (lv_at hl 0 rfl) ?_
    refine va_iald hx hb hK.1 hP 1 0 rfl rfl (vin_c _ _ rfl) dX6_surelyFit_36 ?_
    refine tpi (y := 0) (z_f_drp1 _ (cl_lt (vin_c _ _ rfl))) ?_
    refine lv_if_le (tgt := 69) hx hb dX6_surelyFit_37 (by decide) (fun c_35 => ?_) (fun c_35 => absurd (by decide) c_35)
    refine lv_iinc (v := 15) (lv' := [(3, .int 15), (2, .int (23 * (64 / x))), (0, .ref drp), (1, .int x)]) hx hb dX6_surelyFit_69 hl (k := 0) rfl (by decide) (by decide) rfl (fun ls hl => ?_)
    refine lv_goto (tgt := 25) hx hb dX6_surelyFit_72 (by decide) ?_
    refine lv_iload_n hx hb dX6_surelyFit_25 rfl (lv_at hl 0 rfl) ?_
    refine lv_bipush (v := 24) hx hb dX6_surelyFit_26 (by decide) ?_
    refine lv_icmp_ge (tgt := 75) hx hb dX6_surelyFit_28 (by decide) (fun c_36 => absurd c_36 (by decide)) (fun c_36 => ?_)
    refine lv_aload_n hx hb dX6_surelyFit_31 rfl (lv_at hl 2 rfl) ?_
    refine va_get (D := D) (ci := 6) (v := .ref drp1) (C := RX6) (T := TX6) (N := 17) hx hb hu in_X6 hown hK.1 hP 0 rfl rfl 7 (by decide) (hu _ u_210) (fun _ h9 => h9) rfl dX6_surelyFit_32 ?_
    refine lv_iload_n hx hb dX6_surelyFit_35 rfl (lv_at hl 0 rfl) ?_
    refine va_iald hx hb hK.1 hP 1 0 rfl rfl (vin_c _ _ rfl) dX6_surelyFit_36 ?_
    refine tpi (y := 0) (z_f_drp1 _ (cl_lt (vin_c _ _ rfl))) ?_
    refine lv_if_le (tgt := 69) hx hb dX6_surelyFit_37 (by decide) (fun c_37 => ?_) (fun c_37 => absurd (by decide) c_37)
    refine lv_iinc (v := 16) (lv' := [(3, .int 16), (2, .int (23 * (64 / x))), (0, .ref drp), (1, .int x)]) hx hb dX6_surelyFit_69 hl (k := 0) rfl (by decide) (by decide) rfl (fun ls hl => ?_)
    refine lv_goto (tgt := 25) hx hb dX6_surelyFit_72 (by decide) ?_
    refine lv_iload_n hx hb dX6_surelyFit_25 rfl (lv_at hl 0 rfl) ?_
    refine lv_bipush (v := 24) hx hb dX6_surelyFit_26 (by decide) ?_
    refine lv_icmp_ge (tgt := 75) hx hb dX6_surelyFit_28 (by decide) (fun c_38 => absurd c_38 (by decide)) (fun c_38 => ?_)
    refine lv_aload_n hx hb dX6_surelyFit_31 rfl (lv_at hl 2 rfl) ?_
    refine va_get (D := D) (ci := 6) (v := .ref drp1) (C := RX6) (T := TX6) (N := 17) hx hb hu in_X6 hown hK.1 hP 0 rfl rfl 7 (by decide) (hu _ u_210) (fun _ h9 => h9) rfl dX6_surelyFit_32 ?_
    refine lv_iload_n hx hb dX6_surelyFit_35 rfl (lv_at hl 0 rfl) ?_
    refine va_iald hx hb hK.1 hP 1 0 rfl rfl (vin_c _ _ rfl) dX6_surelyFit_36 ?_
    refine tpi (y := 0) (z_f_drp1 _ (cl_lt (vin_c _ _ rfl))) ?_
    refine lv_if_le (tgt := 69) hx hb dX6_surelyFit_37 (by decide) (fun c_39 => ?_) (fun c_39 => absurd (by decide) c_39)
    refine lv_iinc (v := 17) (lv' := [(3, .int 17), (2, .int (23 * (64 / x))), (0, .ref drp), (1, .int x)]) hx hb dX6_surelyFit_69 hl (k := 0) rfl (by decide) (by decide) rfl (fun ls hl => ?_)
    refine lv_goto (tgt := 25) hx hb dX6_surelyFit_72 (by decide) ?_
    refine lv_iload_n hx hb dX6_surelyFit_25 rfl (lv_at hl 0 rfl) ?_
    refine lv_bipush (v := 24) hx hb dX6_surelyFit_26 (by decide) ?_
    refine lv_icmp_ge (tgt := 75) hx hb dX6_surelyFit_28 (by decide) (fun c_40 => absurd c_40 (by decide)) (fun c_40 => ?_)
    refine lv_aload_n hx hb dX6_surelyFit_31 rfl (lv_at hl 2 rfl) ?_
    refine va_get (D := D) (ci := 6) (v := .ref drp1) (C := RX6) (T := TX6) (N := 17) hx hb hu in_X6 hown hK.1 hP 0 rfl rfl 7 (by decide) (hu _ u_210) (fun _ h9 => h9) rfl dX6_surelyFit_32 ?_
    refine lv_iload_n hx hb dX6_surelyFit_35 rfl (lv_at hl 0 rfl) ?_
    refine va_iald hx hb hK.1 hP 1 0 rfl rfl (vin_c _ _ rfl) dX6_surelyFit_36 ?_
    refine tpi (y := 0) (z_f_drp1 _ (cl_lt (vin_c _ _ rfl))) ?_
    refine lv_if_le (tgt := 69) hx hb dX6_surelyFit_37 (by decide) (fun c_41 => ?_) (fun c_41 => absurd (by decide) c_41)
    refine lv_iinc (v := 18) (lv' := [(3, .int 18), (2, .int (23 * (64 / x))), (0, .ref drp), (1, .int x)]) hx hb dX6_surelyFit_69 hl (k := 0) rfl (by decide) (by decide) rfl (fun ls hl => ?_)
    refine lv_goto (tgt := 25) hx hb dX6_surelyFit_72 (by decide) ?_
    refine lv_iload_n hx hb dX6_surelyFit_25 rfl (lv_at hl 0 rfl) ?_
    refine lv_bipush (v := 24) hx hb dX6_surelyFit_26 (by decide) ?_
    refine lv_icmp_ge (tgt := 75) hx hb dX6_surelyFit_28 (by decide) (fun c_42 => absurd c_42 (by decide)) (fun c_42 => ?_)
    refine lv_aload_n hx hb dX6_surelyFit_31 rfl (lv_at hl 2 rfl) ?_
    refine va_get (D := D) (ci := 6) (v := .ref drp1) (C := RX6) (T := TX6) (N := 17) hx hb hu in_X6 hown hK.1 hP 0 rfl rfl 7 (by decide) (hu _ u_210) (fun _ h9 => h9) rfl dX6_surelyFit_32 ?_
    refine lv_iload_n hx hb dX6_surelyFit_35 rfl (lv_at hl 0 rfl) ?_
    refine va_iald hx hb hK.1 hP 1 0 rfl rfl (vin_c _ _ rfl) dX6_surelyFit_36 ?_
    refine tpi (y := 0) (z_f_drp1 _ (cl_lt (vin_c _ _ rfl))) ?_
    refine lv_if_le (tgt := 69) hx hb dX6_surelyFit_37 (by decide) (fun c_43 => ?_) (fun c_43 => absurd (by decide) c_43)
    refine lv_iinc (v := 19) (lv' := [(3, .int 19), (2, .int (23 * (64 / x))), (0, .ref drp), (1, .int x)]) hx hb dX6_surelyFit_69 hl (k := 0) rfl (by decide) (by decide) rfl (fun ls hl => ?_)
    refine lv_goto (tgt := 25) hx hb dX6_surelyFit_72 (by decide) ?_
    refine lv_iload_n hx hb dX6_surelyFit_25 rfl (lv_at hl 0 rfl) ?_
    refine lv_bipush (v := 24) hx hb dX6_surelyFit_26 (by decide) ?_
    refine lv_icmp_ge (tgt := 75) hx hb dX6_surelyFit_28 (by decide) (fun c_44 => absurd c_44 (by decide)) (fun c_44 => ?_)
    refine lv_aload_n hx hb dX6_surelyFit_31 rfl (lv_at hl 2 rfl) ?_
    refine va_get (D := D) (ci := 6) (v := .ref drp1) (C := RX6) (T := TX6) (N := 17) hx hb hu in_X6 hown hK.1 hP 0 rfl rfl 7 (by decide) (hu _ u_210) (fun _ h9 => h9) rfl dX6_surelyFit_32 ?_
    refine lv_iload_n hx hb dX6_surelyFit_35 rfl (lv_at hl 0 rfl) ?_
    refine va_iald hx hb hK.1 hP 1 0 rfl rfl (vin_c _ _ rfl) dX6_surelyFit_36 ?_
    refine tpi (y := 0) (z_f_drp1 _ (cl_lt (vin_c _ _ rfl))) ?_
    refine lv_if_le (tgt := 69) hx hb dX6_surelyFit_37 (by decide) (fun c_45 => ?_) (fun c_45 => absurd (by decide) c_45)
    refine lv_iinc (v := 20) (lv' := [(3, .int 20), (2, .int (23 * (64 / x))), (0, .ref drp), (1, .int x)]) hx hb dX6_surelyFit_69 hl (k := 0) rfl (by decide) (by decide) rfl (fun ls hl => ?_)
    refine lv_goto (tgt := 25) hx hb dX6_surelyFit_72 (by decide) ?_
    refine lv_iload_n hx hb dX6_surelyFit_25 rfl (lv_at hl 0 rfl) ?_
    refine lv_bipush (v := 24) hx hb dX6_surelyFit_26 (by decide) ?_
    refine lv_icmp_ge (tgt := 75) hx hb dX6_surelyFit_28 (by decide) (fun c_46 => absurd c_46 (by decide)) (fun c_46 => ?_)
    refine lv_aload_n hx hb dX6_surelyFit_31 rfl (lv_at hl 2 rfl) ?_
    refine va_get (D := D) (ci := 6) (v := .ref drp1) (C := RX6) (T := TX6) (N := 17) hx hb hu in_X6 hown hK.1 hP 0 rfl rfl 7 (by decide) (hu _ u_210) (fun _ h9 => h9) rfl dX6_surelyFit_32 ?_
    refine lv_iload_n hx hb dX6_surelyFit_35 rfl (lv_at hl 0 rfl) ?_
    refine va_iald hx hb hK.1 hP 1 0 rfl rfl (vin_c _ _ rfl) dX6_surelyFit_36 ?_
    refine tpi (y := 0) (z_f_drp1 _ (cl_lt (vin_c _ _ rfl))) ?_
    refine lv_if_le (tgt := 69) hx hb dX6_surelyFit_37 (by decide) (fun c_47 => ?_) (fun c_47 => absurd (by decide) c_47)
    refine lv_iinc (v := 21) (lv' := [(3, .int 21), (2, .int (23 * (64 / x))), (0, .ref drp), (1, .int x)]) hx hb dX6_surelyFit_69 hl (k := 0) rfl (by decide) (by decide) rfl (fun ls hl => ?_)
    refine lv_goto (tgt := 25) hx hb dX6_surelyFit_72 (by decide) ?_
    refine lv_iload_n hx hb dX6_surelyFit_25 rfl (lv_at hl 0 rfl) ?_
    refine lv_bipush (v := 24) hx hb dX6_surelyFit_26 (by decide) ?_
    refine lv_icmp_ge (tgt := 75) hx hb dX6_surelyFit_28 (by decide) (fun c_48 => absurd c_48 (by decide)) (fun c_48 => ?_)
    refine lv_aload_n hx hb dX6_surelyFit_31 rfl (lv_at hl 2 rfl) ?_
    refine va_get (D := D) (ci := 6) (v := .ref drp1) (C := RX6) (T := TX6) (N := 17) hx hb hu in_X6 hown hK.1 hP 0 rfl rfl 7 (by decide) (hu _ u_210) (fun _ h9 => h9) rfl dX6_surelyFit_32 ?_
    refine lv_iload_n hx hb dX6_surelyFit_35 rfl (lv_at hl 0 rfl) ?_
    refine va_iald hx hb hK.1 hP 1 0 rfl rfl (vin_c _ _ rfl) dX6_surelyFit_36 ?_
    refine tpi (y := 0) (z_f_drp1 _ (cl_lt (vin_c _ _ rfl))) ?_
    refine lv_if_le (tgt := 69) hx hb dX6_surelyFit_37 (by decide) (fun c_49 => ?_) (fun c_49 => absurd (by decide) c_49)
    refine lv_iinc (v := 22) (lv' := [(3, .int 22), (2, .int (23 * (64 / x))), (0, .ref drp), (1, .int x)]) hx hb dX6_surelyFit_69 hl (k := 0) rfl (by decide) (by decide) rfl (fun ls hl => ?_)
    refine lv_goto (tgt := 25) hx hb dX6_surelyFit_72 (by decide) ?_
    refine lv_iload_n hx hb dX6_surelyFit_25 rfl (lv_at hl 0 rfl) ?_
    refine lv_bipush (v := 24) hx hb dX6_surelyFit_26 (by decide) ?_
    refine lv_icmp_ge (tgt := 75) hx hb dX6_surelyFit_28 (by decide) (fun c_50 => absurd c_50 (by decide)) (fun c_50 => ?_)
    refine lv_aload_n hx hb dX6_surelyFit_31 rfl (lv_at hl 2 rfl) ?_
    refine va_get (D := D) (ci := 6) (v := .ref drp1) (C := RX6) (T := TX6) (N := 17) hx hb hu in_X6 hown hK.1 hP 0 rfl rfl 7 (by decide) (hu _ u_210) (fun _ h9 => h9) rfl dX6_surelyFit_32 ?_
    refine lv_iload_n hx hb dX6_surelyFit_35 rfl (lv_at hl 0 rfl) ?_
    refine va_iald hx hb hK.1 hP 1 0 rfl rfl (vin_c _ _ rfl) dX6_surelyFit_36 ?_
    refine tpi (y := 0) (z_f_drp1 _ (cl_lt (vin_c _ _ rfl))) ?_
    refine lv_if_le (tgt := 69) hx hb dX6_surelyFit_37 (by decide) (fun c_51 => ?_) (fun c_51 => absurd (by decide) c_51)
    refine lv_iinc (v := 23) (lv' := [(3, .int 23), (2, .int (23 * (64 / x))), (0, .ref drp), (1, .int x)]) hx hb dX6_surelyFit_69 hl (k := 0) rfl (by decide) (by decide) rfl (fun ls hl => ?_)
    refine lv_goto (tgt := 25) hx hb dX6_surelyFit_72 (by decide) ?_
    refine lv_iload_n hx hb dX6_surelyFit_25 rfl (lv_at hl 0 rfl) ?_
    refine lv_bipush (v := 24) hx hb dX6_surelyFit_26 (by decide) ?_
    refine lv_icmp_ge (tgt := 75) hx hb dX6_surelyFit_28 (by decide) (fun c_52 => absurd c_52 (by decide)) (fun c_52 => ?_)
    refine lv_aload_n hx hb dX6_surelyFit_31 rfl (lv_at hl 2 rfl) ?_
    refine va_get (D := D) (ci := 6) (v := .ref drp1) (C := RX6) (T := TX6) (N := 17) hx hb hu in_X6 hown hK.1 hP 0 rfl rfl 7 (by decide) (hu _ u_210) (fun _ h9 => h9) rfl dX6_surelyFit_32 ?_
    refine lv_iload_n hx hb dX6_surelyFit_35 rfl (lv_at hl 0 rfl) ?_
    refine va_iald hx hb hK.1 hP 1 0 rfl rfl (vin_c _ _ rfl) dX6_surelyFit_36 ?_
    refine tpi (y := 0) (z_f_drp1 _ (cl_lt (vin_c _ _ rfl))) ?_
    refine lv_if_le (tgt := 69) hx hb dX6_surelyFit_37 (by decide) (fun c_53 => ?_) (fun c_53 => absurd (by decide) c_53)
    refine lv_iinc (v := 24) (lv' := [(3, .int 24), (2, .int (23 * (64 / x))), (0, .ref drp), (1, .int x)]) hx hb dX6_surelyFit_69 hl (k := 0) rfl (by decide) (by decide) rfl (fun ls hl => ?_)
    refine lv_goto (tgt := 25) hx hb dX6_surelyFit_72 (by decide) ?_
    refine lv_iload_n hx hb dX6_surelyFit_25 rfl (lv_at hl 0 rfl) ?_
    refine lv_bipush (v := 24) hx hb dX6_surelyFit_26 (by decide) ?_
    refine lv_icmp_ge (tgt := 75) hx hb dX6_surelyFit_28 (by decide) (fun c_54 => ?_) (fun c_54 => absurd (by decide) c_54)
    refine lv_iload_n hx hb dX6_surelyFit_75 rfl (lv_at hl 1 rfl) ?_
    exact hz () hP hD hS (Or.inr (⟨rfl, (by grind)⟩)) [0, 1] rfl rfl (Nat.le_of_ble_eq_true rfl) (Nat.le_of_ble_eq_true rfl) .int rfl rfl dX6_surelyFit_76
  · refine lv_iconst (v := 0) hx hb dX6_surelyFit_5 (by decide) ?_
    exact hz () hP hD hS (Or.inl (⟨rfl, (by grind)⟩)) [0, 1] rfl rfl (Nat.le_of_ble_eq_true rfl) (Nat.le_of_ble_eq_true rfl) .int rfl rfl dX6_surelyFit_6
