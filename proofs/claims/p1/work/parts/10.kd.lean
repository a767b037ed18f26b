theorem u_348 : Cond.fieldLink "KeyDrive" 66 "KeyDrive" "spare" "LKeyDrive$Drive;" ∈ U0 := um 348 (by decide +kernel) (by decide +kernel)
theorem u_347 : Cond.fieldLink "KeyDrive" 62 "KeyDrive" "drive" "LKeyDrive$Drive;" ∈ U0 := um 347 (by decide +kernel) (by decide +kernel)
theorem u_408 : Cond.code yX2_copyFrom prog_4_method_2_code 2 none ∈ U0 := um 408 (by decide +kernel) (by decide +kernel)
theorem u_405 : Cond.methodLink "KeyDrive" 369 yX2_copyFrom ∈ U0 := um 405 (by decide +kernel) (by decide +kernel)
theorem u_406 : Cond.instanceMethod yX2_copyFrom ∈ U0 := um 406 (by decide +kernel) (by decide +kernel)
theorem u_407 : Cond.selects "KeyDrive$Drive" yX2_copyFrom yX2_copyFrom ∈ U0 := um 407 (by decide +kernel) (by decide +kernel)
theorem u_73 : Cond.initialized "KeyDrive$Drive" ∈ U0 := um 73 (by decide +kernel) (by decide +kernel)
theorem u_346 : Cond.fieldLink "KeyDrive" 366 "KeyDrive" "undoable" "I" ∈ U0 := um 346 (by decide +kernel) (by decide +kernel)
theorem u_344 : Cond.fieldLink "KeyDrive" 54 "KeyDrive" "past" "[LKeyDrive$Drive;" ∈ U0 := um 344 (by decide +kernel) (by decide +kernel)
theorem u_614 : Cond.code yX8_isSnapshot prog_1_method_47_code 1 (some .boolean) ∈ U0 := um 614 (by decide +kernel) (by decide +kernel)
theorem u_612 : Cond.methodLink "KeyDrive" 189 yX8_isSnapshot ∈ U0 := um 612 (by decide +kernel) (by decide +kernel)
theorem u_613 : Cond.static yX8_isSnapshot ∈ U0 := um 613 (by decide +kernel) (by decide +kernel)
theorem u_327 : Cond.fieldLink "KeyDrive" 220 "KeyDrive$Drive" "moments" "LKeyDrive$Moments;" ∈ U0 := um 327 (by decide +kernel) (by decide +kernel)
theorem u_615 : Cond.methodLink "KeyDrive" 224 yX4_heldAt ∈ U0 := um 615 (by decide +kernel) (by decide +kernel)
theorem u_317 : Cond.fieldLink "KeyDrive" 101 "KeyDrive$Drive" "seq" "I" ∈ U0 := um 317 (by decide +kernel) (by decide +kernel)
theorem u_392 : Cond.code yX8_isKeyLength prog_1_method_46_code 1 (some .boolean) ∈ U0 := um 392 (by decide +kernel) (by decide +kernel)
theorem u_390 : Cond.methodLink "KeyDrive" 76 yX8_isKeyLength ∈ U0 := um 390 (by decide +kernel) (by decide +kernel)
theorem u_391 : Cond.static yX8_isKeyLength ∈ U0 := um 391 (by decide +kernel) (by decide +kernel)
theorem u_337 : Cond.fieldLink "KeyDrive" 14 "KeyDrive" "tape" "LKeyDrive$Row;" ∈ U0 := um 337 (by decide +kernel) (by decide +kernel)
theorem u_96 : Cond.fieldLink "KeyDrive" 69 "KeyDrive$Row" "length" "I" ∈ U0 := um 96 (by decide +kernel) (by decide +kernel)
theorem u_396 : Cond.code yX7_bitsAt prog_9_method_6_code 6 (some .long) ∈ U0 := um 396 (by decide +kernel) (by decide +kernel)
theorem u_393 : Cond.methodLink "KeyDrive" 80 yX7_bitsAt ∈ U0 := um 393 (by decide +kernel) (by decide +kernel)
theorem u_394 : Cond.instanceMethod yX7_bitsAt ∈ U0 := um 394 (by decide +kernel) (by decide +kernel)
theorem u_395 : Cond.selects "KeyDrive$Row" yX7_bitsAt yX7_bitsAt ∈ U0 := um 395 (by decide +kernel) (by decide +kernel)
theorem u_340 : Cond.fieldLink "KeyDrive" 27 "KeyDrive" "deeds" "LKeyDrive$Deeds;" ∈ U0 := um 340 (by decide +kernel) (by decide +kernel)
theorem u_117 : Cond.fieldLink "KeyDrive" 397 "KeyDrive$Deeds" "count" "I" ∈ U0 := um 117 (by decide +kernel) (by decide +kernel)
theorem dX8_keepState_0 : decode cX8_keepState 0 = .ok (.aload_n 0, 1) := by decide +kernel
theorem dX8_keepState_1 : decode cX8_keepState 1 = .ok (.getfield 66, 3) := by decide +kernel
theorem dX8_keepState_4 : decode cX8_keepState 4 = .ok (.ifnonnull 14, 3) := by decide +kernel
theorem dX8_keepState_18 : decode cX8_keepState 18 = .ok (.aload_n 0, 1) := by decide +kernel
theorem dX8_keepState_19 : decode cX8_keepState 19 = .ok (.getfield 66, 3) := by decide +kernel
theorem dX8_keepState_22 : decode cX8_keepState 22 = .ok (.aload_n 0, 1) := by decide +kernel
theorem dX8_keepState_23 : decode cX8_keepState 23 = .ok (.getfield 62, 3) := by decide +kernel
theorem dX8_keepState_26 : decode cX8_keepState 26 = .ok (.invokevirtual 369, 3) := by decide +kernel
theorem dX8_keepState_29 : decode cX8_keepState 29 = .ok (.return_, 1) := by decide +kernel
theorem dX8_makeUndoable_0 : decode cX8_makeUndoable 0 = .ok (.aload_n 0, 1) := by decide +kernel
theorem dX8_makeUndoable_1 : decode cX8_makeUndoable 1 = .ok (.getfield 366, 3) := by decide +kernel
theorem dX8_makeUndoable_4 : decode cX8_makeUndoable 4 = .ok (.bipush 10, 2) := by decide +kernel
theorem dX8_makeUndoable_6 : decode cX8_makeUndoable 6 = .ok (.if_icmp .ge 42, 3) := by decide +kernel
theorem dX8_makeUndoable_9 : decode cX8_makeUndoable 9 = .ok (.aload_n 0, 1) := by decide +kernel
theorem dX8_makeUndoable_10 : decode cX8_makeUndoable 10 = .ok (.getfield 54, 3) := by decide +kernel
theorem dX8_makeUndoable_13 : decode cX8_makeUndoable 13 = .ok (.aload_n 0, 1) := by decide +kernel
theorem dX8_makeUndoable_14 : decode cX8_makeUndoable 14 = .ok (.getfield 366, 3) := by decide +kernel
theorem dX8_makeUndoable_17 : decode cX8_makeUndoable 17 = .ok (.aaload, 1) := by decide +kernel
theorem dX8_makeUndoable_18 : decode cX8_makeUndoable 18 = .ok (.astore_n 1, 1) := by decide +kernel
theorem dX8_makeUndoable_19 : decode cX8_makeUndoable 19 = .ok (.aload_n 0, 1) := by decide +kernel
theorem dX8_makeUndoable_20 : decode cX8_makeUndoable 20 = .ok (.getfield 54, 3) := by decide +kernel
theorem dX8_makeUndoable_23 : decode cX8_makeUndoable 23 = .ok (.aload_n 0, 1) := by decide +kernel
theorem dX8_makeUndoable_24 : decode cX8_makeUndoable 24 = .ok (.getfield 366, 3) := by decide +kernel
theorem dX8_makeUndoable_27 : decode cX8_makeUndoable 27 = .ok (.aload_n 0, 1) := by decide +kernel
theorem dX8_makeUndoable_28 : decode cX8_makeUndoable 28 = .ok (.getfield 66, 3) := by decide +kernel
theorem dX8_makeUndoable_31 : decode cX8_makeUndoable 31 = .ok (.aastore, 1) := by decide +kernel
theorem dX8_makeUndoable_32 : decode cX8_makeUndoable 32 = .ok (.aload_n 0, 1) := by decide +kernel
theorem dX8_makeUndoable_33 : decode cX8_makeUndoable 33 = .ok (.dup, 1) := by decide +kernel
theorem dX8_makeUndoable_34 : decode cX8_makeUndoable 34 = .ok (.getfield 366, 3) := by decide +kernel
theorem dX8_makeUndoable_37 : decode cX8_makeUndoable 37 = .ok (.iconst 1, 1) := by decide +kernel
theorem dX8_makeUndoable_38 : decode cX8_makeUndoable 38 = .ok (.iadd, 1) := by decide +kernel
theorem dX8_makeUndoable_39 : decode cX8_makeUndoable 39 = .ok (.putfield 366, 3) := by decide +kernel
theorem dX8_makeUndoable_42 : decode cX8_makeUndoable 42 = .ok (.aload_n 0, 1) := by decide +kernel
theorem dX8_makeUndoable_43 : decode cX8_makeUndoable 43 = .ok (.aload_n 1, 1) := by decide +kernel
theorem dX8_makeUndoable_44 : decode cX8_makeUndoable 44 = .ok (.putfield 66, 3) := by decide +kernel
theorem dX8_makeUndoable_47 : decode cX8_makeUndoable 47 = .ok (.return_, 1) := by decide +kernel
theorem dX8_momentOf_0 : decode cX8_momentOf 0 = .ok (.iload_n 1, 1) := by decide +kernel
theorem dX8_momentOf_1 : decode cX8_momentOf 1 = .ok (.iconst (-1), 1) := by decide +kernel
theorem dX8_momentOf_2 : decode cX8_momentOf 2 = .ok (.if_icmp .ne 11, 3) := by decide +kernel
theorem dX8_momentOf_5 : decode cX8_momentOf 5 = .ok (.aload_n 0, 1) := by decide +kernel
theorem dX8_momentOf_6 : decode cX8_momentOf 6 = .ok (.getfield 62, 3) := by decide +kernel
theorem dX8_momentOf_9 : decode cX8_momentOf 9 = .ok (.getfield 101, 3) := by decide +kernel
theorem dX8_momentOf_12 : decode cX8_momentOf 12 = .ok (.ireturn, 1) := by decide +kernel
theorem dX8_momentOf_13 : decode cX8_momentOf 13 = .ok (.iload_n 1, 1) := by decide +kernel
theorem dX8_momentOf_14 : decode cX8_momentOf 14 = .ok (.invokestatic 189, 3) := by decide +kernel
theorem dX8_momentOf_17 : decode cX8_momentOf 17 = .ok (.ifCond .ne 6, 3) := by decide +kernel
theorem dX8_momentOf_20 : decode cX8_momentOf 20 = .ok (.bipush (-2), 2) := by decide +kernel
theorem dX8_momentOf_22 : decode cX8_momentOf 22 = .ok (.ireturn, 1) := by decide +kernel
theorem dX8_momentOf_23 : decode cX8_momentOf 23 = .ok (.aload_n 0, 1) := by decide +kernel
theorem dX8_momentOf_24 : decode cX8_momentOf 24 = .ok (.getfield 62, 3) := by decide +kernel
theorem dX8_momentOf_27 : decode cX8_momentOf 27 = .ok (.getfield 220, 3) := by decide +kernel
theorem dX8_momentOf_30 : decode cX8_momentOf 30 = .ok (.iload_n 1, 1) := by decide +kernel
theorem dX8_momentOf_31 : decode cX8_momentOf 31 = .ok (.invokevirtual 224, 3) := by decide +kernel
theorem dX8_momentOf_34 : decode cX8_momentOf 34 = .ok (.istore_n 2, 1) := by decide +kernel
theorem dX8_momentOf_35 : decode cX8_momentOf 35 = .ok (.iload_n 2, 1) := by decide +kernel
theorem dX8_momentOf_36 : decode cX8_momentOf 36 = .ok (.iconst (-1), 1) := by decide +kernel
theorem dX8_momentOf_37 : decode cX8_momentOf 37 = .ok (.if_icmp .ne 8, 3) := by decide +kernel
theorem dX8_momentOf_40 : decode cX8_momentOf 40 = .ok (.bipush (-6), 2) := by decide +kernel
theorem dX8_momentOf_42 : decode cX8_momentOf 42 = .ok (.goto 4, 3) := by decide +kernel
theorem dX8_momentOf_46 : decode cX8_momentOf 46 = .ok (.ireturn, 1) := by decide +kernel
theorem dX8_isOnTape_0 : decode cX8_isOnTape 0 = .ok (.iload_n 1, 1) := by decide +kernel
theorem dX8_isOnTape_1 : decode cX8_isOnTape 1 = .ok (.invokestatic 76, 3) := by decide +kernel
theorem dX8_isOnTape_4 : decode cX8_isOnTape 4 = .ok (.ifCond .eq 18, 3) := by decide +kernel
theorem dX8_isOnTape_7 : decode cX8_isOnTape 7 = .ok (.iload_n 1, 1) := by decide +kernel
theorem dX8_isOnTape_8 : decode cX8_isOnTape 8 = .ok (.aload_n 0, 1) := by decide +kernel
theorem dX8_isOnTape_9 : decode cX8_isOnTape 9 = .ok (.getfield 14, 3) := by decide +kernel
theorem dX8_isOnTape_12 : decode cX8_isOnTape 12 = .ok (.getfield 69, 3) := by decide +kernel
theorem dX8_isOnTape_15 : decode cX8_isOnTape 15 = .ok (.if_icmp .gt 7, 3) := by decide +kernel
theorem dX8_isOnTape_22 : decode cX8_isOnTape 22 = .ok (.iconst 0, 1) := by decide +kernel
theorem dX8_isOnTape_23 : decode cX8_isOnTape 23 = .ok (.ireturn, 1) := by decide +kernel
theorem dX8_takeKey_0 : decode cX8_takeKey 0 = .ok (.aload_n 0, 1) := by decide +kernel
theorem dX8_takeKey_1 : decode cX8_takeKey 1 = .ok (.getfield 14, 3) := by decide +kernel
theorem dX8_takeKey_4 : decode cX8_takeKey 4 = .ok (.iconst 0, 1) := by decide +kernel
theorem dX8_takeKey_5 : decode cX8_takeKey 5 = .ok (.iload_n 1, 1) := by decide +kernel
theorem dX8_takeKey_6 : decode cX8_takeKey 6 = .ok (.invokevirtual 80, 3) := by decide +kernel
theorem dX8_takeKey_9 : decode cX8_takeKey 9 = .ok (.lstore_n 2, 1) := by decide +kernel
theorem dX8_takeKey_10 : decode cX8_takeKey 10 = .ok (.aload_n 0, 1) := by decide +kernel
theorem dX8_takeKey_11 : decode cX8_takeKey 11 = .ok (.getfield 14, 3) := by decide +kernel
theorem dX8_takeKey_14 : decode cX8_takeKey 14 = .ok (.iconst 0, 1) := by decide +kernel
theorem dX8_takeKey_15 : decode cX8_takeKey 15 = .ok (.putfield 69, 3) := by decide +kernel
theorem dX8_takeKey_18 : decode cX8_takeKey 18 = .ok (.lload_n 2, 1) := by decide +kernel
theorem dX8_takeKey_19 : decode cX8_takeKey 19 = .ok (.lreturn, 1) := by decide +kernel
theorem dX8_isOpen_0 : decode cX8_isOpen 0 = .ok (.aload_n 0, 1) := by decide +kernel
theorem dX8_isOpen_1 : decode cX8_isOpen 1 = .ok (.getfield 62, 3) := by decide +kernel
theorem dX8_isOpen_4 : decode cX8_isOpen 4 = .ok (.getfield 220, 3) := by decide +kernel
theorem dX8_isOpen_7 : decode cX8_isOpen 7 = .ok (.iconst 4, 1) := by decide +kernel
theorem dX8_isOpen_8 : decode cX8_isOpen 8 = .ok (.iload_n 1, 1) := by decide +kernel
theorem dX8_isOpen_9 : decode cX8_isOpen 9 = .ok (.iadd, 1) := by decide +kernel
theorem dX8_isOpen_10 : decode cX8_isOpen 10 = .ok (.invokevirtual 224, 3) := by decide +kernel
theorem dX8_isOpen_13 : decode cX8_isOpen 13 = .ok (.iconst (-1), 1) := by decide +kernel
theorem dX8_isOpen_14 : decode cX8_isOpen 14 = .ok (.if_icmp .eq 7, 3) := by decide +kernel
theorem dX8_isOpen_21 : decode cX8_isOpen 21 = .ok (.iconst 0, 1) := by decide +kernel
theorem dX8_isOpen_22 : decode cX8_isOpen 22 = .ok (.ireturn, 1) := by decide +kernel
theorem dX8_touchDeeds_0 : decode cX8_touchDeeds 0 = .ok (.iconst 0, 1) := by decide +kernel
theorem dX8_touchDeeds_1 : decode cX8_touchDeeds 1 = .ok (.istore_n 1, 1) := by decide +kernel
theorem dX8_touchDeeds_2 : decode cX8_touchDeeds 2 = .ok (.iload_n 1, 1) := by decide +kernel
theorem dX8_touchDeeds_3 : decode cX8_touchDeeds 3 = .ok (.aload_n 0, 1) := by decide +kernel
theorem dX8_touchDeeds_4 : decode cX8_touchDeeds 4 = .ok (.getfield 27, 3) := by decide +kernel
theorem dX8_touchDeeds_7 : decode cX8_touchDeeds 7 = .ok (.getfield 397, 3) := by decide +kernel
theorem dX8_touchDeeds_10 : decode cX8_touchDeeds 10 = .ok (.if_icmp .ge 41, 3) := by decide +kernel
theorem dX8_touchDeeds_51 : decode cX8_touchDeeds 51 = .ok (.return_, 1) := by decide +kernel
theorem hd_X2_copyFrom : yX2_copyFrom.cls = RX2 ∧ yX2_copyFrom.cls ≠ "java/lang/invoke/MethodHandle" ∧ yX2_copyFrom.cls ≠ "java/lang/invoke/VarHandle" ∧ (parseMethodDescriptor yX2_copyFrom.desc).map (fun d => d.parameters.length) = some 1 := by decide +kernel
theorem hd_X7_bitsAt : yX7_bitsAt.cls = RX7 ∧ yX7_bitsAt.cls ≠ "java/lang/invoke/MethodHandle" ∧ yX7_bitsAt.cls ≠ "java/lang/invoke/VarHandle" ∧ (parseMethodDescriptor yX7_bitsAt.desc).map (fun d => d.parameters.length) = some 2 := by decide +kernel
theorem hd_X8_isKeyLength : yX8_isKeyLength.cls = RX8 ∧ yX8_isKeyLength.cls ≠ "java/lang/invoke/MethodHandle" ∧ yX8_isKeyLength.cls ≠ "java/lang/invoke/VarHandle" ∧ (parseMethodDescriptor yX8_isKeyLength.desc).map (fun d => d.parameters.length) = some 1 := by decide +kernel
theorem hd_X8_isSnapshot : yX8_isSnapshot.cls = RX8 ∧ yX8_isSnapshot.cls ≠ "java/lang/invoke/MethodHandle" ∧ yX8_isSnapshot.cls ≠ "java/lang/invoke/VarHandle" ∧ (parseMethodDescriptor yX8_isSnapshot.desc).map (fun d => d.parameters.length) = some 1 := by decide +kernel
abbrev rm_c_X8_keepState : Room := { frames := 3, cells := 0, slots := 0, locals := 68 }
set_option maxHeartbeats 4000000 in
set_option maxRecDepth 100000 in
theorem c_X8_keepState (l : Launch) (D : va_G) (cs : Nat → ClassId) (sz : Nat) (kd : Nat) (tp : Nat) (rp : Nat) (ca : Nat) (de : Nat) (bu : Nat) (pk : Nat) (pp : Nat) (pst : Nat) (img : Nat) (dr : Nat) (drp : Nat) (drp1 : Nat) (f_drp1 : Nat → Int32) (drp2 : Nat) (f_drp2 : Nat → Int32) (drp3 : Nat) (f_drp3 : Nat → Int32) (drp4 : Nat) (f_drp4 : Nat → Int32) (drp5 : Nat) (f_drp5 : Nat → Int32) (drp6 : Nat) (f_drp6 : Nat → Int32) (drp7 : Nat) (f_drp7 : Nat → Int32) (drp8 : Nat) (f_drp8 : Nat → Int32) (drp9 : Nat) (f_drp9 : Nat → Int32) (drp10 : Nat) (f_drp10 : Nat → Int32) (drk : Nat) (drk1 : Nat) (f_drk1 : Nat → Int32) (drk2 : Nat) (f_drk2 : Nat → Int64) (drk3 : Nat) (f_drk3 : Nat → Int32) (drk4 : Nat) (f_drk4 : Nat → Int32) (drk5 : Nat) (f_drk5 : Nat → Int32) (drk6 : Nat) (f_drk6 : Nat → Int32) (drm : Nat) (drm1 : Nat) (f_drm1 : Nat → Int32) (drm2 : Nat) (f_drm2 : Nat → Int64) (drm3 : Nat) (f_drm3 : Nat → Int32) (drm4 : Nat) (f_drm4 : Nat → Int32) (sp : Nat) (spp : Nat) (spp1 : Nat) (f_spp1 : Nat → Int32) (spp2 : Nat) (f_spp2 : Nat → Int32) (spp3 : Nat) (f_spp3 : Nat → Int32) (spp4 : Nat) (f_spp4 : Nat → Int32) (spp5 : Nat) (f_spp5 : Nat → Int32) (spp6 : Nat) (f_spp6 : Nat → Int32) (spp7 : Nat) (f_spp7 : Nat → Int32) (spp8 : Nat) (f_spp8 : Nat → Int32) (spp9 : Nat) (f_spp9 : Nat → Int32) (spp10 : Nat) (f_spp10 : Nat → Int32) (spk : Nat) (spk1 : Nat) (f_spk1 : Nat → Int32) (spk2 : Nat) (f_spk2 : Nat → Int64) (spk3 : Nat) (f_spk3 : Nat → Int32) (spk4 : Nat) (f_spk4 : Nat → Int32) (spk5 : Nat) (f_spk5 : Nat → Int32) (spk6 : Nat) (f_spk6 : Nat → Int32) (spm : Nat) (spm1 : Nat) (f_spm1 : Nat → Int32) (spm2 : Nat) (f_spm2 : Nat → Int64) (spm3 : Nat) (f_spm3 : Nat → Int32) (spm4 : Nat) (f_spm4 : Nat → Int32) (z_f_drp1 : ∀ j, j < 24 → f_drp1 j = 0) (z_f_drp2 : ∀ j, j < 24 → f_drp2 j = 0) (z_f_drp3 : ∀ j, j < 24 → f_drp3 j = 0) (z_f_drp4 : ∀ j, j < 240 → f_drp4 j = 0) (z_f_drp5 : ∀ j, j < 240 → f_drp5 j = 0) (z_f_drp7 : ∀ j, j < 240 → f_drp7 j = 0) (z_f_drp8 : ∀ j, j < 240 → f_drp8 j = 0) (z_f_drp9 : ∀ j, j < 240 → f_drp9 j = 0) (z_f_drp10 : ∀ j, j < 1536 → f_drp10 j = 0) (z_f_drk3 : ∀ j, j < 240 → f_drk3 j = 0) (z_f_drk4 : ∀ j, j < 240 → f_drk4 j = 0) (z_f_drk5 : ∀ j, j < 2160 → f_drk5 j = 0) (z_f_drk6 : ∀ j, j < 2160 → f_drk6 j = 0) (z_f_drm1 : ∀ j, j < 7 → f_drm1 j = (-1)) (z_f_drm3 : ∀ j, j < 3 → f_drm3 j = 0) (z_f_drm4 : ∀ j, j < 3 → f_drm4 j = 0) : cMv l yX8_keepState (Cond.code yX8_keepState cX8_keepState 1 none) (rm_c_X8_keepState) D cs [.ref kd] sz [(kd, .inr (8, [.ref tp, .ref rp, .ref ca, .ref de, .ref bu, .ref pk, .ref pp, .ref pst, .ref img, .int 0, .ref dr, .ref sp])), (dr, .inr (2, [.int 0, .ref drp, .ref drk, .ref drm])), (drp, .inr (6, [.int 0, .int 0, .int (-1), .int 0, .int 0, .int 0, .int 240, .ref drp1, .ref drp2, .ref drp3, .ref drp4, .ref drp5, .ref drp6, .ref drp7, .ref drp8, .ref drp9, .ref drp10])), (drp1, aI cs 24 f_drp1), (drp2, aI cs 24 f_drp2), (drp3, aI cs 24 f_drp3), (drp4, aI cs 240 f_drp4), (drp5, aI cs 240 f_drp5), (drp6, aI cs 240 f_drp6), (drp7, aI cs 240 f_drp7), (drp8, aI cs 240 f_drp8), (drp9, aI cs 240 f_drp9), (drp10, aB cs 1536 f_drp10), (drk, .inr (3, [.int 0, .ref drk1, .ref drk2, .ref drk3, .ref drk4, .ref drk5, .ref drk6])), (drk1, aI cs 240 f_drk1), (drk2, aJ cs 240 f_drk2), (drk3, aI cs 240 f_drk3), (drk4, aI cs 240 f_drk4), (drk5, aI cs 2160 f_drk5), (drk6, aI cs 2160 f_drk6), (drm, .inr (4, [.ref drm1, .ref drm2, .ref drm3, .ref drm4])), (drm1, aI cs 7 f_drm1), (drm2, aJ cs 3 f_drm2), (drm3, aI cs 3 f_drm3), (drm4, aI cs 3 f_drm4), (sp, .inr (2, [.int 0, .ref spp, .ref spk, .ref spm])), (spp, .inr (6, [.int 0, .int 0, .int (-1), .int 0, .int 0, .int 0, .int 240, .ref spp1, .ref spp2, .ref spp3, .ref spp4, .ref spp5, .ref spp6, .ref spp7, .ref spp8, .ref spp9, .ref spp10])), (spp1, aI cs 24 f_spp1), (spp2, aI cs 24 f_spp2), (spp3, aI cs 24 f_spp3), (spp4, aI cs 240 f_spp4), (spp5, aI cs 240 f_spp5), (spp6, aI cs 240 f_spp6), (spp7, aI cs 240 f_spp7), (spp8, aI cs 240 f_spp8), (spp9, aI cs 240 f_spp9), (spp10, aB cs 1536 f_spp10), (spk, .inr (3, [.int 0, .ref spk1, .ref spk2, .ref spk3, .ref spk4, .ref spk5, .ref spk6])), (spk1, aI cs 240 f_spk1), (spk2, aJ cs 240 f_spk2), (spk3, aI cs 240 f_spk3), (spk4, aI cs 240 f_spk4), (spk5, aI cs 2160 f_spk5), (spk6, aI cs 2160 f_spk6), (spm, .inr (4, [.ref spm1, .ref spm2, .ref spm3, .ref spm4])), (spm1, aI cs 7 f_spm1), (spm2, aJ cs 3 f_spm2), (spm3, aI cs 3 f_spm3), (spm4, aI cs 3 f_spm4)] (fun (u : Unit) => True) (fun (u : Unit) => [(kd, .inr (8, [.ref tp, .ref rp, .ref ca, .ref de, .ref bu, .ref pk, .ref pp, .ref pst, .ref img, .int 0, .ref dr, .ref sp])), (sp, .inr (2, [.int 0, .ref spp, .ref spk, .ref spm])), (dr, .inr (2, [.int 0, .ref drp, .ref drk, .ref drm])), (drp, .inr (6, [.int 0, .int 0, .int (-1), .int 0, .int 0, .int 0, .int 240, .ref drp1, .ref drp2, .ref drp3, .ref drp4, .ref drp5, .ref drp6, .ref drp7, .ref drp8, .ref drp9, .ref drp10])), (drp1, aI cs 24 f_drp1), (drp2, aI cs 24 f_drp2), (drp3, aI cs 24 f_drp3), (drp4, aI cs 240 f_drp4), (drp5, aI cs 240 f_drp5), (drp6, aI cs 240 f_drp6), (drp7, aI cs 240 f_drp7), (drp8, aI cs 240 f_drp8), (drp9, aI cs 240 f_drp9), (drp10, aB cs 1536 f_drp10), (drk, .inr (3, [.int 0, .ref drk1, .ref drk2, .ref drk3, .ref drk4, .ref drk5, .ref drk6])), (drk1, aI cs 240 f_drk1), (drk2, aJ cs 240 f_drk2), (drk3, aI cs 240 f_drk3), (drk4, aI cs 240 f_drk4), (drk5, aI cs 2160 f_drk5), (drk6, aI cs 2160 f_drk6), (drm, .inr (4, [.ref drm1, .ref drm2, .ref drm3, .ref drm4])), (drm1, aI cs 7 f_drm1), (drm2, aJ cs 3 f_drm2), (drm3, aI cs 3 f_drm3), (drm4, aI cs 3 f_drm4)]) := by
  refine kMet_v RX8 (by decide) rfl (Nat.le_of_ble_eq_true rfl) ?_
  intro p e s m below meth c ls A Qz H locs hx hb hml hown hin hu hK hsz hA hP hD hS hl hz
  subst hsz
  have hl : lv_has ls 1 [(0, .ref kd)] := hl
  refine lv_aload_n hx hb dX8_keepState_0 rfl (lv_at hl 0 rfl) ?_
  refine va_get (D := D) (ci := 8) (v := .ref sp) (C := RX8) (T := TX8) (N := 12) hx hb hu in_X8 hown hK.1 hP 0 rfl rfl 11 (by decide) (hu _ u_348) (fun _ h9 => h9) rfl dX8_keepState_1 ?_
  refine lv_ifnonnull (tgt := 18) hx hb dX8_keepState_4 (by decide) ?_
  refine lv_aload_n hx hb dX8_keepState_18 rfl (lv_at hl 0 rfl) ?_
  refine va_get (D := D) (ci := 8) (v := .ref sp) (C := RX8) (T := TX8) (N := 12) hx hb hu in_X8 hown hK.1 hP 0 rfl rfl 11 (by decide) (hu _ u_348) (fun _ h9 => h9) rfl dX8_keepState_19 ?_
  refine lv_aload_n hx hb dX8_keepState_22 rfl (lv_at hl 0 rfl) ?_
  refine va_get (D := D) (ci := 8) (v := .ref dr) (C := RX8) (T := TX8) (N := 12) hx hb hu in_X8 hown hK.1 hP 0 rfl rfl 10 (by decide) (hu _ u_347) (fun _ h9 => h9) rfl dX8_keepState_23 ?_
  refine kV_v (ci := 2) (As := [.ref dr]) (rest := []) (wc := [(sp, .inr (2, [.int 0, .ref spp, .ref spk, .ref spm])), (spp, .inr (6, [.int 0, .int 0, .int (-1), .int 0, .int 0, .int 0, .int 240, .ref spp1, .ref spp2, .ref spp3, .ref spp4, .ref spp5, .ref spp6, .ref spp7, .ref spp8, .ref spp9, .ref spp10])), (spp1, aI cs 24 f_spp1), (spp2, aI cs 24 f_spp2), (spp3, aI cs 24 f_spp3), (spp4, aI cs 240 f_spp4), (spp5, aI cs 240 f_spp5), (spp6, aI cs 240 f_spp6), (spp7, aI cs 240 f_spp7), (spp8, aI cs 240 f_spp8), (spp9, aI cs 240 f_spp9), (spp10, aB cs 1536 f_spp10), (spk, .inr (3, [.int 0, .ref spk1, .ref spk2, .ref spk3, .ref spk4, .ref spk5, .ref spk6])), (spk1, aI cs 240 f_spk1), (spk2, aJ cs 240 f_spk2), (spk3, aI cs 240 f_spk3), (spk4, aI cs 240 f_spk4), (spk5, aI cs 2160 f_spk5), (spk6, aI cs 2160 f_spk6), (spm, .inr (4, [.ref spm1, .ref spm2, .ref spm3, .ref spm4])), (spm1, aI cs 7 f_spm1), (spm2, aJ cs 3 f_spm2), (spm3, aI cs 3 f_spm3), (spm4, aI cs 3 f_spm4), (dr, .inr (2, [.int 0, .ref drp, .ref drk, .ref drm])), (drp, .inr (6, [.int 0, .int 0, .int (-1), .int 0, .int 0, .int 0, .int 240, .ref drp1, .ref drp2, .ref drp3, .ref drp4, .ref drp5, .ref drp6, .ref drp7, .ref drp8, .ref drp9, .ref drp10])), (drp1, aI cs 24 f_drp1), (drp2, aI cs 24 f_drp2), (drp3, aI cs 24 f_drp3), (drp4, aI cs 240 f_drp4), (drp5, aI cs 240 f_drp5), (drp6, aI cs 240 f_drp6), (drp7, aI cs 240 f_drp7), (drp8, aI cs 240 f_drp8), (drp9, aI cs 240 f_drp9), (drp10, aB cs 1536 f_drp10), (drk, .inr (3, [.int 0, .ref drk1, .ref drk2, .ref drk3, .ref drk4, .ref drk5, .ref drk6])), (drk1, aI cs 240 f_drk1), (drk2, aJ cs 240 f_drk2), (drk3, aI cs 240 f_drk3), (drk4, aI cs 240 f_drk4), (drk5, aI cs 2160 f_drk5), (drk6, aI cs 2160 f_drk6), (drm, .inr (4, [.ref drm1, .ref drm2, .ref drm3, .ref drm4])), (drm1, aI cs 7 f_drm1), (drm2, aJ cs 3 f_drm2), (drm3, aI cs 3 f_drm3), (drm4, aI cs 3 f_drm4)]) (wr := [(kd, .inr (8, [.ref tp, .ref rp, .ref ca, .ref de, .ref bu, .ref pk, .ref pp, .ref pst, .ref img, .int 0, .ref dr, .ref sp]))]) hx hb hml hown hu hK hP hD hS hA hl.1 (c_X2_copyFrom l D cs H.size dr drp drp1 f_drp1 drp2 f_drp2 drp3 f_drp3 drp4 f_drp4 drp5 f_drp5 drp6 f_drp6 drp7 f_drp7 drp8 f_drp8 drp9 f_drp9 drp10 f_drp10 drk drk1 f_drk1 drk2 f_drk2 drk3 f_drk3 drk4 f_drk4 drk5 f_drk5 drk6 f_drk6 drm drm1 f_drm1 drm2 f_drm2 drm3 f_drm3 drm4 f_drm4 sp spp spp1 f_spp1 spp2 f_spp2 spp3 f_spp3 spp4 f_spp4 spp5 f_spp5 spp6 f_spp6 spp7 f_spp7 spp8 f_spp8 spp9 f_spp9 spp10 f_spp10 spk spk1 f_spk1 spk2 f_spk2 spk3 f_spk3 spk4 f_spk4 spk5 f_spk5 spk6 f_spk6 spm spm1 f_spm1 spm2 f_spm2 spm3 f_spm3 spm4 f_spm4 0 0 (-1) 0 0 0 240 z_f_drp1 z_f_drp2 z_f_drp3 z_f_drp4 z_f_drp5 z_f_drp7 z_f_drp8 z_f_drp9 z_f_drp10 z_f_drk3 z_f_drk4 z_f_drk5 z_f_drk6 z_f_drm1 z_f_drm3 z_f_drm4) (gV u_405 u_406 u_407 u_73 u_408) hd_X2_copyFrom ⟨(Nat.le_of_ble_eq_true rfl), (Nat.le_of_ble_eq_true rfl)⟩ [25, 26, 27, 28, 29, 30, 31, 32, 33, 34, 35, 36, 37, 38, 39, 40, 41, 42, 43, 44, 45, 46, 47, 48, 1, 2, 3, 4, 5, 6, 7, 8, 9, 10, 11, 12, 13, 14, 15, 16, 17, 18, 19, 20, 21, 22, 23, 24] [0] rfl rfl rfl rfl (by decide) rfl 0 rfl rfl rfl (Nat.le_of_ble_eq_true rfl) dX8_keepState_26 ⟨(Nat.le_of_ble_eq_true rfl), (Nat.le_of_ble_eq_true rfl)⟩ (fun ut_2 H locs hw_3 hP hD hS => ?_)
  have hP : va_P D vwCl [(kd, .inr (8, [.ref tp, .ref rp, .ref ca, .ref de, .ref bu, .ref pk, .ref pp, .ref pst, .ref img, .int 0, .ref dr, .ref sp])), (sp, .inr (2, [.int 0, .ref spp, .ref spk, .ref spm])), (dr, .inr (2, [.int 0, .ref drp, .ref drk, .ref drm])), (drp, .inr (6, [.int 0, .int 0, .int (-1), .int 0, .int 0, .int 0, .int 240, .ref drp1, .ref drp2, .ref drp3, .ref drp4, .ref drp5, .ref drp6, .ref drp7, .ref drp8, .ref drp9, .ref drp10])), (drp1, aI cs 24 f_drp1), (drp2, aI cs 24 f_drp2), (drp3, aI cs 24 f_drp3), (drp4, aI cs 240 f_drp4), (drp5, aI cs 240 f_drp5), (drp6, aI cs 240 f_drp6), (drp7, aI cs 240 f_drp7), (drp8, aI cs 240 f_drp8), (drp9, aI cs 240 f_drp9), (drp10, aB cs 1536 f_drp10), (drk, .inr (3, [.int 0, .ref drk1, .ref drk2, .ref drk3, .ref drk4, .ref drk5, .ref drk6])), (drk1, aI cs 240 f_drk1), (drk2, aJ cs 240 f_drk2), (drk3, aI cs 240 f_drk3), (drk4, aI cs 240 f_drk4), (drk5, aI cs 2160 f_drk5), (drk6, aI cs 2160 f_drk6), (drm, .inr (4, [.ref drm1, .ref drm2, .ref drm3, .ref drm4])), (drm1, aI cs 7 f_drm1), (drm2, aJ cs 3 f_drm2), (drm3, aI cs 3 f_drm3), (drm4, aI cs 3 f_drm4)] H := hP
  have hD : va_D A [(kd, .inr (8, [.ref tp, .ref rp, .ref ca, .ref de, .ref bu, .ref pk, .ref pp, .ref pst, .ref img, .int 0, .ref dr, .ref sp])), (sp, .inr (2, [.int 0, .ref spp, .ref spk, .ref spm])), (dr, .inr (2, [.int 0, .ref drp, .ref drk, .ref drm])), (drp, .inr (6, [.int 0, .int 0, .int (-1), .int 0, .int 0, .int 0, .int 240, .ref drp1, .ref drp2, .ref drp3, .ref drp4, .ref drp5, .ref drp6, .ref drp7, .ref drp8, .ref drp9, .ref drp10])), (drp1, aI cs 24 f_drp1), (drp2, aI cs 24 f_drp2), (drp3, aI cs 24 f_drp3), (drp4, aI cs 240 f_drp4), (drp5, aI cs 240 f_drp5), (drp6, aI cs 240 f_drp6), (drp7, aI cs 240 f_drp7), (drp8, aI cs 240 f_drp8), (drp9, aI cs 240 f_drp9), (drp10, aB cs 1536 f_drp10), (drk, .inr (3, [.int 0, .ref drk1, .ref drk2, .ref drk3, .ref drk4, .ref drk5, .ref drk6])), (drk1, aI cs 240 f_drk1), (drk2, aJ cs 240 f_drk2), (drk3, aI cs 240 f_drk3), (drk4, aI cs 240 f_drk4), (drk5, aI cs 2160 f_drk5), (drk6, aI cs 2160 f_drk6), (drm, .inr (4, [.ref drm1, .ref drm2, .ref drm3, .ref drm4])), (drm1, aI cs 7 f_drm1), (drm2, aJ cs 3 f_drm2), (drm3, aI cs 3 f_drm3), (drm4, aI cs 3 f_drm4)] := hD
  exact hz () hP hD hS trivial [0, 1, 2, 3, 4, 5, 6, 7, 8, 9, 10, 11, 12, 13, 14, 15, 16, 17, 18, 19, 20, 21, 22, 23, 24, 25] rfl rfl (Nat.le_of_ble_eq_true rfl) (Nat.le_of_ble_eq_true rfl) rfl dX8_keepState_29
abbrev rm_c_X8_makeUndoable : Room := { frames := 0, cells := 0, slots := 0, locals := 0 }
set_option maxHeartbeats 4000000 in
set_option maxRecDepth 100000 in
theorem c_X8_makeUndoable (l : Launch) (D : va_G) (cs : Nat → ClassId) (sz : Nat) (kd : Nat) (tp : Nat) (rp : Nat) (ca : Nat) (de : Nat) (bu : Nat) (pk : Nat) (pp : Nat) (pst : Nat) (img : Nat) (dr : Nat) (sp : Nat) (spp : Nat) (spk : Nat) (spm : Nat)  : cMv l yX8_makeUndoable (Cond.code yX8_makeUndoable cX8_makeUndoable 3 none) (rm_c_X8_makeUndoable) D cs [.ref kd] sz [(kd, .inr (8, [.ref tp, .ref rp, .ref ca, .ref de, .ref bu, .ref pk, .ref pp, .ref pst, .ref img, .int 0, .ref dr, .ref sp])), (pst, aD cs 10 (fun _ => none)), (sp, .inr (2, [.int 0, .ref spp, .ref spk, .ref spm]))] (fun (u : Unit) => True) (fun (u : Unit) => [(kd, .inr (8, [.ref tp, .ref rp, .ref ca, .ref de, .ref bu, .ref pk, .ref pp, .ref pst, .ref img, .int 1, .ref dr, .null]))]) := by
  refine kMet_v RX8 (by decide) rfl (Nat.le_of_ble_eq_true rfl) ?_
  intro p e s m below meth c ls A Qz H locs hx hb hml hown hin hu hK hsz hA hP hD hS hl hz
  subst hsz
  have hl : lv_has ls 3 [(0, .ref kd)] := hl
  refine lv_aload_n hx hb dX8_makeUndoable_0 rfl (lv_at hl 0 rfl) ?_
  refine va_get (D := D) (ci := 8) (v := .int 0) (C := RX8) (T := TX8) (N := 12) hx hb hu in_X8 hown hK.1 hP 0 rfl rfl 9 (by decide) (hu _ u_346) (fun _ h9 => h9) rfl dX8_makeUndoable_1 ?_
  refine lv_bipush (v := 10) hx hb dX8_makeUndoable_4 (by decide) ?_
  refine lv_icmp_ge (tgt := 48) hx hb dX8_makeUndoable_6 (by decide) (fun c_1 => absurd c_1 (by decide)) (fun c_1 => ?_)
  refine lv_aload_n hx hb dX8_makeUndoable_9 rfl (lv_at hl 0 rfl) ?_
  refine va_get (D := D) (ci := 8) (v := .ref pst) (C := RX8) (T := TX8) (N := 12) hx hb hu in_X8 hown hK.1 hP 0 rfl rfl 7 (by decide) (hu _ u_344) (fun _ h9 => h9) rfl dX8_makeUndoable_10 ?_
  refine lv_aload_n hx hb dX8_makeUndoable_13 rfl (lv_at hl 0 rfl) ?_
  refine va_get (D := D) (ci := 8) (v := .int 0) (C := RX8) (T := TX8) (N := 12) hx hb hu in_X8 hown hK.1 hP 0 rfl rfl 9 (by decide) (hu _ u_346) (fun _ h9 => h9) rfl dX8_makeUndoable_14 ?_
  refine va_aldq hx hb hK.1 hP 1 4 rfl rfl (vin_c _ _ rfl) dX8_makeUndoable_17 ?_
  refine tpv (y := .null) rfl ?_
  refine lv_astore_nN (lv' := [(1, .null), (0, .ref kd)]) hx hb dX8_makeUndoable_18 rfl hl (by decide) rfl (fun ls hl => ?_)
  refine lv_aload_n hx hb dX8_makeUndoable_19 rfl (lv_at hl 1 rfl) ?_
  refine va_get (D := D) (ci := 8) (v := .ref pst) (C := RX8) (T := TX8) (N := 12) hx hb hu in_X8 hown hK.1 hP 0 rfl rfl 7 (by decide) (hu _ u_344) (fun _ h9 => h9) rfl dX8_makeUndoable_20 ?_
  refine lv_aload_n hx hb dX8_makeUndoable_23 rfl (lv_at hl 1 rfl) ?_
  refine va_get (D := D) (ci := 8) (v := .int 0) (C := RX8) (T := TX8) (N := 12) hx hb hu in_X8 hown hK.1 hP 0 rfl rfl 9 (by decide) (hu _ u_346) (fun _ h9 => h9) rfl dX8_makeUndoable_24 ?_
  refine lv_aload_n hx hb dX8_makeUndoable_27 rfl (lv_at hl 1 rfl) ?_
  refine va_get (D := D) (ci := 8) (v := .ref sp) (C := RX8) (T := TX8) (N := 12) hx hb hu in_X8 hown hK.1 hP 0 rfl rfl 11 (by decide) (hu _ u_348) (fun _ h9 => h9) rfl dX8_makeUndoable_28 ?_
  refine va_astq (r := (RX2, TX2, 4)) hx hb hK.1 hP hD hS 1 4 2 2 rfl rfl rfl rfl (vin_c _ _ rfl) dX8_makeUndoable_31 (fun H locs hP hD hS => ?_)
  have hP : va_P D vwCl [(kd, .inr (8, [.ref tp, .ref rp, .ref ca, .ref de, .ref bu, .ref pk, .ref pp, .ref pst, .ref img, .int 0, .ref dr, .ref sp])), (pst, aD cs 10 (va_up (fun _ => none) (0 : Int32).toNatClampNeg (some sp))), (sp, .inr (2, [.int 0, .ref spp, .ref spk, .ref spm]))] H := hP
  have hD : va_D A [(kd, .inr (8, [.ref tp, .ref rp, .ref ca, .ref de, .ref bu, .ref pk, .ref pp, .ref pst, .ref img, .int 0, .ref dr, .ref sp])), (pst, aD cs 10 (va_up (fun _ => none) (0 : Int32).toNatClampNeg (some sp))), (sp, .inr (2, [.int 0, .ref spp, .ref spk, .ref spm]))] := hD
  refine lv_aload_n hx hb dX8_makeUndoable_32 rfl (lv_at hl 1 rfl) ?_
  refine lv_dup hx hb dX8_makeUndoable_33 rfl ?_
  refine va_get (D := D) (ci := 8) (v := .int 0) (C := RX8) (T := TX8) (N := 12) hx hb hu in_X8 hown hK.1 hP 0 rfl rfl 9 (by decide) (hu _ u_346) (fun _ h9 => h9) rfl dX8_makeUndoable_34 ?_
  refine lv_iconst (v := 1) hx hb dX8_makeUndoable_37 (by decide) ?_
  refine lv_iadd hx hb dX8_makeUndoable_38 ?_
  refine tpi (y := 1) (by decide) ?_
  refine va_put (D := D) (ci := 8) (v := .int 1) (ty := tyX8 9) (C := RX8) (T := TX8) (N := 12) hx hb hu in_X8 tyX8 tyX8_ok nmX8 hown hK.1 hP hD hS 0 rfl rfl 9 (by decide) (hu _ u_346) (fun _ h9 => h9) rfl (tyX8_ok 9 (by decide)) rfl rfl (Nat.le_of_ble_eq_true rfl) dX8_makeUndoable_39 (fun H locs hP hD hS => ?_)
  have hP : va_P D vwCl [(kd, .inr (8, [.ref tp, .ref rp, .ref ca, .ref de, .ref bu, .ref pk, .ref pp, .ref pst, .ref img, .int 1, .ref dr, .ref sp])), (pst, aD cs 10 (va_up (fun _ => none) (0 : Int32).toNatClampNeg (some sp))), (sp, .inr (2, [.int 0, .ref spp, .ref spk, .ref spm]))] H := hP
  have hD : va_D A [(kd, .inr (8, [.ref tp, .ref rp, .ref ca, .ref de, .ref bu, .ref pk, .ref pp, .ref pst, .ref img, .int 1, .ref dr, .ref sp])), (pst, aD cs 10 (va_up (fun _ => none) (0 : Int32).toNatClampNeg (some sp))), (sp, .inr (2, [.int 0, .ref spp, .ref spk, .ref spm]))] := hD
  refine lv_aload_n hx hb dX8_makeUndoable_42 rfl (lv_at hl 1 rfl) ?_
  refine lv_aload_nN hx hb dX8_makeUndoable_43 rfl (lv_at hl 0 rfl) ?_
  refine va_put (D := D) (ci := 8) (v := .null) (ty := tyX8 11) (C := RX8) (T := TX8) (N := 12) hx hb hu in_X8 tyX8 tyX8_ok nmX8 hown hK.1 hP hD hS 0 rfl rfl 11 (by decide) (hu _ u_348) (fun _ h9 => h9) rfl (tyX8_ok 11 (by decide)) rfl rfl (Nat.le_of_ble_eq_true rfl) dX8_makeUndoable_44 (fun H locs hP hD hS => ?_)
  have hP : va_P D vwCl [(kd, .inr (8, [.ref tp, .ref rp, .ref ca, .ref de, .ref bu, .ref pk, .ref pp, .ref pst, .ref img, .int 1, .ref dr, .null])), (pst, aD cs 10 (va_up (fun _ => none) (0 : Int32).toNatClampNeg (some sp))), (sp, .inr (2, [.int 0, .ref spp, .ref spk, .ref spm]))] H := hP
  have hD : va_D A [(kd, .inr (8, [.ref tp, .ref rp, .ref ca, .ref de, .ref bu, .ref pk, .ref pp, .ref pst, .ref img, .int 1, .ref dr, .null])), (pst, aD cs 10 (va_up (fun _ => none) (0 : Int32).toNatClampNeg (some sp))), (sp, .inr (2, [.int 0, .ref spp, .ref spk, .ref spm]))] := hD
  exact hz () hP hD hS trivial [0] rfl rfl (Nat.le_of_ble_eq_true rfl) (Nat.le_of_ble_eq_true rfl) rfl dX8_makeUndoable_47
abbrev rm_c_X8_momentOf : Room := { frames := 1, cells := 0, slots := 0, locals := 21 }
set_option maxHeartbeats 4000000 in
set_option maxRecDepth 100000 in
theorem c_X8_momentOf (l : Launch) (D : va_G) (cs : Nat → ClassId) (sz : Nat) (kd : Nat) (tp : Nat) (rp : Nat) (ca : Nat) (de : Nat) (bu : Nat) (pk : Nat) (pp : Nat) (pst : Nat) (img : Nat) (dr : Nat) (drp : Nat) (drk : Nat) (drm : Nat) (drm1 : Nat) (f_drm1 : Nat → Int32) (drm2 : Nat) (drm3 : Nat) (drm4 : Nat) (sp : Nat) (x : Int32) (z_f_drm1 : ∀ j, j < 7 → f_drm1 j = (-1)) : cMi l yX8_momentOf (Cond.code yX8_momentOf cX8_momentOf 3 (some .int)) (rm_c_X8_momentOf) D cs [.ref kd, .int x] sz [(kd, .inr (8, [.ref tp, .ref rp, .ref ca, .ref de, .ref bu, .ref pk, .ref pp, .ref pst, .ref img, .int 0, .ref dr, .ref sp])), (dr, .inr (2, [.int 0, .ref drp, .ref drk, .ref drm])), (drm, .inr (4, [.ref drm1, .ref drm2, .ref drm3, .ref drm4])), (drm1, aI cs 7 f_drm1)] (fun (r : Int32) (u : Unit) => ((r = 0) ∧ (x = -1)) ∨ ((r = (-2)) ∧ (¬ x = -1 ∧ (x < 0 ∨ 4 ≤ x))) ∨ ((r = (-6)) ∧ (¬ x = -1 ∧ ¬ x < 0 ∧ x < 4))) (fun (u : Unit) => [(kd, .inr (8, [.ref tp, .ref rp, .ref ca, .ref de, .ref bu, .ref pk, .ref pp, .ref pst, .ref img, .int 0, .ref dr, .ref sp])), (dr, .inr (2, [.int 0, .ref drp, .ref drk, .ref drm])), (drm, .inr (4, [.ref drm1, .ref drm2, .ref drm3, .ref drm4])), (drm1, aI cs 7 f_drm1)]) := by
  refine kMet_i RX8 (by decide) rfl (Nat.le_of_ble_eq_true rfl) ?_
  intro p e s m below meth c ls A Qz H locs hx hb hml hown hin hu hK hsz hA hP hD hS hl hz
  subst hsz
  have hl : lv_has ls 3 [(0, .ref kd), (1, .int x)] := hl
  refine lv_iload_n hx hb dX8_momentOf_0 rfl (lv_at hl 1 rfl) ?_
  refine lv_iconst (v := (-1)) hx hb dX8_momentOf_1 (by decide) ?_
  refine lv_icmp_ne (tgt := 13) hx hb dX8_momentOf_2 (by decide) (fun c_1 => ?_) (fun c_1 => ?_)
  · refine lv_iload_n hx hb dX8_momentOf_13 rfl (lv_at hl 1 rfl) ?_
    refine kS_i  (As := [.int x]) (rest := []) (wc := []) (wr := [(kd, .inr (8, [.ref tp, .ref rp, .ref ca, .ref de, .ref bu, .ref pk, .ref pp, .ref pst, .ref img, .int 0, .ref dr, .ref sp])), (dr, .inr (2, [.int 0, .ref drp, .ref drk, .ref drm])), (drm, .inr (4, [.ref drm1, .ref drm2, .ref drm3, .ref drm4])), (drm1, aI cs 7 f_drm1)]) hx hb hml hown hu hK hP hD hS hA hl.1 (c_X8_isSnapshot l D cs H.size x) (gS u_612 u_613 u_66 u_614) hd_X8_isSnapshot ⟨(Nat.le_of_ble_eq_true rfl), (Nat.le_of_ble_eq_true rfl)⟩ [] [0, 1, 2, 3] rfl rfl rfl rfl (by decide) rfl rfl (Nat.le_of_ble_eq_true rfl) dX8_momentOf_14 ⟨(Nat.le_of_ble_eq_true rfl), (Nat.le_of_ble_eq_true rfl)⟩ (fun r_2 ut_3 H locs hw_4 hP hD hS => ?_)
    have hP : va_P D vwCl [(kd, .inr (8, [.ref tp, .ref rp, .ref ca, .ref de, .ref bu, .ref pk, .ref pp, .ref pst, .ref img, .int 0, .ref dr, .ref sp])), (dr, .inr (2, [.int 0, .ref drp, .ref drk, .ref drm])), (drm, .inr (4, [.ref drm1, .ref drm2, .ref drm3, .ref drm4])), (drm1, aI cs 7 f_drm1)] H := hP
    have hD : va_D A [(kd, .inr (8, [.ref tp, .ref rp, .ref ca, .ref de, .ref bu, .ref pk, .ref pp, .ref pst, .ref img, .int 0, .ref dr, .ref sp])), (dr, .inr (2, [.int 0, .ref drp, .ref drk, .ref drm])), (drm, .inr (4, [.ref drm1, .ref drm2, .ref drm3, .ref drm4])), (drm1, aI cs 7 f_drm1)] := hD
    rcases hw_4 with hw_4 | hw_4
    · obtain ⟨er_5, hf_6⟩ := hw_4
      subst er_5
      refine lv_if_ne (tgt := 23) hx hb dX8_momentOf_17 (by decide) (fun c_7 => ?_) (fun c_7 => absurd c_7 (by decide))
      refine lv_aload_n hx hb dX8_momentOf_23 rfl (lv_at hl 0 rfl) ?_
      refine va_get (D := D) (ci := 8) (v := .ref dr) (C := RX8) (T := TX8) (N := 12) hx hb hu in_X8 hown hK.1 hP 0 rfl rfl 10 (by decide) (hu _ u_347) (fun _ h9 => h9) rfl dX8_momentOf_24 ?_
      refine va_get (D := D) (ci := 2) (v := .ref drm) (C := RX2) (T := TX2) (N := 4) hx hb hu in_X2 hown hK.1 hP 1 rfl rfl 3 (by decide) (hu _ u_327) (fun _ h9 => h9) rfl dX8_momentOf_27 ?_
      refine lv_iload_n hx hb dX8_momentOf_30 rfl (lv_at hl 1 rfl) ?_
      refine kV_i (ci := 4) (As := [.int x]) (rest := []) (wc := [(drm, .inr (4, [.ref drm1, .ref drm2, .ref drm3, .ref drm4])), (drm1, aI cs 7 f_drm1)]) (wr := [(kd, .inr (8, [.ref tp, .ref rp, .ref ca, .ref de, .ref bu, .ref pk, .ref pp, .ref pst, .ref img, .int 0, .ref dr, .ref sp])), (dr, .inr (2, [.int 0, .ref drp, .ref drk, .ref drm]))]) hx hb hml hown hu hK hP hD hS hA hl.1 (c_X4_heldAt l D cs H.size drm drm1 f_drm1 drm2 drm3 drm4 x z_f_drm1) (gV u_615 u_616 u_617 u_75 u_618) hd_X4_heldAt ⟨(Nat.le_of_ble_eq_true rfl), (Nat.le_of_ble_eq_true rfl)⟩ [2, 3] [0, 1] rfl rfl rfl rfl (by decide) rfl 0 rfl rfl rfl (Nat.le_of_ble_eq_true rfl) dX8_momentOf_31 ⟨(Nat.le_of_ble_eq_true rfl), (Nat.le_of_ble_eq_true rfl)⟩ (fun r_8 ut_9 H locs hw_10 hP hD hS => ?_)
      have hP : va_P D vwCl [(kd, .inr (8, [.ref tp, .ref rp, .ref ca, .ref de, .ref bu, .ref pk, .ref pp, .ref pst, .ref img, .int 0, .ref dr, .ref sp])), (dr, .inr (2, [.int 0, .ref drp, .ref drk, .ref drm])), (drm, .inr (4, [.ref drm1, .ref drm2, .ref drm3, .ref drm4])), (drm1, aI cs 7 f_drm1)] H := hP
      have hD : va_D A [(kd, .inr (8, [.ref tp, .ref rp, .ref ca, .ref de, .ref bu, .ref pk, .ref pp, .ref pst, .ref img, .int 0, .ref dr, .ref sp])), (dr, .inr (2, [.int 0, .ref drp, .ref drk, .ref drm])), (drm, .inr (4, [.ref drm1, .ref drm2, .ref drm3, .ref drm4])), (drm1, aI cs 7 f_drm1)] := hD
      have er_11 := hw_10
      subst er_11
      refine lv_istore_n (lv' := [(2, .int (-1)), (0, .ref kd), (1, .int x)]) hx hb dX8_momentOf_34 rfl hl (by decide) rfl (fun ls hl => ?_)
      refine lv_iload_n hx hb dX8_momentOf_35 rfl (lv_at hl 0 rfl) ?_
      refine lv_iconst (v := (-1)) hx hb dX8_momentOf_36 (by decide) ?_
      refine lv_icmp_ne (tgt := 45) hx hb dX8_momentOf_37 (by decide) (fun c_12 => absurd (by decide) c_12) (fun c_12 => ?_)
      refine lv_bipush (v := (-6)) hx hb dX8_momentOf_40 (by decide) ?_
      refine lv_goto (tgt := 46) hx hb dX8_momentOf_42 (by decide) ?_
      exact hz () hP hD hS (Or.inr (Or.inr (⟨rfl, (by grind)⟩))) [0, 1, 2, 3] rfl rfl (Nat.le_of_ble_eq_true rfl) (Nat.le_of_ble_eq_true rfl) .int rfl rfl dX8_momentOf_46
    · obtain ⟨er_13, hf_14⟩ := hw_4
      subst er_13
      refine lv_if_ne (tgt := 23) hx hb dX8_momentOf_17 (by decide) (fun c_15 => absurd (by decide) c_15) (fun c_15 => ?_)
      refine lv_bipush (v := (-2)) hx hb dX8_momentOf_20 (by decide) ?_
      exact hz () hP hD hS (Or.inr (Or.inl (⟨rfl, (by grind)⟩))) [0, 1, 2, 3] rfl rfl (Nat.le_of_ble_eq_true rfl) (Nat.le_of_ble_eq_true rfl) .int rfl rfl dX8_momentOf_22
  · refine lv_aload_n hx hb dX8_momentOf_5 rfl (lv_at hl 0 rfl) ?_
    refine va_get (D := D) (ci := 8) (v := .ref dr) (C := RX8) (T := TX8) (N := 12) hx hb hu in_X8 hown hK.1 hP 0 rfl rfl 10 (by decide) (hu _ u_347) (fun _ h9 => h9) rfl dX8_momentOf_6 ?_
    refine va_get (D := D) (ci := 2) (v := .int 0) (C := RX2) (T := TX2) (N := 4) hx hb hu in_X2 hown hK.1 hP 1 rfl rfl 0 (by decide) (hu _ u_317) (fun _ h9 => h9) rfl dX8_momentOf_9 ?_
    exact hz () hP hD hS (Or.inl (⟨rfl, (by grind)⟩)) [0, 1, 2, 3] rfl rfl (Nat.le_of_ble_eq_true rfl) (Nat.le_of_ble_eq_true rfl) .int rfl rfl dX8_momentOf_12
abbrev rm_c_X8_isOnTape : Room := { frames := 1, cells := 0, slots := 0, locals := 20 }
set_option maxHeartbeats 4000000 in
set_option maxRecDepth 100000 in
theorem c_X8_isOnTape (l : Launch) (D : va_G) (cs : Nat → ClassId) (sz : Nat) (kd : Nat) (tp : Nat) (tpb : Nat) (rp : Nat) (ca : Nat) (de : Nat) (bu : Nat) (pk : Nat) (pp : Nat) (pst : Nat) (img : Nat) (dr : Nat) (sp : Nat) (x : Int32)  : cMi l yX8_isOnTape (Cond.code yX8_isOnTape cX8_isOnTape 2 (some .boolean)) (rm_c_X8_isOnTape) D cs [.ref kd, .int x] sz [(kd, .inr (8, [.ref tp, .ref rp, .ref ca, .ref de, .ref bu, .ref pk, .ref pp, .ref pst, .ref img, .int 0, .ref dr, .ref sp])), (tp, .inr (7, [.ref tpb, .int 0]))] (fun (r : Int32) (u : Unit) => (r = 0)) (fun (u : Unit) => [(kd, .inr (8, [.ref tp, .ref rp, .ref ca, .ref de, .ref bu, .ref pk, .ref pp, .ref pst, .ref img, .int 0, .ref dr, .ref sp])), (tp, .inr (7, [.ref tpb, .int 0]))]) := by
  refine kMet_i RX8 (by decide) rfl (Nat.le_of_ble_eq_true rfl) ?_
  intro p e s m below meth c ls A Qz H locs hx hb hml hown hin hu hK hsz hA hP hD hS hl hz
  subst hsz
  have hl : lv_has ls 2 [(0, .ref kd), (1, .int x)] := hl
  refine lv_iload_n hx hb dX8_isOnTape_0 rfl (lv_at hl 1 rfl) ?_
  refine kS_i  (As := [.int x]) (rest := []) (wc := []) (wr := [(kd, .inr (8, [.ref tp, .ref rp, .ref ca, .ref de, .ref bu, .ref pk, .ref pp, .ref pst, .ref img, .int 0, .ref dr, .ref sp])), (tp, .inr (7, [.ref tpb, .int 0]))]) hx hb hml hown hu hK hP hD hS hA hl.1 (c_X8_isKeyLength l D cs H.size x) (gS u_390 u_391 u_66 u_392) hd_X8_isKeyLength ⟨(Nat.le_of_ble_eq_true rfl), (Nat.le_of_ble_eq_true rfl)⟩ [] [0, 1] rfl rfl rfl rfl (by decide) rfl rfl (Nat.le_of_ble_eq_true rfl) dX8_isOnTape_1 ⟨(Nat.le_of_ble_eq_true rfl), (Nat.le_of_ble_eq_true rfl)⟩ (fun r_1 ut_2 H locs hw_3 hP hD hS => ?_)
  have hP : va_P D vwCl [(kd, .inr (8, [.ref tp, .ref rp, .ref ca, .ref de, .ref bu, .ref pk, .ref pp, .ref pst, .ref img, .int 0, .ref dr, .ref sp])), (tp, .inr (7, [.ref tpb, .int 0]))] H := hP
  have hD : va_D A [(kd, .inr (8, [.ref tp, .ref rp, .ref ca, .ref de, .ref bu, .ref pk, .ref pp, .ref pst, .ref img, .int 0, .ref dr, .ref sp])), (tp, .inr (7, [.ref tpb, .int 0]))] := hD
  rcases hw_3 with hw_3 | hw_3
  · obtain ⟨er_4, hf_5⟩ := hw_3
    subst er_4
    refine lv_if_eq (tgt := 22) hx hb dX8_isOnTape_4 (by decide) (fun c_6 => absurd c_6 (by decide)) (fun c_6 => ?_)
    refine lv_iload_n hx hb dX8_isOnTape_7 rfl (lv_at hl 1 rfl) ?_
    refine lv_aload_n hx hb dX8_isOnTape_8 rfl (lv_at hl 0 rfl) ?_
    refine va_get (D := D) (ci := 8) (v := .ref tp) (C := RX8) (T := TX8) (N := 12) hx hb hu in_X8 hown hK.1 hP 0 rfl rfl 0 (by decide) (hu _ u_337) (fun _ h9 => h9) rfl dX8_isOnTape_9 ?_
    refine va_get (D := D) (ci := 7) (v := .int 0) (C := RX7) (T := TX7) (N := 2) hx hb hu in_X7 hown hK.1 hP 1 rfl rfl 1 (by decide) (hu _ u_96) (fun _ h9 => h9) rfl dX8_isOnTape_12 ?_
    refine lv_icmp_gt (tgt := 22) hx hb dX8_isOnTape_15 (by decide) (fun c_7 => ?_) (fun c_7 => absurd (by grind) c_7)
    refine lv_iconst (v := 0) hx hb dX8_isOnTape_22 (by decide) ?_
    exact hz () hP hD hS rfl [0, 1] rfl rfl (Nat.le_of_ble_eq_true rfl) (Nat.le_of_ble_eq_true rfl) .boolean rfl rfl dX8_isOnTape_23
  · obtain ⟨er_8, hf_9⟩ := hw_3
    subst er_8
    refine lv_if_eq (tgt := 22) hx hb dX8_isOnTape_4 (by decide) (fun c_10 => ?_) (fun c_10 => absurd (by decide) c_10)
    refine lv_iconst (v := 0) hx hb dX8_isOnTape_22 (by decide) ?_
    exact hz () hP hD hS rfl [0, 1] rfl rfl (Nat.le_of_ble_eq_true rfl) (Nat.le_of_ble_eq_true rfl) .boolean rfl rfl dX8_isOnTape_23
abbrev rm_c_X8_takeKey : Room := { frames := 1, cells := 0, slots := 0, locals := 25 }
set_option maxHeartbeats 4000000 in
set_option maxRecDepth 100000 in
theorem c_X8_takeKey (l : Launch) (D : va_G) (cs : Nat → ClassId) (sz : Nat) (kd : Nat) (tp : Nat) (tpb : Nat) (rp : Nat) (ca : Nat) (de : Nat) (bu : Nat) (pk : Nat) (pp : Nat) (pst : Nat) (img : Nat) (dr : Nat) (sp : Nat)  : cMl l yX8_takeKey (Cond.code yX8_takeKey cX8_takeKey 4 (some .long)) (rm_c_X8_takeKey) D cs [.ref kd, .int 0] sz [(kd, .inr (8, [.ref tp, .ref rp, .ref ca, .ref de, .ref bu, .ref pk, .ref pp, .ref pst, .ref img, .int 0, .ref dr, .ref sp])), (tp, .inr (7, [.ref tpb, .int 0]))] (fun (r : Int64) (u : Unit) => (r = 0)) (fun (u : Unit) => [(kd, .inr (8, [.ref tp, .ref rp, .ref ca, .ref de, .ref bu, .ref pk, .ref pp, .ref pst, .ref img, .int 0, .ref dr, .ref sp])), (tp, .inr (7, [.ref tpb, .int 0]))]) := by
  refine kMet_l RX8 (by decide) rfl (Nat.le_of_ble_eq_true rfl) ?_
  intro p e s m below meth c ls A Qz H locs hx hb hml hown hin hu hK hsz hA hP hD hS hl hz
  subst hsz
  have hl : lv_has ls 4 [(0, .ref kd), (1, .int 0)] := hl
  refine lv_aload_n hx hb dX8_takeKey_0 rfl (lv_at hl 0 rfl) ?_
  refine va_get (D := D) (ci := 8) (v := .ref tp) (C := RX8) (T := TX8) (N := 12) hx hb hu in_X8 hown hK.1 hP 0 rfl rfl 0 (by decide) (hu _ u_337) (fun _ h9 => h9) rfl dX8_takeKey_1 ?_
  refine lv_iconst (v := 0) hx hb dX8_takeKey_4 (by decide) ?_
  refine lv_iload_n hx hb dX8_takeKey_5 rfl (lv_at hl 1 rfl) ?_
  refine kV_l (ci := 7) (As := [.int 0, .int 0]) (rest := []) (wc := [(tp, .inr (7, [.ref tpb, .int 0]))]) (wr := [(kd, .inr (8, [.ref tp, .ref rp, .ref ca, .ref de, .ref bu, .ref pk, .ref pp, .ref pst, .ref img, .int 0, .ref dr, .ref sp]))]) hx hb hml hown hu hK hP hD hS hA hl.1 (c_X7_bitsAt l D cs H.size tp tpb) (gV u_393 u_394 u_395 u_67 u_396) hd_X7_bitsAt ⟨(Nat.le_of_ble_eq_true rfl), (Nat.le_of_ble_eq_true rfl)⟩ [1] [0] rfl rfl rfl rfl (by decide) rfl 0 rfl rfl rfl (Nat.le_of_ble_eq_true rfl) dX8_takeKey_6 ⟨(Nat.le_of_ble_eq_true rfl), (Nat.le_of_ble_eq_true rfl)⟩ (fun r_1 ut_2 H locs hw_3 hP hD hS => ?_)
  have hP : va_P D vwCl [(kd, .inr (8, [.ref tp, .ref rp, .ref ca, .ref de, .ref bu, .ref pk, .ref pp, .ref pst, .ref img, .int 0, .ref dr, .ref sp])), (tp, .inr (7, [.ref tpb, .int 0]))] H := hP
  have hD : va_D A [(kd, .inr (8, [.ref tp, .ref rp, .ref ca, .ref de, .ref bu, .ref pk, .ref pp, .ref pst, .ref img, .int 0, .ref dr, .ref sp])), (tp, .inr (7, [.ref tpb, .int 0]))] := hD
  have er_4 := hw_3
  subst er_4
  refine lv_lstore_n (lv' := [(2, .long 0), (0, .ref kd), (1, .int 0)]) hx hb dX8_takeKey_9 rfl hl (by decide) rfl (fun ls hl => ?_)
  refine lv_aload_n hx hb dX8_takeKey_10 rfl (lv_at hl 1 rfl) ?_
  refine va_get (D := D) (ci := 8) (v := .ref tp) (C := RX8) (T := TX8) (N := 12) hx hb hu in_X8 hown hK.1 hP 0 rfl rfl 0 (by decide) (hu _ u_337) (fun _ h9 => h9) rfl dX8_takeKey_11 ?_
  refine lv_iconst (v := 0) hx hb dX8_takeKey_14 (by decide) ?_
  refine va_put (D := D) (ci := 7) (v := .int 0) (ty := tyX7 1) (C := RX7) (T := TX7) (N := 2) hx hb hu in_X7 tyX7 tyX7_ok nmX7 hown hK.1 hP hD hS 1 rfl rfl 1 (by decide) (hu _ u_96) (fun _ h9 => h9) rfl (tyX7_ok 1 (by decide)) rfl rfl (Nat.le_of_ble_eq_true rfl) dX8_takeKey_15 (fun H locs hP hD hS => ?_)
  have hP : va_P D vwCl [(kd, .inr (8, [.ref tp, .ref rp, .ref ca, .ref de, .ref bu, .ref pk, .ref pp, .ref pst, .ref img, .int 0, .ref dr, .ref sp])), (tp, .inr (7, [.ref tpb, .int 0]))] H := hP
  have hD : va_D A [(kd, .inr (8, [.ref tp, .ref rp, .ref ca, .ref de, .ref bu, .ref pk, .ref pp, .ref pst, .ref img, .int 0, .ref dr, .ref sp])), (tp, .inr (7, [.ref tpb, .int 0]))] := hD
  refine lv_lload_n hx hb dX8_takeKey_18 rfl (lv_at hl 0 rfl) ?_
  exact hz () hP hD hS rfl [0, 1] rfl rfl (Nat.le_of_ble_eq_true rfl) (Nat.le_of_ble_eq_true rfl) rfl dX8_takeKey_19
abbrev rm_c_X8_isOpen : Room := { frames := 1, cells := 0, slots := 0, locals := 21 }
set_option maxHeartbeats 4000000 in
set_option maxRecDepth 100000 in
theorem c_X8_isOpen (l : Launch) (D : va_G) (cs : Nat → ClassId) (sz : Nat) (kd : Nat) (tp : Nat) (rp : Nat) (ca : Nat) (de : Nat) (bu : Nat) (pk : Nat) (pp : Nat) (pst : Nat) (img : Nat) (dr : Nat) (drp : Nat) (drk : Nat) (drm : Nat) (drm1 : Nat) (f_drm1 : Nat → Int32) (drm2 : Nat) (drm3 : Nat) (drm4 : Nat) (sp : Nat) (x : Int32) (z_f_drm1 : ∀ j, j < 7 → f_drm1 j = (-1)) : cMi l yX8_isOpen (Cond.code yX8_isOpen cX8_isOpen 2 (some .boolean)) (rm_c_X8_isOpen) D cs [.ref kd, .int x] sz [(kd, .inr (8, [.ref tp, .ref rp, .ref ca, .ref de, .ref bu, .ref pk, .ref pp, .ref pst, .ref img, .int 0, .ref dr, .ref sp])), (dr, .inr (2, [.int 0, .ref drp, .ref drk, .ref drm])), (drm, .inr (4, [.ref drm1, .ref drm2, .ref drm3, .ref drm4])), (drm1, aI cs 7 f_drm1)] (fun (r : Int32) (u : Unit) => (r = 0)) (fun (u : Unit) => [(kd, .inr (8, [.ref tp, .ref rp, .ref ca, .ref de, .ref bu, .ref pk, .ref pp, .ref pst, .ref img, .int 0, .ref dr, .ref sp])), (dr, .inr (2, [.int 0, .ref drp, .ref drk, .ref drm])), (drm, .inr (4, [.ref drm1, .ref drm2, .ref drm3, .ref drm4])), (drm1, aI cs 7 f_drm1)]) := by
  refine kMet_i RX8 (by decide) rfl (Nat.le_of_ble_eq_true rfl) ?_
  intro p e s m below meth c ls A Qz H locs hx hb hml hown hin hu hK hsz hA hP hD hS hl hz
  subst hsz
  have hl : lv_has ls 2 [(0, .ref kd), (1, .int x)] := hl
  refine lv_aload_n hx hb dX8_isOpen_0 rfl (lv_at hl 0 rfl) ?_
  refine va_get (D := D) (ci := 8) (v := .ref dr) (C := RX8) (T := TX8) (N := 12) hx hb hu in_X8 hown hK.1 hP 0 rfl rfl 10 (by decide) (hu _ u_347) (fun _ h9 => h9) rfl dX8_isOpen_1 ?_
  refine va_get (D := D) (ci := 2) (v := .ref drm) (C := RX2) (T := TX2) (N := 4) hx hb hu in_X2 hown hK.1 hP 1 rfl rfl 3 (by decide) (hu _ u_327) (fun _ h9 => h9) rfl dX8_isOpen_4 ?_
  refine lv_iconst (v := 4) hx hb dX8_isOpen_7 (by decide) ?_
  refine lv_iload_n hx hb dX8_isOpen_8 rfl (lv_at hl 1 rfl) ?_
  refine lv_iadd hx hb dX8_isOpen_9 ?_
  refine kV_i (ci := 4) (As := [.int (4 + x)]) (rest := []) (wc := [(drm, .inr (4, [.ref drm1, .ref drm2, .ref drm3, .ref drm4])), (drm1, aI cs 7 f_drm1)]) (wr := [(kd, .inr (8, [.ref tp, .ref rp, .ref ca, .ref de, .ref bu, .ref pk, .ref pp, .ref pst, .ref img, .int 0, .ref dr, .ref sp])), (dr, .inr (2, [.int 0, .ref drp, .ref drk, .ref drm]))]) hx hb hml hown hu hK hP hD hS hA hl.1 (c_X4_heldAt l D cs H.size drm drm1 f_drm1 drm2 drm3 drm4 (4 + x) z_f_drm1) (gV u_615 u_616 u_617 u_75 u_618) hd_X4_heldAt ⟨(Nat.le_of_ble_eq_true rfl), (Nat.le_of_ble_eq_true rfl)⟩ [2, 3] [0, 1] rfl rfl rfl rfl (by decide) rfl 0 rfl rfl rfl (Nat.le_of_ble_eq_true rfl) dX8_isOpen_10 ⟨(Nat.le_of_ble_eq_true rfl), (Nat.le_of_ble_eq_true rfl)⟩ (fun r_1 ut_2 H locs hw_3 hP hD hS => ?_)
  have hP : va_P D vwCl [(kd, .inr (8, [.ref tp, .ref rp, .ref ca, .ref de, .ref bu, .ref pk, .ref pp, .ref pst, .ref img, .int 0, .ref dr, .ref sp])), (dr, .inr (2, [.int 0, .ref drp, .ref drk, .ref drm])), (drm, .inr (4, [.ref drm1, .ref drm2, .ref drm3, .ref drm4])), (drm1, aI cs 7 f_drm1)] H := hP
  have hD : va_D A [(kd, .inr (8, [.ref tp, .ref rp, .ref ca, .ref de, .ref bu, .ref pk, .ref pp, .ref pst, .ref img, .int 0, .ref dr, .ref sp])), (dr, .inr (2, [.int 0, .ref drp, .ref drk, .ref drm])), (drm, .inr (4, [.ref drm1, .ref drm2, .ref drm3, .ref drm4])), (drm1, aI cs 7 f_drm1)] := hD
  have er_4 := hw_3
  subst er_4
  refine lv_iconst (v := (-1)) hx hb dX8_isOpen_13 (by decide) ?_
  refine lv_icmp_eq (tgt := 21) hx hb dX8_isOpen_14 (by decide) (fun c_5 => ?_) (fun c_5 => absurd (by decide) c_5)
  refine lv_iconst (v := 0) hx hb dX8_isOpen_21 (by decide) ?_
  exact hz () hP hD hS rfl [0, 1, 2, 3] rfl rfl (Nat.le_of_ble_eq_true rfl) (Nat.le_of_ble_eq_true rfl) .boolean rfl rfl dX8_isOpen_22
abbrev rm_c_X8_touchDeeds : Room := { frames := 0, cells := 0, slots := 0, locals := 0 }
set_option maxHeartbeats 4000000 in
set_option maxRecDepth 100000 in
theorem c_X8_touchDeeds (l : Launch) (D : va_G) (cs : Nat → ClassId) (sz : Nat) (kd : Nat) (tp : Nat) (rp : Nat) (ca : Nat) (de : Nat) (de1 : Nat) (de2 : Nat) (de3 : Nat) (de4 : Nat) (de5 : Nat) (bu : Nat) (pk : Nat) (pp : Nat) (pst : Nat) (img : Nat) (dr : Nat)  : cMv l yX8_touchDeeds (Cond.code yX8_touchDeeds cX8_touchDeeds 2 none) (rm_c_X8_touchDeeds) D cs [.ref kd] sz [(kd, .inr (8, [.ref tp, .ref rp, .ref ca, .ref de, .ref bu, .ref pk, .ref pp, .ref pst, .ref img, .int 1, .ref dr, .null])), (de, .inr (1, [.int 0, .int (-1), .int 0, .ref de1, .ref de2, .ref de3, .ref de4, .ref de5]))] (fun (u : Unit) => True) (fun (u : Unit) => [(kd, .inr (8, [.ref tp, .ref rp, .ref ca, .ref de, .ref bu, .ref pk, .ref pp, .ref pst, .ref img, .int 1, .ref dr, .null])), (de, .inr (1, [.int 0, .int (-1), .int 0, .ref de1, .ref de2, .ref de3, .ref de4, .ref de5]))]) := by
  refine kMet_v RX8 (by decide) rfl (Nat.le_of_ble_eq_true rfl) ?_
  intro p e s m below meth c ls A Qz H locs hx hb hml hown hin hu hK hsz hA hP hD hS hl hz
  subst hsz
  have hl : lv_has ls 2 [(0, .ref kd)] := hl
  refine lv_iconst (v := 0) hx hb dX8_touchDeeds_0 (by decide) ?_
  refine lv_istore_n (lv' := [(1, .int 0), (0, .ref kd)]) hx hb dX8_touchDeeds_1 rfl hl (by decide) rfl (fun ls hl => ?_)
  refine lv_iload_n hx hb dX8_touchDeeds_2 rfl (lv_at hl 0 rfl) ?_
  refine lv_aload_n hx hb dX8_touchDeeds_3 rfl (lv_at hl 1 rfl) ?_
  refine va_get (D := D) (ci := 8) (v := .ref de) (C := RX8) (T := TX8) (N := 12) hx hb hu in_X8 hown hK.1 hP 0 rfl rfl 3 (by decide) (hu _ u_340) (fun _ h9 => h9) rfl dX8_touchDeeds_4 ?_
  refine va_get (D := D) (ci := 1) (v := .int 0) (C := RX1) (T := TX1) (N := 8) hx hb hu in_X1 hown hK.1 hP 1 rfl rfl 2 (by decide) (hu _ u_117) (fun _ h9 => h9) rfl dX8_touchDeeds_7 ?_
  refine lv_icmp_ge (tgt := 51) hx hb dX8_touchDeeds_10 (by decide) (fun c_1 => ?_) (fun c_1 => absurd (by decide) c_1)
  exact hz () hP hD hS trivial [0, 1] rfl rfl (Nat.le_of_ble_eq_true rfl) (Nat.le_of_ble_eq_true rfl) rfl dX8_touchDeeds_51
