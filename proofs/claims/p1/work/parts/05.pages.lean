theorem u_463 : Cond.code yX8_isPage prog_1_method_49_code 1 (some .boolean) ∈ U0 := um 463 (by decide +kernel) (by decide +kernel)
theorem u_462 : Cond.static yX8_isPage ∈ U0 := um 462 (by decide +kernel) (by decide +kernel)
theorem u_66 : Cond.initialized "KeyDrive" ∈ U0 := um 66 (by decide +kernel) (by decide +kernel)
theorem u_210 : Cond.fieldLink "KeyDrive$Pages" 18 "KeyDrive$Pages" "end" "[I" ∈ U0 := um 210 (by decide +kernel) (by decide +kernel)
theorem u_211 : Cond.fieldLink "KeyDrive$Pages" 22 "KeyDrive$Pages" "erases" "[I" ∈ U0 := um 211 (by decide +kernel) (by decide +kernel)
theorem u_212 : Cond.fieldLink "KeyDrive$Pages" 25 "KeyDrive$Pages" "slotCount" "[I" ∈ U0 := um 212 (by decide +kernel) (by decide +kernel)
theorem u_460 : Cond.code yX6_deadOn prog_8_method_5_code 5 (some .int) ∈ U0 := um 460 (by decide +kernel) (by decide +kernel)
theorem u_457 : Cond.methodLink "KeyDrive$Pages" 75 yX6_deadOn ∈ U0 := um 457 (by decide +kernel) (by decide +kernel)
theorem u_458 : Cond.instanceMethod yX6_deadOn ∈ U0 := um 458 (by decide +kernel) (by decide +kernel)
theorem u_459 : Cond.selects "KeyDrive$Pages" yX6_deadOn yX6_deadOn ∈ U0 := um 459 (by decide +kernel) (by decide +kernel)
theorem u_72 : Cond.initialized "KeyDrive$Pages" ∈ U0 := um 72 (by decide +kernel) (by decide +kernel)
theorem u_976 : Cond.methodLink "KeyDrive$Pages" 79 Lib.Math.max.name ∈ U0 := um 976 (by decide +kernel) (by decide +kernel)
theorem u_93 : Cond.static Lib.Math.max.name ∈ U0 := um 93 (by decide +kernel) (by decide +kernel)
theorem u_68 : Cond.initialized "java/lang/Math" ∈ U0 := um 68 (by decide +kernel) (by decide +kernel)
theorem u_94 : Cond.code Lib.Math.max.name Lib.Math.max.code 2 (some .int) ∈ U0 := um 94 (by decide +kernel) (by decide +kernel)
theorem u_1030 : Cond.methodLink "KeyDrive$Pages" 85 Lib.Math.min.name ∈ U0 := um 1030 (by decide +kernel) (by decide +kernel)
theorem u_598 : Cond.static Lib.Math.min.name ∈ U0 := um 598 (by decide +kernel) (by decide +kernel)
theorem u_599 : Cond.code Lib.Math.min.name Lib.Math.min.code 2 (some .int) ∈ U0 := um 599 (by decide +kernel) (by decide +kernel)
theorem dX6_endOf_0 : decode cX6_endOf 0 = .ok (.iload_n 1, 1) := by decide +kernel
theorem dX6_endOf_1 : decode cX6_endOf 1 = .ok (.invokestatic 71, 3) := by decide +kernel
theorem dX6_endOf_4 : decode cX6_endOf 4 = .ok (.ifCond .eq 12, 3) := by decide +kernel
theorem dX6_endOf_7 : decode cX6_endOf 7 = .ok (.aload_n 0, 1) := by decide +kernel
theorem dX6_endOf_8 : decode cX6_endOf 8 = .ok (.getfield 18, 3) := by decide +kernel
theorem dX6_endOf_11 : decode cX6_endOf 11 = .ok (.iload_n 1, 1) := by decide +kernel
theorem dX6_endOf_12 : decode cX6_endOf 12 = .ok (.iaload, 1) := by decide +kernel
theorem dX6_endOf_13 : decode cX6_endOf 13 = .ok (.goto 4, 3) := by decide +kernel
theorem dX6_endOf_16 : decode cX6_endOf 16 = .ok (.iconst 0, 1) := by decide +kernel
theorem dX6_endOf_17 : decode cX6_endOf 17 = .ok (.ireturn, 1) := by decide +kernel
theorem dX6_erasesOf_0 : decode cX6_erasesOf 0 = .ok (.iload_n 1, 1) := by decide +kernel
theorem dX6_erasesOf_1 : decode cX6_erasesOf 1 = .ok (.invokestatic 71, 3) := by decide +kernel
theorem dX6_erasesOf_4 : decode cX6_erasesOf 4 = .ok (.ifCond .eq 12, 3) := by decide +kernel
theorem dX6_erasesOf_7 : decode cX6_erasesOf 7 = .ok (.aload_n 0, 1) := by decide +kernel
theorem dX6_erasesOf_8 : decode cX6_erasesOf 8 = .ok (.getfield 22, 3) := by decide +kernel
theorem dX6_erasesOf_11 : decode cX6_erasesOf 11 = .ok (.iload_n 1, 1) := by decide +kernel
theorem dX6_erasesOf_12 : decode cX6_erasesOf 12 = .ok (.iaload, 1) := by decide +kernel
theorem dX6_erasesOf_13 : decode cX6_erasesOf 13 = .ok (.goto 4, 3) := by decide +kernel
theorem dX6_erasesOf_16 : decode cX6_erasesOf 16 = .ok (.iconst 0, 1) := by decide +kernel
theorem dX6_erasesOf_17 : decode cX6_erasesOf 17 = .ok (.ireturn, 1) := by decide +kernel
theorem dX6_deadOn_0 : decode cX6_deadOn 0 = .ok (.iconst 0, 1) := by decide +kernel
theorem dX6_deadOn_1 : decode cX6_deadOn 1 = .ok (.istore_n 2, 1) := by decide +kernel
theorem dX6_deadOn_2 : decode cX6_deadOn 2 = .ok (.iload_n 1, 1) := by decide +kernel
theorem dX6_deadOn_3 : decode cX6_deadOn 3 = .ok (.invokestatic 71, 3) := by decide +kernel
theorem dX6_deadOn_6 : decode cX6_deadOn 6 = .ok (.ifCond .eq 64, 3) := by decide +kernel
theorem dX6_deadOn_9 : decode cX6_deadOn 9 = .ok (.iload_n 1, 1) := by decide +kernel
theorem dX6_deadOn_10 : decode cX6_deadOn 10 = .ok (.bipush 10, 2) := by decide +kernel
theorem dX6_deadOn_12 : decode cX6_deadOn 12 = .ok (.imul, 1) := by decide +kernel
theorem dX6_deadOn_13 : decode cX6_deadOn 13 = .ok (.istore_n 3, 1) := by decide +kernel
theorem dX6_deadOn_14 : decode cX6_deadOn 14 = .ok (.iconst 0, 1) := by decide +kernel
theorem dX6_deadOn_15 : decode cX6_deadOn 15 = .ok (.istore 4, 2) := by decide +kernel
theorem dX6_deadOn_17 : decode cX6_deadOn 17 = .ok (.iload 4, 2) := by decide +kernel
theorem dX6_deadOn_19 : decode cX6_deadOn 19 = .ok (.aload_n 0, 1) := by decide +kernel
theorem dX6_deadOn_20 : decode cX6_deadOn 20 = .ok (.getfield 25, 3) := by decide +kernel
theorem dX6_deadOn_23 : decode cX6_deadOn 23 = .ok (.iload_n 1, 1) := by decide +kernel
theorem dX6_deadOn_24 : decode cX6_deadOn 24 = .ok (.iaload, 1) := by decide +kernel
theorem dX6_deadOn_25 : decode cX6_deadOn 25 = .ok (.if_icmp .ge 45, 3) := by decide +kernel
theorem dX6_deadOn_70 : decode cX6_deadOn 70 = .ok (.iload_n 2, 1) := by decide +kernel
theorem dX6_deadOn_71 : decode cX6_deadOn 71 = .ok (.ireturn, 1) := by decide +kernel
theorem dX6_recordsOn_0 : decode cX6_recordsOn 0 = .ok (.iconst 0, 1) := by decide +kernel
theorem dX6_recordsOn_1 : decode cX6_recordsOn 1 = .ok (.istore_n 2, 1) := by decide +kernel
theorem dX6_recordsOn_2 : decode cX6_recordsOn 2 = .ok (.iload_n 1, 1) := by decide +kernel
theorem dX6_recordsOn_3 : decode cX6_recordsOn 3 = .ok (.invokestatic 71, 3) := by decide +kernel
theorem dX6_recordsOn_6 : decode cX6_recordsOn 6 = .ok (.ifCond .eq 56, 3) := by decide +kernel
theorem dX6_recordsOn_9 : decode cX6_recordsOn 9 = .ok (.iload_n 1, 1) := by decide +kernel
theorem dX6_recordsOn_10 : decode cX6_recordsOn 10 = .ok (.bipush 10, 2) := by decide +kernel
theorem dX6_recordsOn_12 : decode cX6_recordsOn 12 = .ok (.imul, 1) := by decide +kernel
theorem dX6_recordsOn_13 : decode cX6_recordsOn 13 = .ok (.istore_n 3, 1) := by decide +kernel
theorem dX6_recordsOn_14 : decode cX6_recordsOn 14 = .ok (.iconst 0, 1) := by decide +kernel
theorem dX6_recordsOn_15 : decode cX6_recordsOn 15 = .ok (.istore 4, 2) := by decide +kernel
theorem dX6_recordsOn_17 : decode cX6_recordsOn 17 = .ok (.iload 4, 2) := by decide +kernel
theorem dX6_recordsOn_19 : decode cX6_recordsOn 19 = .ok (.aload_n 0, 1) := by decide +kernel
theorem dX6_recordsOn_20 : decode cX6_recordsOn 20 = .ok (.getfield 25, 3) := by decide +kernel
theorem dX6_recordsOn_23 : decode cX6_recordsOn 23 = .ok (.iload_n 1, 1) := by decide +kernel
theorem dX6_recordsOn_24 : decode cX6_recordsOn 24 = .ok (.iaload, 1) := by decide +kernel
theorem dX6_recordsOn_25 : decode cX6_recordsOn 25 = .ok (.if_icmp .ge 37, 3) := by decide +kernel
theorem dX6_recordsOn_62 : decode cX6_recordsOn 62 = .ok (.iload_n 2, 1) := by decide +kernel
theorem dX6_recordsOn_63 : decode cX6_recordsOn 63 = .ok (.ireturn, 1) := by decide +kernel
theorem dX6_freePages_0 : decode cX6_freePages 0 = .ok (.iconst 0, 1) := by decide +kernel
theorem dX6_freePages_1 : decode cX6_freePages 1 = .ok (.istore_n 1, 1) := by decide +kernel
theorem dX6_freePages_2 : decode cX6_freePages 2 = .ok (.iconst 0, 1) := by decide +kernel
theorem dX6_freePages_3 : decode cX6_freePages 3 = .ok (.istore_n 2, 1) := by decide +kernel
theorem dX6_freePages_4 : decode cX6_freePages 4 = .ok (.iload_n 2, 1) := by decide +kernel
theorem dX6_freePages_5 : decode cX6_freePages 5 = .ok (.bipush 24, 2) := by decide +kernel
theorem dX6_freePages_7 : decode cX6_freePages 7 = .ok (.if_icmp .ge 26, 3) := by decide +kernel
theorem dX6_freePages_10 : decode cX6_freePages 10 = .ok (.iload_n 1, 1) := by decide +kernel
theorem dX6_freePages_11 : decode cX6_freePages 11 = .ok (.aload_n 0, 1) := by decide +kernel
theorem dX6_freePages_12 : decode cX6_freePages 12 = .ok (.getfield 18, 3) := by decide +kernel
theorem dX6_freePages_15 : decode cX6_freePages 15 = .ok (.iload_n 2, 1) := by decide +kernel
theorem dX6_freePages_16 : decode cX6_freePages 16 = .ok (.iaload, 1) := by decide +kernel
theorem dX6_freePages_17 : decode cX6_freePages 17 = .ok (.ifCond .ne 7, 3) := by decide +kernel
theorem dX6_freePages_20 : decode cX6_freePages 20 = .ok (.iconst 1, 1) := by decide +kernel
theorem dX6_freePages_21 : decode cX6_freePages 21 = .ok (.goto 4, 3) := by decide +kernel
theorem dX6_freePages_25 : decode cX6_freePages 25 = .ok (.iadd, 1) := by decide +kernel
theorem dX6_freePages_26 : decode cX6_freePages 26 = .ok (.istore_n 1, 1) := by decide +kernel
theorem dX6_freePages_27 : decode cX6_freePages 27 = .ok (.iinc 2 1, 3) := by decide +kernel
theorem dX6_freePages_30 : decode cX6_freePages 30 = .ok (.goto (-26), 3) := by decide +kernel
theorem dX6_freePages_33 : decode cX6_freePages 33 = .ok (.iload_n 1, 1) := by decide +kernel
theorem dX6_freePages_34 : decode cX6_freePages 34 = .ok (.ireturn, 1) := by decide +kernel
theorem dX6_written_0 : decode cX6_written 0 = .ok (.iconst 0, 1) := by decide +kernel
theorem dX6_written_1 : decode cX6_written 1 = .ok (.istore_n 1, 1) := by decide +kernel
theorem dX6_written_2 : decode cX6_written 2 = .ok (.iconst 0, 1) := by decide +kernel
theorem dX6_written_3 : decode cX6_written 3 = .ok (.istore_n 2, 1) := by decide +kernel
theorem dX6_written_4 : decode cX6_written 4 = .ok (.iload_n 2, 1) := by decide +kernel
theorem dX6_written_5 : decode cX6_written 5 = .ok (.bipush 24, 2) := by decide +kernel
theorem dX6_written_7 : decode cX6_written 7 = .ok (.if_icmp .ge 18, 3) := by decide +kernel
theorem dX6_written_10 : decode cX6_written 10 = .ok (.iload_n 1, 1) := by decide +kernel
theorem dX6_written_11 : decode cX6_written 11 = .ok (.aload_n 0, 1) := by decide +kernel
theorem dX6_written_12 : decode cX6_written 12 = .ok (.getfield 18, 3) := by decide +kernel
theorem dX6_written_15 : decode cX6_written 15 = .ok (.iload_n 2, 1) := by decide +kernel
theorem dX6_written_16 : decode cX6_written 16 = .ok (.iaload, 1) := by decide +kernel
theorem dX6_written_17 : decode cX6_written 17 = .ok (.iadd, 1) := by decide +kernel
theorem dX6_written_18 : decode cX6_written 18 = .ok (.istore_n 1, 1) := by decide +kernel
theorem dX6_written_19 : decode cX6_written 19 = .ok (.iinc 2 1, 3) := by decide +kernel
theorem dX6_written_22 : decode cX6_written 22 = .ok (.goto (-18), 3) := by decide +kernel
theorem dX6_written_25 : decode cX6_written 25 = .ok (.iload_n 1, 1) := by decide +kernel
theorem dX6_written_26 : decode cX6_written 26 = .ok (.ireturn, 1) := by decide +kernel
theorem dX6_deadBytes_0 : decode cX6_deadBytes 0 = .ok (.iconst 0, 1) := by decide +kernel
theorem dX6_deadBytes_1 : decode cX6_deadBytes 1 = .ok (.istore_n 1, 1) := by decide +kernel
theorem dX6_deadBytes_2 : decode cX6_deadBytes 2 = .ok (.iconst 0, 1) := by decide +kernel
theorem dX6_deadBytes_3 : decode cX6_deadBytes 3 = .ok (.istore_n 2, 1) := by decide +kernel
theorem dX6_deadBytes_4 : decode cX6_deadBytes 4 = .ok (.iload_n 2, 1) := by decide +kernel
theorem dX6_deadBytes_5 : decode cX6_deadBytes 5 = .ok (.bipush 24, 2) := by decide +kernel
theorem dX6_deadBytes_7 : decode cX6_deadBytes 7 = .ok (.if_icmp .ge 17, 3) := by decide +kernel
theorem dX6_deadBytes_10 : decode cX6_deadBytes 10 = .ok (.iload_n 1, 1) := by decide +kernel
theorem dX6_deadBytes_11 : decode cX6_deadBytes 11 = .ok (.aload_n 0, 1) := by decide +kernel
theorem dX6_deadBytes_12 : decode cX6_deadBytes 12 = .ok (.iload_n 2, 1) := by decide +kernel
theorem dX6_deadBytes_13 : decode cX6_deadBytes 13 = .ok (.invokevirtual 75, 3) := by decide +kernel
theorem dX6_deadBytes_16 : decode cX6_deadBytes 16 = .ok (.iadd, 1) := by decide +kernel
theorem dX6_deadBytes_17 : decode cX6_deadBytes 17 = .ok (.istore_n 1, 1) := by decide +kernel
theorem dX6_deadBytes_18 : decode cX6_deadBytes 18 = .ok (.iinc 2 1, 3) := by decide +kernel
theorem dX6_deadBytes_21 : decode cX6_deadBytes 21 = .ok (.goto (-17), 3) := by decide +kernel
theorem dX6_deadBytes_24 : decode cX6_deadBytes 24 = .ok (.iload_n 1, 1) := by decide +kernel
theorem dX6_deadBytes_25 : decode cX6_deadBytes 25 = .ok (.ireturn, 1) := by decide +kernel
theorem dX6_mostErases_0 : decode cX6_mostErases 0 = .ok (.iconst 0, 1) := by decide +kernel
theorem dX6_mostErases_1 : decode cX6_mostErases 1 = .ok (.istore_n 1, 1) := by decide +kernel
theorem dX6_mostErases_2 : decode cX6_mostErases 2 = .ok (.iconst 0, 1) := by decide +kernel
theorem dX6_mostErases_3 : decode cX6_mostErases 3 = .ok (.istore_n 2, 1) := by decide +kernel
theorem dX6_mostErases_4 : decode cX6_mostErases 4 = .ok (.iload_n 2, 1) := by decide +kernel
theorem dX6_mostErases_5 : decode cX6_mostErases 5 = .ok (.bipush 24, 2) := by decide +kernel
theorem dX6_mostErases_7 : decode cX6_mostErases 7 = .ok (.if_icmp .ge 20, 3) := by decide +kernel
theorem dX6_mostErases_10 : decode cX6_mostErases 10 = .ok (.iload_n 1, 1) := by decide +kernel
theorem dX6_mostErases_11 : decode cX6_mostErases 11 = .ok (.aload_n 0, 1) := by decide +kernel
theorem dX6_mostErases_12 : decode cX6_mostErases 12 = .ok (.getfield 22, 3) := by decide +kernel
theorem dX6_mostErases_15 : decode cX6_mostErases 15 = .ok (.iload_n 2, 1) := by decide +kernel
theorem dX6_mostErases_16 : decode cX6_mostErases 16 = .ok (.iaload, 1) := by decide +kernel
theorem dX6_mostErases_17 : decode cX6_mostErases 17 = .ok (.invokestatic 79, 3) := by decide +kernel
theorem dX6_mostErases_20 : decode cX6_mostErases 20 = .ok (.istore_n 1, 1) := by decide +kernel
theorem dX6_mostErases_21 : decode cX6_mostErases 21 = .ok (.iinc 2 1, 3) := by decide +kernel
theorem dX6_mostErases_24 : decode cX6_mostErases 24 = .ok (.goto (-20), 3) := by decide +kernel
theorem dX6_mostErases_27 : decode cX6_mostErases 27 = .ok (.iload_n 1, 1) := by decide +kernel
theorem dX6_mostErases_28 : decode cX6_mostErases 28 = .ok (.ireturn, 1) := by decide +kernel
theorem dX6_fewestErases_0 : decode cX6_fewestErases 0 = .ok (.aload_n 0, 1) := by decide +kernel
theorem dX6_fewestErases_1 : decode cX6_fewestErases 1 = .ok (.getfield 22, 3) := by decide +kernel
theorem dX6_fewestErases_4 : decode cX6_fewestErases 4 = .ok (.iconst 0, 1) := by decide +kernel
theorem dX6_fewestErases_5 : decode cX6_fewestErases 5 = .ok (.iaload, 1) := by decide +kernel
theorem dX6_fewestErases_6 : decode cX6_fewestErases 6 = .ok (.istore_n 1, 1) := by decide +kernel
theorem dX6_fewestErases_7 : decode cX6_fewestErases 7 = .ok (.iconst 1, 1) := by decide +kernel
theorem dX6_fewestErases_8 : decode cX6_fewestErases 8 = .ok (.istore_n 2, 1) := by decide +kernel
theorem dX6_fewestErases_9 : decode cX6_fewestErases 9 = .ok (.iload_n 2, 1) := by decide +kernel
theorem dX6_fewestErases_10 : decode cX6_fewestErases 10 = .ok (.bipush 24, 2) := by decide +kernel
theorem dX6_fewestErases_12 : decode cX6_fewestErases 12 = .ok (.if_icmp .ge 20, 3) := by decide +kernel
theorem dX6_fewestErases_15 : decode cX6_fewestErases 15 = .ok (.iload_n 1, 1) := by decide +kernel
theorem dX6_fewestErases_16 : decode cX6_fewestErases 16 = .ok (.aload_n 0, 1) := by decide +kernel
theorem dX6_fewestErases_17 : decode cX6_fewestErases 17 = .ok (.getfield 22, 3) := by decide +kernel
theorem dX6_fewestErases_20 : decode cX6_fewestErases 20 = .ok (.iload_n 2, 1) := by decide +kernel
theorem dX6_fewestErases_21 : decode cX6_fewestErases 21 = .ok (.iaload, 1) := by decide +kernel
theorem dX6_fewestErases_22 : decode cX6_fewestErases 22 = .ok (.invokestatic 85, 3) := by decide +kernel
theorem dX6_fewestErases_25 : decode cX6_fewestErases 25 = .ok (.istore_n 1, 1) := by decide +kernel
theorem dX6_fewestErases_26 : decode cX6_fewestErases 26 = .ok (.iinc 2 1, 3) := by decide +kernel
theorem dX6_fewestErases_29 : decode cX6_fewestErases 29 = .ok (.goto (-20), 3) := by decide +kernel
theorem dX6_fewestErases_32 : decode cX6_fewestErases 32 = .ok (.iload_n 1, 1) := by decide +kernel
theorem dX6_fewestErases_33 : decode cX6_fewestErases 33 = .ok (.ireturn, 1) := by decide +kernel
theorem dX6_chosen_0 : decode cX6_chosen 0 = .ok (.iconst (-1), 1) := by decide +kernel
theorem dX6_chosen_1 : decode cX6_chosen 1 = .ok (.istore_n 2, 1) := by decide +kernel
theorem dX6_chosen_2 : decode cX6_chosen 2 = .ok (.iconst 0, 1) := by decide +kernel
theorem dX6_chosen_3 : decode cX6_chosen 3 = .ok (.istore_n 3, 1) := by decide +kernel
theorem dX6_chosen_4 : decode cX6_chosen 4 = .ok (.iconst 0, 1) := by decide +kernel
theorem dX6_chosen_5 : decode cX6_chosen 5 = .ok (.istore 4, 2) := by decide +kernel
theorem dX6_chosen_7 : decode cX6_chosen 7 = .ok (.iload 4, 2) := by decide +kernel
theorem dX6_chosen_9 : decode cX6_chosen 9 = .ok (.bipush 24, 2) := by decide +kernel
theorem dX6_chosen_11 : decode cX6_chosen 11 = .ok (.if_icmp .ge 79, 3) := by decide +kernel
theorem dX6_chosen_14 : decode cX6_chosen 14 = .ok (.aload_n 0, 1) := by decide +kernel
theorem dX6_chosen_15 : decode cX6_chosen 15 = .ok (.iload 4, 2) := by decide +kernel
theorem dX6_chosen_17 : decode cX6_chosen 17 = .ok (.invokevirtual 75, 3) := by decide +kernel
theorem dX6_chosen_20 : decode cX6_chosen 20 = .ok (.istore 5, 2) := by decide +kernel
theorem dX6_chosen_22 : decode cX6_chosen 22 = .ok (.iload 5, 2) := by decide +kernel
theorem dX6_chosen_24 : decode cX6_chosen 24 = .ok (.ifCond .ne 6, 3) := by decide +kernel
theorem dX6_chosen_27 : decode cX6_chosen 27 = .ok (.goto 57, 3) := by decide +kernel
theorem dX6_chosen_84 : decode cX6_chosen 84 = .ok (.iinc 4 1, 3) := by decide +kernel
theorem dX6_chosen_87 : decode cX6_chosen 87 = .ok (.goto (-80), 3) := by decide +kernel
theorem dX6_chosen_90 : decode cX6_chosen 90 = .ok (.iload_n 2, 1) := by decide +kernel
theorem dX6_chosen_91 : decode cX6_chosen 91 = .ok (.ireturn, 1) := by decide +kernel
theorem hd_X6_deadOn : yX6_deadOn.cls = RX6 ∧ yX6_deadOn.cls ≠ "java/lang/invoke/MethodHandle" ∧ yX6_deadOn.cls ≠ "java/lang/invoke/VarHandle" ∧ (parseMethodDescriptor yX6_deadOn.desc).map (fun d => d.parameters.length) = some 1 := by decide +kernel
theorem hd_X8_isPage : yX8_isPage.cls = RX8 ∧ yX8_isPage.cls ≠ "java/lang/invoke/MethodHandle" ∧ yX8_isPage.cls ≠ "java/lang/invoke/VarHandle" ∧ (parseMethodDescriptor yX8_isPage.desc).map (fun d => d.parameters.length) = some 1 := by decide +kernel
abbrev rm_c_X6_endOf : Room := { frames := 1, cells := 0, slots := 0, locals := 20 }
set_option maxHeartbeats 4000000 in
set_option maxRecDepth 100000 in
theorem c_X6_endOf (l : Launch) (D : va_G) (cs : Nat → ClassId) (sz : Nat) (drp : Nat) (drp1 : Nat) (f_drp1 : Nat → Int32) (drp2 : Nat) (drp3 : Nat) (drp4 : Nat) (drp5 : Nat) (drp6 : Nat) (drp7 : Nat) (drp8 : Nat) (drp9 : Nat) (drp10 : Nat) (i1 : Int32) (i2 : Int32) (i3 : Int32) (i4 : Int32) (i5 : Int32) (i6 : Int32) (i7 : Int32) (x : Int32) (z_f_drp1 : ∀ j, j < 24 → f_drp1 j = 0) : cMi l yX6_endOf (Cond.code yX6_endOf cX6_endOf 2 (some .int)) (rm_c_X6_endOf) D cs [.ref drp, .int x] sz [(drp, .inr (6, [.int i1, .int i2, .int i3, .int i4, .int i5, .int i6, .int i7, .ref drp1, .ref drp2, .ref drp3, .ref drp4, .ref drp5, .ref drp6, .ref drp7, .ref drp8, .ref drp9, .ref drp10])), (drp1, aI cs 24 f_drp1)] (fun (r : Int32) (u : Unit) => (r = 0)) (fun (u : Unit) => [(drp, .inr (6, [.int i1, .int i2, .int i3, .int i4, .int i5, .int i6, .int i7, .ref drp1, .ref drp2, .ref drp3, .ref drp4, .ref drp5, .ref drp6, .ref drp7, .ref drp8, .ref drp9, .ref drp10])), (drp1, aI cs 24 f_drp1)]) := by
  refine kMet_i RX6 (by decide) rfl (Nat.le_of_ble_eq_true rfl) ?_
  intro p e s m below meth c ls A Qz H locs hx hb hml hown hin hu hK hsz hA hP hD hS hl hz
  subst hsz
  have hl : lv_has ls 2 [(0, .ref drp), (1, .int x)] := hl
  refine lv_iload_n hx hb dX6_endOf_0 rfl (lv_at hl 1 rfl) ?_
  refine kN_i  (As := [.int x]) (rest := []) (wc := []) (wr := [(drp, .inr (6, [.int i1, .int i2, .int i3, .int i4, .int i5, .int i6, .int i7, .ref drp1, .ref drp2, .ref drp3, .ref drp4, .ref drp5, .ref drp6, .ref drp7, .ref drp8, .ref drp9, .ref drp10])), (drp1, aI cs 24 f_drp1)]) hx hb hml hown hu hK hP hD hS hA hl.1 (c_X8_isPage l D cs H.size x) u_463 (nest_10) u_462 u_66 hd_X8_isPage.2 ⟨(Nat.le_of_ble_eq_true rfl), (Nat.le_of_ble_eq_true rfl)⟩ [] [0, 1] rfl rfl rfl rfl (by decide) rfl rfl (Nat.le_of_ble_eq_true rfl) dX6_endOf_1 ⟨(Nat.le_of_ble_eq_true rfl), (Nat.le_of_ble_eq_true rfl)⟩ (fun r_1 ut_2 H locs hw_3 hP hD hS => ?_)
  have hP : va_P D vwCl [(drp, .inr (6, [.int i1, .int i2, .int i3, .int i4, .int i5, .int i6, .int i7, .ref drp1, .ref drp2, .ref drp3, .ref drp4, .ref drp5, .ref drp6, .ref drp7, .ref drp8, .ref drp9, .ref drp10])), (drp1, aI cs 24 f_drp1)] H := hP
  have hD : va_D A [(drp, .inr (6, [.int i1, .int i2, .int i3, .int i4, .int i5, .int i6, .int i7, .ref drp1, .ref drp2, .ref drp3, .ref drp4, .ref drp5, .ref drp6, .ref drp7, .ref drp8, .ref drp9, .ref drp10])), (drp1, aI cs 24 f_drp1)] := hD
  rcases hw_3 with hw_3 | hw_3
  · obtain ⟨er_4, hf_5⟩ := hw_3
    subst er_4
    refine lv_if_eq (tgt := 16) hx hb dX6_endOf_4 (by decide) (fun c_6 => absurd c_6 (by decide)) (fun c_6 => ?_)
    refine lv_aload_n hx hb dX6_endOf_7 rfl (lv_at hl 0 rfl) ?_
    refine va_get (D := D) (ci := 6) (v := .ref drp1) (C := RX6) (T := TX6) (N := 17) hx hb hu in_X6 hown hK.1 hP 0 rfl rfl 7 (by decide) (hu _ u_210) (fun _ h9 => h9) rfl dX6_endOf_8 ?_
    refine lv_iload_n hx hb dX6_endOf_11 rfl (lv_at hl 1 rfl) ?_
    refine va_iald hx hb hK.1 hP 1 0 rfl rfl (vin_of hf_5.1 hf_5.2 rfl) dX6_endOf_12 ?_
    refine tpi (y := 0) (z_f_drp1 _ (cl_lt (vin_of hf_5.1 hf_5.2 rfl))) ?_
    refine lv_goto (tgt := 17) hx hb dX6_endOf_13 (by decide) ?_
    exact hz () hP hD hS rfl [0, 1] rfl rfl (Nat.le_of_ble_eq_true rfl) (Nat.le_of_ble_eq_true rfl) .int rfl rfl dX6_endOf_17
  · obtain ⟨er_7, hf_8⟩ := hw_3
    subst er_7
    refine lv_if_eq (tgt := 16) hx hb dX6_endOf_4 (by decide) (fun c_9 => ?_) (fun c_9 => absurd (by decide) c_9)
    refine lv_iconst (v := 0) hx hb dX6_endOf_16 (by decide) ?_
    exact hz () hP hD hS rfl [0, 1] rfl rfl (Nat.le_of_ble_eq_true rfl) (Nat.le_of_ble_eq_true rfl) .int rfl rfl dX6_endOf_17
abbrev rm_c_X6_erasesOf : Room := { frames := 1, cells := 0, slots := 0, locals := 20 }
set_option maxHeartbeats 4000000 in
set_option maxRecDepth 100000 in
theorem c_X6_erasesOf (l : Launch) (D : va_G) (cs : Nat → ClassId) (sz : Nat) (drp : Nat) (drp1 : Nat) (drp2 : Nat) (f_drp2 : Nat → Int32) (drp3 : Nat) (drp4 : Nat) (drp5 : Nat) (drp6 : Nat) (drp7 : Nat) (drp8 : Nat) (drp9 : Nat) (drp10 : Nat) (i1 : Int32) (i2 : Int32) (i3 : Int32) (i4 : Int32) (i5 : Int32) (i6 : Int32) (i7 : Int32) (x : Int32) (z_f_drp2 : ∀ j, j < 24 → f_drp2 j = 0) : cMi l yX6_erasesOf (Cond.code yX6_erasesOf cX6_erasesOf 2 (some .int)) (rm_c_X6_erasesOf) D cs [.ref drp, .int x] sz [(drp, .inr (6, [.int i1, .int i2, .int i3, .int i4, .int i5, .int i6, .int i7, .ref drp1, .ref drp2, .ref drp3, .ref drp4, .ref drp5, .ref drp6, .ref drp7, .ref drp8, .ref drp9, .ref drp10])), (drp2, aI cs 24 f_drp2)] (fun (r : Int32) (u : Unit) => (r = 0)) (fun (u : Unit) => [(drp, .inr (6, [.int i1, .int i2, .int i3, .int i4, .int i5, .int i6, .int i7, .ref drp1, .ref drp2, .ref drp3, .ref drp4, .ref drp5, .ref drp6, .ref drp7, .ref drp8, .ref drp9, .ref drp10])), (drp2, aI cs 24 f_drp2)]) := by
  refine kMet_i RX6 (by decide) rfl (Nat.le_of_ble_eq_true rfl) ?_
  intro p e s m below meth c ls A Qz H locs hx hb hml hown hin hu hK hsz hA hP hD hS hl hz
  subst hsz
  have hl : lv_has ls 2 [(0, .ref drp), (1, .int x)] := hl
  refine lv_iload_n hx hb dX6_erasesOf_0 rfl (lv_at hl 1 rfl) ?_
  refine kN_i  (As := [.int x]) (rest := []) (wc := []) (wr := [(drp, .inr (6, [.int i1, .int i2, .int i3, .int i4, .int i5, .int i6, .int i7, .ref drp1, .ref drp2, .ref drp3, .ref drp4, .ref drp5, .ref drp6, .ref drp7, .ref drp8, .ref drp9, .ref drp10])), (drp2, aI cs 24 f_drp2)]) hx hb hml hown hu hK hP hD hS hA hl.1 (c_X8_isPage l D cs H.size x) u_463 (nest_10) u_462 u_66 hd_X8_isPage.2 ⟨(Nat.le_of_ble_eq_true rfl), (Nat.le_of_ble_eq_true rfl)⟩ [] [0, 1] rfl rfl rfl rfl (by decide) rfl rfl (Nat.le_of_ble_eq_true rfl) dX6_erasesOf_1 ⟨(Nat.le_of_ble_eq_true rfl), (Nat.le_of_ble_eq_true rfl)⟩ (fun r_1 ut_2 H locs hw_3 hP hD hS => ?_)
  have hP : va_P D vwCl [(drp, .inr (6, [.int i1, .int i2, .int i3, .int i4, .int i5, .int i6, .int i7, .ref drp1, .ref drp2, .ref drp3, .ref drp4, .ref drp5, .ref drp6, .ref drp7, .ref drp8, .ref drp9, .ref drp10])), (drp2, aI cs 24 f_drp2)] H := hP
  have hD : va_D A [(drp, .inr (6, [.int i1, .int i2, .int i3, .int i4, .int i5, .int i6, .int i7, .ref drp1, .ref drp2, .ref drp3, .ref drp4, .ref drp5, .ref drp6, .ref drp7, .ref drp8, .ref drp9, .ref drp10])), (drp2, aI cs 24 f_drp2)] := hD
  rcases hw_3 with hw_3 | hw_3
  · obtain ⟨er_4, hf_5⟩ := hw_3
    subst er_4
    refine lv_if_eq (tgt := 16) hx hb dX6_erasesOf_4 (by decide) (fun c_6 => absurd c_6 (by decide)) (fun c_6 => ?_)
    refine lv_aload_n hx hb dX6_erasesOf_7 rfl (lv_at hl 0 rfl) ?_
    refine va_get (D := D) (ci := 6) (v := .ref drp2) (C := RX6) (T := TX6) (N := 17) hx hb hu in_X6 hown hK.1 hP 0 rfl rfl 8 (by decide) (hu _ u_211) (fun _ h9 => h9) rfl dX6_erasesOf_8 ?_
    refine lv_iload_n hx hb dX6_erasesOf_11 rfl (lv_at hl 1 rfl) ?_
    refine va_iald hx hb hK.1 hP 1 0 rfl rfl (vin_of hf_5.1 hf_5.2 rfl) dX6_erasesOf_12 ?_
    refine tpi (y := 0) (z_f_drp2 _ (cl_lt (vin_of hf_5.1 hf_5.2 rfl))) ?_
    refine lv_goto (tgt := 17) hx hb dX6_erasesOf_13 (by decide) ?_
    exact hz () hP hD hS rfl [0, 1] rfl rfl (Nat.le_of_ble_eq_true rfl) (Nat.le_of_ble_eq_true rfl) .int rfl rfl dX6_erasesOf_17
  · obtain ⟨er_7, hf_8⟩ := hw_3
    subst er_7
    refine lv_if_eq (tgt := 16) hx hb dX6_erasesOf_4 (by decide) (fun c_9 => ?_) (fun c_9 => absurd (by decide) c_9)
    refine lv_iconst (v := 0) hx hb dX6_erasesOf_16 (by decide) ?_
    exact hz () hP hD hS rfl [0, 1] rfl rfl (Nat.le_of_ble_eq_true rfl) (Nat.le_of_ble_eq_true rfl) .int rfl rfl dX6_erasesOf_17
abbrev rm_c_X6_deadOn : Room := { frames := 1, cells := 0, slots := 0, locals := 20 }
set_option maxHeartbeats 4000000 in
set_option maxRecDepth 100000 in
theorem c_X6_deadOn (l : Launch) (D : va_G) (cs : Nat → ClassId) (sz : Nat) (drp : Nat) (drp1 : Nat) (drp2 : Nat) (drp3 : Nat) (f_drp3 : Nat → Int32) (drp4 : Nat) (drp5 : Nat) (drp6 : Nat) (drp7 : Nat) (drp8 : Nat) (drp9 : Nat) (drp10 : Nat) (i1 : Int32) (i2 : Int32) (i3 : Int32) (i4 : Int32) (i5 : Int32) (i6 : Int32) (i7 : Int32) (x : Int32) (z_f_drp3 : ∀ j, j < 24 → f_drp3 j = 0) : cMi l yX6_deadOn (Cond.code yX6_deadOn cX6_deadOn 5 (some .int)) (rm_c_X6_deadOn) D cs [.ref drp, .int x] sz [(drp, .inr (6, [.int i1, .int i2, .int i3, .int i4, .int i5, .int i6, .int i7, .ref drp1, .ref drp2, .ref drp3, .ref drp4, .ref drp5, .ref drp6, .ref drp7, .ref drp8, .ref drp9, .ref drp10])), (drp3, aI cs 24 f_drp3)] (fun (r : Int32) (u : Unit) => (r = 0)) (fun (u : Unit) => [(drp, .inr (6, [.int i1, .int i2, .int i3, .int i4, .int i5, .int i6, .int i7, .ref drp1, .ref drp2, .ref drp3, .ref drp4, .ref drp5, .ref drp6, .ref drp7, .ref drp8, .ref drp9, .ref drp10])), (drp3, aI cs 24 f_drp3)]) := by
  refine kMet_i RX6 (by decide) rfl (Nat.le_of_ble_eq_true rfl) ?_
  intro p e s m below meth c ls A Qz H locs hx hb hml hown hin hu hK hsz hA hP hD hS hl hz
  subst hsz
  have hl : lv_has ls 5 [(0, .ref drp), (1, .int x)] := hl
  refine lv_iconst (v := 0) hx hb dX6_deadOn_0 (by decide) ?_
  refine lv_istore_n (lv' := [(2, .int 0), (0, .ref drp), (1, .int x)]) hx hb dX6_deadOn_1 rfl hl (by decide) rfl (fun ls hl => ?_)
  refine lv_iload_n hx hb dX6_deadOn_2 rfl (lv_at hl 2 rfl) ?_
  refine kN_i  (As := [.int x]) (rest := []) (wc := []) (wr := [(drp, .inr (6, [.int i1, .int i2, .int i3, .int i4, .int i5, .int i6, .int i7, .ref drp1, .ref drp2, .ref drp3, .ref drp4, .ref drp5, .ref drp6, .ref drp7, .ref drp8, .ref drp9, .ref drp10])), (drp3, aI cs 24 f_drp3)]) hx hb hml hown hu hK hP hD hS hA hl.1 (c_X8_isPage l D cs H.size x) u_463 (nest_10) u_462 u_66 hd_X8_isPage.2 ⟨(Nat.le_of_ble_eq_true rfl), (Nat.le_of_ble_eq_true rfl)⟩ [] [0, 1] rfl rfl rfl rfl (by decide) rfl rfl (Nat.le_of_ble_eq_true rfl) dX6_deadOn_3 ⟨(Nat.le_of_ble_eq_true rfl), (Nat.le_of_ble_eq_true rfl)⟩ (fun r_1 ut_2 H locs hw_3 hP hD hS => ?_)
  have hP : va_P D vwCl [(drp, .inr (6, [.int i1, .int i2, .int i3, .int i4, .int i5, .int i6, .int i7, .ref drp1, .ref drp2, .ref drp3, .ref drp4, .ref drp5, .ref drp6, .ref drp7, .ref drp8, .ref drp9, .ref drp10])), (drp3, aI cs 24 f_drp3)] H := hP
  have hD : va_D A [(drp, .inr (6, [.int i1, .int i2, .int i3, .int i4, .int i5, .int i6, .int i7, .ref drp1, .ref drp2, .ref drp3, .ref drp4, .ref drp5, .ref drp6, .ref drp7, .ref drp8, .ref drp9, .ref drp10])), (drp3, aI cs 24 f_drp3)] := hD
  rcases hw_3 with hw_3 | hw_3
  · obtain ⟨er_4, hf_5⟩ := hw_3
    subst er_4
    refine lv_if_eq (tgt := 70) hx hb dX6_deadOn_6 (by decide) (fun c_6 => absurd c_6 (by decide)) (fun c_6 => ?_)
    refine lv_iload_n hx hb dX6_deadOn_9 rfl (lv_at hl 2 rfl) ?_
    refine lv_bipush (v := 10) hx hb dX6_deadOn_10 (by decide) ?_
    refine lv_imul hx hb dX6_deadOn_12 ?_
    refine lv_istore_n (lv' := [(3, .int (x * 10)), (2, .int 0), (0, .ref drp), (1, .int x)]) hx hb dX6_deadOn_13 rfl hl (by decide) rfl (fun ls hl => ?_)
    refine lv_iconst (v := 0) hx hb dX6_deadOn_14 (by decide) ?_
    refine lv_istore (lv' := [(4, .int 0), (3, .int (x * 10)), (2, .int 0), (0, .ref drp), (1, .int x)]) hx hb dX6_deadOn_15 hl (by decide) rfl (fun ls hl => ?_)
    refine lv_iload hx hb dX6_deadOn_17 (lv_at hl 0 rfl) ?_
    refine lv_aload_n hx hb dX6_deadOn_19 rfl (lv_at hl 3 rfl) ?_
    refine va_get (D := D) (ci := 6) (v := .ref drp3) (C := RX6) (T := TX6) (N := 17) hx hb hu in_X6 hown hK.1 hP 0 rfl rfl 9 (by decide) (hu _ u_212) (fun _ h9 => h9) rfl dX6_deadOn_20 ?_
    refine lv_iload_n hx hb dX6_deadOn_23 rfl (lv_at hl 4 rfl) ?_
    refine va_iald hx hb hK.1 hP 1 0 rfl rfl (vin_of hf_5.1 hf_5.2 rfl) dX6_deadOn_24 ?_
    refine tpi (y := 0) (z_f_drp3 _ (cl_lt (vin_of hf_5.1 hf_5.2 rfl))) ?_
    refine lv_icmp_ge (tgt := 70) hx hb dX6_deadOn_25 (by decide) (fun c_7 => ?_) (fun c_7 => absurd (by decide) c_7)
    refine lv_iload_n hx hb dX6_deadOn_70 rfl (lv_at hl 2 rfl) ?_
    exact hz () hP hD hS rfl [0, 1] rfl rfl (Nat.le_of_ble_eq_true rfl) (Nat.le_of_ble_eq_true rfl) .int rfl rfl dX6_deadOn_71
  · obtain ⟨er_8, hf_9⟩ := hw_3
    subst er_8
    refine lv_if_eq (tgt := 70) hx hb dX6_deadOn_6 (by decide) (fun c_10 => ?_) (fun c_10 => absurd (by decide) c_10)
    refine lv_iload_n hx hb dX6_deadOn_70 rfl (lv_at hl 0 rfl) ?_
    exact hz () hP hD hS rfl [0, 1] rfl rfl (Nat.le_of_ble_eq_true rfl) (Nat.le_of_ble_eq_true rfl) .int rfl rfl dX6_deadOn_71
abbrev rm_c_X6_recordsOn : Room := { frames := 1, cells := 0, slots := 0, locals := 20 }
set_option maxHeartbeats 4000000 in
set_option maxRecDepth 100000 in
theorem c_X6_recordsOn (l : Launch) (D : va_G) (cs : Nat → ClassId) (sz : Nat) (drp : Nat) (drp1 : Nat) (drp2 : Nat) (drp3 : Nat) (f_drp3 : Nat → Int32) (drp4 : Nat) (drp5 : Nat) (drp6 : Nat) (drp7 : Nat) (drp8 : Nat) (drp9 : Nat) (drp10 : Nat) (i1 : Int32) (i2 : Int32) (i3 : Int32) (i4 : Int32) (i5 : Int32) (i6 : Int32) (i7 : Int32) (x : Int32) (z_f_drp3 : ∀ j, j < 24 → f_drp3 j = 0) : cMi l yX6_recordsOn (Cond.code yX6_recordsOn cX6_recordsOn 5 (some .int)) (rm_c_X6_recordsOn) D cs [.ref drp, .int x] sz [(drp, .inr (6, [.int i1, .int i2, .int i3, .int i4, .int i5, .int i6, .int i7, .ref drp1, .ref drp2, .ref drp3, .ref drp4, .ref drp5, .ref drp6, .ref drp7, .ref drp8, .ref drp9, .ref drp10])), (drp3, aI cs 24 f_drp3)] (fun (r : Int32) (u : Unit) => (r = 0)) (fun (u : Unit) => [(drp, .inr (6, [.int i1, .int i2, .int i3, .int i4, .int i5, .int i6, .int i7, .ref drp1, .ref drp2, .ref drp3, .ref drp4, .ref drp5, .ref drp6, .ref drp7, .ref drp8, .ref drp9, .ref drp10])), (drp3, aI cs 24 f_drp3)]) := by
  refine kMet_i RX6 (by decide) rfl (Nat.le_of_ble_eq_true rfl) ?_
  intro p e s m below meth c ls A Qz H locs hx hb hml hown hin hu hK hsz hA hP hD hS hl hz
  subst hsz
  have hl : lv_has ls 5 [(0, .ref drp), (1, .int x)] := hl
  refine lv_iconst (v := 0) hx hb dX6_recordsOn_0 (by decide) ?_
  refine lv_istore_n (lv' := [(2, .int 0), (0, .ref drp), (1, .int x)]) hx hb dX6_recordsOn_1 rfl hl (by decide) rfl (fun ls hl => ?_)
  refine lv_iload_n hx hb dX6_recordsOn_2 rfl (lv_at hl 2 rfl) ?_
  refine kN_i  (As := [.int x]) (rest := []) (wc := []) (wr := [(drp, .inr (6, [.int i1, .int i2, .int i3, .int i4, .int i5, .int i6, .int i7, .ref drp1, .ref drp2, .ref drp3, .ref drp4, .ref drp5, .ref drp6, .ref drp7, .ref drp8, .ref drp9, .ref drp10])), (drp3, aI cs 24 f_drp3)]) hx hb hml hown hu hK hP hD hS hA hl.1 (c_X8_isPage l D cs H.size x) u_463 (nest_10) u_462 u_66 hd_X8_isPage.2 ⟨(Nat.le_of_ble_eq_true rfl), (Nat.le_of_ble_eq_true rfl)⟩ [] [0, 1] rfl rfl rfl rfl (by decide) rfl rfl (Nat.le_of_ble_eq_true rfl) dX6_recordsOn_3 ⟨(Nat.le_of_ble_eq_true rfl), (Nat.le_of_ble_eq_true rfl)⟩ (fun r_1 ut_2 H locs hw_3 hP hD hS => ?_)
  have hP : va_P D vwCl [(drp, .inr (6, [.int i1, .int i2, .int i3, .int i4, .int i5, .int i6, .int i7, .ref drp1, .ref drp2, .ref drp3, .ref drp4, .ref drp5, .ref drp6, .ref drp7, .ref drp8, .ref drp9, .ref drp10])), (drp3, aI cs 24 f_drp3)] H := hP
  have hD : va_D A [(drp, .inr (6, [.int i1, .int i2, .int i3, .int i4, .int i5, .int i6, .int i7, .ref drp1, .ref drp2, .ref drp3, .ref drp4, .ref drp5, .ref drp6, .ref drp7, .ref drp8, .ref drp9, .ref drp10])), (drp3, aI cs 24 f_drp3)] := hD
  rcases hw_3 with hw_3 | hw_3
  · obtain ⟨er_4, hf_5⟩ := hw_3
    subst er_4
    refine lv_if_eq (tgt := 62) hx hb dX6_recordsOn_6 (by decide) (fun c_6 => absurd c_6 (by decide)) (fun c_6 => ?_)
    refine lv_iload_n hx hb dX6_recordsOn_9 rfl (lv_at hl 2 rfl) ?_
    refine lv_bipush (v := 10) hx hb dX6_recordsOn_10 (by decide) ?_
    refine lv_imul hx hb dX6_recordsOn_12 ?_
    refine lv_istore_n (lv' := [(3, .int (x * 10)), (2, .int 0), (0, .ref drp), (1, .int x)]) hx hb dX6_recordsOn_13 rfl hl (by decide) rfl (fun ls hl => ?_)
    refine lv_iconst (v := 0) hx hb dX6_recordsOn_14 (by decide) ?_
    refine lv_istore (lv' := [(4, .int 0), (3, .int (x * 10)), (2, .int 0), (0, .ref drp), (1, .int x)]) hx hb dX6_recordsOn_15 hl (by decide) rfl (fun ls hl => ?_)
    refine lv_iload hx hb dX6_recordsOn_17 (lv_at hl 0 rfl) ?_
    refine lv_aload_n hx hb dX6_recordsOn_19 rfl (lv_at hl 3 rfl) ?_
    refine va_get (D := D) (ci := 6) (v := .ref drp3) (C := RX6) (T := TX6) (N := 17) hx hb hu in_X6 hown hK.1 hP 0 rfl rfl 9 (by decide) (hu _ u_212) (fun _ h9 => h9) rfl dX6_recordsOn_20 ?_
    refine lv_iload_n hx hb dX6_recordsOn_23 rfl (lv_at hl 4 rfl) ?_
    refine va_iald hx hb hK.1 hP 1 0 rfl rfl (vin_of hf_5.1 hf_5.2 rfl) dX6_recordsOn_24 ?_
    refine tpi (y := 0) (z_f_drp3 _ (cl_lt (vin_of hf_5.1 hf_5.2 rfl))) ?_
    refine lv_icmp_ge (tgt := 62) hx hb dX6_recordsOn_25 (by decide) (fun c_7 => ?_) (fun c_7 => absurd (by decide) c_7)
    refine lv_iload_n hx hb dX6_recordsOn_62 rfl (lv_at hl 2 rfl) ?_
    exact hz () hP hD hS rfl [0, 1] rfl rfl (Nat.le_of_ble_eq_true rfl) (Nat.le_of_ble_eq_true rfl) .int rfl rfl dX6_recordsOn_63
  · obtain ⟨er_8, hf_9⟩ := hw_3
    subst er_8
    refine lv_if_eq (tgt := 62) hx hb dX6_recordsOn_6 (by decide) (fun c_10 => ?_) (fun c_10 => absurd (by decide) c_10)
    refine lv_iload_n hx hb dX6_recordsOn_62 rfl (lv_at hl 0 rfl) ?_
    exact hz () hP hD hS rfl [0, 1] rfl rfl (Nat.le_of_ble_eq_true rfl) (Nat.le_of_ble_eq_true rfl) .int rfl rfl dX6_recordsOn_63
abbrev rm_c_X6_freePages : Room := { frames := 0, cells := 0, slots := 0, locals := 0 }
set_option maxHeartbeats 4000000 in
set_option maxRecDepth 100000 in
theorem c_X6_freePages (l : Launch) (D : va_G) (cs : Nat → ClassId) (sz : Nat) (drp : Nat) (drp1 : Nat) (f_drp1 : Nat → Int32) (drp2 : Nat) (drp3 : Nat) (drp4 : Nat) (drp5 : Nat) (drp6 : Nat) (drp7 : Nat) (drp8 : Nat) (drp9 : Nat) (drp10 : Nat) (i1 : Int32) (i2 : Int32) (i3 : Int32) (i4 : Int32) (i5 : Int32) (i6 : Int32) (i7 : Int32) (z_f_drp1 : ∀ j, j < 24 → f_drp1 j = 0) : cMi l yX6_freePages (Cond.code yX6_freePages cX6_freePages 3 (some .int)) (rm_c_X6_freePages) D cs [.ref drp] sz [(drp, .inr (6, [.int i1, .int i2, .int i3, .int i4, .int i5, .int i6, .int i7, .ref drp1, .ref drp2, .ref drp3, .ref drp4, .ref drp5, .ref drp6, .ref drp7, .ref drp8, .ref drp9, .ref drp10])), (drp1, aI cs 24 f_drp1)] (fun (r : Int32) (u : Unit) => (r = 24)) (fun (u : Unit) => [(drp, .inr (6, [.int i1, .int i2, .int i3, .int i4, .int i5, .int i6, .int i7, .ref drp1, .ref drp2, .ref drp3, .ref drp4, .ref drp5, .ref drp6, .ref drp7, .ref drp8, .ref drp9, .ref drp10])), (drp1, aI cs 24 f_drp1)]) := by
  refine kMet_i RX6 (by decide) rfl (Nat.le_of_ble_eq_true rfl) ?_
  intro p e s m below meth c ls A Qz H locs hx hb hml hown hin hu hK hsz hA hP hD hS hl hz
  subst hsz
  have hl : lv_has ls 3 [(0, .ref drp)] := hl
  refine lv_iconst (v := 0) hx hb dX6_freePages_0 (by decide) ?_
  refine lv_istore_n (lv' := [(1, .int 0), (0, .ref drp)]) hx hb dX6_freePages_1 rfl hl (by decide) rfl (fun ls hl => ?_)
  refine lv_iconst (v := 0) hx hb dX6_freePages_2 (by decide) ?_
  refine lv_istore_n (lv' := [(2, .int 0), (1, .int 0), (0, .ref drp)]) hx hb dX6_freePages_3 rfl hl (by decide) rfl (fun ls hl => ?_)
  refine lv_iload_n hx hb dX6_freePages_4 rfl (lv_at hl 0 rfl) ?_
  refine lv_bipush (v := 24) hx hb dX6_freePages_5 (by decide) ?_
  refine lv_icmp_ge (tgt := 33) hx hb dX6_freePages_7 (by decide) (fun c_1 => absurd c_1 (by decide)) (fun c_1 => ?_)
  refine lv_iload_n hx hb dX6_freePages_10 rfl (lv_at hl 1 rfl) ?_
  refine lv_aload_n hx hb dX6_freePages_11 rfl (lv_at hl 2 rfl) ?_
  refine va_get (D := D) (ci := 6) (v := .ref drp1) (C := RX6) (T := TX6) (N := 17) hx hb hu in_X6 hown hK.1 hP 0 rfl rfl 7 (by decide) (hu _ u_210) (fun _ h9 => h9) rfl dX6_freePages_12 ?_
  refine lv_iload_n hx hb dX6_freePages_15 rfl (lv_at hl 0 rfl) ?_
  refine va_iald hx hb hK.1 hP 1 0 rfl rfl (vin_c _ _ rfl) dX6_freePages_16 ?_
  refine tpi (y := 0) (z_f_drp1 _ (cl_lt (vin_c _ _ rfl))) ?_
  refine lv_if_ne (tgt := 24) hx hb dX6_freePages_17 (by decide) (fun c_2 => absurd (by decide) c_2) (fun c_2 => ?_)
  refine lv_iconst (v := 1) hx hb dX6_freePages_20 (by decide) ?_
  refine lv_goto (tgt := 25) hx hb dX6_freePages_21 (by decide) ?_
  refine lv_iadd hx hb dX6_freePages_25 ?_
  refine tpi (y := 1) (by decide) ?_
  refine lv_istore_n (lv' := [(1, .int 1), (2, .int 0), (0, .ref drp)]) hx hb dX6_freePages_26 rfl hl (by decide) rfl (fun ls hl => ?_)
  refine lv_iinc (v := 1) (lv' := [(2, .int 1), (1, .int 1), (0, .ref drp)]) hx hb dX6_freePages_27 hl (k := 1) rfl (by decide) (by decide) rfl (fun ls hl => ?_)
  refine lv_goto (tgt := 4) hx hb dX6_freePages_30 (by decide) ?_
  refine lv_iload_n hx hb dX6_freePages_4 rfl (lv_at hl 0 rfl) ?_
  refine lv_bipush (v := 24) hx hb dX6_freePages_5 (by decide) ?_
  refine lv_icmp_ge (tgt := 33) hx hb dX6_freePages_7 (by decide) (fun c_3 => absurd c_3 (by decide)) (fun c_3 => ?_)
  refine lv_iload_n hx hb dX6_freePages_10 rfl (lv_at hl 1 rfl) ?_
  refine lv_aload_n hx hb dX6_freePages_11 rfl (lv_at hl 2 rfl) ?_
  refine va_get (D := D) (ci := 6) (v := .ref drp1) (C := RX6) (T := TX6) (N := 17) hx hb hu in_X6 hown hK.1 hP 0 rfl rfl 7 (by decide) (hu _ u_210) (fun _ h9 => h9) rfl dX6_freePages_12 ?_
  refine lv_iload_n hx hb dX6_freePages_15 rfl (lv_at hl 0 rfl) ?_
  refine va_iald hx hb hK.1 hP 1 0 rfl rfl (vin_c _ _ rfl) dX6_freePages_16 ?_
  refine tpi (y := 0) (z_f_drp1 _ (cl_lt (vin_c _ _ rfl))) ?_
  refine lv_if_ne (tgt := 24) hx hb dX6_freePages_17 (by decide) (fun c_4 => absurd (by decide) c_4) (fun c_4 => ?_)
  refine lv_iconst (v := 1) hx hb dX6_freePages_20 (by decide) ?_
  refine lv_goto (tgt := 25) hx hb dX6_freePages_21 (by decide) ?_
  refine lv_iadd hx hb dX6_freePages_25 ?_
  refine tpi (y := 2) (by decide) ?_
  refine lv_istore_n (lv' := [(1, .int 2), (2, .int 1), (0, .ref drp)]) hx hb dX6_freePages_26 rfl hl (by decide) rfl (fun ls hl => ?_)
  refine lv_iinc (v := 2) (lv' := [(2, .int 2), (1, .int 2), (0, .ref drp)]) hx hb dX6_freePages_27 hl (k := 1) rfl (by decide) (by decide) rfl (fun ls hl => ?_)
  refine lv_goto (tgt := 4) hx hb dX6_freePages_30 (by decide) ?_
  refine lv_iload_n hx hb dX6_freePages_4 rfl (lv_at hl 0 rfl) ?_
  refine lv_bipush (v := 24) hx hb dX6_freePages_5 (by decide) ?_
  refine lv_icmp_ge (tgt := 33) hx hb dX6_freePages_7 (by decide) (fun c_5 => absurd c_5 (by decide)) (fun c_5 => ?_)
  refine lv_iload_n hx hb dX6_freePages_10 rfl (lv_at hl 1 rfl) ?_
  refine lv_aload_n hx hb dX6_freePages_11 rfl (lv_at hl 2 rfl) ?_
  refine va_get (D := D) (ci := 6) (v := .ref drp1) (C := RX6) (T := TX6) (N := 17) hx hb hu in_X6 hown hK.1 hP 0 rfl rfl 7 (by decide) (hu _ u_210) (fun _ h9 => h9) rfl dX6_freePages_12 ?_
  refine lv_iload_n hx hb dX6_freePages_15 rfl (lv_at hl 0 rfl) ?_
  refine va_iald hx hb hK.1 hP 1 0 rfl rfl (vin_c _ _ rfl) dX6_freePages_16 ?_
  refine tpi (y := 0) (z_f_drp1 _ (cl_lt (vin_c _ _ rfl))) ?_
  refine lv_if_ne (tgt := 24) hx hb dX6_freePages_17 (by decide) (fun c_6 => absurd (by decide) c_6) (fun c_6 => ?_)
  refine lv_iconst (v := 1) hx hb dX6_freePages_20 (by decide) ?_
  refine lv_goto (tgt := 25) hx hb dX6_freePages_21 (by decide) ?_
  refine lv_iadd hx hb dX6_freePages_25 ?_
  refine tpi (y := 3) (by decide) ?_
  refine lv_istore_n (lv' := [(1, .int 3), (2, .int 2), (0, .ref drp)]) hx hb dX6_freePages_26 rfl hl (by decide) rfl (fun ls hl => ?_)
  refine lv_iinc (v := 3) (lv' := [(2, .int 3), (1, .int 3), (0, .ref drp)]) hx hb dX6_freePages_27 hl (k := 1) rfl (by decide) (by decide) rfl (fun ls hl => ?_)
  refine lv_goto (tgt := 4) hx hb dX6_freePages_30 (by decide) ?_
  refine lv_iload_n hx hb dX6_freePages_4 rfl (lv_at hl 0 rfl) ?_
  refine lv_bipush (v := 24) hx hb dX6_freePages_5 (by decide) ?_
  refine lv_icmp_ge (tgt := 33) hx hb dX6_freePages_7 (by decide) (fun c_7 => absurd c_7 (by decide)) (fun c_7 => ?_)
  refine lv_iload_n hx hb dX6_freePages_10 rfl (lv_at hl 1 rfl) ?_
  refine lv_aload_n hx hb dX6_freePages_11 rfl (lv_at hl 2 rfl) ?_
  refine va_get (D := D) (ci := 6) (v := .ref drp1) (C := RX6) (T := TX6) (N := 17) hx hb hu in_X6 hown hK.1 hP 0 rfl rfl 7 (by decide) (hu _ u_210) (fun _ h9 => h9) rfl dX6_freePages_12 ?_
  refine lv_iload_n hx hb dX6_freePages_15 rfl (lv_at hl 0 rfl) ?_
  refine va_iald hx hb hK.1 hP 1 0 rfl rfl (vin_c _ _ rfl) dX6_freePages_16 ?_
  refine tpi (y := 0) (z_f_drp1 _ (cl_lt (vin_c _ _ rfl))) ?_
  refine lv_if_ne (tgt := 24) hx hb dX6_freePages_17 (by decide) (fun c_8 => absurd (by decide) c_8) (fun c_8 => ?_)
  refine lv_iconst (v := 1) hx hb dX6_freePages_20 (by decide) ?_
  refine lv_goto (tgt := 25) hx hb dX6_freePages_21 (by decide) ?_
  refine lv_iadd hx hb dX6_freePages_25 ?_
  refine tpi (y := 4) (by decide) ?_
  refine lv_istore_n (lv' := [(1, .int 4), (2, .int 3), (0, .ref drp)]) hx hb dX6_freePages_26 rfl hl (by decide) rfl (fun ls hl => ?_)
  refine lv_iinc (v := 4) (lv' := [(2, .int 4), (1, .int 4), (0, .ref drp)]) hx hb dX6_freePages_27 hl (k := 1) rfl (by decide) (by decide) rfl (fun ls hl => ?_)
  refine lv_goto (tgt := 4) hx hb dX6_freePages_30 (by decide) ?_
  refine lv_iload_n hx hb dX6_freePages_4 rfl (lv_at hl 0 rfl) ?_
  refine lv_bipush (v := 24) hx hb dX6_freePages_5 (by decide) ?_
  refine lv_icmp_ge (tgt := 33) hx hb dX6_freePages_7 (by decide) (fun c_9 => absurd c_9 (by decide)) (fun c_9 => ?_)
  refine lv_iload_n hx hb dX6_freePages_10 rfl (lv_at hl 1 rfl) ?_
  refine lv_aload_n hx hb dX6_freePages_11 rfl (lv_at hl 2 rfl) ?_
  refine va_get (D := D) (ci := 6) (v := .ref drp1) (C := RX6) (T := TX6) (N := 17) hx hb hu in_X6 hown hK.1 hP 0 rfl rfl 7 (by decide) (hu _ u_210) (fun _ h9 => h9) rfl dX6_freePages_12 ?_
  refine lv_iload_n hx hb dX6_freePages_15 rfl (lv_at hl 0 rfl) ?_
  refine va_iald hx hb hK.1 hP 1 0 rfl rfl (vin_c _ _ rfl) dX6_freePages_16 ?_
  refine tpi (y := 0) (z_f_drp1 _ (cl_lt (vin_c _ _ rfl))) ?_
  refine lv_if_ne (tgt := 24) hx hb dX6_freePages_17 (by decide) (fun c_10 => absurd (by decide) c_10) (fun c_10 => ?_)
  refine lv_iconst (v := 1) hx hb dX6_freePages_20 (by decide) ?_
  refine lv_goto (tgt := 25) hx hb dX6_freePages_21 (by decide) ?_
  refine lv_iadd hx hb dX6_freePages_25 ?_
  refine tpi (y := 5) (by decide) ?_
  refine lv_istore_n (lv' := [(1, .int 5), (2, .int 4), (0, .ref drp)]) hx hb dX6_freePages_26 rfl hl (by decide) rfl (fun ls hl => ?_)
  refine lv_iinc (v := 5) (lv' := [(2, .int 5), (1, .int 5), (0, .ref drp)]) hx hb dX6_freePages_27 hl (k := 1) rfl (by decide) (by decide) rfl (fun ls hl => ?_)
  refine lv_goto (tgt := 4) hx hb dX6_freePages_30 (by decide) ?_
  refine lv_iload_n hx hb dX6_freePages_4 rfl (lv_at hl 0 rfl) ?_
  refine lv_bipush (v := 24) hx hb dX6_freePages_5 (by decide) ?_
  refine lv_icmp_ge (tgt := 33) hx hb dX6_freePages_7 (by decide) (fun c_11 => absurd c_11 (by decide)) (fun c_11 => ?_)
  refine lv_iload_n hx hb dX6_freePages_10 rfl (lv_at hl 1 rfl) ?_
  refine lv_aload_n hx hb dX6_freePages_11 rfl (lv_at hl 2 rfl) ?_
  refine va_get (D := D) (ci := 6) (v := .ref drp1) (C := RX6) (T := TX6) (N := 17) hx hb hu in_X6 hown hK.1 hP 0 rfl rfl 7 (by decide) (hu _ u_210) (fun _ h9 => h9) rfl dX6_freePages_12 ?_
  refine lv_iload_n hx hb dX6_freePages_15 rfl (lv_at hl 0 rfl) ?_
  refine va_iald hx hb hK.1 hP 1 0 rfl rfl (vin_c _ _ rfl) dX6_freePages_16 ?_
  refine tpi (y := 0) (z_f_drp1 _ (cl_lt (vin_c _ _ rfl))) ?_
  refine lv_if_ne (tgt := 24) hx hb dX6_freePages_17 (by decide) (fun c_12 => absurd (by decide) c_12) (fun c_12 => ?_)
  refine lv_iconst (v := 1) hx hb dX6_freePages_20 (by decide) ?_
  refine lv_goto (tgt := 25) hx hb dX6_freePages_21 (by decide) ?_
  refine lv_iadd hx hb dX6_freePages_25 ?_
  refine tpi (y := 6) (by decide) ?_
  refine lv_istore_n (lv' := [(1, .int 6), (2, .int 5), (0, .ref drp)]) hx hb dX6_freePages_26 rfl hl (by decide) rfl (fun ls hl => ?_)
  refine lv_iinc (v := 6) (lv' := [(2, .int 6), (1, .int 6), (0, .ref drp)]) hx hb dX6_freePages_27 hl (k := 1) rfl (by decide) (by decide) rfl (fun ls hl => ?_)
  refine lv_goto (tgt := 4) hx hb dX6_freePages_30 (by decide) ?_
  refine lv_iload_n hx hb dX6_freePages_4 rfl (lv_at hl 0 rfl) ?_
  refine lv_bipush (v := 24) hx hb dX6_freePages_5 (by decide) ?_
  refine lv_icmp_ge (tgt := 33) hx hb dX6_freePages_7 (by decide) (fun c_13 => absurd c_13 (by decide)) (fun c_13 => ?_)
  refine lv_iload_n hx hb dX6_freePages_10 rfl (lv_at hl 1 rfl) ?_
  refine lv_aload_n hx hb dX6_freePages_11 rfl (lv_at hl 2 rfl) ?_
  refine va_get (D := D) (ci := 6) (v := .ref drp1) (C := RX6) (T := TX6) (N := 17) hx hb hu in_X6 hown hK.1 hP 0 rfl rfl 7 (by decide) (hu _ u_210) (fun _ h9 => h9) rfl dX6_freePages_12 ?_
  refine lv_iload_n hx hb dX6_freePages_15 rfl (lv_at hl 0 rfl) ?_
  refine va_iald hx hb hK.1 hP 1 0 rfl rfl (vin_c _ _ rfl) dX6_freePages_16 ?_
  refine tpi (y := 0) (z_f_drp1 _ (cl_lt (vin_c _ _ rfl))) ?_
  refine lv_if_ne (tgt := 24) hx hb dX6_freePages_17 (by decide) (fun c_14 => absurd (by decide) c_14) (fun c_14 => ?_)
  refine lv_iconst (v := 1) hx hb dX6_freePages_20 (by decide) ?_
  refine lv_goto (tgt := 25) hx hb dX6_freePages_21 (by decide) ?_
  refine lv_iadd hx hb dX6_freePages_25 ?_
  refine tpi (y := 7) (by decide) ?_
  refine lv_istore_n (lv' := [(1, .int 7), (2, .int 6), (0, .ref drp)]) hx hb dX6_freePages_26 rfl hl (by decide) rfl (fun ls hl => ?_)
  refine lv_iinc (v := 7) (lv' := [(2, .int 7), (1, .int 7), (0, .ref drp)]) hx hb dX6_freePages_27 hl (k := 1) rfl (by decide) (by decide) rfl (fun ls hl => ?_)
  refine lv_goto (tgt := 4) hx hb dX6_freePages_30 (by decide) ?_
  refine lv_iload_n hx hb dX6_freePages_4 rfl (lv_at hl 0 rfl) ?_
  refine lv_bipush (v := 24) hx hb dX6_freePages_5 (by decide) ?_
  refine lv_icmp_ge (tgt := 33) hx hb dX6_freePages_7 (by decide) (fun c_15 => absurd c_15 (by decide)) (fun c_15 => ?_)
  refine lv_iload_n hx hb dX6_freePages_10 rfl (lv_at hl 1 rfl) ?_
  refine lv_aload_n hx hb dX6_freePages_11 rfl (lv_at hl 2 rfl) ?_
  refine va_get (D := D) (ci := 6) (v := .ref drp1) (C := RX6) (T := TX6) (N := 17) hx hb hu in_X6 hown hK.1 hP 0 rfl rfl 7 (by decide) (hu _ u_210) (fun _ h9 => h9) rfl dX6_freePages_12 ?_
  refine lv_iload_n hx hb dX6_freePages_15 rfl (lv_at hl 0 rfl) ?_
  refine va_iald hx hb hK.1 hP 1 0 rfl rfl (vin_c _ _ rfl) dX6_freePages_16 ?_
  refine tpi (y := 0) (z_f_drp1 _ (cl_lt (vin_c _ _ rfl))) ?_
  refine lv_if_ne (tgt := 24) hx hb dX6_freePages_17 (by decide) (fun c_16 => absurd (by decide) c_16) (fun c_16 => ?_)
  refine lv_iconst (v := 1) hx hb dX6_freePages_20 (by decide) ?_
  refine lv_goto (tgt := 25) hx hb dX6_freePages_21 (by decide) ?_
  refine lv_iadd hx hb dX6_freePages_25 ?_
  refine tpi (y := 8) (by decide) ?_
  refine lv_istore_n (lv' := [(1, .int 8), (2, .int 7), (0, .ref drp)]) hx hb dX6_freePages_26 rfl hl (by decide) rfl (fun ls hl => ?_)
  refine lv_iinc (v := 8) (lv' := [(2, .int 8), (1, .int 8), (0, .ref drp)]) hx hb dX6_freePages_27 hl (k := 1) rfl (by decide) (by decide) rfl (fun ls hl => ?_)
  refine lv_goto (tgt := 4) hx hb dX6_freePages_30 (by decide) ?_
  refine lv_iload_n hx hb dX6_freePages_4 rfl (lv_at hl 0 rfl) ?_
  refine lv_bipush (v := 24) hx hb dX6_freePages_5 (by decide) ?_
  refine lv_icmp_ge (tgt := 33) hx hb dX6_freePages_7 (by decide) (fun c_17 => absurd c_17 (by decide)) (fun c_17 => ?_)
  refine lv_iload_n hx hb dX6_freePages_10 rfl (lv_at hl 1 rfl) ?_
  refine lv_aload_n hx hb dX6_freePages_11 rfl (lv_at hl 2 rfl) ?_
  refine va_get (D := D) (ci := 6) (v := .ref drp1) (C := RX6) (T := TX6) (N := 17) hx hb hu in_X6 hown hK.1 hP 0 rfl rfl 7 (by decide) (hu _ u_210) (fun _ h9 => h9) rfl dX6_freePages_12 ?_
  refine lv_iload_n hx hb dX6_freePages_15 rfl (lv_at hl 0 rfl) ?_
  refine va_iald hx hb hK.1 hP 1 0 rfl rfl (vin_c _ _ rfl) dX6_freePages_16 ?_
  refine tpi (y := 0) (z_f_drp1 _ (cl_lt (vin_c _ _ rfl))) ?_
  refine lv_if_ne (tgt := 24) hx hb dX6_freePages_17 (by decide) (fun c_18 => absurd (by decide) c_18) (fun c_18 => ?_)
  refine lv_iconst (v := 1) hx hb dX6_freePages_20 (by decide) ?_
  refine lv_goto (tgt := 25) hx hb dX6_freePages_21 (by decide) ?_
  refine lv_iadd hx hb dX6_freePages_25 ?_
  refine tpi (y := 9) (by decide) ?_
  refine lv_istore_n (lv' := [(1, .int 9), (2, .int 8), (0, .ref drp)]) hx hb dX6_freePages_26 rfl hl (by decide) rfl (fun ls hl => ?_)
  refine lv_iinc (v := 9) (lv' := [(2, .int 9), (1, .int 9), (0, .ref drp)]) hx hb dX6_freePages_27 hl (k := 1) rfl (by decide) (by decide) rfl (fun ls hl => ?_)
  refine lv_goto (tgt := 4) hx hb dX6_freePages_30 (by decide) ?_
  refine lv_iload_n hx hb dX6_freePages_4 rfl (lv_at hl 0 rfl) ?_
  refine lv_bipush (v := 24) hx hb dX6_freePages_5 (by decide) ?_
  refine lv_icmp_ge (tgt := 33) hx hb dX6_freePages_7 (by decide) (fun c_19 => absurd c_19 (by decide)) (fun c_19 => ?_)
  refine lv_iload_n hx hb dX6_freePages_10 rfl (lv_at hl 1 rfl) ?_
  refine lv_aload_n hx hb dX6_freePages_11 rfl (lv_at hl 2 rfl) ?_
  refine va_get (D := D) (ci := 6) (v := .ref drp1) (C := RX6) (T := TX6) (N := 17) hx hb hu in_X6 hown hK.1 hP 0 rfl rfl 7 (by decide) (hu _ u_210) (fun _ h9 => h9) rfl dX6_freePages_12 ?_
  refine lv_iload_n hx hb dX6_freePages_15 rfl (lv_at hl 0 rfl) ?_
  refine va_iald hx hb hK.1 hP 1 0 rfl rfl (vin_c _ _ rfl) dX6_freePages_16 ?_
  refine tpi (y := 0) (z_f_drp1 _ (cl_lt (vin_c _ _ rfl))) ?_
  refine lv_if_ne (tgt := 24) hx hb dX6_freePages_17 (by decide) (fun c_20 => absurd (by decide) c_20) (fun c_20 => ?_)
  refine lv_iconst (v := 1) hx hb dX6_freePages_20 (by decide) ?_
  refine lv_goto (tgt := 25) hx hb dX6_freePages_21 (by decide) ?_
  refine lv_iadd hx hb dX6_freePages_25 ?_
  refine tpi (y := 10) (by decide) ?_
  refine lv_istore_n (lv' := [(1, .int 10), (2, .int 9), (0, .ref drp)]) hx hb dX6_freePages_26 rfl hl (by decide) rfl (fun ls hl => ?_)
  refine lv_iinc (v := 10) (lv' := [(2, .int 10), (1, .int 10), (0, .ref drp)]) hx hb dX6_freePages_27 hl (k := 1) rfl (by decide) (by decide) rfl (fun ls hl => ?_)
  refine lv_goto (tgt := 4) hx hb dX6_freePages_30 (by decide) ?_
  refine lv_iload_n hx hb dX6_freePages_4 rfl (lv_at hl 0 rfl) ?_
  refine lv_bipush (v := 24) hx hb dX6_freePages_5 (by decide) ?_
  refine lv_icmp_ge (tgt := 33) hx hb dX6_freePages_7 (by decide) (fun c_21 => absurd c_21 (by decide)) (fun c_21 => ?_)
  refine lv_iload_n hx hb dX6_freePages_10 rfl (lv_at hl 1 rfl) ?_
  refine lv_aload_n hx hb dX6_freePages_11 rfl (lv_at hl 2 rfl) ?_
  refine va_get (D := D) (ci := 6) (v := .ref drp1) (C := RX6) (T := TX6) (N := 17) hx hb hu in_X6 hown hK.1 hP 0 rfl rfl 7 (by decide) (hu _ u_210) (fun _ h9 => h9) rfl dX6_freePages_12 ?_
  refine lv_iload_n hx hb dX6_freePages_15 rfl (lv_at hl 0 rfl) ?_
  refine va_iald hx hb hK.1 hP 1 0 rfl rfl (vin_c _ _ rfl) dX6_freePages_16 ?_
  refine tpi (y := 0) (z_f_drp1 _ (cl_lt (vin_c _ _ rfl))) ?_
  refine lv_if_ne (tgt := 24) hx hb dX6_freePages_17 (by decide) (fun c_22 => absurd (by decide) c_22) (fun c_22 => ?_)
  refine lv_iconst (v := 1) hx hb dX6_freePages_20 (by decide) ?_
  refine lv_goto (tgt := 25) hx hb dX6_freePages_21 (by decide) ?_
  refine lv_iadd hx hb dX6_freePages_25 ?_
  refine tpi (y := 11) (by decide) ?_
  refine lv_istore_n (lv' := [(1, .int 11), (2, .int 10), (0, .ref drp)]) hx hb dX6_freePages_26 rfl hl (by decide) rfl (fun ls hl => ?_)
  refine lv_iinc (v := 11) (lv' := [(2, .int 11), (1, .int 11), (0, .ref drp)]) hx hb dX6_freePages_27 hl (k := 1) rfl (by decide) (by decide) rfl (fun ls hl => ?_)
  refine lv_goto (tgt := 4) hx hb dX6_freePages_30 (by decide) ?_
  refine lv_iload_n hx hb dX6_freePages_4 rfl (lv_at hl 0 rfl) ?_
  refine lv_bipush (v := 24) hx hb dX6_freePages_5 (by decide) ?_
  refine lv_icmp_ge (tgt := 33) hx hb dX6_freePages_7 (by decide) (fun c_23 => absurd c_23 (by decide)) (fun c_23 => ?_)
  refine lv_iload_n hx hb dX6_freePages_10 rfl (lv_at hl 1 rfl) ?_
  refine lv_aload_n hx hb dX6_freePages_11 rfl (lv_at hl 2 rfl) ?_
  refine va_get (D := D) (ci := 6) (v := .ref drp1) (C := RX6) (T := TX6) (N := 17) hx hb hu in_X6 hown hK.1 hP 0 rfl rfl 7 (by decide) (hu _ u_210) (fun _ h9 => h9) rfl dX6_freePages_12 ?_
  refine lv_iload_n hx hb dX6_freePages_15 rfl (lv_at hl 0 rfl) ?_
  refine va_iald hx hb hK.1 hP 1 0 rfl rfl (vin_c _ _ rfl) dX6_freePages_16 ?_
  refine tpi (y := 0) (z_f_drp1 _ (cl_lt (vin_c _ _ rfl))) ?_
  refine lv_if_ne (tgt := 24) hx hb dX6_freePages_17 (by decide) (fun c_24 => absurd (by decide) c_24) (fun c_24 => ?_)
  refine lv_iconst (v := 1) hx hb dX6_freePages_20 (by decide) ?_
  refine lv_goto (tgt := 25) hx hb dX6_freePages_21 (by decide) ?_
  refine lv_iadd hx hb dX6_freePages_25 ?_
  refine tpi (y := 12) (by decide) ?_
  refine lv_istore_n (lv' := [(1, .int 12), (2, .int 11), (0, .ref drp)]) hx hb dX6_freePages_26 rfl hl (by decide) rfl (fun ls hl => ?_)
  refine lv_iinc (v := 12) (lv' := [(2, .int 12), (1, .int 12), (0, .ref drp)]) hx hb dX6_freePages_27 hl (k := 1) rfl (by decide) (by decide) rfl (fun ls hl => ?_)
  refine lv_goto (tgt := 4) hx hb dX6_freePages_30 (by decide) ?_
  refine lv_iload_n hx hb dX6_freePages_4 rfl (lv_at hl 0 rfl) ?_
  refine lv_bipush (v := 24) hx hb dX6_freePages_5 (by decide) ?_
  refine lv_icmp_ge (tgt := 33) hx hb dX6_freePages_7 (by decide) (fun c_25 => absurd c_25 (by decide)) (fun c_25 => ?_)
  refine lv_iload_n hx hb dX6_freePages_10 rfl (lv_at hl 1 rfl) ?_
  refine lv_aload_n hx hb dX6_freePages_11 rfl (lv_at hl 2 rfl) ?_
  refine va_get (D := D) (ci := 6) (v := .ref drp1) (C := RX6) (T := TX6) (N := 17) hx hb hu in_X6 hown hK.1 hP 0 rfl rfl 7 (by decide) (hu _ u_210) (fun _ h9 => h9) rfl dX6_freePages_12 ?_
  refine lv_iload_n hx hb dX6_freePages_15 rfl (lv_at hl 0 rfl) ?_
  refine va_iald hx hb hK.1 hP 1 0 rfl rfl (vin_c _ _ rfl) dX6_freePages_16 ?_
  refine tpi (y := 0) (z_f_drp1 _ (cl_lt (vin_c _ _ rfl))) ?_
  refine lv_if_ne (tgt := 24) hx hb dX6_freePages_17 (by decide) (fun c_26 => absurd (by decide) c_26) (fun c_26 => ?_)
  refine lv_iconst (v := 1) hx hb dX6_freePages_20 (by decide) ?_
  refine lv_goto (tgt := 25) hx hb dX6_freePages_21 (by decide) ?_
  refine lv_iadd hx hb dX6_freePages_25 ?_
  refine tpi (y := 13) (by decide) ?_
  refine lv_istore_n (lv' := [(1, .int 13), (2, .int 12), (0, .ref drp)]) hx hb dX6_freePages_26 rfl hl (by decide) rfl (fun ls hl => ?_)
  refine lv_iinc (v := 13) (lv' := [(2, .int 13), (1, .int 13), (0, .ref drp)]) hx hb dX6_freePages_27 hl (k := 1) rfl (by decide) (by decide) rfl (fun ls hl => ?_)
  refine lv_goto (tgt := 4) hx hb dX6_freePages_30 (by decide) ?_
  refine lv_iload_n hx hb dX6_freePages_4 rfl (lv_at hl 0 rfl) ?_
  refine lv_bipush (v := 24) hx hb dX6_freePages_5 (by decide) ?_
  refine lv_icmp_ge (tgt := 33) hx hb dX6_freePages_7 (by decide) (fun c_27 => absurd c_27 (by decide)) (fun c_27 => ?_)
  refine lv_iload_n hx hb dX6_freePages_10 rfl (lv_at hl 1 rfl) ?_
  refine lv_aload_n hx hb dX6_freePages_11 rfl (lv_at hl 2 rfl) ?_
  refine va_get (D := D) (ci := 6) (v := .ref drp1) (C := RX6) (T := TX6) (N := 17) hx hb hu in_X6 hown hK.1 hP 0 rfl rfl 7 (by decide) (hu _ u_210) (fun _ h9 => h9) rfl dX6_freePages_12 ?_
  refine lv_iload_n hx hb dX6_freePages_15 rfl (lv_at hl 0 rfl) ?_
  refine va_iald hx hb hK.1 hP 1 0 rfl rfl (vin_c _ _ rfl) dX6_freePages_16 ?_
  refine tpi (y := 0) (z_f_drp1 _ (cl_lt (vin_c _ _ rfl))) ?_
  refine lv_if_ne (tgt := 24) hx hb dX6_freePages_17 (by decide) (fun c_28 => absurd (by decide) c_28) (fun c_28 => ?_)
  refine lv_iconst (v := 1) hx hb dX6_freePages_20 (by decide) ?_
  refine lv_goto (tgt := 25) hx hb dX6_freePages_21 (by decide) ?_
  refine lv_iadd hx hb dX6_freePages_25 ?_
  refine tpi (y := 14) (by decide) ?_
  refine lv_istore_n (lv' := [(1, .int 14), (2, .int 13), (0, .ref drp)]) hx hb dX6_freePages_26 rfl hl (by decide) rfl (fun ls hl => ?_)
  refine lv_iinc (v := 14) (lv' := [(2, .int 14), (1, .int 14), (0, .ref drp)]) hx hb dX6_freePages_27 hl (k := 1) rfl (by decide) (by decide) rfl (fun ls hl => ?_)
  refine lv_goto (tgt := 4) hx hb dX6_freePages_30 (by decide) ?_
  refine lv_iload_n hx hb dX6_freePages_4 rfl (lv_at hl 0 rfl) ?_
  refine lv_bipush (v := 24) hx hb dX6_freePages_5 (by decide) ?_
  refine lv_icmp_ge (tgt := 33) hx hb dX6_freePages_7 (by decide) (fun c_29 => absurd c_29 (by decide)) (fun c_29 => ?_)
  refine lv_iload_n hx hb dX6_freePages_10 rfl (lv_at hl 1 rfl) ?_
  refine lv_aload_n hx hb dX6_freePages_11 rfl (lv_at hl 2 rfl) ?_
  refine va_get (D := D) (ci := 6) (v := .ref drp1) (C := RX6) (T := TX6) (N := 17) hx hb hu in_X6 hown hK.1 hP 0 rfl rfl 7 (by decide) (hu _ u_210) (fun _ h9 => h9) rfl dX6_freePages_12 ?_
  refine lv_iload_n hx hb dX6_freePages_15 rfl (lv_at hl 0 rfl) ?_
  refine va_iald hx hb hK.1 hP 1 0 rfl rfl (vin_c _ _ rfl) dX6_freePages_16 ?_
  refine tpi (y := 0) (z_f_drp1 _ (cl_lt (vin_c _ _ rfl))) ?_
  refine lv_if_ne (tgt := 24) hx hb dX6_freePages_17 (by decide) (fun c_30 => absurd (by decide) c_30) (fun c_30 => ?_)
  refine lv_iconst (v := 1) hx hb dX6_freePages_20 (by decide) ?_
  refine lv_goto (tgt := 25) hx hb dX6_freePages_21 (by decide) ?_
  refine lv_iadd hx hb dX6_freePages_25 ?_
  refine tpi (y := 15) (by decide) ?_
  refine lv_istore_n (lv' := [(1, .int 15), (2, .int 14), (0, .ref drp)]) hx hb dX6_freePages_26 rfl hl (by decide) rfl (fun ls hl => ?_)
  refine lv_iinc (v := 15) (lv' := [(2, .int 15), (1, .int 15), (0, .ref drp)]) hx hb dX6_freePages_27 hl (k := 1) rfl (by decide) (by decide) rfl (fun ls hl => ?_)
  refine lv_goto (tgt := 4) hx hb dX6_freePages_30 (by decide) ?_
  refine lv_iload_n hx hb dX6_freePages_4 rfl (lv_at hl 0 rfl) ?_
  refine lv_bipush (v := 24) hx hb dX6_freePages_5 (by decide) ?_
  refine lv_icmp_ge (tgt := 33) hx hb dX6_freePages_7 (by decide) (fun c_31 => absurd c_31 (by decide)) (fun c_31 => ?_)
  refine lv_iload_n hx hb dX6_freePages_10 rfl (lv_at hl 1 rfl) ?_
  refine lv_aload_n hx hb dX6_freePages_11 rfl (lv_at hl 2 rfl) ?_
  refine va_get (D := D) (ci := 6) (v := .ref drp1) (C := RX6) (T := TX6) (N := 17) hx hb hu in_X6 hown hK.1 hP 0 rfl rfl 7 (by decide) (hu _ u_210) (fun _ h9 => h9) rfl dX6_freePages_12 ?_
  refine lv_iload_n hx hb dX6_freePages_15 rfl (lv_at hl 0 rfl) ?_
  refine va_iald hx hb hK.1 hP 1 0 rfl rfl (vin_c _ _ rfl) dX6_freePages_16 ?_
  refine tpi (y := 0) (z_f_drp1 _ (cl_lt (vin_c _ _ rfl))) ?_
  refine lv_if_ne (tgt := 24) hx hb dX6_freePages_17 (by decide) (fun c_32 => absurd (by decide) c_32) (fun c_32 => ?_)
  refine lv_iconst (v := 1) hx hb dX6_freePages_20 (by decide) ?_
  refine lv_goto (tgt := 25) hx hb dX6_freePages_21 (by decide) ?_
  refine lv_iadd hx hb dX6_freePages_25 ?_
  refine tpi (y := 16) (by decide) ?_
  refine lv_istore_n (lv' := [(1, .int 16), (2, .int 15), (0, .ref drp)]) hx hb dX6_freePages_26 rfl hl (by decide) rfl (fun ls hl => ?_)
  refine lv_iinc (v := 16) (lv' := [(2, .int 16), (1, .int 16), (0, .ref drp)]) hx hb dX6_freePages_27 hl (k := 1) rfl (by decide) (by decide) rfl (fun ls hl => ?_)
  refine lv_goto (tgt := 4) hx hb dX6_freePages_30 (by decide) ?_
  refine lv_iload_n hx hb dX6_freePages_4 rfl (lv_at hl 0 rfl) ?_
  refine lv_bipush (v := 24) hx hb dX6_freePages_5 (by decide) ?_
  refine lv_icmp_ge (tgt := 33) hx hb dX6_freePages_7 (by decide) (fun c_33 => absurd c_33 (by decide)) (fun c_33 => ?_)
  refine lv_iload_n hx hb dX6_freePages_10 rfl (lv_at hl 1 rfl) ?_
  refine lv_aload_n hx hb dX6_freePages_11 rfl (lv_at hl 2 rfl) ?_
  refine va_get (D := D) (ci := 6) (v := .ref drp1) (C := RX6) (T := TX6) (N := 17) hx hb hu in_X6 hown hK.1 hP 0 rfl rfl 7 (by decide) (hu _ u_210) (fun _ h9 => h9) rfl dX6_freePages_12 ?_
  refine lv_iload_n hx hb dX6_freePages_15 rfl (lv_at hl 0 rfl) ?_
  refine va_iald hx hb hK.1 hP 1 0 rfl rfl (vin_c _ _ rfl) dX6_freePages_16 ?_
  refine tpi (y := 0) (z_f_drp1 _ (cl_lt (vin_c _ _ rfl))) ?_
  refine lv_if_ne (tgt := 24) hx hb dX6_freePages_17 (by decide) (fun c_34 => absurd (by decide) c_34) (fun c_34 => ?_)
  refine lv_iconst (v := 1) hx hb dX6_freePages_20 (by decide) ?_
  refine lv_goto (tgt := 25) hx hb dX6_freePages_21 (by decide) ?_
  refine lv_iadd hx hb dX6_freePages_25 ?_
  refine tpi (y := 17) (by decide) ?_
  refine lv_istore_n (lv' := [(1, .int 17), (2, .int 16), (0, .ref drp)]) hx hb dX6_freePages_26 rfl hl (by decide) rfl (fun ls hl => ?_)
  refine lv_iinc (v := 17) (lv' := [(2, .int 17), (1, .int 17), (0, .ref drp)]) hx hb dX6_freePages_27 hl (k := 1) rfl (by decide) (by decide) rfl (fun ls hl => ?_)
  refine lv_goto (tgt := 4) hx hb dX6_freePages_30 (by decide) ?_
  refine lv_iload_n hx hb dX6_freePages_4 rfl (lv_at hl 0 rfl) ?_
  refine lv_bipush (v := 24) hx hb dX6_freePages_5 (by decide) ?_
  refine lv_icmp_ge (tgt := 33) hx hb dX6_freePages_7 (by decide) (fun c_35 => absurd c_35 (by decide)) (fun c_35 => ?_)
  refine lv_iload_n hx hb dX6_freePages_10 rfl (lv_at hl 1 rfl) ?_
  refine lv_aload_n hx hb dX6_freePages_11 rfl (lv_at hl 2 rfl) ?_
  refine va_get (D := D) (ci := 6) (v := .ref drp1) (C := RX6) (T := TX6) (N := 17) hx hb hu in_X6 hown hK.1 hP 0 rfl rfl 7 (by decide) (hu _ u_210) (fun _ h9 => h9) rfl dX6_freePages_12 ?_
  refine lv_iload_n hx hb dX6_freePages_15 rfl (lv_at hl 0 rfl) ?_
  refine va_iald hx hb hK.1 hP 1 0 rfl rfl (vin_c _ _ rfl) dX6_freePages_16 ?_
  refine tpi (y := 0) (z_f_drp1 _ (cl_lt (vin_c _ _ rfl))) ?_
  refine lv_if_ne (tgt := 24) hx hb dX6_freePages_17 (by decide) (fun c_36 => absurd (by decide) c_36) (fun c_36 => ?_)
  refine lv_iconst (v := 1) hx hb dX6_freePages_20 (by decide) ?_
  refine lv_goto (tgt := 25) hx hb dX6_freePages_21 (by decide) ?_
  refine lv_iadd hx hb dX6_freePages_25 ?_
  refine tpi (y := 18) (by decide) ?_
  refine lv_istore_n (lv' := [(1, .int 18), (2, .int 17), (0, .ref drp)]) hx hb dX6_freePages_26 rfl hl (by decide) rfl (fun ls hl => ?_)
  refine lv_iinc (v := 18) (lv' := [(2, .int 18), (1, .int 18), (0, .ref drp)]) hx hb dX6_freePages_27 hl (k := 1) rfl (by decide) (by decide) rfl (fun ls hl => ?_)
  refine lv_goto (tgt := 4) hx hb dX6_freePages_30 (by decide) ?_
  refine lv_iload_n hx hb dX6_freePages_4 rfl (lv_at hl 0 rfl) ?_
  refine lv_bipush (v := 24) hx hb dX6_freePages_5 (by decide) ?_
  refine lv_icmp_ge (tgt := 33) hx hb dX6_freePages_7 (by decide) (fun c_37 => absurd c_37 (by decide)) (fun c_37 => ?_)
  refine lv_iload_n hx hb dX6_freePages_10 rfl (lv_at hl 1 rfl) ?_
  refine lv_aload_n hx hb dX6_freePages_11 rfl (lv_at hl 2 rfl) ?_
  refine va_get (D := D) (ci := 6) (v := .ref drp1) (C := RX6) (T := TX6) (N := 17) hx hb hu in_X6 hown hK.1 hP 0 rfl rfl 7 (by decide) (hu _ u_210) (fun _ h9 => h9) rfl dX6_freePages_12 ?_
  refine lv_iload_n hx hb dX6_freePages_15 rfl (lv_at hl 0 rfl) ?_
  refine va_iald hx hb hK.1 hP 1 0 rfl rfl (vin_c _ _ rfl) dX6_freePages_16 ?_
  refine tpi (y := 0) (z_f_drp1 _ (cl_lt (vin_c _ _ rfl))) ?_
  refine lv_if_ne (tgt := 24) hx hb dX6_freePages_17 (by decide) (fun c_38 => absurd (by decide) c_38) (fun c_38 => ?_)
  refine lv_iconst (v := 1) hx hb dX6_freePages_20 (by decide) ?_
  refine lv_goto (tgt := 25) hx hb dX6_freePages_21 (by decide) ?_
  refine lv_iadd hx hb dX6_freePages_25 ?_
  refine tpi (y := 19) (by decide) ?_
  refine lv_istore_n (lv' := [(1, .int 19), (2, .int 18), (0, .ref drp)]) hx hb dX6_freePages_26 rfl hl (by decide) rfl (fun ls hl => ?_)
  refine lv_iinc (v := 19) (lv' := [(2, .int 19), (1, .int 19), (0, .ref drp)]) hx hb dX6_freePages_27 hl (k := 1) rfl (by decide) (by decide) rfl (fun ls hl => ?_)
  refine lv_goto (tgt := 4) hx hb dX6_freePages_30 (by decide) ?_
  refine lv_iload_n hx hb dX6_freePages_4 rfl (lv_at hl 0 rfl) ?_
  refine lv_bipush (v := 24) hx hb dX6_freePages_5 (by decide) ?_
  refine lv_icmp_ge (tgt := 33) hx hb dX6_freePages_7 (by decide) (fun c_39 => absurd c_39 (by decide)) (fun c_39 => ?_)
  refine lv_iload_n hx hb dX6_freePages_10 rfl (lv_at hl 1 rfl) ?_
  refine lv_aload_n hx hb dX6_freePages_11 rfl (lv_at hl 2 rfl) ?_
  refine va_get (D := D) (ci := 6) (v := .ref drp1) (C := RX6) (T := TX6) (N := 17) hx hb hu in_X6 hown hK.1 hP 0 rfl rfl 7 (by decide) (hu _ u_210) (fun _ h9 => h9) rfl dX6_freePages_12 ?_
  refine lv_iload_n hx hb dX6_freePages_15 rfl (lv_at hl 0 rfl) ?_
  refine va_iald hx hb hK.1 hP 1 0 rfl rfl (vin_c _ _ rfl) dX6_freePages_16 ?_
  refine tpi (y := 0) (z_f_drp1 _ (cl_lt (vin_c _ _ rfl))) ?_
  refine lv_if_ne (tgt := 24) hx hb dX6_freePages_17 (by decide) (fun c_40 => absurd (by decide) c_40) (fun c_40 => ?_)
  refine lv_iconst (v := 1) hx hb dX6_freePages_20 (by decide) ?_
  refine lv_goto (tgt := 25) hx hb dX6_freePages_21 (by decide) ?_
  refine lv_iadd hx hb dX6_freePages_25 ?_
  refine tpi (y := 20) (by decide) ?_
  refine lv_istore_n (lv' := [(1, .int 20), (2, .int 19), (0, .ref drp)]) hx hb dX6_freePages_26 rfl hl (by decide) rfl (fun ls hl => ?_)
  refine lv_iinc (v := 20) (lv' := [(2, .int 20), (1, .int 20), (0, .ref drp)]) hx hb dX6_freePages_27 hl (k := 1) rfl (by decide) (by decide) rfl (fun ls hl => ?_)
  refine lv_goto (tgt := 4) hx hb dX6_freePages_30 (by decide) ?_
  refine lv_iload_n hx hb dX6_freePages_4 rfl (lv_at hl 0 rfl) ?_
  refine lv_bipush (v := 24) hx hb dX6_freePages_5 (by decide) ?_
  refine lv_icmp_ge (tgt := 33) hx hb dX6_freePages_7 (by decide) (fun c_41 => absurd c_41 (by decide)) (fun c_41 => ?_)
  refine lv_iload_n hx hb dX6_freePages_10 rfl (lv_at hl 1 rfl) ?_
  refine lv_aload_n hx hb dX6_freePages_11 rfl (lv_at hl 2 rfl) ?_
  refine va_get (D := D) (ci := 6) (v := .ref drp1) (C := RX6) (T := TX6) (N := 17) hx hb hu in_X6 hown hK.1 hP 0 rfl rfl 7 (by decide) (hu _ u_210) (fun _ h9 => h9) rfl dX6_freePages_12 ?_
  refine lv_iload_n hx hb dX6_freePages_15 rfl (lv_at hl 0 rfl) ?_
  refine va_iald hx hb hK.1 hP 1 0 rfl rfl (vin_c _ _ rfl) dX6_freePages_16 ?_
  refine tpi (y := 0) (z_f_drp1 _ (cl_lt (vin_c _ _ rfl))) ?_
  refine lv_if_ne (tgt := 24) hx hb dX6_freePages_17 (by decide) (fun c_42 => absurd (by decide) c_42) (fun c_42 => ?_)
  refine lv_iconst (v := 1) hx hb dX6_freePages_20 (by decide) ?_
  refine lv_goto (tgt := 25) hx hb dX6_freePages_21 (by decide) ?_
  refine lv_iadd hx hb dX6_freePages_25 ?_
  refine tpi (y := 21) (by decide) ?_
  refine lv_istore_n (lv' := [(1, .int 21), (2, .int 20), (0, .ref drp)]) hx hb dX6_freePages_26 rfl hl (by decide) rfl (fun ls hl => ?_)
  refine lv_iinc (v := 21) (lv' := [(2, .int 21), (1, .int 21), (0, .ref drp)]) hx hb dX6_freePages_27 hl (k := 1) rfl (by decide) (by decide) rfl (fun ls hl => ?_)
  refine lv_goto (tgt := 4) hx hb dX6_freePages_30 (by decide) ?_
  refine lv_iload_n hx hb dX6_freePages_4 rfl (lv_at hl 0 rfl) ?_
  refine lv_bipush (v := 24) hx hb dX6_freePages_5 (by decide) ?_
  refine lv_icmp_ge (tgt := 33) hx hb dX6_freePages_7 (by decide) (fun c_43 => absurd c_43 (by decide)) (fun c_43 => ?_)
  refine lv_iload_n hx hb dX6_freePages_10 rfl (lv_at hl 1 rfl) ?_
  refine lv_aload_n hx hb dX6_freePages_11 rfl (lv_at hl 2 rfl) ?_
  refine va_get (D := D) (ci := 6) (v := .ref drp1) (C := RX6) (T := TX6) (N := 17) hx hb hu in_X6 hown hK.1 hP 0 rfl rfl 7 (by decide) (hu _ u_210) (fun _ h9 => h9) rfl dX6_freePages_12 ?_
  refine lv_iload_n hx hb dX6_freePages_15 rfl (lv_at hl 0 rfl) ?_
  refine va_iald hx hb hK.1 hP 1 0 rfl rfl (vin_c _ _ rfl) dX6_freePages_16 ?_
  refine tpi (y := 0) (z_f_drp1 _ (cl_lt (vin_c _ _ rfl))) ?_
  refine lv_if_ne (tgt := 24) hx hb dX6_freePages_17 (by decide) (fun c_44 => absurd (by decide) c_44) (fun c_44 => ?_)
  refine lv_iconst (v := 1) hx hb dX6_freePages_20 (by decide) ?_
  refine lv_goto (tgt := 25) hx hb dX6_freePages_21 (by decide) ?_
  refine lv_iadd hx hb dX6_freePages_25 ?_
  refine tpi (y := 22) (by decide) ?_
  refine lv_istore_n (lv' := [(1, .int 22), (2, .int 21), (0, .ref drp)]) hx hb dX6_freePages_26 rfl hl (by decide) rfl (fun ls hl => ?_)
  refine lv_iinc (v := 22) (lv' := [(2, .int 22), (1, .int 22), (0, .ref drp)]) hx hb dX6_freePages_27 hl (k := 1) rfl (by decide) (by decide) rfl (fun ls hl => ?_)
  refine lv_goto (tgt := 4) hx hb dX6_freePages_30 (by decide) ?_
  refine lv_iload_n hx hb dX6_freePages_4 rfl (lv_at hl 0 rfl) ?_
  refine lv_bipush (v := 24) hx hb dX6_freePages_5 (by decide) ?_
  refine lv_icmp_ge (tgt := 33) hx hb dX6_freePages_7 (by decide) (fun c_45 => absurd c_45 (by decide)) (fun c_45 => ?_)
  refine lv_iload_n hx hb dX6_freePages_10 rfl (lv_at hl 1 rfl) ?_
  refine lv_aload_n hx hb dX6_freePages_11 rfl (lv_at hl 2 rfl) ?_
  refine va_get (D := D) (ci := 6) (v := .ref drp1) (C := RX6) (T := TX6) (N := 17) hx hb hu in_X6 hown hK.1 hP 0 rfl rfl 7 (by decide) (hu _ u_210) (fun _ h9 => h9) rfl dX6_freePages_12 ?_
  refine lv_iload_n hx hb dX6_freePages_15 rfl (lv_at hl 0 rfl) ?_
  refine va_iald hx hb hK.1 hP 1 0 rfl rfl (vin_c _ _ rfl) dX6_freePages_16 ?_
  refine tpi (y := 0) (z_f_drp1 _ (cl_lt (vin_c _ _ rfl))) ?_
  refine lv_if_ne (tgt := 24) hx hb dX6_freePages_17 (by decide) (fun c_46 => absurd (by decide) c_46) (fun c_46 => ?_)
  refine lv_iconst (v := 1) hx hb dX6_freePages_20 (by decide) ?_
  refine lv_goto (tgt := 25) hx hb dX6_freePages_21 (by decide) ?_
  refine lv_iadd hx hb dX6_freePages_25 ?_
  refine tpi (y := 23) (by decide) ?_
  refine lv_istore_n (lv' := [(1, .int 23), (2, .int 22), (0, .ref drp)]) hx hb dX6_freePages_26 rfl hl (by decide) rfl (fun ls hl => ?_)
  refine lv_iinc (v := 23) (lv' := [(2, .int 23), (1, .int 23), (0, .ref drp)]) hx hb dX6_freePages_27 hl (k := 1) rfl (by decide) (by decide) rfl (fun ls hl => ?_)
  refine lv_goto (tgt := 4) hx hb dX6_freePages_30 (by decide) ?_
  refine lv_iload_n hx hb dX6_freePages_4 rfl (lv_at hl 0 rfl) ?_
  refine lv_bipush (v := 24) hx hb dX6_freePages_5 (by decide) ?_
  refine lv_icmp_ge (tgt := 33) hx hb dX6_freePages_7 (by decide) (fun c_47 => absurd c_47 (by decide)) (fun c_47 => ?_)
  refine lv_iload_n hx hb dX6_freePages_10 rfl (lv_at hl 1 rfl) ?_
  refine lv_aload_n hx hb dX6_freePages_11 rfl (lv_at hl 2 rfl) ?_
  refine va_get (D := D) (ci := 6) (v := .ref drp1) (C := RX6) (T := TX6) (N := 17) hx hb hu in_X6 hown hK.1 hP 0 rfl rfl 7 (by decide) (hu _ u_210) (fun _ h9 => h9) rfl dX6_freePages_12 ?_
  refine lv_iload_n hx hb dX6_freePages_15 rfl (lv_at hl 0 rfl) ?_
  refine va_iald hx hb hK.1 hP 1 0 rfl rfl (vin_c _ _ rfl) dX6_freePages_16 ?_
  refine tpi (y := 0) (z_f_drp1 _ (cl_lt (vin_c _ _ rfl))) ?_
  refine lv_if_ne (tgt := 24) hx hb dX6_freePages_17 (by decide) (fun c_48 => absurd (by decide) c_48) (fun c_48 => ?_)
  refine lv_iconst (v := 1) hx hb dX6_freePages_20 (by decide) ?_
  refine lv_goto (tgt := 25) hx hb dX6_freePages_21 (by decide) ?_
  refine lv_iadd hx hb dX6_freePages_25 ?_
  refine tpi (y := 24) (by decide) ?_
  refine lv_istore_n (lv' := [(1, .int 24), (2, .int 23), (0, .ref drp)]) hx hb dX6_freePages_26 rfl hl (by decide) rfl (fun ls hl => ?_)
  refine lv_iinc (v := 24) (lv' := [(2, .int 24), (1, .int 24), (0, .ref drp)]) hx hb dX6_freePages_27 hl (k := 1) rfl (by decide) (by decide) rfl (fun ls hl => ?_)
  refine lv_goto (tgt := 4) hx hb dX6_freePages_30 (by decide) ?_
  refine lv_iload_n hx hb dX6_freePages_4 rfl (lv_at hl 0 rfl) ?_
  refine lv_bipush (v := 24) hx hb dX6_freePages_5 (by decide) ?_
  refine lv_icmp_ge (tgt := 33) hx hb dX6_freePages_7 (by decide) (fun c_49 => ?_) (fun c_49 => absurd (by decide) c_49)
  refine lv_iload_n hx hb dX6_freePages_33 rfl (lv_at hl 1 rfl) ?_
  exact hz () hP hD hS rfl [0, 1] rfl rfl (Nat.le_of_ble_eq_true rfl) (Nat.le_of_ble_eq_true rfl) .int rfl rfl dX6_freePages_34
abbrev rm_c_X6_written : Room := { frames := 0, cells := 0, slots := 0, locals := 0 }
set_option maxHeartbeats 4000000 in
set_option maxRecDepth 100000 in
theorem c_X6_written (l : Launch) (D : va_G) (cs : Nat → ClassId) (sz : Nat) (drp : Nat) (drp1 : Nat) (f_drp1 : Nat → Int32) (drp2 : Nat) (drp3 : Nat) (drp4 : Nat) (drp5 : Nat) (drp6 : Nat) (drp7 : Nat) (drp8 : Nat) (drp9 : Nat) (drp10 : Nat) (i1 : Int32) (i2 : Int32) (i3 : Int32) (i4 : Int32) (i5 : Int32) (i6 : Int32) (i7 : Int32) (z_f_drp1 : ∀ j, j < 24 → f_drp1 j = 0) : cMi l yX6_written (Cond.code yX6_written cX6_written 3 (some .int)) (rm_c_X6_written) D cs [.ref drp] sz [(drp, .inr (6, [.int i1, .int i2, .int i3, .int i4, .int i5, .int i6, .int i7, .ref drp1, .ref drp2, .ref drp3, .ref drp4, .ref drp5, .ref drp6, .ref drp7, .ref drp8, .ref drp9, .ref drp10])), (drp1, aI cs 24 f_drp1)] (fun (r : Int32) (u : Unit) => (r = 0)) (fun (u : Unit) => [(drp, .inr (6, [.int i1, .int i2, .int i3, .int i4, .int i5, .int i6, .int i7, .ref drp1, .ref drp2, .ref drp3, .ref drp4, .ref drp5, .ref drp6, .ref drp7, .ref drp8, .ref drp9, .ref drp10])), (drp1, aI cs 24 f_drp1)]) := by
  refine kMet_i RX6 (by decide) rfl (Nat.le_of_ble_eq_true rfl) ?_
  intro p e s m below meth c ls A Qz H locs hx hb hml hown hin hu hK hsz hA hP hD hS hl hz
  subst hsz
  have hl : lv_has ls 3 [(0, .ref drp)] := hl
  refine lv_iconst (v := 0) hx hb dX6_written_0 (by decide) ?_
  refine lv_istore_n (lv' := [(1, .int 0), (0, .ref drp)]) hx hb dX6_written_1 rfl hl (by decide) rfl (fun ls hl => ?_)
  refine lv_iconst (v := 0) hx hb dX6_written_2 (by decide) ?_
  refine lv_istore_n (lv' := [(2, .int 0), (1, .int 0), (0, .ref drp)]) hx hb dX6_written_3 rfl hl (by decide) rfl (fun ls hl => ?_)
  refine lv_iload_n hx hb dX6_written_4 rfl (lv_at hl 0 rfl) ?_
  refine lv_bipush (v := 24) hx hb dX6_written_5 (by decide) ?_
  refine lv_icmp_ge (tgt := 25) hx hb dX6_written_7 (by decide) (fun c_1 => absurd c_1 (by decide)) (fun c_1 => ?_)
  refine lv_iload_n hx hb dX6_written_10 rfl (lv_at hl 1 rfl) ?_
  refine lv_aload_n hx hb dX6_written_11 rfl (lv_at hl 2 rfl) ?_
  refine va_get (D := D) (ci := 6) (v := .ref drp1) (C := RX6) (T := TX6) (N := 17) hx hb hu in_X6 hown hK.1 hP 0 rfl rfl 7 (by decide) (hu _ u_210) (fun _ h9 => h9) rfl dX6_written_12 ?_
  refine lv_iload_n hx hb dX6_written_15 rfl (lv_at hl 0 rfl) ?_
  refine va_iald hx hb hK.1 hP 1 0 rfl rfl (vin_c _ _ rfl) dX6_written_16 ?_
  refine tpi (y := 0) (z_f_drp1 _ (cl_lt (vin_c _ _ rfl))) ?_
  refine lv_iadd hx hb dX6_written_17 ?_
  refine tpi (y := 0) (by decide) ?_
  refine lv_istore_n (lv' := [(1, .int 0), (2, .int 0), (0, .ref drp)]) hx hb dX6_written_18 rfl hl (by decide) rfl (fun ls hl => ?_)
  refine lv_iinc (v := 1) (lv' := [(2, .int 1), (1, .int 0), (0, .ref drp)]) hx hb dX6_written_19 hl (k := 1) rfl (by decide) (by decide) rfl (fun ls hl => ?_)
  refine lv_goto (tgt := 4) hx hb dX6_written_22 (by decide) ?_
  refine lv_iload_n hx hb dX6_written_4 rfl (lv_at hl 0 rfl) ?_
  refine lv_bipush (v := 24) hx hb dX6_written_5 (by decide) ?_
  refine lv_icmp_ge (tgt := 25) hx hb dX6_written_7 (by decide) (fun c_2 => absurd c_2 (by decide)) (fun c_2 => ?_)
  refine lv_iload_n hx hb dX6_written_10 rfl (lv_at hl 1 rfl) ?_
  refine lv_aload_n hx hb dX6_written_11 rfl (lv_at hl 2 rfl) ?_
  refine va_get (D := D) (ci := 6) (v := .ref drp1) (C := RX6) (T := TX6) (N := 17) hx hb hu in_X6 hown hK.1 hP 0 rfl rfl 7 (by decide) (hu _ u_210) (fun _ h9 => h9) rfl dX6_written_12 ?_
  refine lv_iload_n hx hb dX6_written_15 rfl (lv_at hl 0 rfl) ?_
  refine va_iald hx hb hK.1 hP 1 0 rfl rfl (vin_c _ _ rfl) dX6_written_16 ?_
  refine tpi (y := 0) (z_f_drp1 _ (cl_lt (vin_c _ _ rfl))) ?_
  refine lv_iadd hx hb dX6_written_17 ?_
  refine tpi (y := 0) (by decide) ?_
  refine lv_istore_n (lv' := [(1, .int 0), (2, .int 1), (0, .ref drp)]) hx hb dX6_written_18 rfl hl (by decide) rfl (fun ls hl => ?_)
  refine lv_iinc (v := 2) (lv' := [(2, .int 2), (1, .int 0), (0, .ref drp)]) hx hb dX6_written_19 hl (k := 1) rfl (by decide) (by decide) rfl (fun ls hl => ?_)
  refine lv_goto (tgt := 4) hx hb dX6_written_22 (by decide) ?_
  refine lv_iload_n hx hb dX6_written_4 rfl (lv_at hl 0 rfl) ?_
  refine lv_bipush (v := 24) hx hb dX6_written_5 (by decide) ?_
  refine lv_icmp_ge (tgt := 25) hx hb dX6_written_7 (by decide) (fun c_3 => absurd c_3 (by decide)) (fun c_3 => ?_)
  refine lv_iload_n hx hb dX6_written_10 rfl (lv_at hl 1 rfl) ?_
  refine lv_aload_n hx hb dX6_written_11 rfl (lv_at hl 2 rfl) ?_
  refine va_get (D := D) (ci := 6) (v := .ref drp1) (C := RX6) (T := TX6) (N := 17) hx hb hu in_X6 hown hK.1 hP 0 rfl rfl 7 (by decide) (hu _ u_210) (fun _ h9 => h9) rfl dX6_written_12 ?_
  refine lv_iload_n hx hb dX6_written_15 rfl (lv_at hl 0 rfl) ?_
  refine va_iald hx hb hK.1 hP 1 0 rfl rfl (vin_c _ _ rfl) dX6_written_16 ?_
  refine tpi (y := 0) (z_f_drp1 _ (cl_lt (vin_c _ _ rfl))) ?_
  refine lv_iadd hx hb dX6_written_17 ?_
  refine tpi (y := 0) (by decide) ?_
  refine lv_istore_n (lv' := [(1, .int 0), (2, .int 2), (0, .ref drp)]) hx hb dX6_written_18 rfl hl (by decide) rfl (fun ls hl => ?_)
  refine lv_iinc (v := 3) (lv' := [(2, .int 3), (1, .int 0), (0, .ref drp)]) hx hb dX6_written_19 hl (k := 1) rfl (by decide) (by decide) rfl (fun ls hl => ?_)
  refine lv_goto (tgt := 4) hx hb dX6_written_22 (by decide) ?_
  refine lv_iload_n hx hb dX6_written_4 rfl (lv_at hl 0 rfl) ?_
  refine lv_bipush (v := 24) hx hb dX6_written_5 (by decide) ?_
  refine lv_icmp_ge (tgt := 25) hx hb dX6_written_7 (by decide) (fun c_4 => absurd c_4 (by decide)) (fun c_4 => ?_)
  refine lv_iload_n hx hb dX6_written_10 rfl (lv_at hl 1 rfl) ?_
  refine lv_aload_n hx hb dX6_written_11 rfl (lv_at hl 2 rfl) ?_
  refine va_get (D := D) (ci := 6) (v := .ref drp1) (C := RX6) (T := TX6) (N := 17) hx hb hu in_X6 hown hK.1 hP 0 rfl rfl 7 (by decide) (hu _ u_210) (fun _ h9 => h9) rfl dX6_written_12 ?_
  refine lv_iload_n hx hb dX6_written_15 rfl (lv_at hl 0 rfl) ?_
  refine va_iald hx hb hK.1 hP 1 0 rfl rfl (vin_c _ _ rfl) dX6_written_16 ?_
  refine tpi (y := 0) (z_f_drp1 _ (cl_lt (vin_c _ _ rfl))) ?_
  refine lv_iadd hx hb dX6_written_17 ?_
  refine tpi (y := 0) (by decide) ?_
  refine lv_istore_n (lv' := [(1, .int 0), (2, .int 3), (0, .ref drp)]) hx hb dX6_written_18 rfl hl (by decide) rfl (fun ls hl => ?_)
  refine lv_iinc (v := 4) (lv' := [(2, .int 4), (1, .int 0), (0, .ref drp)]) hx hb dX6_written_19 hl (k := 1) rfl (by decide) (by decide) rfl (fun ls hl => ?_)
  refine lv_goto (tgt := 4) hx hb dX6_written_22 (by decide) ?_
  refine lv_iload_n hx hb dX6_written_4 rfl (lv_at hl 0 rfl) ?_
  refine lv_bipush (v := 24) hx hb dX6_written_5 (by decide) ?_
  refine lv_icmp_ge (tgt := 25) hx hb dX6_written_7 (by decide) (fun c_5 => absurd c_5 (by decide)) (fun c_5 => ?_)
  refine lv_iload_n hx hb dX6_written_10 rfl (lv_at hl 1 rfl) ?_
  refine lv_aload_n hx hb dX6_written_11 rfl (lv_at hl 2 rfl) ?_
  refine va_get (D := D) (ci := 6) (v := .ref drp1) (C := RX6) (T := TX6) (N := 17) hx hb hu in_X6 hown hK.1 hP 0 rfl rfl 7 (by decide) (hu _ u_210) (fun _ h9 => h9) rfl dX6_written_12 ?_
  refine lv_iload_n hx hb dX6_written_15 rfl (lv_at hl 0 rfl) ?_
  refine va_iald hx hb hK.1 hP 1 0 rfl rfl (vin_c _ _ rfl) dX6_written_16 ?_
  refine tpi (y := 0) (z_f_drp1 _ (cl_lt (vin_c _ _ rfl))) ?_
  refine lv_iadd hx hb dX6_written_17 ?_
  refine tpi (y := 0) (by decide) ?_
  refine lv_istore_n (lv' := [(1, .int 0), (2, .int 4), (0, .ref drp)]) hx hb dX6_written_18 rfl hl (by decide) rfl (fun ls hl => ?_)
  refine lv_iinc (v := 5) (lv' := [(2, .int 5), (1, .int 0), (0, .ref drp)]) hx hb dX6_written_19 hl (k := 1) rfl (by decide) (by decide) rfl (fun ls hl => ?_)
  refine lv_goto (tgt := 4) hx hb dX6_written_22 (by decide) ?_
  refine lv_iload_n hx hb dX6_written_4 rfl (lv_at hl 0 rfl) ?_
  refine lv_bipush (v := 24) hx hb dX6_written_5 (by decide) ?_
  refine lv_icmp_ge (tgt := 25) hx hb dX6_written_7 (by decide) (fun c_6 => absurd c_6 (by decide)) (fun c_6 => ?_)
  refine lv_iload_n hx hb dX6_written_10 rfl (lv_at hl 1 rfl) ?_
  refine lv_aload_n hx hb dX6_written_11 rfl (lv_at hl 2 rfl) ?_
  refine va_get (D := D) (ci := 6) (v := .ref drp1) (C := RX6) (T := TX6) (N := 17) hx hb hu in_X6 hown hK.1 hP 0 rfl rfl 7 (by decide) (hu _ u_210) (fun _ h9 => h9) rfl dX6_written_12 ?_
  refine lv_iload_n hx hb dX6_written_15 rfl (lv_at hl 0 rfl) ?_
  refine va_iald hx hb hK.1 hP 1 0 rfl rfl (vin_c _ _ rfl) dX6_written_16 ?_
  refine tpi (y := 0) (z_f_drp1 _ (cl_lt (vin_c _ _ rfl))) ?_
  refine lv_iadd hx hb dX6_written_17 ?_
  refine tpi (y := 0) (by decide) ?_
  refine lv_istore_n (lv' := [(1, .int 0), (2, .int 5), (0, .ref drp)]) hx hb dX6_written_18 rfl hl (by decide) rfl (fun ls hl => ?_)
  refine lv_iinc (v := 6) (lv' := [(2, .int 6), (1, .int 0), (0, .ref drp)]) hx hb dX6_written_19 hl (k := 1) rfl (by decide) (by decide) rfl (fun ls hl => ?_)
  refine lv_goto (tgt := 4) hx hb dX6_written_22 (by decide) ?_
  refine lv_iload_n hx hb dX6_written_4 rfl (lv_at hl 0 rfl) ?_
  refine lv_bipush (v := 24) hx hb dX6_written_5 (by decide) ?_
  refine lv_icmp_ge (tgt := 25) hx hb dX6_written_7 (by decide) (fun c_7 => absurd c_7 (by decide)) (fun c_7 => ?_)
  refine lv_iload_n hx hb dX6_written_10 rfl (lv_at hl 1 rfl) ?_
  refine lv_aload_n hx hb dX6_written_11 rfl (lv_at hl 2 rfl) ?_
  refine va_get (D := D) (ci := 6) (v := .ref drp1) (C := RX6) (T := TX6) (N := 17) hx hb hu in_X6 hown hK.1 hP 0 rfl rfl 7 (by decide) (hu _ u_210) (fun _ h9 => h9) rfl dX6_written_12 ?_
  refine lv_iload_n hx hb dX6_written_15 rfl (lv_at hl 0 rfl) ?_
  refine va_iald hx hb hK.1 hP 1 0 rfl rfl (vin_c _ _ rfl) dX6_written_16 ?_
  refine tpi (y := 0) (z_f_drp1 _ (cl_lt (vin_c _ _ rfl))) ?_
  refine lv_iadd hx hb dX6_written_17 ?_
  refine tpi (y := 0) (by decide) ?_
  refine lv_istore_n (lv' := [(1, .int 0), (2, .int 6), (0, .ref drp)]) hx hb dX6_written_18 rfl hl (by decide) rfl (fun ls hl => ?_)
  refine lv_iinc (v := 7) (lv' := [(2, .int 7), (1, .int 0), (0, .ref drp)]) hx hb dX6_written_19 hl (k := 1) rfl (by decide) (by decide) rfl (fun ls hl => ?_)
  refine lv_goto (tgt := 4) hx hb dX6_written_22 (by decide) ?_
  refine lv_iload_n hx hb dX6_written_4 rfl (lv_at hl 0 rfl) ?_
  refine lv_bipush (v := 24) hx hb dX6_written_5 (by decide) ?_
  refine lv_icmp_ge (tgt := 25) hx hb dX6_written_7 (by decide) (fun c_8 => absurd c_8 (by decide)) (fun c_8 => ?_)
  refine lv_iload_n hx hb dX6_written_10 rfl (lv_at hl 1 rfl) ?_
  refine lv_aload_n hx hb dX6_written_11 rfl (lv_at hl 2 rfl) ?_
  refine va_get (D := D) (ci := 6) (v := .ref drp1) (C := RX6) (T := TX6) (N := 17) hx hb hu in_X6 hown hK.1 hP 0 rfl rfl 7 (by decide) (hu _ u_210) (fun _ h9 => h9) rfl dX6_written_12 ?_
  refine lv_iload_n hx hb dX6_written_15 rfl (lv_at hl 0 rfl) ?_
  refine va_iald hx hb hK.1 hP 1 0 rfl rfl (vin_c _ _ rfl) dX6_written_16 ?_
  refine tpi (y := 0) (z_f_drp1 _ (cl_lt (vin_c _ _ rfl))) ?_
  refine lv_iadd hx hb dX6_written_17 ?_
  refine tpi (y := 0) (by decide) ?_
  refine lv_istore_n (lv' := [(1, .int 0), (2, .int 7), (0, .ref drp)]) hx hb dX6_written_18 rfl hl (by decide) rfl (fun ls hl => ?_)
  refine lv_iinc (v := 8) (lv' := [(2, .int 8), (1, .int 0), (0, .ref drp)]) hx hb dX6_written_19 hl (k := 1) rfl (by decide) (by decide) rfl (fun ls hl => ?_)
  refine lv_goto (tgt := 4) hx hb dX6_written_22 (by decide) ?_
  refine lv_iload_n hx hb dX6_written_4 rfl (lv_at hl 0 rfl) ?_
  refine lv_bipush (v := 24) hx hb dX6_written_5 (by decide) ?_
  refine lv_icmp_ge (tgt := 25) hx hb dX6_written_7 (by decide) (fun c_9 => absurd c_9 (by decide)) (fun c_9 => ?_)
  refine lv_iload_n hx hb dX6_written_10 rfl (lv_at hl 1 rfl) ?_
  refine lv_aload_n hx hb dX6_written_11 rfl (lv_at hl 2 rfl) ?_
  refine va_get (D := D) (ci := 6) (v := .ref drp1) (C := RX6) (T := TX6) (N := 17) hx hb hu in_X6 hown hK.1 hP 0 rfl rfl 7 (by decide) (hu _ u_210) (fun _ h9 => h9) rfl dX6_written_12 ?_
  refine lv_iload_n hx hb dX6_written_15 rfl (lv_at hl 0 rfl) ?_
  refine va_iald hx hb hK.1 hP 1 0 rfl rfl (vin_c _ _ rfl) dX6_written_16 ?_
  refine tpi (y := 0) (z_f_drp1 _ (cl_lt (vin_c _ _ rfl))) ?_
  refine lv_iadd hx hb dX6_written_17 ?_
  refine tpi (y := 0) (by decide) ?_
  refine lv_istore_n (lv' := [(1, .int 0), (2, .int 8), (0, .ref drp)]) hx hb dX6_written_18 rfl hl (by decide) rfl (fun ls hl => ?_)
  refine lv_iinc (v := 9) (lv' := [(2, .int 9), (1, .int 0), (0, .ref drp)]) hx hb dX6_written_19 hl (k := 1) rfl (by decide) (by decide) rfl (fun ls hl => ?_)
  refine lv_goto (tgt := 4) hx hb dX6_written_22 (by decide) ?_
  refine lv_iload_n hx hb dX6_written_4 rfl (lv_at hl 0 rfl) ?_
  refine lv_bipush (v := 24) hx hb dX6_written_5 (by decide) ?_
  refine lv_icmp_ge (tgt := 25) hx hb dX6_written_7 (by decide) (fun c_10 => absurd c_10 (by decide)) (fun c_10 => ?_)
  refine lv_iload_n hx hb dX6_written_10 rfl (lv_at hl 1 rfl) ?_
  refine lv_aload_n hx hb dX6_written_11 rfl (lv_at hl 2 rfl) ?_
  refine va_get (D := D) (ci := 6) (v := .ref drp1) (C := RX6) (T := TX6) (N := 17) hx hb hu in_X6 hown hK.1 hP 0 rfl rfl 7 (by decide) (hu _ u_210) (fun _ h9 => h9) rfl dX6_written_12 ?_
  refine lv_iload_n hx hb dX6_written_15 rfl (lv_at hl 0 rfl) ?_
  refine va_iald hx hb hK.1 hP 1 0 rfl rfl (vin_c _ _ rfl) dX6_written_16 ?_
  refine tpi (y := 0) (z_f_drp1 _ (cl_lt (vin_c _ _ rfl))) ?_
  refine lv_iadd hx hb dX6_written_17 ?_
  refine tpi (y := 0) (by decide) ?_
  refine lv_istore_n (lv' := [(1, .int 0), (2, .int 9), (0, .ref drp)]) hx hb dX6_written_18 rfl hl (by decide) rfl (fun ls hl => ?_)
  refine lv_iinc (v := 10) (lv' := [(2, .int 10), (1, .int 0), (0, .ref drp)]) hx hb dX6_written_19 hl (k := 1) rfl (by decide) (by decide) rfl (fun ls hl => ?_)
  refine lv_goto (tgt := 4) hx hb dX6_written_22 (by decide) ?_
  refine lv_iload_n hx hb dX6_written_4 rfl (lv_at hl 0 rfl) ?_
  refine lv_bipush (v := 24) hx hb dX6_written_5 (by decide) ?_
  refine lv_icmp_ge (tgt := 25) hx hb dX6_written_7 (by decide) (fun c_11 => absurd c_11 (by decide)) (fun c_11 => ?_)
  refine lv_iload_n hx hb dX6_written_10 rfl (lv_at hl 1 rfl) ?_
  refine lv_aload_n hx hb dX6_written_11 rfl (lv_at hl 2 rfl) ?_
  refine va_get (D := D) (ci := 6) (v := .ref drp1) (C := RX6) (T := TX6) (N := 17) hx hb hu in_X6 hown hK.1 hP 0 rfl rfl 7 (by decide) (hu _ u_210) (fun _ h9 => h9) rfl dX6_written_12 ?_
  refine lv_iload_n hx hb dX6_written_15 rfl (lv_at hl 0 rfl) ?_
  refine va_iald hx hb hK.1 hP 1 0 rfl rfl (vin_c _ _ rfl) dX6_written_16 ?_
  refine tpi (y := 0) (z_f_drp1 _ (cl_lt (vin_c _ _ rfl))) ?_
  refine lv_iadd hx hb dX6_written_17 ?_
  refine tpi (y := 0) (by decide) ?_
  refine lv_istore_n (lv' := [(1, .int 0), (2, .int 10), (0, .ref drp)]) hx hb dX6_written_18 rfl hl (by decide) rfl (fun ls hl => ?_)
  refine lv_iinc (v := 11) (lv' := [(2, .int 11), (1, .int 0), (0, .ref drp)]) hx hb dX6_written_19 hl (k := 1) rfl (by decide) (by decide) rfl (fun ls hl => ?_)
  refine lv_goto (tgt := 4) hx hb dX6_written_22 (by decide) ?_
  refine lv_iload_n hx hb dX6_written_4 rfl (lv_at hl 0 rfl) ?_
  refine lv_bipush (v := 24) hx hb dX6_written_5 (by decide) ?_
  refine lv_icmp_ge (tgt := 25) hx hb dX6_written_7 (by decide) (fun c_12 => absurd c_12 (by decide)) (fun c_12 => ?_)
  refine lv_iload_n hx hb dX6_written_10 rfl (lv_at hl 1 rfl) ?_
  refine lv_aload_n hx hb dX6_written_11 rfl (lv_at hl 2 rfl) ?_
  refine va_get (D := D) (ci := 6) (v := .ref drp1) (C := RX6) (T := TX6) (N := 17) hx hb hu in_X6 hown hK.1 hP 0 rfl rfl 7 (by decide) (hu _ u_210) (fun _ h9 => h9) rfl dX6_written_12 ?_
  refine lv_iload_n hx hb dX6_written_15 rfl (lv_at hl 0 rfl) ?_
  refine va_iald hx hb hK.1 hP 1 0 rfl rfl (vin_c _ _ rfl) dX6_written_16 ?_
  refine tpi (y := 0) (z_f_drp1 _ (cl_lt (vin_c _ _ rfl))) ?_
  refine lv_iadd hx hb dX6_written_17 ?_
  refine tpi (y := 0) (by decide) ?_
  refine lv_istore_n (lv' := [(1, .int 0), (2, .int 11), (0, .ref drp)]) hx hb dX6_written_18 rfl hl (by decide) rfl (fun ls hl => ?_)
  refine lv_iinc (v := 12) (lv' := [(2, .int 12), (1, .int 0), (0, .ref drp)]) hx hb dX6_written_19 hl (k := 1) rfl (by decide) (by decide) rfl (fun ls hl => ?_)
  refine lv_goto (tgt := 4) hx hb dX6_written_22 (by decide) ?_
  refine lv_iload_n hx hb dX6_written_4 rfl (lv_at hl 0 rfl) ?_
  refine lv_bipush (v := 24) hx hb dX6_written_5 (by decide) ?_
  refine lv_icmp_ge (tgt := 25) hx hb dX6_written_7 (by decide) (fun c_13 => absurd c_13 (by decide)) (fun c_13 => ?_)
  refine lv_iload_n hx hb dX6_written_10 rfl (lv_at hl 1 rfl) ?_
  refine lv_aload_n hx hb dX6_written_11 rfl (lv_at hl 2 rfl) ?_
  refine va_get (D := D) (ci := 6) (v := .ref drp1) (C := RX6) (T := TX6) (N := 17) hx hb hu in_X6 hown hK.1 hP 0 rfl rfl 7 (by decide) (hu _ u_210) (fun _ h9 => h9) rfl dX6_written_12 ?_
  refine lv_iload_n hx hb dX6_written_15 rfl (lv_at hl 0 rfl) ?_
  refine va_iald hx hb hK.1 hP 1 0 rfl rfl (vin_c _ _ rfl) dX6_written_16 ?_
  refine tpi (y := 0) (z_f_drp1 _ (cl_lt (vin_c _ _ rfl))) ?_
  refine lv_iadd hx hb dX6_written_17 ?_
  refine tpi (y := 0) (by decide) ?_
  refine lv_istore_n (lv' := [(1, .int 0), (2, .int 12), (0, .ref drp)]) hx hb dX6_written_18 rfl hl (by decide) rfl (fun ls hl => ?_)
  refine lv_iinc (v := 13) (lv' := [(2, .int 13), (1, .int 0), (0, .ref drp)]) hx hb dX6_written_19 hl (k := 1) rfl (by decide) (by decide) rfl (fun ls hl => ?_)
  refine lv_goto (tgt := 4) hx hb dX6_written_22 (by decide) ?_
  refine lv_iload_n hx hb dX6_written_4 rfl (lv_at hl 0 rfl) ?_
  refine lv_bipush (v := 24) hx hb dX6_written_5 (by decide) ?_
  refine lv_icmp_ge (tgt := 25) hx hb dX6_written_7 (by decide) (fun c_14 => absurd c_14 (by decide)) (fun c_14 => ?_)
  refine lv_iload_n hx hb dX6_written_10 rfl (lv_at hl 1 rfl) ?_
  refine lv_aload_n hx hb dX6_written_11 rfl (lv_at hl 2 rfl) ?_
  refine va_get (D := D) (ci := 6) (v := .ref drp1) (C := RX6) (T := TX6) (N := 17) hx hb hu in_X6 hown hK.1 hP 0 rfl rfl 7 (by decide) (hu _ u_210) (fun _ h9 => h9) rfl dX6_written_12 ?_
  refine lv_iload_n hx hb dX6_written_15 rfl (lv_at hl 0 rfl) ?_
  refine va_iald hx hb hK.1 hP 1 0 rfl rfl (vin_c _ _ rfl) dX6_written_16 ?_
  refine tpi (y := 0) (z_f_drp1 _ (cl_lt (vin_c _ _ rfl))) ?_
  refine lv_iadd hx hb dX6_written_17 ?_
  refine tpi (y := 0) (by decide) ?_
  refine lv_istore_n (lv' := [(1, .int 0), (2, .int 13), (0, .ref drp)]) hx hb dX6_written_18 rfl hl (by decide) rfl (fun ls hl => ?_)
  refine lv_iinc (v := 14) (lv' := [(2, .int 14), (1, .int 0), (0, .ref drp)]) hx hb dX6_written_19 hl (k := 1) rfl (by decide) (by decide) rfl (fun ls hl => ?_)
  refine lv_goto (tgt := 4) hx hb dX6_written_22 (by decide) ?_
  refine lv_iload_n hx hb dX6_written_4 rfl (lv_at hl 0 rfl) ?_
  refine lv_bipush (v := 24) hx hb dX6_written_5 (by decide) ?_
  refine lv_icmp_ge (tgt := 25) hx hb dX6_written_7 (by decide) (fun c_15 => absurd c_15 (by decide)) (fun c_15 => ?_)
  refine lv_iload_n hx hb dX6_written_10 rfl (lv_at hl 1 rfl) ?_
  refine lv_aload_n hx hb dX6_written_11 rfl (lv_at hl 2 rfl) ?_
  refine va_get (D := D) (ci := 6) (v := .ref drp1) (C := RX6) (T := TX6) (N := 17) hx hb hu in_X6 hown hK.1 hP 0 rfl rfl 7 (by decide) (hu _ u_210) (fun _ h9 => h9) rfl dX6_written_12 ?_
  refine lv_iload_n hx hb dX6_written_15 rfl (lv_at hl 0 rfl) ?_
  refine va_iald hx hb hK.1 hP 1 0 rfl rfl (vin_c _ _ rfl) dX6_written_16 ?_
  refine tpi (y := 0) (z_f_drp1 _ (cl_lt (vin_c _ _ rfl))) ?_
  refine lv_iadd hx hb dX6_written_17 ?_
  refine tpi (y := 0) (by decide) ?_
  refine lv_istore_n (lv' := [(1, .int 0), (2, .int 14), (0, .ref drp)]) hx hb dX6_written_18 rfl hl (by decide) rfl (fun ls hl => ?_)
  refine lv_iinc (v := 15) (lv' := [(2, .int 15), (1, .int 0), (0, .ref drp)]) hx hb dX6_written_19 hl (k := 1) rfl (by decide) (by decide) rfl (fun ls hl => ?_)
  refine lv_goto (tgt := 4) hx hb dX6_written_22 (by decide) ?_
  refine lv_iload_n hx hb dX6_written_4 rfl (lv_at hl 0 rfl) ?_
  refine lv_bipush (v := 24) hx hb dX6_written_5 (by decide) ?_
  refine lv_icmp_ge (tgt := 25) hx hb dX6_written_7 (by decide) (fun c_16 => absurd c_16 (by decide)) (fun c_16 => ?_)
  refine lv_iload_n hx hb dX6_written_10 rfl (lv_at hl 1 rfl) ?_
  refine lv_aload_n hx hb dX6_written_11 rfl (lv_at hl 2 rfl) ?_
  refine va_get (D := D) (ci := 6) (v := .ref drp1) (C := RX6) (T := TX6) (N := 17) hx hb hu in_X6 hown hK.1 hP 0 rfl rfl 7 (by decide) (hu _ u_210) (fun _ h9 => h9) rfl dX6_written_12 ?_
  refine lv_iload_n hx hb dX6_written_15 rfl (lv_at hl 0 rfl) ?_
  refine va_iald hx hb hK.1 hP 1 0 rfl rfl (vin_c _ _ rfl) dX6_written_16 ?_
  refine tpi (y := 0) (z_f_drp1 _ (cl_lt (vin_c _ _ rfl))) ?_
  refine lv_iadd hx hb dX6_written_17 ?_
  refine tpi (y := 0) (by decide) ?_
  refine lv_istore_n (lv' := [(1, .int 0), (2, .int 15), (0, .ref drp)]) hx hb dX6_written_18 rfl hl (by decide) rfl (fun ls hl => ?_)
  refine lv_iinc (v := 16) (lv' := [(2, .int 16), (1, .int 0), (0, .ref drp)]) hx hb dX6_written_19 hl (k := 1) rfl (by decide) (by decide) rfl (fun ls hl => ?_)
  refine lv_goto (tgt := 4) hx hb dX6_written_22 (by decide) ?_
  refine lv_iload_n hx hb dX6_written_4 rfl (lv_at hl 0 rfl) ?_
  refine lv_bipush (v := 24) hx hb dX6_written_5 (by decide) ?_
  refine lv_icmp_ge (tgt := 25) hx hb dX6_written_7 (by decide) (fun c_17 => absurd c_17 (by decide)) (fun c_17 => ?_)
  refine lv_iload_n hx hb dX6_written_10 rfl (lv_at hl 1 rfl) ?_
  refine lv_aload_n hx hb dX6_written_11 rfl (lv_at hl 2 rfl) ?_
  refine va_get (D := D) (ci := 6) (v := .ref drp1) (C := RX6) (T := TX6) (N := 17) hx hb hu in_X6 hown hK.1 hP 0 rfl rfl 7 (by decide) (hu _ u_210) (fun _ h9 => h9) rfl dX6_written_12 ?_
  refine lv_iload_n hx hb dX6_written_15 rfl (lv_at hl 0 rfl) ?_
  refine va_iald hx hb hK.1 hP 1 0 rfl rfl (vin_c _ _ rfl) dX6_written_16 ?_
  refine tpi (y := 0) (z_f_drp1 _ (cl_lt (vin_c _ _ rfl))) ?_
  refine lv_iadd hx hb dX6_written_17 ?_
  refine tpi (y := 0) (by decide) ?_
  refine lv_istore_n (lv' := [(1, .int 0), (2, .int 16), (0, .ref drp)]) hx hb dX6_written_18 rfl hl (by decide) rfl (fun ls hl => ?_)
  refine lv_iinc (v := 17) (lv' := [(2, .int 17), (1, .int 0), (0, .ref drp)]) hx hb dX6_written_19 hl (k := 1) rfl (by decide) (by decide) rfl (fun ls hl => ?_)
  refine lv_goto (tgt := 4) hx hb dX6_written_22 (by decide) ?_
  refine lv_iload_n hx hb dX6_written_4 rfl (lv_at hl 0 rfl) ?_
  refine lv_bipush (v := 24) hx hb dX6_written_5 (by decide) ?_
  refine lv_icmp_ge (tgt := 25) hx hb dX6_written_7 (by decide) (fun c_18 => absurd c_18 (by decide)) (fun c_18 => ?_)
  refine lv_iload_n hx hb dX6_written_10 rfl (lv_at hl 1 rfl) ?_
  refine lv_aload_n hx hb dX6_written_11 rfl (lv_at hl 2 rfl) ?_
  refine va_get (D := D) (ci := 6) (v := .ref drp1) (C := RX6) (T := TX6) (N := 17) hx hb hu in_X6 hown hK.1 hP 0 rfl rfl 7 (by decide) (hu _ u_210) (fun _ h9 => h9) rfl dX6_written_12 ?_
  refine lv_iload_n hx hb dX6_written_15 rfl (lv_at hl 0 rfl) ?_
  refine va_iald hx hb hK.1 hP 1 0 rfl rfl (vin_c _ _ rfl) dX6_written_16 ?_
  refine tpi (y := 0) (z_f_drp1 _ (cl_lt (vin_c _ _ rfl))) ?_
  refine lv_iadd hx hb dX6_written_17 ?_
  refine tpi (y := 0) (by decide) ?_
  refine lv_istore_n (lv' := [(1, .int 0), (2, .int 17), (0, .ref drp)]) hx hb dX6_written_18 rfl hl (by decide) rfl (fun ls hl => ?_)
  refine lv_iinc (v := 18) (lv' := [(2, .int 18), (1, .int 0), (0, .ref drp)]) hx hb dX6_written_19 hl (k := 1) rfl (by decide) (by decide) rfl (fun ls hl => ?_)
  refine lv_goto (tgt := 4) hx hb dX6_written_22 (by decide) ?_
  refine lv_iload_n hx hb dX6_written_4 rfl (lv_at hl 0 rfl) ?_
  refine lv_bipush (v := 24) hx hb dX6_written_5 (by decide) ?_
  refine lv_icmp_ge (tgt := 25) hx hb dX6_written_7 (by decide) (fun c_19 => absurd c_19 (by decide)) (fun c_19 => ?_)
  refine lv_iload_n hx hb dX6_written_10 rfl (lv_at hl 1 rfl) ?_
  refine lv_aload_n hx hb dX6_written_11 rfl (lv_at hl 2 rfl) ?_
  refine va_get (D := D) (ci := 6) (v := .ref drp1) (C := RX6) (T := TX6) (N := 17) hx hb hu in_X6 hown hK.1 hP 0 rfl rfl 7 (by decide) (hu _ u_210) (fun _ h9 => h9) rfl dX6_written_12 ?_
  refine lv_iload_n hx hb dX6_written_15 rfl (lv_at hl 0 rfl) ?_
  refine va_iald hx hb hK.1 hP 1 0 rfl rfl (vin_c _ _ rfl) dX6_written_16 ?_
  refine tpi (y := 0) (z_f_drp1 _ (cl_lt (vin_c _ _ rfl))) ?_
  refine lv_iadd hx hb dX6_written_17 ?_
  refine tpi (y := 0) (by decide) ?_
  refine lv_istore_n (lv' := [(1, .int 0), (2, .int 18), (0, .ref drp)]) hx hb dX6_written_18 rfl hl (by decide) rfl (fun ls hl => ?_)
  refine lv_iinc (v := 19) (lv' := [(2, .int 19), (1, .int 0), (0, .ref drp)]) hx hb dX6_written_19 hl (k := 1) rfl (by decide) (by decide) rfl (fun ls hl => ?_)
  refine lv_goto (tgt := 4) hx hb dX6_written_22 (by decide) ?_
  refine lv_iload_n hx hb dX6_written_4 rfl (lv_at hl 0 rfl) ?_
  refine lv_bipush (v := 24) hx hb dX6_written_5 (by decide) ?_
  refine lv_icmp_ge (tgt := 25) hx hb dX6_written_7 (by decide) (fun c_20 => absurd c_20 (by decide)) (fun c_20 => ?_)
  refine lv_iload_n hx hb dX6_written_10 rfl (lv_at hl 1 rfl) ?_
  refine lv_aload_n hx hb dX6_written_11 rfl (lv_at hl 2 rfl) ?_
  refine va_get (D := D) (ci := 6) (v := .ref drp1) (C := RX6) (T := TX6) (N := 17) hx hb hu in_X6 hown hK.1 hP 0 rfl rfl 7 (by decide) (hu _ u_210) (fun _ h9 => h9) rfl dX6_written_12 ?_
  refine lv_iload_n hx hb dX6_written_15 rfl (lv_at hl 0 rfl) ?_
  refine va_iald hx hb hK.1 hP 1 0 rfl rfl (vin_c _ _ rfl) dX6_written_16 ?_
  refine tpi (y := 0) (z_f_drp1 _ (cl_lt (vin_c _ _ rfl))) ?_
  refine lv_iadd hx hb dX6_written_17 ?_
  refine tpi (y := 0) (by decide) ?_
  refine lv_istore_n (lv' := [(1, .int 0), (2, .int 19), (0, .ref drp)]) hx hb dX6_written_18 rfl hl (by decide) rfl (fun ls hl => ?_)
  refine lv_iinc (v := 20) (lv' := [(2, .int 20), (1, .int 0), (0, .ref drp)]) hx hb dX6_written_19 hl (k := 1) rfl (by decide) (by decide) rfl (fun ls hl => ?_)
  refine lv_goto (tgt := 4) hx hb dX6_written_22 (by decide) ?_
  refine lv_iload_n hx hb dX6_written_4 rfl (lv_at hl 0 rfl) ?_
  refine lv_bipush (v := 24) hx hb dX6_written_5 (by decide) ?_
  refine lv_icmp_ge (tgt := 25) hx hb dX6_written_7 (by decide) (fun c_21 => absurd c_21 (by decide)) (fun c_21 => ?_)
  refine lv_iload_n hx hb dX6_written_10 rfl (lv_at hl 1 rfl) ?_
  refine lv_aload_n hx hb dX6_written_11 rfl (lv_at hl 2 rfl) ?_
  refine va_get (D := D) (ci := 6) (v := .ref drp1) (C := RX6) (T := TX6) (N := 17) hx hb hu in_X6 hown hK.1 hP 0 rfl rfl 7 (by decide) (hu _ u_210) (fun _ h9 => h9) rfl dX6_written_12 ?_
  refine lv_iload_n hx hb dX6_written_15 rfl (lv_at hl 0 rfl) ?_
  refine va_iald hx hb hK.1 hP 1 0 rfl rfl (vin_c _ _ rfl) dX6_written_16 ?_
  refine tpi (y := 0) (z_f_drp1 _ (cl_lt (vin_c _ _ rfl))) ?_
  refine lv_iadd hx hb dX6_written_17 ?_
  refine tpi (y := 0) (by decide) ?_
  refine lv_istore_n (lv' := [(1, .int 0), (2, .int 20), (0, .ref drp)]) hx hb dX6_written_18 rfl hl (by decide) rfl (fun ls hl => ?_)
  refine lv_iinc (v := 21) (lv' := [(2, .int 21), (1, .int 0), (0, .ref drp)]) hx hb dX6_written_19 hl (k := 1) rfl (by decide) (by decide) rfl (fun ls hl => ?_)
  refine lv_goto (tgt := 4) hx hb dX6_written_22 (by decide) ?_
  refine lv_iload_n hx hb dX6_written_4 rfl (lv_at hl 0 rfl) ?_
  refine lv_bipush (v := 24) hx hb dX6_written_5 (by decide) ?_
  refine lv_icmp_ge (tgt := 25) hx hb dX6_written_7 (by decide) (fun c_22 => absurd c_22 (by decide)) (fun c_22 => ?_)
  refine lv_iload_n hx hb dX6_written_10 rfl (lv_at hl 1 rfl) ?_
  refine lv_aload_n hx hb dX6_written_11 rfl (lv_at hl 2 rfl) ?_
  refine va_get (D := D) (ci := 6) (v := .ref drp1) (C := RX6) (T := TX6) (N := 17) hx hb hu in_X6 hown hK.1 hP 0 rfl rfl 7 (by decide) (hu _ u_210) (fun _ h9 => h9) rfl dX6_written_12 ?_
  refine lv_iload_n hx hb dX6_written_15 rfl (lv_at hl 0 rfl) ?_
  refine va_iald hx hb hK.1 hP 1 0 rfl rfl (vin_c _ _ rfl) dX6_written_16 ?_
  refine tpi (y := 0) (z_f_drp1 _ (cl_lt (vin_c _ _ rfl))) ?_
  refine lv_iadd hx hb dX6_written_17 ?_
  refine tpi (y := 0) (by decide) ?_
  refine lv_istore_n (lv' := [(1, .int 0), (2, .int 21), (0, .ref drp)]) hx hb dX6_written_18 rfl hl (by decide) rfl (fun ls hl => ?_)
  refine lv_iinc (v := 22) (lv' := [(2, .int 22), (1, .int 0), (0, .ref drp)]) hx hb dX6_written_19 hl (k := 1) rfl (by decide) (by decide) rfl (fun ls hl => ?_)
  refine lv_goto (tgt := 4) hx hb dX6_written_22 (by decide) ?_
  refine lv_iload_n hx hb dX6_written_4 rfl (lv_at hl 0 rfl) ?_
  refine lv_bipush (v := 24) hx hb dX6_written_5 (by decide) ?_
  refine lv_icmp_ge (tgt := 25) hx hb dX6_written_7 (by decide) (fun c_23 => absurd c_23 (by decide)) (fun c_23 => ?_)
  refine lv_iload_n hx hb dX6_written_10 rfl (lv_at hl 1 rfl) ?_
  refine lv_aload_n hx hb dX6_written_11 rfl (lv_at hl 2 rfl) ?_
  refine va_get (D := D) (ci := 6) (v := .ref drp1) (C := RX6) (T := TX6) (N := 17) hx hb hu in_X6 hown hK.1 hP 0 rfl rfl 7 (by decide) (hu _ u_210) (fun _ h9 => h9) rfl dX6_written_12 ?_
  refine lv_iload_n hx hb dX6_written_15 rfl (lv_at hl 0 rfl) ?_
  refine va_iald hx hb hK.1 hP 1 0 rfl rfl (vin_c _ _ rfl) dX6_written_16 ?_
  refine tpi (y := 0) (z_f_drp1 _ (cl_lt (vin_c _ _ rfl))) ?_
  refine lv_iadd hx hb dX6_written_17 ?_
  refine tpi (y := 0) (by decide) ?_
  refine lv_istore_n (lv' := [(1, .int 0), (2, .int 22), (0, .ref drp)]) hx hb dX6_written_18 rfl hl (by decide) rfl (fun ls hl => ?_)
  refine lv_iinc (v := 23) (lv' := [(2, .int 23), (1, .int 0), (0, .ref drp)]) hx hb dX6_written_19 hl (k := 1) rfl (by decide) (by decide) rfl (fun ls hl => ?_)
  refine lv_goto (tgt := 4) hx hb dX6_written_22 (by decide) ?_
  refine lv_iload_n hx hb dX6_written_4 rfl (lv_at hl 0 rfl) ?_
  refine lv_bipush (v := 24) hx hb dX6_written_5 (by decide) ?_
  refine lv_icmp_ge (tgt := 25) hx hb dX6_written_7 (by decide) (fun c_24 => absurd c_24 (by decide)) (fun c_24 => ?_)
  refine lv_iload_n hx hb dX6_written_10 rfl (lv_at hl 1 rfl) ?_
  refine lv_aload_n hx hb dX6_written_11 rfl (lv_at hl 2 rfl) ?_
  refine va_get (D := D) (ci := 6) (v := .ref drp1) (C := RX6) (T := TX6) (N := 17) hx hb hu in_X6 hown hK.1 hP 0 rfl rfl 7 (by decide) (hu _ u_210) (fun _ h9 => h9) rfl dX6_written_12 ?_
  refine lv_iload_n hx hb dX6_written_15 rfl (lv_at hl 0 rfl) ?_
  refine va_iald hx hb hK.1 hP 1 0 rfl rfl (vin_c _ _ rfl) dX6_written_16 ?_
  refine tpi (y := 0) (z_f_drp1 _ (cl_lt (vin_c _ _ rfl))) ?_
  refine lv_iadd hx hb dX6_written_17 ?_
  refine tpi (y := 0) (by decide) ?_
  refine lv_istore_n (lv' := [(1, .int 0), (2, .int 23), (0, .ref drp)]) hx hb dX6_written_18 rfl hl (by decide) rfl (fun ls hl => ?_)
  refine lv_iinc (v := 24) (lv' := [(2, .int 24), (1, .int 0), (0, .ref drp)]) hx hb dX6_written_19 hl (k := 1) rfl (by decide) (by decide) rfl (fun ls hl => ?_)
  refine lv_goto (tgt := 4) hx hb dX6_written_22 (by decide) ?_
  refine lv_iload_n hx hb dX6_written_4 rfl (lv_at hl 0 rfl) ?_
  refine lv_bipush (v := 24) hx hb dX6_written_5 (by decide) ?_
  refine lv_icmp_ge (tgt := 25) hx hb dX6_written_7 (by decide) (fun c_25 => ?_) (fun c_25 => absurd (by decide) c_25)
  refine lv_iload_n hx hb dX6_written_25 rfl (lv_at hl 1 rfl) ?_
  exact hz () hP hD hS rfl [0, 1] rfl rfl (Nat.le_of_ble_eq_true rfl) (Nat.le_of_ble_eq_true rfl) .int rfl rfl dX6_written_26
abbrev rm_c_X6_deadBytes : Room := { frames := 2, cells := 0, slots := 0, locals := 44 }
set_option maxHeartbeats 4000000 in
set_option maxRecDepth 100000 in
theorem c_X6_deadBytes (l : Launch) (D : va_G) (cs : Nat → ClassId) (sz : Nat) (drp : Nat) (drp1 : Nat) (drp2 : Nat) (drp3 : Nat) (f_drp3 : Nat → Int32) (drp4 : Nat) (drp5 : Nat) (drp6 : Nat) (drp7 : Nat) (drp8 : Nat) (drp9 : Nat) (drp10 : Nat) (i1 : Int32) (i2 : Int32) (i3 : Int32) (i4 : Int32) (i5 : Int32) (i6 : Int32) (i7 : Int32) (z_f_drp3 : ∀ j, j < 24 → f_drp3 j = 0) : cMi l yX6_deadBytes (Cond.code yX6_deadBytes cX6_deadBytes 3 (some .int)) (rm_c_X6_deadBytes) D cs [.ref drp] sz [(drp, .inr (6, [.int i1, .int i2, .int i3, .int i4, .int i5, .int i6, .int i7, .ref drp1, .ref drp2, .ref drp3, .ref drp4, .ref drp5, .ref drp6, .ref drp7, .ref drp8, .ref drp9, .ref drp10])), (drp3, aI cs 24 f_drp3)] (fun (r : Int32) (u : Unit) => (r = 0)) (fun (u : Unit) => [(drp, .inr (6, [.int i1, .int i2, .int i3, .int i4, .int i5, .int i6, .int i7, .ref drp1, .ref drp2, .ref drp3, .ref drp4, .ref drp5, .ref drp6, .ref drp7, .ref drp8, .ref drp9, .ref drp10])), (drp3, aI cs 24 f_drp3)]) := by
  refine kMet_i RX6 (by decide) rfl (Nat.le_of_ble_eq_true rfl) ?_
  intro p e s m below meth c ls A Qz H locs hx hb hml hown hin hu hK hsz hA hP hD hS hl hz
  subst hsz
  have hl : lv_has ls 3 [(0, .ref drp)] := hl
  refine lv_iconst (v := 0) hx hb dX6_deadBytes_0 (by decide) ?_
  refine lv_istore_n (lv' := [(1, .int 0), (0, .ref drp)]) hx hb dX6_deadBytes_1 rfl hl (by decide) rfl (fun ls hl => ?_)
  refine lv_iconst (v := 0) hx hb dX6_deadBytes_2 (by decide) ?_
  refine lv_istore_n (lv' := [(2, .int 0), (1, .int 0), (0, .ref drp)]) hx hb dX6_deadBytes_3 rfl hl (by decide) rfl (fun ls hl => ?_)
  refine lv_iload_n hx hb dX6_deadBytes_4 rfl (lv_at hl 0 rfl) ?_
  refine lv_bipush (v := 24) hx hb dX6_deadBytes_5 (by decide) ?_
  refine lv_icmp_ge (tgt := 24) hx hb dX6_deadBytes_7 (by decide) (fun c_1 => absurd c_1 (by decide)) (fun c_1 => ?_)
  refine lv_iload_n hx hb dX6_deadBytes_10 rfl (lv_at hl 1 rfl) ?_
  refine lv_aload_n hx hb dX6_deadBytes_11 rfl (lv_at hl 2 rfl) ?_
  refine lv_iload_n hx hb dX6_deadBytes_12 rfl (lv_at hl 0 rfl) ?_
  refine kV_i (ci := 6) (As := [.int 0]) (rest := [.int 0]) (wc := [(drp, .inr (6, [.int i1, .int i2, .int i3, .int i4, .int i5, .int i6, .int i7, .ref drp1, .ref drp2, .ref drp3, .ref drp4, .ref drp5, .ref drp6, .ref drp7, .ref drp8, .ref drp9, .ref drp10])), (drp3, aI cs 24 f_drp3)]) (wr := []) hx hb hml hown hu hK hP hD hS hA hl.1 (c_X6_deadOn l D cs H.size drp drp1 drp2 drp3 f_drp3 drp4 drp5 drp6 drp7 drp8 drp9 drp10 i1 i2 i3 i4 i5 i6 i7 0 z_f_drp3) (gV u_457 u_458 u_459 u_72 u_460) hd_X6_deadOn ⟨(Nat.le_of_ble_eq_true rfl), (Nat.le_of_ble_eq_true rfl)⟩ [0, 1] [] rfl rfl rfl rfl (by decide) rfl 0 rfl rfl rfl (Nat.le_of_ble_eq_true rfl) dX6_deadBytes_13 ⟨(Nat.le_of_ble_eq_true rfl), (Nat.le_of_ble_eq_true rfl)⟩ (fun r_2 ut_3 H locs hw_4 hP hD hS => ?_)
  have hP : va_P D vwCl [(drp, .inr (6, [.int i1, .int i2, .int i3, .int i4, .int i5, .int i6, .int i7, .ref drp1, .ref drp2, .ref drp3, .ref drp4, .ref drp5, .ref drp6, .ref drp7, .ref drp8, .ref drp9, .ref drp10])), (drp3, aI cs 24 f_drp3)] H := hP
  have hD : va_D A [(drp, .inr (6, [.int i1, .int i2, .int i3, .int i4, .int i5, .int i6, .int i7, .ref drp1, .ref drp2, .ref drp3, .ref drp4, .ref drp5, .ref drp6, .ref drp7, .ref drp8, .ref drp9, .ref drp10])), (drp3, aI cs 24 f_drp3)] := hD
  have er_5 := hw_4
  subst er_5
  refine lv_iadd hx hb dX6_deadBytes_16 ?_
  refine tpi (y := 0) (by decide) ?_
  refine lv_istore_n (lv' := [(1, .int 0), (2, .int 0), (0, .ref drp)]) hx hb dX6_deadBytes_17 rfl hl (by decide) rfl (fun ls hl => ?_)
  refine lv_iinc (v := 1) (lv' := [(2, .int 1), (1, .int 0), (0, .ref drp)]) hx hb dX6_deadBytes_18 hl (k := 1) rfl (by decide) (by decide) rfl (fun ls hl => ?_)
  refine lv_goto (tgt := 4) hx hb dX6_deadBytes_21 (by decide) ?_
  refine lv_iload_n hx hb dX6_deadBytes_4 rfl (lv_at hl 0 rfl) ?_
  refine lv_bipush (v := 24) hx hb dX6_deadBytes_5 (by decide) ?_
  refine lv_icmp_ge (tgt := 24) hx hb dX6_deadBytes_7 (by decide) (fun c_6 => absurd c_6 (by decide)) (fun c_6 => ?_)
  refine lv_iload_n hx hb dX6_deadBytes_10 rfl (lv_at hl 1 rfl) ?_
  refine lv_aload_n hx hb dX6_deadBytes_11 rfl (lv_at hl 2 rfl) ?_
  refine lv_iload_n hx hb dX6_deadBytes_12 rfl (lv_at hl 0 rfl) ?_
  refine kV_i (ci := 6) (As := [.int 1]) (rest := [.int 0]) (wc := [(drp, .inr (6, [.int i1, .int i2, .int i3, .int i4, .int i5, .int i6, .int i7, .ref drp1, .ref drp2, .ref drp3, .ref drp4, .ref drp5, .ref drp6, .ref drp7, .ref drp8, .ref drp9, .ref drp10])), (drp3, aI cs 24 f_drp3)]) (wr := []) hx hb hml hown hu hK hP hD hS hA hl.1 (c_X6_deadOn l D cs H.size drp drp1 drp2 drp3 f_drp3 drp4 drp5 drp6 drp7 drp8 drp9 drp10 i1 i2 i3 i4 i5 i6 i7 1 z_f_drp3) (gV u_457 u_458 u_459 u_72 u_460) hd_X6_deadOn ⟨(Nat.le_of_ble_eq_true rfl), (Nat.le_of_ble_eq_true rfl)⟩ [0, 1] [] rfl rfl rfl rfl (by decide) rfl 0 rfl rfl rfl (Nat.le_of_ble_eq_true rfl) dX6_deadBytes_13 ⟨(Nat.le_of_ble_eq_true rfl), (Nat.le_of_ble_eq_true rfl)⟩ (fun r_7 ut_8 H locs hw_9 hP hD hS => ?_)
  have hP : va_P D vwCl [(drp, .inr (6, [.int i1, .int i2, .int i3, .int i4, .int i5, .int i6, .int i7, .ref drp1, .ref drp2, .ref drp3, .ref drp4, .ref drp5, .ref drp6, .ref drp7, .ref drp8, .ref drp9, .ref drp10])), (drp3, aI cs 24 f_drp3)] H := hP
  have hD : va_D A [(drp, .inr (6, [.int i1, .int i2, .int i3, .int i4, .int i5, .int i6, .int i7, .ref drp1, .ref drp2, .ref drp3, .ref drp4, .ref drp5, .ref drp6, .ref drp7, .ref drp8, .ref drp9, .ref drp10])), (drp3, aI cs 24 f_drp3)] := hD
  have er_10 := hw_9
  subst er_10
  refine lv_iadd hx hb dX6_deadBytes_16 ?_
  refine tpi (y := 0) (by decide) ?_
  refine lv_istore_n (lv' := [(1, .int 0), (2, .int 1), (0, .ref drp)]) hx hb dX6_deadBytes_17 rfl hl (by decide) rfl (fun ls hl => ?_)
  refine lv_iinc (v := 2) (lv' := [(2, .int 2), (1, .int 0), (0, .ref drp)]) hx hb dX6_deadBytes_18 hl (k := 1) rfl (by decide) (by decide) rfl (fun ls hl => ?_)
  refine lv_goto (tgt := 4) hx hb dX6_deadBytes_21 (by decide) ?_
  refine lv_iload_n hx hb dX6_deadBytes_4 rfl (lv_at hl 0 rfl) ?_
  refine lv_bipush (v := 24) hx hb dX6_deadBytes_5 (by decide) ?_
  refine lv_icmp_ge (tgt := 24) hx hb dX6_deadBytes_7 (by decide) (fun c_11 => absurd c_11 (by decide)) (fun c_11 => ?_)
  refine lv_iload_n hx hb dX6_deadBytes_10 rfl (lv_at hl 1 rfl) ?_
  refine lv_aload_n hx hb dX6_deadBytes_11 rfl (lv_at hl 2 rfl) ?_
  refine lv_iload_n hx hb dX6_deadBytes_12 rfl (lv_at hl 0 rfl) ?_
  refine kV_i (ci := 6) (As := [.int 2]) (rest := [.int 0]) (wc := [(drp, .inr (6, [.int i1, .int i2, .int i3, .int i4, .int i5, .int i6, .int i7, .ref drp1, .ref drp2, .ref drp3, .ref drp4, .ref drp5, .ref drp6, .ref drp7, .ref drp8, .ref drp9, .ref drp10])), (drp3, aI cs 24 f_drp3)]) (wr := []) hx hb hml hown hu hK hP hD hS hA hl.1 (c_X6_deadOn l D cs H.size drp drp1 drp2 drp3 f_drp3 drp4 drp5 drp6 drp7 drp8 drp9 drp10 i1 i2 i3 i4 i5 i6 i7 2 z_f_drp3) (gV u_457 u_458 u_459 u_72 u_460) hd_X6_deadOn ⟨(Nat.le_of_ble_eq_true rfl), (Nat.le_of_ble_eq_true rfl)⟩ [0, 1] [] rfl rfl rfl rfl (by decide) rfl 0 rfl rfl rfl (Nat.le_of_ble_eq_true rfl) dX6_deadBytes_13 ⟨(Nat.le_of_ble_eq_true rfl), (Nat.le_of_ble_eq_true rfl)⟩ (fun r_12 ut_13 H locs hw_14 hP hD hS => ?_)
  have hP : va_P D vwCl [(drp, .inr (6, [.int i1, .int i2, .int i3, .int i4, .int i5, .int i6, .int i7, .ref drp1, .ref drp2, .ref drp3, .ref drp4, .ref drp5, .ref drp6, .ref drp7, .ref drp8, .ref drp9, .ref drp10])), (drp3, aI cs 24 f_drp3)] H := hP
  have hD : va_D A [(drp, .inr (6, [.int i1, .int i2, .int i3, .int i4, .int i5, .int i6, .int i7, .ref drp1, .ref drp2, .ref drp3, .ref drp4, .ref drp5, .ref drp6, .ref drp7, .ref drp8, .ref drp9, .ref drp10])), (drp3, aI cs 24 f_drp3)] := hD
  have er_15 := hw_14
  subst er_15
  refine lv_iadd hx hb dX6_deadBytes_16 ?_
  refine tpi (y := 0) (by decide) ?_
  refine lv_istore_n (lv' := [(1, .int 0), (2, .int 2), (0, .ref drp)]) hx hb dX6_deadBytes_17 rfl hl (by decide) rfl (fun ls hl => ?_)
  refine lv_iinc (v := 3) (lv' := [(2, .int 3), (1, .int 0), (0, .ref drp)]) hx hb dX6_deadBytes_18 hl (k := 1) rfl (by decide) (by decide) rfl (fun ls hl => ?_)
  refine lv_goto (tgt := 4) hx hb dX6_deadBytes_21 (by decide) ?_
  refine lv_iload_n hx hb dX6_deadBytes_4 rfl (lv_at hl 0 rfl) ?_
  refine lv_bipush (v := 24) hx hb dX6_deadBytes_5 (by decide) ?_
  refine lv_icmp_ge (tgt := 24) hx hb dX6_deadBytes_7 (by decide) (fun c_16 => absurd c_16 (by decide)) (fun c_16 => ?_)
  refine lv_iload_n hx hb dX6_deadBytes_10 rfl (lv_at hl 1 rfl) ?_
  refine lv_aload_n hx hb dX6_deadBytes_11 rfl (lv_at hl 2 rfl) ?_
  refine lv_iload_n hx hb dX6_deadBytes_12 rfl (lv_at hl 0 rfl) ?_
  refine kV_i (ci := 6) (As := [.int 3]) (rest := [.int 0]) (wc := [(drp, .inr (6, [.int i1, .int i2, .int i3, .int i4, .int i5, .int i6, .int i7, .ref drp1, .ref drp2, .ref drp3, .ref drp4, .ref drp5, .ref drp6, .ref drp7, .ref drp8, .ref drp9, .ref drp10])), (drp3, aI cs 24 f_drp3)]) (wr := []) hx hb hml hown hu hK hP hD hS hA hl.1 (c_X6_deadOn l D cs H.size drp drp1 drp2 drp3 f_drp3 drp4 drp5 drp6 drp7 drp8 drp9 drp10 i1 i2 i3 i4 i5 i6 i7 3 z_f_drp3) (gV u_457 u_458 u_459 u_72 u_460) hd_X6_deadOn ⟨(Nat.le_of_ble_eq_true rfl), (Nat.le_of_ble_eq_true rfl)⟩ [0, 1] [] rfl rfl rfl rfl (by decide) rfl 0 rfl rfl rfl (Nat.le_of_ble_eq_true rfl) dX6_deadBytes_13 ⟨(Nat.le_of_ble_eq_true rfl), (Nat.le_of_ble_eq_true rfl)⟩ (fun r_17 ut_18 H locs hw_19 hP hD hS => ?_)
  have hP : va_P D vwCl [(drp, .inr (6, [.int i1, .int i2, .int i3, .int i4, .int i5, .int i6, .int i7, .ref drp1, .ref drp2, .ref drp3, .ref drp4, .ref drp5, .ref drp6, .ref drp7, .ref drp8, .ref drp9, .ref drp10])), (drp3, aI cs 24 f_drp3)] H := hP
  have hD : va_D A [(drp, .inr (6, [.int i1, .int i2, .int i3, .int i4, .int i5, .int i6, .int i7, .ref drp1, .ref drp2, .ref drp3, .ref drp4, .ref drp5, .ref drp6, .ref drp7, .ref drp8, .ref drp9, .ref drp10])), (drp3, aI cs 24 f_drp3)] := hD
  have er_20 := hw_19
  subst er_20
  refine lv_iadd hx hb dX6_deadBytes_16 ?_
  refine tpi (y := 0) (by decide) ?_
  refine lv_istore_n (lv' := [(1, .int 0), (2, .int 3), (0, .ref drp)]) hx hb dX6_deadBytes_17 rfl hl (by decide) rfl (fun ls hl => ?_)
  refine lv_iinc (v := 4) (lv' := [(2, .int 4), (1, .int 0), (0, .ref drp)]) hx hb dX6_deadBytes_18 hl (k := 1) rfl (by decide) (by decide) rfl (fun ls hl => ?_)
  refine lv_goto (tgt := 4) hx hb dX6_deadBytes_21 (by decide) ?_
  refine lv_iload_n hx hb dX6_deadBytes_4 rfl (lv_at hl 0 rfl) ?_
  refine lv_bipush (v := 24) hx hb dX6_deadBytes_5 (by decide) ?_
  refine lv_icmp_ge (tgt := 24) hx hb dX6_deadBytes_7 (by decide) (fun c_21 => absurd c_21 (by decide)) (fun c_21 => ?_)
  refine lv_iload_n hx hb dX6_deadBytes_10 rfl (lv_at hl 1 rfl) ?_
  refine lv_aload_n hx hb dX6_deadBytes_11 rfl (lv_at hl 2 rfl) ?_
  refine lv_iload_n hx hb dX6_deadBytes_12 rfl (lv_at hl 0 rfl) ?_
  refine kV_i (ci := 6) (As := [.int 4]) (rest := [.int 0]) (wc := [(drp, .inr (6, [.int i1, .int i2, .int i3, .int i4, .int i5, .int i6, .int i7, .ref drp1, .ref drp2, .ref drp3, .ref drp4, .ref drp5, .ref drp6, .ref drp7, .ref drp8, .ref drp9, .ref drp10])), (drp3, aI cs 24 f_drp3)]) (wr := []) hx hb hml hown hu hK hP hD hS hA hl.1 (c_X6_deadOn l D cs H.size drp drp1 drp2 drp3 f_drp3 drp4 drp5 drp6 drp7 drp8 drp9 drp10 i1 i2 i3 i4 i5 i6 i7 4 z_f_drp3) (gV u_457 u_458 u_459 u_72 u_460) hd_X6_deadOn ⟨(Nat.le_of_ble_eq_true rfl), (Nat.le_of_ble_eq_true rfl)⟩ [0, 1] [] rfl rfl rfl rfl (by decide) rfl 0 rfl rfl rfl (Nat.le_of_ble_eq_true rfl) dX6_deadBytes_13 ⟨(Nat.le_of_ble_eq_true rfl), (Nat.le_of_ble_eq_true rfl)⟩ (fun r_22 ut_23 H locs hw_24 hP hD hS => ?_)
  have hP : va_P D vwCl [(drp, .inr (6, [.int i1, .int i2, .int i3, .int i4, .int i5, .int i6, .int i7, .ref drp1, .ref drp2, .ref drp3, .ref drp4, .ref drp5, .ref drp6, .ref drp7, .ref drp8, .ref drp9, .ref drp10])), (drp3, aI cs 24 f_drp3)] H := hP
  have hD : va_D A [(drp, .inr (6, [.int i1, .int i2, .int i3, .int i4, .int i5, .int i6, .int i7, .ref drp1, .ref drp2, .ref drp3, .ref drp4, .ref drp5, .ref drp6, .ref drp7, .ref drp8, .ref drp9, .ref drp10])), (drp3, aI cs 24 f_drp3)] := hD
  have er_25 := hw_24
  subst er_25
  refine lv_iadd hx hb dX6_deadBytes_16 ?_
  refine tpi (y := 0) (by decide) ?_
  refine lv_istore_n (lv' := [(1, .int 0), (2, .int 4), (0, .ref drp)]) hx hb dX6_deadBytes_17 rfl hl (by decide) rfl (fun ls hl => ?_)
  refine lv_iinc (v := 5) (lv' := [(2, .int 5), (1, .int 0), (0, .ref drp)]) hx hb dX6_deadBytes_18 hl (k := 1) rfl (by decide) (by decide) rfl (fun ls hl => ?_)
  refine lv_goto (tgt := 4) hx hb dX6_deadBytes_21 (by decide) ?_
  refine lv_iload_n hx hb dX6_deadBytes_4 rfl (lv_at hl 0 rfl) ?_
  refine lv_bipush (v := 24) hx hb dX6_deadBytes_5 (by decide) ?_
  refine lv_icmp_ge (tgt := 24) hx hb dX6_deadBytes_7 (by decide) (fun c_26 => absurd c_26 (by decide)) (fun c_26 => ?_)
  refine lv_iload_n hx hb dX6_deadBytes_10 rfl (lv_at hl 1 rfl) ?_
  refine lv_aload_n hx hb dX6_deadBytes_11 rfl (lv_at hl 2 rfl) ?_
  refine lv_iload_n hx hb dX6_deadBytes_12 rfl (lv_at hl 0 rfl) ?_
  refine kV_i (ci := 6) (As := [.int 5]) (rest := [.int 0]) (wc := [(drp, .inr (6, [.int i1, .int i2, .int i3, .int i4, .int i5, .int i6, .int i7, .ref drp1, .ref drp2, .ref drp3, .ref drp4, .ref drp5, .ref drp6, .ref drp7, .ref drp8, .ref drp9, .ref drp10])), (drp3, aI cs 24 f_drp3)]) (wr := []) hx hb hml hown hu hK hP hD hS hA hl.1 (c_X6_deadOn l D cs H.size drp drp1 drp2 drp3 f_drp3 drp4 drp5 drp6 drp7 drp8 drp9 drp10 i1 i2 i3 i4 i5 i6 i7 5 z_f_drp3) (gV u_457 u_458 u_459 u_72 u_460) hd_X6_deadOn ⟨(Nat.le_of_ble_eq_true rfl), (Nat.le_of_ble_eq_true rfl)⟩ [0, 1] [] rfl rfl rfl rfl (by decide) rfl 0 rfl rfl rfl (Nat.le_of_ble_eq_true rfl) dX6_deadBytes_13 ⟨(Nat.le_of_ble_eq_true rfl), (Nat.le_of_ble_eq_true rfl)⟩ (fun r_27 ut_28 H locs hw_29 hP hD hS => ?_)
  have hP : va_P D vwCl [(drp, .inr (6, [.int i1, .int i2, .int i3, .int i4, .int i5, .int i6, .int i7, .ref drp1, .ref drp2, .ref drp3, .ref drp4, .ref drp5, .ref drp6, .ref drp7, .ref drp8, .ref drp9, .ref drp10])), (drp3, aI cs 24 f_drp3)] H := hP
  have hD : va_D A [(drp, .inr (6, [.int i1, .int i2, .int i3, .int i4, .int i5, .int i6, .int i7, .ref drp1, .ref drp2, .ref drp3, .ref drp4, .ref drp5, .ref drp6, .ref drp7, .ref drp8, .ref drp9, .ref drp10])), (drp3, aI cs 24 f_drp3)] := hD
  have er_30 := hw_29
  subst er_30
  refine lv_iadd hx hb dX6_deadBytes_16 ?_
  refine tpi (y := 0) (by decide) ?_
  refine lv_istore_n (lv' := [(1, .int 0), (2, .int 5), (0, .ref drp)]) hx hb dX6_deadBytes_17 rfl hl (by decide) rfl (fun ls hl => ?_)
  refine lv_iinc (v := 6) (lv' := [(2, .int 6), (1, .int 0), (0, .ref drp)]) hx hb dX6_deadBytes_18 hl (k := 1) rfl (by decide) (by decide) rfl (fun ls hl => ?_)
  refine lv_goto (tgt := 4) hx hb dX6_deadBytes_21 (by decide) ?_
  refine lv_iload_n hx hb dX6_deadBytes_4 rfl (lv_at hl 0 rfl) ?_
  refine lv_bipush (v := 24) hx hb dX6_deadBytes_5 (by decide) ?_
  refine lv_icmp_ge (tgt := 24) hx hb dX6_deadBytes_7 (by decide) (fun c_31 => absurd c_31 (by decide)) (fun c_31 => ?_)
  refine lv_iload_n hx hb dX6_deadBytes_10 rfl (lv_at hl 1 rfl) ?_
  refine lv_aload_n hx hb dX6_deadBytes_11 rfl (lv_at hl 2 rfl) ?_
  refine lv_iload_n hx hb dX6_deadBytes_12 rfl (lv_at hl 0 rfl) ?_
  refine kV_i (ci := 6) (As := [.int 6]) (rest := [.int 0]) (wc := [(drp, .inr (6, [.int i1, .int i2, .int i3, .int i4, .int i5, .int i6, .int i7, .ref drp1, .ref drp2, .ref drp3, .ref drp4, .ref drp5, .ref drp6, .ref drp7, .ref drp8, .ref drp9, .ref drp10])), (drp3, aI cs 24 f_drp3)]) (wr := []) hx hb hml hown hu hK hP hD hS hA hl.1 (c_X6_deadOn l D cs H.size drp drp1 drp2 drp3 f_drp3 drp4 drp5 drp6 drp7 drp8 drp9 drp10 i1 i2 i3 i4 i5 i6 i7 6 z_f_drp3) (gV u_457 u_458 u_459 u_72 u_460) hd_X6_deadOn ⟨(Nat.le_of_ble_eq_true rfl), (Nat.le_of_ble_eq_true rfl)⟩ [0, 1] [] rfl rfl rfl rfl (by decide) rfl 0 rfl rfl rfl (Nat.le_of_ble_eq_true rfl) dX6_deadBytes_13 ⟨(Nat.le_of_ble_eq_true rfl), (Nat.le_of_ble_eq_true rfl)⟩ (fun r_32 ut_33 H locs hw_34 hP hD hS => ?_)
  have hP : va_P D vwCl [(drp, .inr (6, [.int i1, .int i2, .int i3, .int i4, .int i5, .int i6, .int i7, .ref drp1, .ref drp2, .ref drp3, .ref drp4, .ref drp5, .ref drp6, .ref drp7, .ref drp8, .ref drp9, .ref drp10])), (drp3, aI cs 24 f_drp3)] H := hP
  have hD : va_D A [(drp, .inr (6, [.int i1, .int i2, .int i3, .int i4, .int i5, .int i6, .int i7, .ref drp1, .ref drp2, .ref drp3, .ref drp4, .ref drp5, .ref drp6, .ref drp7, .ref drp8, .ref drp9, .ref drp10])), (drp3, aI cs 24 f_drp3)] := hD
  have er_35 := hw_34
  subst er_35
  refine lv_iadd hx hb dX6_deadBytes_16 ?_
  refine tpi (y := 0) (by decide) ?_
  refine lv_istore_n (lv' := [(1, .int 0), (2, .int 6), (0, .ref drp)]) hx hb dX6_deadBytes_17 rfl hl (by decide) rfl (fun ls hl => ?_)
  refine lv_iinc (v := 7) (lv' := [(2, .int 7), (1, .int 0), (0, .ref drp)]) hx hb dX6_deadBytes_18 hl (k := 1) rfl (by decide) (by decide) rfl (fun ls hl => ?_)
  refine lv_goto (tgt := 4) hx hb dX6_deadBytes_21 (by decide) ?_
  refine lv_iload_n hx hb dX6_deadBytes_4 rfl (lv_at hl 0 rfl) ?_
  refine lv_bipush (v := 24) hx hb dX6_deadBytes_5 (by decide) ?_
  refine lv_icmp_ge (tgt := 24) hx hb dX6_deadBytes_7 (by decide) (fun c_36 => absurd c_36 (by decide)) (fun c_36 => ?_)
  refine lv_iload_n hx hb dX6_deadBytes_10 rfl (lv_at hl 1 rfl) ?_
  refine lv_aload_n hx hb dX6_deadBytes_11 rfl (lv_at hl 2 rfl) ?_
  refine lv_iload_n hx hb dX6_deadBytes_12 rfl (lv_at hl 0 rfl) ?_
  refine kV_i (ci := 6) (As := [.int 7]) (rest := [.int 0]) (wc := [(drp, .inr (6, [.int i1, .int i2, .int i3, .int i4, .int i5, .int i6, .int i7, .ref drp1, .ref drp2, .ref drp3, .ref drp4, .ref drp5, .ref drp6, .ref drp7, .ref drp8, .ref drp9, .ref drp10])), (drp3, aI cs 24 f_drp3)]) (wr := []) hx hb hml hown hu hK hP hD hS hA hl.1 (c_X6_deadOn l D cs H.size drp drp1 drp2 drp3 f_drp3 drp4 drp5 drp6 drp7 drp8 drp9 drp10 i1 i2 i3 i4 i5 i6 i7 7 z_f_drp3) (gV u_457 u_458 u_459 u_72 u_460) hd_X6_deadOn ⟨(Nat.le_of_ble_eq_true rfl), (Nat.le_of_ble_eq_true rfl)⟩ [0, 1] [] rfl rfl rfl rfl (by decide) rfl 0 rfl rfl rfl (Nat.le_of_ble_eq_true rfl) dX6_deadBytes_13 ⟨(Nat.le_of_ble_eq_true rfl), (Nat.le_of_ble_eq_true rfl)⟩ (fun r_37 ut_38 H locs hw_39 hP hD hS => ?_)
  have hP : va_P D vwCl [(drp, .inr (6, [.int i1, .int i2, .int i3, .int i4, .int i5, .int i6, .int i7, .ref drp1, .ref drp2, .ref drp3, .ref drp4, .ref drp5, .ref drp6, .ref drp7, .ref drp8, .ref drp9, .ref drp10])), (drp3, aI cs 24 f_drp3)] H := hP
  have hD : va_D A [(drp, .inr (6, [.int i1, .int i2, .int i3, .int i4, .int i5, .int i6, .int i7, .ref drp1, .ref drp2, .ref drp3, .ref drp4, .ref drp5, .ref drp6, .ref drp7, .ref drp8, .ref drp9, .ref drp10])), (drp3, aI cs 24 f_drp3)] := hD
  have er_40 := hw_39
  subst er_40
  refine lv_iadd hx hb dX6_deadBytes_16 ?_
  refine tpi (y := 0) (by decide) ?_
  refine lv_istore_n (lv' := [(1, .int 0), (2, .int 7), (0, .ref drp)]) hx hb dX6_deadBytes_17 rfl hl (by decide) rfl (fun ls hl => ?_)
  refine lv_iinc (v := 8) (lv' := [(2, .int 8), (1, .int 0), (0, .ref drp)]) hx hb dX6_deadBytes_18 hl (k := 1) rfl (by decide) (by decide) rfl (fun ls hl => ?_)
  refine lv_goto (tgt := 4) hx hb dX6_deadBytes_21 (by decide) ?_
  refine lv_iload_n hx hb dX6_deadBytes_4 rfl (lv_at hl 0 rfl) ?_
  refine lv_bipush (v := 24) hx hb dX6_deadBytes_5 (by decide) ?_
  refine lv_icmp_ge (tgt := 24) hx hb dX6_deadBytes_7 (by decide) (fun c_41 => absurd c_41 (by decide)) (fun c_41 => ?_)
  refine lv_iload_n hx hb dX6_deadBytes_10 rfl (lv_at hl 1 rfl) ?_
  refine lv_aload_n hx hb dX6_deadBytes_11 rfl (lv_at hl 2 rfl) ?_
  refine lv_iload_n hx hb dX6_deadBytes_12 rfl (lv_at hl 0 rfl) ?_
  refine kV_i (ci := 6) (As := [.int 8]) (rest := [.int 0]) (wc := [(drp, .inr (6, [.int i1, .int i2, .int i3, .int i4, .int i5, .int i6, .int i7, .ref drp1, .ref drp2, .ref drp3, .ref drp4, .ref drp5, .ref drp6, .ref drp7, .ref drp8, .ref drp9, .ref drp10])), (drp3, aI cs 24 f_drp3)]) (wr := []) hx hb hml hown hu hK hP hD hS hA hl.1 (c_X6_deadOn l D cs H.size drp drp1 drp2 drp3 f_drp3 drp4 drp5 drp6 drp7 drp8 drp9 drp10 i1 i2 i3 i4 i5 i6 i7 8 z_f_drp3) (gV u_457 u_458 u_459 u_72 u_460) hd_X6_deadOn ⟨(Nat.le_of_ble_eq_true rfl), (Nat.le_of_ble_eq_true rfl)⟩ [0, 1] [] rfl rfl rfl rfl (by decide) rfl 0 rfl rfl rfl (Nat.le_of_ble_eq_true rfl) dX6_deadBytes_13 ⟨(Nat.le_of_ble_eq_true rfl), (Nat.le_of_ble_eq_true rfl)⟩ (fun r_42 ut_43 H locs hw_44 hP hD hS => ?_)
  have hP : va_P D vwCl [(drp, .inr (6, [.int i1, .int i2, .int i3, .int i4, .int i5, .int i6, .int i7, .ref drp1, .ref drp2, .ref drp3, .ref drp4, .ref drp5, .ref drp6, .ref drp7, .ref drp8, .ref drp9, .ref drp10])), (drp3, aI cs 24 f_drp3)] H := hP
  have hD : va_D A [(drp, .inr (6, [.int i1, .int i2, .int i3, .int i4, .int i5, .int i6, .int i7, .ref drp1, .ref drp2, .ref drp3, .ref drp4, .ref drp5, .ref drp6, .ref drp7, .ref drp8, .ref drp9, .ref drp10])), (drp3, aI cs 24 f_drp3)] := hD
  have er_45 := hw_44
  subst er_45
  refine lv_iadd hx hb dX6_deadBytes_16 ?_
  refine tpi (y := 0) (by decide) ?_
  refine lv_istore_n (lv' := [(1, .int 0), (2, .int 8), (0, .ref drp)]) hx hb dX6_deadBytes_17 rfl hl (by decide) rfl (fun ls hl => ?_)
  refine lv_iinc (v := 9) (lv' := [(2, .int 9), (1, .int 0), (0, .ref drp)]) hx hb dX6_deadBytes_18 hl (k := 1) rfl (by decide) (by decide) rfl (fun ls hl => ?_)
  refine lv_goto (tgt := 4) hx hb dX6_deadBytes_21 (by decide) ?_
  refine lv_iload_n hx hb dX6_deadBytes_4 rfl (lv_at hl 0 rfl) ?_
  refine lv_bipush (v := 24) hx hb dX6_deadBytes_5 (by decide) ?_
  refine lv_icmp_ge (tgt := 24) hx hb dX6_deadBytes_7 (by decide) (fun c_46 => absurd c_46 (by decide)) (fun c_46 => ?_)
  refine lv_iload_n hx hb dX6_deadBytes_10 rfl (lv_at hl 1 rfl) ?_
  refine lv_aload_n hx hb dX6_deadBytes_11 rfl (lv_at hl 2 rfl) ?_
  refine lv_iload_n hx hb dX6_deadBytes_12 rfl (lv_at hl 0 rfl) ?_
  refine kV_i (ci := 6) (As := [.int 9]) (rest := [.int 0]) (wc := [(drp, .inr (6, [.int i1, .int i2, .int i3, .int i4, .int i5, .int i6, .int i7, .ref drp1, .ref drp2, .ref drp3, .ref drp4, .ref drp5, .ref drp6, .ref drp7, .ref drp8, .ref drp9, .ref drp10])), (drp3, aI cs 24 f_drp3)]) (wr := []) hx hb hml hown hu hK hP hD hS hA hl.1 (c_X6_deadOn l D cs H.size drp drp1 drp2 drp3 f_drp3 drp4 drp5 drp6 drp7 drp8 drp9 drp10 i1 i2 i3 i4 i5 i6 i7 9 z_f_drp3) (gV u_457 u_458 u_459 u_72 u_460) hd_X6_deadOn ⟨(Nat.le_of_ble_eq_true rfl), (Nat.le_of_ble_eq_true rfl)⟩ [0, 1] [] rfl rfl rfl rfl (by decide) rfl 0 rfl rfl rfl (Nat.le_of_ble_eq_true rfl) dX6_deadBytes_13 ⟨(Nat.le_of_ble_eq_true rfl), (Nat.le_of_ble_eq_true rfl)⟩ (fun r_47 ut_48 H locs hw_49 hP hD hS => ?_)
  have hP : va_P D vwCl [(drp, .inr (6, [.int i1, .int i2, .int i3, .int i4, .int i5, .int i6, .int i7, .ref drp1, .ref drp2, .ref drp3, .ref drp4, .ref drp5, .ref drp6, .ref drp7, .ref drp8, .ref drp9, .ref drp10])), (drp3, aI cs 24 f_drp3)] H := hP
  have hD : va_D A [(drp, .inr (6, [.int i1, .int i2, .int i3, .int i4, .int i5, .int i6, .int i7, .ref drp1, .ref drp2, .ref drp3, .ref drp4, .ref drp5, .ref drp6, .ref drp7, .ref drp8, .ref drp9, .ref drp10])), (drp3, aI cs 24 f_drp3)] := hD
  have er_50 := hw_49
  subst er_50
  refine lv_iadd hx hb dX6_deadBytes_16 ?_
  refine tpi (y := 0) (by decide) ?_
  refine lv_istore_n (lv' := [(1, .int 0), (2, .int 9), (0, .ref drp)]) hx hb dX6_deadBytes_17 rfl hl (by decide) rfl (fun ls hl => ?_)
  refine lv_iinc (v := 10) (lv' := [(2, .int 10), (1, .int 0), (0, .ref drp)]) hx hb dX6_deadBytes_18 hl (k := 1) rfl (by decide) (by decide) rfl (fun ls hl => ?_)
  refine lv_goto (tgt := 4) hx hb dX6_deadBytes_21 (by decide) ?_
  refine lv_iload_n hx hb dX6_deadBytes_4 rfl (lv_at hl 0 rfl) ?_
  refine lv_bipush (v := 24) hx hb dX6_deadBytes_5 (by decide) ?_
  refine lv_icmp_ge (tgt := 24) hx hb dX6_deadBytes_7 (by decide) (fun c_51 => absurd c_51 (by decide)) (fun c_51 => ?_)
  refine lv_iload_n hx hb dX6_deadBytes_10 rfl (lv_at hl 1 rfl) ?_
  refine lv_aload_n hx hb dX6_deadBytes_11 rfl (lv_at hl 2 rfl) ?_
  refine lv_iload_n hx hb dX6_deadBytes_12 rfl (lv_at hl 0 rfl) ?_
  refine kV_i (ci := 6) (As := [.int 10]) (rest := [.int 0]) (wc := [(drp, .inr (6, [.int i1, .int i2, .int i3, .int i4, .int i5, .int i6, .int i7, .ref drp1, .ref drp2, .ref drp3, .ref drp4, .ref drp5, .ref drp6, .ref drp7, .ref drp8, .ref drp9, .ref drp10])), (drp3, aI cs 24 f_drp3)]) (wr := []) hx hb hml hown hu hK hP hD hS hA hl.1 (c_X6_deadOn l D cs H.size drp drp1 drp2 drp3 f_drp3 drp4 drp5 drp6 drp7 drp8 drp9 drp10 i1 i2 i3 i4 i5 i6 i7 10 z_f_drp3) (gV u_457 u_458 u_459 u_72 u_460) hd_X6_deadOn ⟨(Nat.le_of_ble_eq_true rfl), (Nat.le_of_ble_eq_true rfl)⟩ [0, 1] [] rfl rfl rfl rfl (by decide) rfl 0 rfl rfl rfl (Nat.le_of_ble_eq_true rfl) dX6_deadBytes_13 ⟨(Nat.le_of_ble_eq_true rfl), (Nat.le_of_ble_eq_true rfl)⟩ (fun r_52 ut_53 H locs hw_54 hP hD hS => ?_)
  have hP : va_P D vwCl [(drp, .inr (6, [.int i1, .int i2, .int i3, .int i4, .int i5, .int i6, .int i7, .ref drp1, .ref drp2, .ref drp3, .ref drp4, .ref drp5, .ref drp6, .ref drp7, .ref drp8, .ref drp9, .ref drp10])), (drp3, aI cs 24 f_drp3)] H := hP
  have hD : va_D A [(drp, .inr (6, [.int i1, .int i2, .int i3, .int i4, .int i5, .int i6, .int i7, .ref drp1, .ref drp2, .ref drp3, .ref drp4, .ref drp5, .ref drp6, .ref drp7, .ref drp8, .ref drp9, .ref drp10])), (drp3, aI cs 24 f_drp3)] := hD
  have er_55 := hw_54
  subst er_55
  refine lv_iadd hx hb dX6_deadBytes_16 ?_
  refine tpi (y := 0) (by decide) ?_
  refine lv_istore_n (lv' := [(1, .int 0), (2, .int 10), (0, .ref drp)]) hx hb dX6_deadBytes_17 rfl hl (by decide) rfl (fun ls hl => ?_)
  refine lv_iinc (v := 11) (lv' := [(2, .int 11), (1, .int 0), (0, .ref drp)]) hx hb dX6_deadBytes_18 hl (k := 1) rfl (by decide) (by decide) rfl (fun ls hl => ?_)
  refine lv_goto (tgt := 4) hx hb dX6_deadBytes_21 (by decide) ?_
  refine lv_iload_n hx hb dX6_deadBytes_4 rfl (lv_at hl 0 rfl) ?_
  refine lv_bipush (v := 24) hx hb dX6_deadBytes_5 (by decide) ?_
  refine lv_icmp_ge (tgt := 24) hx hb dX6_deadBytes_7 (by decide) (fun c_56 => absurd c_56 (by decide)) (fun c_56 => ?_)
  refine lv_iload_n hx hb dX6_deadBytes_10 rfl (lv_at hl 1 rfl) ?_
  refine lv_aload_n hx hb dX6_deadBytes_11 rfl (lv_at hl 2 rfl) ?_
  refine lv_iload_n hx hb dX6_deadBytes_12 rfl (lv_at hl 0 rfl) ?_
  refine kV_i (ci := 6) (As := [.int 11]) (rest := [.int 0]) (wc := [(drp, .inr (6, [.int i1, .int i2, .int i3, .int i4, .int i5, .int i6, .int i7, .ref drp1, .ref drp2, .ref drp3, .ref drp4, .ref drp5, .ref drp6, .ref drp7, .ref drp8, .ref drp9, .ref drp10])), (drp3, aI cs 24 f_drp3)]) (wr := []) hx hb hml hown hu hK hP hD hS hA hl.1 (c_X6_deadOn l D cs H.size drp drp1 drp2 drp3 f_drp3 drp4 drp5 drp6 drp7 drp8 drp9 drp10 i1 i2 i3 i4 i5 i6 i7 11 z_f_drp3) (gV u_457 u_458 u_459 u_72 u_460) hd_X6_deadOn ⟨(Nat.le_of_ble_eq_true rfl), (Nat.le_of_ble_eq_true rfl)⟩ [0, 1] [] rfl rfl rfl rfl (by decide) rfl 0 rfl rfl rfl (Nat.le_of_ble_eq_true rfl) dX6_deadBytes_13 ⟨(Nat.le_of_ble_eq_true rfl), (Nat.le_of_ble_eq_true rfl)⟩ (fun r_57 ut_58 H locs hw_59 hP hD hS => ?_)
  have hP : va_P D vwCl [(drp, .inr (6, [.int i1, .int i2, .int i3, .int i4, .int i5, .int i6, .int i7, .ref drp1, .ref drp2, .ref drp3, .ref drp4, .ref drp5, .ref drp6, .ref drp7, .ref drp8, .ref drp9, .ref drp10])), (drp3, aI cs 24 f_drp3)] H := hP
  have hD : va_D A [(drp, .inr (6, [.int i1, .int i2, .int i3, .int i4, .int i5, .int i6, .int i7, .ref drp1, .ref drp2, .ref drp3, .ref drp4, .ref drp5, .ref drp6, .ref drp7, .ref drp8, .ref drp9, .ref drp10])), (drp3, aI cs 24 f_drp3)] := hD
  have er_60 := hw_59
  subst er_60
  refine lv_iadd hx hb dX6_deadBytes_16 ?_
  refine tpi (y := 0) (by decide) ?_
  refine lv_istore_n (lv' := [(1, .int 0), (2, .int 11), (0, .ref drp)]) hx hb dX6_deadBytes_17 rfl hl (by decide) rfl (fun ls hl => ?_)
  refine lv_iinc (v := 12) (lv' := [(2, .int 12), (1, .int 0), (0, .ref drp)]) hx hb dX6_deadBytes_18 hl (k := 1) rfl (by decide) (by decide) rfl (fun ls hl => ?_)
  refine lv_goto (tgt := 4) hx hb dX6_deadBytes_21 (by decide) ?_
  refine lv_iload_n hx hb dX6_deadBytes_4 rfl (lv_at hl 0 rfl) ?_
  refine lv_bipush (v := 24) hx hb dX6_deadBytes_5 (by decide) ?_
  refine lv_icmp_ge (tgt := 24) hx hb dX6_deadBytes_7 (by decide) (fun c_61 => absurd c_61 (by decide)) (fun c_61 => ?_)
  refine lv_iload_n hx hb dX6_deadBytes_10 rfl (lv_at hl 1 rfl) ?_
  refine lv_aload_n hx hb dX6_deadBytes_11 rfl (lv_at hl 2 rfl) ?_
  refine lv_iload_n hx hb dX6_deadBytes_12 rfl (lv_at hl 0 rfl) ?_
  refine kV_i (ci := 6) (As := [.int 12]) (rest := [.int 0]) (wc := [(drp, .inr (6, [.int i1, .int i2, .int i3, .int i4, .int i5, .int i6, .int i7, .ref drp1, .ref drp2, .ref drp3, .ref drp4, .ref drp5, .ref drp6, .ref drp7, .ref drp8, .ref drp9, .ref drp10])), (drp3, aI cs 24 f_drp3)]) (wr := []) hx hb hml hown hu hK hP hD hS hA hl.1 (c_X6_deadOn l D cs H.size drp drp1 drp2 drp3 f_drp3 drp4 drp5 drp6 drp7 drp8 drp9 drp10 i1 i2 i3 i4 i5 i6 i7 12 z_f_drp3) (gV u_457 u_458 u_459 u_72 u_460) hd_X6_deadOn ⟨(Nat.le_of_ble_eq_true rfl), (Nat.le_of_ble_eq_true rfl)⟩ [0, 1] [] rfl rfl rfl rfl (by decide) rfl 0 rfl rfl rfl (Nat.le_of_ble_eq_true rfl) dX6_deadBytes_13 ⟨(Nat.le_of_ble_eq_true rfl), (Nat.le_of_ble_eq_true rfl)⟩ (fun r_62 ut_63 H locs hw_64 hP hD hS => ?_)
  have hP : va_P D vwCl [(drp, .inr (6, [.int i1, .int i2, .int i3, .int i4, .int i5, .int i6, .int i7, .ref drp1, .ref drp2, .ref drp3, .ref drp4, .ref drp5, .ref drp6, .ref drp7, .ref drp8, .ref drp9, .ref drp10])), (drp3, aI cs 24 f_drp3)] H := hP
  have hD : va_D A [(drp, .inr (6, [.int i1, .int i2, .int i3, .int i4, .int i5, .int i6, .int i7, .ref drp1, .ref drp2, .ref drp3, .ref drp4, .ref drp5, .ref drp6, .ref drp7, .ref drp8, .ref drp9, .ref drp10])), (drp3, aI cs 24 f_drp3)] := hD
  have er_65 := hw_64
  subst er_65
  refine lv_iadd hx hb dX6_deadBytes_16 ?_
  refine tpi (y := 0) (by decide) ?_
  refine lv_istore_n (lv' := [(1, .int 0), (2, .int 12), (0, .ref drp)]) hx hb dX6_deadBytes_17 rfl hl (by decide) rfl (fun ls hl => ?_)
  refine lv_iinc (v := 13) (lv' := [(2, .int 13), (1, .int 0), (0, .ref drp)]) hx hb dX6_deadBytes_18 hl (k := 1) rfl (by decide) (by decide) rfl (fun ls hl => ?_)
  refine lv_goto (tgt := 4) hx hb dX6_deadBytes_21 (by decide) ?_
  refine lv_iload_n hx hb dX6_deadBytes_4 rfl (lv_at hl 0 rfl) ?_
  refine lv_bipush (v := 24) hx hb dX6_deadBytes_5 (by decide) ?_
  refine lv_icmp_ge (tgt := 24) hx hb dX6_deadBytes_7 (by decide) (fun c_66 => absurd c_66 (by decide)) (fun c_66 => ?_)
  refine lv_iload_n hx hb dX6_deadBytes_10 rfl (lv_at hl 1 rfl) ?_
  refine lv_aload_n hx hb dX6_deadBytes_11 rfl (lv_at hl 2 rfl) ?_
  refine lv_iload_n hx hb dX6_deadBytes_12 rfl (lv_at hl 0 rfl) ?_
  refine kV_i (ci := 6) (As := [.int 13]) (rest := [.int 0]) (wc := [(drp, .inr (6, [.int i1, .int i2, .int i3, .int i4, .int i5, .int i6, .int i7, .ref drp1, .ref drp2, .ref drp3, .ref drp4, .ref drp5, .ref drp6, .ref drp7, .ref drp8, .ref drp9, .ref drp10])), (drp3, aI cs 24 f_drp3)]) (wr := []) hx hb hml hown hu hK hP hD hS hA hl.1 (c_X6_deadOn l D cs H.size drp drp1 drp2 drp3 f_drp3 drp4 drp5 drp6 drp7 drp8 drp9 drp10 i1 i2 i3 i4 i5 i6 i7 13 z_f_drp3) (gV u_457 u_458 u_459 u_72 u_460) hd_X6_deadOn ⟨(Nat.le_of_ble_eq_true rfl), (Nat.le_of_ble_eq_true rfl)⟩ [0, 1] [] rfl rfl rfl rfl (by decide) rfl 0 rfl rfl rfl (Nat.le_of_ble_eq_true rfl) dX6_deadBytes_13 ⟨(Nat.le_of_ble_eq_true rfl), (Nat.le_of_ble_eq_true rfl)⟩ (fun r_67 ut_68 H locs hw_69 hP hD hS => ?_)
  have hP : va_P D vwCl [(drp, .inr (6, [.int i1, .int i2, .int i3, .int i4, .int i5, .int i6, .int i7, .ref drp1, .ref drp2, .ref drp3, .ref drp4, .ref drp5, .ref drp6, .ref drp7, .ref drp8, .ref drp9, .ref drp10])), (drp3, aI cs 24 f_drp3)] H := hP
  have hD : va_D A [(drp, .inr (6, [.int i1, .int i2, .int i3, .int i4, .int i5, .int i6, .int i7, .ref drp1, .ref drp2, .ref drp3, .ref drp4, .ref drp5, .ref drp6, .ref drp7, .ref drp8, .ref drp9, .ref drp10])), (drp3, aI cs 24 f_drp3)] := hD
  have er_70 := hw_69
  subst er_70
  refine lv_iadd hx hb dX6_deadBytes_16 ?_
  refine tpi (y := 0) (by decide) ?_
  refine lv_istore_n (lv' := [(1, .int 0), (2, .int 13), (0, .ref drp)]) hx hb dX6_deadBytes_17 rfl hl (by decide) rfl (fun ls hl => ?_)
  refine lv_iinc (v := 14) (lv' := [(2, .int 14), (1, .int 0), (0, .ref drp)]) hx hb dX6_deadBytes_18 hl (k := 1) rfl (by decide) (by decide) rfl (fun ls hl => ?_)
  refine lv_goto (tgt := 4) hx hb dX6_deadBytes_21 (by decide) ?_
  refine lv_iload_n hx hb dX6_deadBytes_4 rfl (lv_at hl 0 rfl) ?_
  refine lv_bipush (v := 24) hx hb dX6_deadBytes_5 (by decide) ?_
  refine lv_icmp_ge (tgt := 24) hx hb dX6_deadBytes_7 (by decide) (fun c_71 => absurd c_71 (by decide)) (fun c_71 => ?_)
  refine lv_iload_n hx hb dX6_deadBytes_10 rfl (lv_at hl 1 rfl) ?_
  refine lv_aload_n hx hb dX6_deadBytes_11 rfl (lv_at hl 2 rfl) ?_
  refine lv_iload_n hx hb dX6_deadBytes_12 rfl (lv_at hl 0 rfl) ?_
  refine kV_i (ci := 6) (As := [.int 14]) (rest := [.int 0]) (wc := [(drp, .inr (6, [.int i1, .int i2, .int i3, .int i4, .int i5, .int i6, .int i7, .ref drp1, .ref drp2, .ref drp3, .ref drp4, .ref drp5, .ref drp6, .ref drp7, .ref drp8, .ref drp9, .ref drp10])), (drp3, aI cs 24 f_drp3)]) (wr := []) hx hb hml hown hu hK hP hD hS hA hl.1 (c_X6_deadOn l D cs H.size drp drp1 drp2 drp3 f_drp3 drp4 drp5 drp6 drp7 drp8 drp9 drp10 i1 i2 i3 i4 i5 i6 i7 14 z_f_drp3) (gV u_457 u_458 u_459 u_72 u_460) hd_X6_deadOn ⟨(Nat.le_of_ble_eq_true rfl), (Nat.le_of_ble_eq_true rfl)⟩ [0, 1] [] rfl rfl rfl rfl (by decide) rfl 0 rfl rfl rfl (Nat.le_of_ble_eq_true rfl) dX6_deadBytes_13 ⟨(Nat.le_of_ble_eq_true rfl), (Nat.le_of_ble_eq_true rfl)⟩ (fun r_72 ut_73 H locs hw_74 hP hD hS => ?_)
  have hP : va_P D vwCl [(drp, .inr (6, [.int i1, .int i2, .int i3, .int i4, .int i5, .int i6, .int i7, .ref drp1, .ref drp2, .ref drp3, .ref drp4, .ref drp5, .ref drp6, .ref drp7, .ref drp8, .ref drp9, .ref drp10])), (drp3, aI cs 24 f_drp3)] H := hP
  have hD : va_D A [(drp, .inr (6, [.int i1, .int i2, .int i3, .int i4, .int i5, .int i6, .int i7, .ref drp1, .ref drp2, .ref drp3, .ref drp4, .ref drp5, .ref drp6, .ref drp7, .ref drp8, .ref drp9, .ref drp10])), (drp3, aI cs 24 f_drp3)] := hD
  have er_75 := hw_74
  subst er_75
  refine lv_iadd hx hb dX6_deadBytes_16 ?_
  refine tpi (y := 0) (by decide) ?_
  refine lv_istore_n (lv' := [(1, .int 0), (2, .int 14), (0, .ref drp)]) hx hb dX6_deadBytes_17 rfl hl (by decide) rfl (fun ls hl => ?_)
  refine lv_iinc (v := 15) (lv' := [(2, .int 15), (1, .int 0), (0, .ref drp)]) hx hb dX6_deadBytes_18 hl (k := 1) rfl (by decide) (by decide) rfl (fun ls hl => ?_)
  refine lv_goto (tgt := 4) hx hb dX6_deadBytes_21 (by decide) ?_
  refine lv_iload_n hx hb dX6_deadBytes_4 rfl (lv_at hl 0 rfl) ?_
  refine lv_bipush (v := 24) hx hb dX6_deadBytes_5 (by decide) ?_
  refine lv_icmp_ge (tgt := 24) hx hb dX6_deadBytes_7 (by decide) (fun c_76 => absurd c_76 (by decide)) (fun c_76 => ?_)
  refine lv_iload_n hx hb dX6_deadBytes_10 rfl (lv_at hl 1 rfl) ?_
  refine lv_aload_n hx hb dX6_deadBytes_11 rfl (lv_at hl 2 rfl) ?_
  refine lv_iload_n hx hb dX6_deadBytes_12 rfl (lv_at hl 0 rfl) ?_
  refine kV_i (ci := 6) (As := [.int 15]) (rest := [.int 0]) (wc := [(drp, .inr (6, [.int i1, .int i2, .int i3, .int i4, .int i5, .int i6, .int i7, .ref drp1, .ref drp2, .ref drp3, .ref drp4, .ref drp5, .ref drp6, .ref drp7, .ref drp8, .ref drp9, .ref drp10])), (drp3, aI cs 24 f_drp3)]) (wr := []) hx hb hml hown hu hK hP hD hS hA hl.1 (c_X6_deadOn l D cs H.size drp drp1 drp2 drp3 f_drp3 drp4 drp5 drp6 drp7 drp8 drp9 drp10 i1 i2 i3 i4 i5 i6 i7 15 z_f_drp3) (gV u_457 u_458 u_459 u_72 u_460) hd_X6_deadOn ⟨(Nat.le_of_ble_eq_true rfl), (Nat.le_of_ble_eq_true rfl)⟩ [0, 1] [] rfl rfl rfl rfl (by decide) rfl 0 rfl rfl rfl (Nat.le_of_ble_eq_true rfl) dX6_deadBytes_13 ⟨(Nat.le_of_ble_eq_true rfl), (Nat.le_of_ble_eq_true rfl)⟩ (fun r_77 ut_78 H locs hw_79 hP hD hS => ?_)
  have hP : va_P D vwCl [(drp, .inr (6, [.int i1, .int i2, .int i3, .int i4, .int i5, .int i6, .int i7, .ref drp1, .ref drp2, .ref drp3, .ref drp4, .ref drp5, .ref drp6, .ref drp7, .ref drp8, .ref drp9, .ref drp10])), (drp3, aI cs 24 f_drp3)] H := hP
  have hD : va_D A [(drp, .inr (6, [.int i1, .int i2, .int i3, .int i4, .int i5, .int i6, .int i7, .ref drp1, .ref drp2, .ref drp3, .ref drp4, .ref drp5, .ref drp6, .ref drp7, .ref drp8, .ref drp9, .ref drp10])), (drp3, aI cs 24 f_drp3)] := hD
  have er_80 := hw_79
  subst er_80
  refine lv_iadd hx hb dX6_deadBytes_16 ?_
  refine tpi (y := 0) (by decide) ?_
  refine lv_istore_n (lv' := [(1, .int 0), (2, .int 15), (0, .ref drp)]) hx hb dX6_deadBytes_17 rfl hl (by decide) rfl (fun ls hl => ?_)
  refine lv_iinc (v := 16) (lv' := [(2, .int 16), (1, .int 0), (0, .ref drp)]) hx hb dX6_deadBytes_18 hl (k := 1) rfl (by decide) (by decide) rfl (fun ls hl => ?_)
  refine lv_goto (tgt := 4) hx hb dX6_deadBytes_21 (by decide) ?_
  refine lv_iload_n hx hb dX6_deadBytes_4 rfl (lv_at hl 0 rfl) ?_
  refine lv_bipush (v := 24) hx hb dX6_deadBytes_5 (by decide) ?_
  refine lv_icmp_ge (tgt := 24) hx hb dX6_deadBytes_7 (by decide) (fun c_81 => absurd c_81 (by decide)) (fun c_81 => ?_)
  refine lv_iload_n hx hb dX6_deadBytes_10 rfl (lv_at hl 1 rfl) ?_
  refine lv_aload_n hx hb dX6_deadBytes_11 rfl (lv_at hl 2 rfl) ?_
  refine lv_iload_n hx hb dX6_deadBytes_12 rfl (lv_at hl 0 rfl) ?_
  refine kV_i (ci := 6) (As := [.int 16]) (rest := [.int 0]) (wc := [(drp, .inr (6, [.int i1, .int i2, .int i3, .int i4, .int i5, .int i6, .int i7, .ref drp1, .ref drp2, .ref drp3, .ref drp4, .ref drp5, .ref drp6, .ref drp7, .ref drp8, .ref drp9, .ref drp10])), (drp3, aI cs 24 f_drp3)]) (wr := []) hx hb hml hown hu hK hP hD hS hA hl.1 (c_X6_deadOn l D cs H.size drp drp1 drp2 drp3 f_drp3 drp4 drp5 drp6 drp7 drp8 drp9 drp10 i1 i2 i3 i4 i5 i6 i7 16 z_f_drp3) (gV u_457 u_458 u_459 u_72 u_460) hd_X6_deadOn ⟨(Nat.le_of_ble_eq_true rfl), (Nat.le_of_ble_eq_true rfl)⟩ [0, 1] [] rfl rfl rfl rfl (by decide) rfl 0 rfl rfl rfl (Nat.le_of_ble_eq_true rfl) dX6_deadBytes_13 ⟨(Nat.le_of_ble_eq_true rfl), (Nat.le_of_ble_eq_true rfl)⟩ (fun r_82 ut_83 H locs hw_84 hP hD hS => ?_)
  have hP : va_P D vwCl [(drp, .inr (6, [.int i1, .int i2, .int i3, .int i4, .int i5, .int i6, .int i7, .ref drp1, .ref drp2, .ref drp3, .ref drp4, .ref drp5, .ref drp6, .ref drp7, .ref drp8, .ref drp9, .ref drp10])), (drp3, aI cs 24 f_drp3)] H := hP
  have hD : va_D A [(drp, .inr (6, [.int i1, .int i2, .int i3, .int i4, .int i5, .int i6, .int i7, .ref drp1, .ref drp2, .ref drp3, .ref drp4, .ref drp5, .ref drp6, .ref drp7, .ref drp8, .ref drp9, .ref drp10])), (drp3, aI cs 24 f_drp3)] := hD
  have er_85 := hw_84
  subst er_85
  refine lv_iadd hx hb dX6_deadBytes_16 ?_
  refine tpi (y := 0) (by decide) ?_
  refine lv_istore_n (lv' := [(1, .int 0), (2, .int 16), (0, .ref drp)]) hx hb dX6_deadBytes_17 rfl hl (by decide) rfl (fun ls hl => ?_)
  refine lv_iinc (v := 17) (lv' := [(2, .int 17), (1, .int 0), (0, .ref drp)]) hx hb dX6_deadBytes_18 hl (k := 1) rfl (by decide) (by decide) rfl (fun ls hl => ?_)
  refine lv_goto (tgt := 4) hx hb dX6_deadBytes_21 (by decide) ?_
  refine lv_iload_n hx hb dX6_deadBytes_4 rfl (lv_at hl 0 rfl) ?_
  refine lv_bipush (v := 24) hx hb dX6_deadBytes_5 (by decide) ?_
  refine lv_icmp_ge (tgt := 24) hx hb dX6_deadBytes_7 (by decide) (fun c_86 => absurd c_86 (by decide)) (fun c_86 => ?_)
  refine lv_iload_n hx hb dX6_deadBytes_10 rfl (lv_at hl 1 rfl) ?_
  refine lv_aload_n hx hb dX6_deadBytes_11 rfl (lv_at hl 2 rfl) ?_
  refine lv_iload_n hx hb dX6_deadBytes_12 rfl (lv_at hl 0 rfl) ?_
  refine kV_i (ci := 6) (As := [.int 17]) (rest := [.int 0]) (wc := [(drp, .inr (6, [.int i1, .int i2, .int i3, .int i4, .int i5, .int i6, .int i7, .ref drp1, .ref drp2, .ref drp3, .ref drp4, .ref drp5, .ref drp6, .ref drp7, .ref drp8, .ref drp9, .ref drp10])), (drp3, aI cs 24 f_drp3)]) (wr := []) hx hb hml hown hu hK hP hD hS hA hl.1 (c_X6_deadOn l D cs H.size drp drp1 drp2 drp3 f_drp3 drp4 drp5 drp6 drp7 drp8 drp9 drp10 i1 i2 i3 i4 i5 i6 i7 17 z_f_drp3) (gV u_457 u_458 u_459 u_72 u_460) hd_X6_deadOn ⟨(Nat.le_of_ble_eq_true rfl), (Nat.le_of_ble_eq_true rfl)⟩ [0, 1] [] rfl rfl rfl rfl (by decide) rfl 0 rfl rfl rfl (Nat.le_of_ble_eq_true rfl) dX6_deadBytes_13 ⟨(Nat.le_of_ble_eq_true rfl), (Nat.le_of_ble_eq_true rfl)⟩ (fun r_87 ut_88 H locs hw_89 hP hD hS => ?_)
  have hP : va_P D vwCl [(drp, .inr (6, [.int i1, .int i2, .int i3, .int i4, .int i5, .int i6, .int i7, .ref drp1, .ref drp2, .ref drp3, .ref drp4, .ref drp5, .ref drp6, .ref drp7, .ref drp8, .ref drp9, .ref drp10])), (drp3, aI cs 24 f_drp3)] H := hP
  have hD : va_D A [(drp, .inr (6, [.int i1, .int i2, .int i3, .int i4, .int i5, .int i6, .int i7, .ref drp1, .ref drp2, .ref drp3, .ref drp4, .ref drp5, .ref drp6, .ref drp7, .ref drp8, .ref drp9, .ref drp10])), (drp3, aI cs 24 f_drp3)] := hD
  have er_90 := hw_89
  subst er_90
  refine lv_iadd hx hb dX6_deadBytes_16 ?_
  refine tpi (y := 0) (by decide) ?_
  refine lv_istore_n (lv' := [(1, .int 0), (2, .int 17), (0, .ref drp)]) hx hb dX6_deadBytes_17 rfl hl (by decide) rfl (fun ls hl => ?_)
  refine lv_iinc (v := 18) (lv' := [(2, .int 18), (1, .int 0), (0, .ref drp)]) hx hb dX6_deadBytes_18 hl (k := 1) rfl (by decide) (by decide) rfl (fun ls hl => ?_)
  refine lv_goto (tgt := 4) hx hb dX6_deadBytes_21 (by decide) ?_
  refine lv_iload_n hx hb dX6_deadBytes_4 rfl (lv_at hl 0 rfl) ?_
  refine lv_bipush (v := 24) hx hb dX6_deadBytes_5 (by decide) ?_
  refine lv_icmp_ge (tgt := 24) hx hb dX6_deadBytes_7 (by decide) (fun c_91 => absurd c_91 (by decide)) (fun c_91 => ?_)
  refine lv_iload_n hx hb dX6_deadBytes_10 rfl (lv_at hl 1 rfl) ?_
  refine lv_aload_n hx hb dX6_deadBytes_11 rfl (lv_at hl 2 rfl) ?_
  refine lv_iload_n hx hb dX6_deadBytes_12 rfl (lv_at hl 0 rfl) ?_
  refine kV_i (ci := 6) (As := [.int 18]) (rest := [.int 0]) (wc := [(drp, .inr (6, [.int i1, .int i2, .int i3, .int i4, .int i5, .int i6, .int i7, .ref drp1, .ref drp2, .ref drp3, .ref drp4, .ref drp5, .ref drp6, .ref drp7, .ref drp8, .ref drp9, .ref drp10])), (drp3, aI cs 24 f_drp3)]) (wr := []) hx hb hml hown hu hK hP hD hS hA hl.1 (c_X6_deadOn l D cs H.size drp drp1 drp2 drp3 f_drp3 drp4 drp5 drp6 drp7 drp8 drp9 drp10 i1 i2 i3 i4 i5 i6 i7 18 z_f_drp3) (gV u_457 u_458 u_459 u_72 u_460) hd_X6_deadOn ⟨(Nat.le_of_ble_eq_true rfl), (Nat.le_of_ble_eq_true rfl)⟩ [0, 1] [] rfl rfl rfl rfl (by decide) rfl 0 rfl rfl rfl (Nat.le_of_ble_eq_true rfl) dX6_deadBytes_13 ⟨(Nat.le_of_ble_eq_true rfl), (Nat.le_of_ble_eq_true rfl)⟩ (fun r_92 ut_93 H locs hw_94 hP hD hS => ?_)
  have hP : va_P D vwCl [(drp, .inr (6, [.int i1, .int i2, .int i3, .int i4, .int i5, .int i6, .int i7, .ref drp1, .ref drp2, .ref drp3, .ref drp4, .ref drp5, .ref drp6, .ref drp7, .ref drp8, .ref drp9, .ref drp10])), (drp3, aI cs 24 f_drp3)] H := hP
  have hD : va_D A [(drp, .inr (6, [.int i1, .int i2, .int i3, .int i4, .int i5, .int i6, .int i7, .ref drp1, .ref drp2, .ref drp3, .ref drp4, .ref drp5, .ref drp6, .ref drp7, .ref drp8, .ref drp9, .ref drp10])), (drp3, aI cs 24 f_drp3)] := hD
  have er_95 := hw_94
  subst er_95
  refine lv_iadd hx hb dX6_deadBytes_16 ?_
  refine tpi (y := 0) (by decide) ?_
  refine lv_istore_n (lv' := [(1, .int 0), (2, .int 18), (0, .ref drp)]) hx hb dX6_deadBytes_17 rfl hl (by decide) rfl (fun ls hl => ?_)
  refine lv_iinc (v := 19) (lv' := [(2, .int 19), (1, .int 0), (0, .ref drp)]) hx hb dX6_deadBytes_18 hl (k := 1) rfl (by decide) (by decide) rfl (fun ls hl => ?_)
  refine lv_goto (tgt := 4) hx hb dX6_deadBytes_21 (by decide) ?_
  refine lv_iload_n hx hb dX6_deadBytes_4 rfl (lv_at hl 0 rfl) ?_
  refine lv_bipush (v := 24) hx hb dX6_deadBytes_5 (by decide) ?_
  refine lv_icmp_ge (tgt := 24) hx hb dX6_deadBytes_7 (by decide) (fun c_96 => absurd c_96 (by decide)) (fun c_96 => ?_)
  refine lv_iload_n hx hb dX6_deadBytes_10 rfl (lv_at hl 1 rfl) ?_
  refine lv_aload_n hx hb dX6_deadBytes_11 rfl (lv_at hl 2 rfl) ?_
  refine lv_iload_n hx hb dX6_deadBytes_12 rfl (lv_at hl 0 rfl) ?_
  refine kV_i (ci := 6) (As := [.int 19]) (rest := [.int 0]) (wc := [(drp, .inr (6, [.int i1, .int i2, .int i3, .int i4, .int i5, .int i6, .int i7, .ref drp1, .ref drp2, .ref drp3, .ref drp4, .ref drp5, .ref drp6, .ref drp7, .ref drp8, .ref drp9, .ref drp10])), (drp3, aI cs 24 f_drp3)]) (wr := []) hx hb hml hown hu hK hP hD hS hA hl.1 (c_X6_deadOn l D cs H.size drp drp1 drp2 drp3 f_drp3 drp4 drp5 drp6 drp7 drp8 drp9 drp10 i1 i2 i3 i4 i5 i6 i7 19 z_f_drp3) (gV u_457 u_458 u_459 u_72 u_460) hd_X6_deadOn ⟨(Nat.le_of_ble_eq_true rfl), (Nat.le_of_ble_eq_true rfl)⟩ [0, 1] [] rfl rfl rfl rfl (by decide) rfl 0 rfl rfl rfl (Nat.le_of_ble_eq_true rfl) dX6_deadBytes_13 ⟨(Nat.le_of_ble_eq_true rfl), (Nat.le_of_ble_eq_true rfl)⟩ (fun r_97 ut_98 H locs hw_99 hP hD hS => ?_)
  have hP : va_P D vwCl [(drp, .inr (6, [.int i1, .int i2, .int i3, .int i4, .int i5, .int i6, .int i7, .ref drp1, .ref drp2, .ref drp3, .ref drp4, .ref drp5, .ref drp6, .ref drp7, .ref drp8, .ref drp9, .ref drp10])), (drp3, aI cs 24 f_drp3)] H := hP
  have hD : va_D A [(drp, .inr (6, [.int i1, .int i2, .int i3, .int i4, .int i5, .int i6, .int i7, .ref drp1, .ref drp2, .ref drp3, .ref drp4, .ref drp5, .ref drp6, .ref drp7, .ref drp8, .ref drp9, .ref drp10])), (drp3, aI cs 24 f_drp3)] := hD
  have er_100 := hw_99
  subst er_100
  refine lv_iadd hx hb dX6_deadBytes_16 ?_
  refine tpi (y := 0) (by decide) ?_
  refine lv_istore_n (lv' := [(1, .int 0), (2, .int 19), (0, .ref drp)]) hx hb dX6_deadBytes_17 rfl hl (by decide) rfl (fun ls hl => ?_)
  refine lv_iinc (v := 20) (lv' := [(2, .int 20), (1, .int 0), (0, .ref drp)]) hx hb dX6_deadBytes_18 hl (k := 1) rfl (by decide) (by decide) rfl (fun ls hl => ?_)
  refine lv_goto (tgt := 4) hx hb dX6_deadBytes_21 (by decide) ?_
  refine lv_iload_n hx hb dX6_deadBytes_4 rfl (lv_at hl 0 rfl) ?_
  refine lv_bipush (v := 24) hx hb dX6_deadBytes_5 (by decide) ?_
  refine lv_icmp_ge (tgt := 24) hx hb dX6_deadBytes_7 (by decide) (fun c_101 => absurd c_101 (by decide)) (fun c_101 => ?_)
  refine lv_iload_n hx hb dX6_deadBytes_10 rfl (lv_at hl 1 rfl) ?_
  refine lv_aload_n hx hb dX6_deadBytes_11 rfl (lv_at hl 2 rfl) ?_
  refine lv_iload_n hx hb dX6_deadBytes_12 rfl (lv_at hl 0 rfl) ?_
  refine kV_i (ci := 6) (As := [.int 20]) (rest := [.int 0]) (wc := [(drp, .inr (6, [.int i1, .int i2, .int i3, .int i4, .int i5, .int i6, .int i7, .ref drp1, .ref drp2, .ref drp3, .ref drp4, .ref drp5, .ref drp6, .ref drp7, .ref drp8, .ref drp9, .ref drp10])), (drp3, aI cs 24 f_drp3)]) (wr := []) hx hb hml hown hu hK hP hD hS hA hl.1 (c_X6_deadOn l D cs H.size drp drp1 drp2 drp3 f_drp3 drp4 drp5 drp6 drp7 drp8 drp9 drp10 i1 i2 i3 i4 i5 i6 i7 20 z_f_drp3) (gV u_457 u_458 u_459 u_72 u_460) hd_X6_deadOn ⟨(Nat.le_of_ble_eq_true rfl), (Nat.le_of_ble_eq_true rfl)⟩ [0, 1] [] rfl rfl rfl rfl (by decide) rfl 0 rfl rfl rfl (Nat.le_of_ble_eq_true rfl) dX6_deadBytes_13 ⟨(Nat.le_of_ble_eq_true rfl), (Nat.le_of_ble_eq_true rfl)⟩ (fun r_102 ut_103 H locs hw_104 hP hD hS => ?_)
  have hP : va_P D vwCl [(drp, .inr (6, [.int i1, .int i2, .int i3, .int i4, .int i5, .int i6, .int i7, .ref drp1, .ref drp2, .ref drp3, .ref drp4, .ref drp5, .ref drp6, .ref drp7, .ref drp8, .ref drp9, .ref drp10])), (drp3, aI cs 24 f_drp3)] H := hP
  have hD : va_D A [(drp, .inr (6, [.int i1, .int i2, .int i3, .int i4, .int i5, .int i6, .int i7, .ref drp1, .ref drp2, .ref drp3, .ref drp4, .ref drp5, .ref drp6, .ref drp7, .ref drp8, .ref drp9, .ref drp10])), (drp3, aI cs 24 f_drp3)] := hD
  have er_105 := hw_104
  subst er_105
  refine lv_iadd hx hb dX6_deadBytes_16 ?_
  refine tpi (y := 0) (by decide) ?_
  refine lv_istore_n (lv' := [(1, .int 0), (2, .int 20), (0, .ref drp)]) hx hb dX6_deadBytes_17 rfl hl (by decide) rfl (fun ls hl => ?_)
  refine lv_iinc (v := 21) (lv' := [(2, .int 21), (1, .int 0), (0, .ref drp)]) hx hb dX6_deadBytes_18 hl (k := 1) rfl (by decide) (by decide) rfl (fun ls hl => ?_)
  refine lv_goto (tgt := 4) hx hb dX6_deadBytes_21 (by decide) ?_
  refine lv_iload_n hx hb dX6_deadBytes_4 rfl (lv_at hl 0 rfl) ?_
  refine lv_bipush (v := 24) hx hb dX6_deadBytes_5 (by decide) ?_
  refine lv_icmp_ge (tgt := 24) hx hb dX6_deadBytes_7 (by decide) (fun c_106 => absurd c_106 (by decide)) (fun c_106 => ?_)
  refine lv_iload_n hx hb dX6_deadBytes_10 rfl (lv_at hl 1 rfl) ?_
  refine lv_aload_n hx hb dX6_deadBytes_11 rfl (lv_at hl 2 rfl) ?_
  refine lv_iload_n hx hb dX6_deadBytes_12 rfl (lv_at hl 0 rfl) ?_
  refine kV_i (ci := 6) (As := [.int 21]) (rest := [.int 0]) (wc := [(drp, .inr (6, [.int i1, .int i2, .int i3, .int i4, .int i5, .int i6, .int i7, .ref drp1, .ref drp2, .ref drp3, .ref drp4, .ref drp5, .ref drp6, .ref drp7, .ref drp8, .ref drp9, .ref drp10])), (drp3, aI cs 24 f_drp3)]) (wr := []) hx hb hml hown hu hK hP hD hS hA hl.1 (c_X6_deadOn l D cs H.size drp drp1 drp2 drp3 f_drp3 drp4 drp5 drp6 drp7 drp8 drp9 drp10 i1 i2 i3 i4 i5 i6 i7 21 z_f_drp3) (gV u_457 u_458 u_459 u_72 u_460) hd_X6_deadOn ⟨(Nat.le_of_ble_eq_true rfl), (Nat.le_of_ble_eq_true rfl)⟩ [0, 1] [] rfl rfl rfl rfl (by decide) rfl 0 rfl rfl rfl (Nat.le_of_ble_eq_true rfl) dX6_deadBytes_13 ⟨(Nat.le_of_ble_eq_true rfl), (Nat.le_of_ble_eq_true rfl)⟩ (fun r_107 ut_108 H locs hw_109 hP hD hS => ?_)
  have hP : va_P D vwCl [(drp, .inr (6, [.int i1, .int i2, .int i3, .int i4, .int i5, .int i6, .int i7, .ref drp1, .ref drp2, .ref drp3, .ref drp4, .ref drp5, .ref drp6, .ref drp7, .ref drp8, .ref drp9, .ref drp10])), (drp3, aI cs 24 f_drp3)] H := hP
  have hD : va_D A [(drp, .inr (6, [.int i1, .int i2, .int i3, .int i4, .int i5, .int i6, .int i7, .ref drp1, .ref drp2, .ref drp3, .ref drp4, .ref drp5, .ref drp6, .ref drp7, .ref drp8, .ref drp9, .ref drp10])), (drp3, aI cs 24 f_drp3)] := hD
  have er_110 := hw_109
  subst er_110
  refine lv_iadd hx hb dX6_deadBytes_16 ?_
  refine tpi (y := 0) (by decide) ?_
  refine lv_istore_n (lv' := [(1, .int 0), (2, .int 21), (0, .ref drp)]) hx hb dX6_deadBytes_17 rfl hl (by decide) rfl (fun ls hl => ?_)
  refine lv_iinc (v := 22) (lv' := [(2, .int 22), (1, .int 0), (0, .ref drp)]) hx hb dX6_deadBytes_18 hl (k := 1) rfl (by decide) (by decide) rfl (fun ls hl => ?_)
  refine lv_goto (tgt := 4) hx hb dX6_deadBytes_21 (by decide) ?_
  refine lv_iload_n hx hb dX6_deadBytes_4 rfl (lv_at hl 0 rfl) ?_
  refine lv_bipush (v := 24) hx hb dX6_deadBytes_5 (by decide) ?_
  refine lv_icmp_ge (tgt := 24) hx hb dX6_deadBytes_7 (by decide) (fun c_111 => absurd c_111 (by decide)) (fun c_111 => ?_)
  refine lv_iload_n hx hb dX6_deadBytes_10 rfl (lv_at hl 1 rfl) ?_
  refine lv_aload_n hx hb dX6_deadBytes_11 rfl (lv_at hl 2 rfl) ?_
  refine lv_iload_n hx hb dX6_deadBytes_12 rfl (lv_at hl 0 rfl) ?_
  refine kV_i (ci := 6) (As := [.int 22]) (rest := [.int 0]) (wc := [(drp, .inr (6, [.int i1, .int i2, .int i3, .int i4, .int i5, .int i6, .int i7, .ref drp1, .ref drp2, .ref drp3, .ref drp4, .ref drp5, .ref drp6, .ref drp7, .ref drp8, .ref drp9, .ref drp10])), (drp3, aI cs 24 f_drp3)]) (wr := []) hx hb hml hown hu hK hP hD hS hA hl.1 (c_X6_deadOn l D cs H.size drp drp1 drp2 drp3 f_drp3 drp4 drp5 drp6 drp7 drp8 drp9 drp10 i1 i2 i3 i4 i5 i6 i7 22 z_f_drp3) (gV u_457 u_458 u_459 u_72 u_460) hd_X6_deadOn ⟨(Nat.le_of_ble_eq_true rfl), (Nat.le_of_ble_eq_true rfl)⟩ [0, 1] [] rfl rfl rfl rfl (by decide) rfl 0 rfl rfl rfl (Nat.le_of_ble_eq_true rfl) dX6_deadBytes_13 ⟨(Nat.le_of_ble_eq_true rfl), (Nat.le_of_ble_eq_true rfl)⟩ (fun r_112 ut_113 H locs hw_114 hP hD hS => ?_)
  have hP : va_P D vwCl [(drp, .inr (6, [.int i1, .int i2, .int i3, .int i4, .int i5, .int i6, .int i7, .ref drp1, .ref drp2, .ref drp3, .ref drp4, .ref drp5, .ref drp6, .ref drp7, .ref drp8, .ref drp9, .ref drp10])), (drp3, aI cs 24 f_drp3)] H := hP
  have hD : va_D A [(drp, .inr (6, [.int i1, .int i2, .int i3, .int i4, .int i5, .int i6, .int i7, .ref drp1, .ref drp2, .ref drp3, .ref drp4, .ref drp5, .ref drp6, .ref drp7, .ref drp8, .ref drp9, .ref drp10])), (drp3, aI cs 24 f_drp3)] := hD
  have er_115 := hw_114
  subst er_115
  refine lv_iadd hx hb dX6_deadBytes_16 ?_
  refine tpi (y := 0) (by decide) ?_
  refine lv_istore_n (lv' := [(1, .int 0), (2, .int 22), (0, .ref drp)]) hx hb dX6_deadBytes_17 rfl hl (by decide) rfl (fun ls hl => ?_)
  refine lv_iinc (v := 23) (lv' := [(2, .int 23), (1, .int 0), (0, .ref drp)]) hx hb dX6_deadBytes_18 hl (k := 1) rfl (by decide) (by decide) rfl (fun ls hl => ?_)
  refine lv_goto (tgt := 4) hx hb dX6_deadBytes_21 (by decide) ?_
  refine lv_iload_n hx hb dX6_deadBytes_4 rfl (lv_at hl 0 rfl) ?_
  refine lv_bipush (v := 24) hx hb dX6_deadBytes_5 (by decide) ?_
  refine lv_icmp_ge (tgt := 24) hx hb dX6_deadBytes_7 (by decide) (fun c_116 => absurd c_116 (by decide)) (fun c_116 => ?_)
  refine lv_iload_n hx hb dX6_deadBytes_10 rfl (lv_at hl 1 rfl) ?_
  refine lv_aload_n hx hb dX6_deadBytes_11 rfl (lv_at hl 2 rfl) ?_
  refine lv_iload_n hx hb dX6_deadBytes_12 rfl (lv_at hl 0 rfl) ?_
  refine kV_i (ci := 6) (As := [.int 23]) (rest := [.int 0]) (wc := [(drp, .inr (6, [.int i1, .int i2, .int i3, .int i4, .int i5, .int i6, .int i7, .ref drp1, .ref drp2, .ref drp3, .ref drp4, .ref drp5, .ref drp6, .ref drp7, .ref drp8, .ref drp9, .ref drp10])), (drp3, aI cs 24 f_drp3)]) (wr := []) hx hb hml hown hu hK hP hD hS hA hl.1 (c_X6_deadOn l D cs H.size drp drp1 drp2 drp3 f_drp3 drp4 drp5 drp6 drp7 drp8 drp9 drp10 i1 i2 i3 i4 i5 i6 i7 23 z_f_drp3) (gV u_457 u_458 u_459 u_72 u_460) hd_X6_deadOn ⟨(Nat.le_of_ble_eq_true rfl), (Nat.le_of_ble_eq_true rfl)⟩ [0, 1] [] rfl rfl rfl rfl (by decide) rfl 0 rfl rfl rfl (Nat.le_of_ble_eq_true rfl) dX6_deadBytes_13 ⟨(Nat.le_of_ble_eq_true rfl), (Nat.le_of_ble_eq_true rfl)⟩ (fun r_117 ut_118 H locs hw_119 hP hD hS => ?_)
  have hP : va_P D vwCl [(drp, .inr (6, [.int i1, .int i2, .int i3, .int i4, .int i5, .int i6, .int i7, .ref drp1, .ref drp2, .ref drp3, .ref drp4, .ref drp5, .ref drp6, .ref drp7, .ref drp8, .ref drp9, .ref drp10])), (drp3, aI cs 24 f_drp3)] H := hP
  have hD : va_D A [(drp, .inr (6, [.int i1, .int i2, .int i3, .int i4, .int i5, .int i6, .int i7, .ref drp1, .ref drp2, .ref drp3, .ref drp4, .ref drp5, .ref drp6, .ref drp7, .ref drp8, .ref drp9, .ref drp10])), (drp3, aI cs 24 f_drp3)] := hD
  have er_120 := hw_119
  subst er_120
  refine lv_iadd hx hb dX6_deadBytes_16 ?_
  refine tpi (y := 0) (by decide) ?_
  refine lv_istore_n (lv' := [(1, .int 0), (2, .int 23), (0, .ref drp)]) hx hb dX6_deadBytes_17 rfl hl (by decide) rfl (fun ls hl => ?_)
  refine lv_iinc (v := 24) (lv' := [(2, .int 24), (1, .int 0), (0, .ref drp)]) hx hb dX6_deadBytes_18 hl (k := 1) rfl (by decide) (by decide) rfl (fun ls hl => ?_)
  refine lv_goto (tgt := 4) hx hb dX6_deadBytes_21 (by decide) ?_
  refine lv_iload_n hx hb dX6_deadBytes_4 rfl (lv_at hl 0 rfl) ?_
  refine lv_bipush (v := 24) hx hb dX6_deadBytes_5 (by decide) ?_
  refine lv_icmp_ge (tgt := 24) hx hb dX6_deadBytes_7 (by decide) (fun c_121 => ?_) (fun c_121 => absurd (by decide) c_121)
  refine lv_iload_n hx hb dX6_deadBytes_24 rfl (lv_at hl 1 rfl) ?_
  exact hz () hP hD hS rfl [0, 1] rfl rfl (Nat.le_of_ble_eq_true rfl) (Nat.le_of_ble_eq_true rfl) .int rfl rfl dX6_deadBytes_25
abbrev rm_c_X6_mostErases : Room := { frames := 1, cells := 0, slots := 0, locals := 21 }
set_option maxHeartbeats 4000000 in
set_option maxRecDepth 100000 in
theorem c_X6_mostErases (l : Launch) (D : va_G) (cs : Nat → ClassId) (sz : Nat) (drp : Nat) (drp1 : Nat) (drp2 : Nat) (f_drp2 : Nat → Int32) (drp3 : Nat) (drp4 : Nat) (drp5 : Nat) (drp6 : Nat) (drp7 : Nat) (drp8 : Nat) (drp9 : Nat) (drp10 : Nat) (i1 : Int32) (i2 : Int32) (i3 : Int32) (i4 : Int32) (i5 : Int32) (i6 : Int32) (i7 : Int32) (z_f_drp2 : ∀ j, j < 24 → f_drp2 j = 0) : cMi l yX6_mostErases (Cond.code yX6_mostErases cX6_mostErases 3 (some .int)) (rm_c_X6_mostErases) D cs [.ref drp] sz [(drp, .inr (6, [.int i1, .int i2, .int i3, .int i4, .int i5, .int i6, .int i7, .ref drp1, .ref drp2, .ref drp3, .ref drp4, .ref drp5, .ref drp6, .ref drp7, .ref drp8, .ref drp9, .ref drp10])), (drp2, aI cs 24 f_drp2)] (fun (r : Int32) (u : Unit) => (r = 0)) (fun (u : Unit) => [(drp, .inr (6, [.int i1, .int i2, .int i3, .int i4, .int i5, .int i6, .int i7, .ref drp1, .ref drp2, .ref drp3, .ref drp4, .ref drp5, .ref drp6, .ref drp7, .ref drp8, .ref drp9, .ref drp10])), (drp2, aI cs 24 f_drp2)]) := by
  refine kMet_i RX6 (by decide) rfl (Nat.le_of_ble_eq_true rfl) ?_
  intro p e s m below meth c ls A Qz H locs hx hb hml hown hin hu hK hsz hA hP hD hS hl hz
  subst hsz
  have hl : lv_has ls 3 [(0, .ref drp)] := hl
  refine lv_iconst (v := 0) hx hb dX6_mostErases_0 (by decide) ?_
  refine lv_istore_n (lv' := [(1, .int 0), (0, .ref drp)]) hx hb dX6_mostErases_1 rfl hl (by decide) rfl (fun ls hl => ?_)
  refine lv_iconst (v := 0) hx hb dX6_mostErases_2 (by decide) ?_
  refine lv_istore_n (lv' := [(2, .int 0), (1, .int 0), (0, .ref drp)]) hx hb dX6_mostErases_3 rfl hl (by decide) rfl (fun ls hl => ?_)
  refine lv_iload_n hx hb dX6_mostErases_4 rfl (lv_at hl 0 rfl) ?_
  refine lv_bipush (v := 24) hx hb dX6_mostErases_5 (by decide) ?_
  refine lv_icmp_ge (tgt := 27) hx hb dX6_mostErases_7 (by decide) (fun c_1 => absurd c_1 (by decide)) (fun c_1 => ?_)
  refine lv_iload_n hx hb dX6_mostErases_10 rfl (lv_at hl 1 rfl) ?_
  refine lv_aload_n hx hb dX6_mostErases_11 rfl (lv_at hl 2 rfl) ?_
  refine va_get (D := D) (ci := 6) (v := .ref drp2) (C := RX6) (T := TX6) (N := 17) hx hb hu in_X6 hown hK.1 hP 0 rfl rfl 8 (by decide) (hu _ u_211) (fun _ h9 => h9) rfl dX6_mostErases_12 ?_
  refine lv_iload_n hx hb dX6_mostErases_15 rfl (lv_at hl 0 rfl) ?_
  refine va_iald hx hb hK.1 hP 1 0 rfl rfl (vin_c _ _ rfl) dX6_mostErases_16 ?_
  refine tpi (y := 0) (z_f_drp2 _ (cl_lt (vin_c _ _ rfl))) ?_
  refine va_mmax hx hb (hml.trans hl.1.symm) hown (hu _ u_976) (hu _ u_93) (hu _ u_68) (hu _ u_94) (Nat.le_of_ble_eq_true rfl) (Nat.le_of_ble_eq_true rfl) (Nat.le_of_ble_eq_true rfl) (Nat.le_of_ble_eq_true rfl) dX6_mostErases_17 ?_
  refine tpi (y := 0) (by decide) ?_
  refine lv_istore_n (lv' := [(1, .int 0), (2, .int 0), (0, .ref drp)]) hx hb dX6_mostErases_20 rfl hl (by decide) rfl (fun ls hl => ?_)
  refine lv_iinc (v := 1) (lv' := [(2, .int 1), (1, .int 0), (0, .ref drp)]) hx hb dX6_mostErases_21 hl (k := 1) rfl (by decide) (by decide) rfl (fun ls hl => ?_)
  refine lv_goto (tgt := 4) hx hb dX6_mostErases_24 (by decide) ?_
  refine lv_iload_n hx hb dX6_mostErases_4 rfl (lv_at hl 0 rfl) ?_
  refine lv_bipush (v := 24) hx hb dX6_mostErases_5 (by decide) ?_
  refine lv_icmp_ge (tgt := 27) hx hb dX6_mostErases_7 (by decide) (fun c_2 => absurd c_2 (by decide)) (fun c_2 => ?_)
  refine lv_iload_n hx hb dX6_mostErases_10 rfl (lv_at hl 1 rfl) ?_
  refine lv_aload_n hx hb dX6_mostErases_11 rfl (lv_at hl 2 rfl) ?_
  refine va_get (D := D) (ci := 6) (v := .ref drp2) (C := RX6) (T := TX6) (N := 17) hx hb hu in_X6 hown hK.1 hP 0 rfl rfl 8 (by decide) (hu _ u_211) (fun _ h9 => h9) rfl dX6_mostErases_12 ?_
  refine lv_iload_n hx hb dX6_mostErases_15 rfl (lv_at hl 0 rfl) ?_
  refine va_iald hx hb hK.1 hP 1 0 rfl rfl (vin_c _ _ rfl) dX6_mostErases_16 ?_
  refine tpi (y := 0) (z_f_drp2 _ (cl_lt (vin_c _ _ rfl))) ?_
  refine va_mmax hx hb (hml.trans hl.1.symm) hown (hu _ u_976) (hu _ u_93) (hu _ u_68) (hu _ u_94) (Nat.le_of_ble_eq_true rfl) (Nat.le_of_ble_eq_true rfl) (Nat.le_of_ble_eq_true rfl) (Nat.le_of_ble_eq_true rfl) dX6_mostErases_17 ?_
  refine tpi (y := 0) (by decide) ?_
  refine lv_istore_n (lv' := [(1, .int 0), (2, .int 1), (0, .ref drp)]) hx hb dX6_mostErases_20 rfl hl (by decide) rfl (fun ls hl => ?_)
  refine lv_iinc (v := 2) (lv' := [(2, .int 2), (1, .int 0), (0, .ref drp)]) hx hb dX6_mostErases_21 hl (k := 1) rfl (by decide) (by decide) rfl (fun ls hl => ?_)
  refine lv_goto (tgt := 4) hx hb dX6_mostErases_24 (by decide) ?_
  refine lv_iload_n hx hb dX6_mostErases_4 rfl (lv_at hl 0 rfl) ?_
  refine lv_bipush (v := 24) hx hb dX6_mostErases_5 (by decide) ?_
  refine lv_icmp_ge (tgt := 27) hx hb dX6_mostErases_7 (by decide) (fun c_3 => absurd c_3 (by decide)) (fun c_3 => ?_)
  refine lv_iload_n hx hb dX6_mostErases_10 rfl (lv_at hl 1 rfl) ?_
  refine lv_aload_n hx hb dX6_mostErases_11 rfl (lv_at hl 2 rfl) ?_
  refine va_get (D := D) (ci := 6) (v := .ref drp2) (C := RX6) (T := TX6) (N := 17) hx hb hu in_X6 hown hK.1 hP 0 rfl rfl 8 (by decide) (hu _ u_211) (fun _ h9 => h9) rfl dX6_mostErases_12 ?_
  refine lv_iload_n hx hb dX6_mostErases_15 rfl (lv_at hl 0 rfl) ?_
  refine va_iald hx hb hK.1 hP 1 0 rfl rfl (vin_c _ _ rfl) dX6_mostErases_16 ?_
  refine tpi (y := 0) (z_f_drp2 _ (cl_lt (vin_c _ _ rfl))) ?_
  refine va_mmax hx hb (hml.trans hl.1.symm) hown (hu _ u_976) (hu _ u_93) (hu _ u_68) (hu _ u_94) (Nat.le_of_ble_eq_true rfl) (Nat.le_of_ble_eq_true rfl) (Nat.le_of_ble_eq_true rfl) (Nat.le_of_ble_eq_true rfl) dX6_mostErases_17 ?_
  refine tpi (y := 0) (by decide) ?_
  refine lv_istore_n (lv' := [(1, .int 0), (2, .int 2), (0, .ref drp)]) hx hb dX6_mostErases_20 rfl hl (by decide) rfl (fun ls hl => ?_)
  refine lv_iinc (v := 3) (lv' := [(2, .int 3), (1, .int 0), (0, .ref drp)]) hx hb dX6_mostErases_21 hl (k := 1) rfl (by decide) (by decide) rfl (fun ls hl => ?_)
  refine lv_goto (tgt := 4) hx hb dX6_mostErases_24 (by decide) ?_
  refine lv_iload_n hx hb dX6_mostErases_4 rfl (lv_at hl 0 rfl) ?_
  refine lv_bipush (v := 24) hx hb dX6_mostErases_5 (by decide) ?_
  refine lv_icmp_ge (tgt := 27) hx hb dX6_mostErases_7 (by decide) (fun c_4 => absurd c_4 (by decide)) (fun c_4 => ?_)
  refine lv_iload_n hx hb dX6_mostErases_10 rfl (lv_at hl 1 rfl) ?_
  refine lv_aload_n hx hb dX6_mostErases_11 rfl (lv_at hl 2 rfl) ?_
  refine va_get (D := D) (ci := 6) (v := .ref drp2) (C := RX6) (T := TX6) (N := 17) hx hb hu in_X6 hown hK.1 hP 0 rfl rfl 8 (by decide) (hu _ u_211) (fun _ h9 => h9) rfl dX6_mostErases_12 ?_
  refine lv_iload_n hx hb dX6_mostErases_15 rfl (lv_at hl 0 rfl) ?_
  refine va_iald hx hb hK.1 hP 1 0 rfl rfl (vin_c _ _ rfl) dX6_mostErases_16 ?_
  refine tpi (y := 0) (z_f_drp2 _ (cl_lt (vin_c _ _ rfl))) ?_
  refine va_mmax hx hb (hml.trans hl.1.symm) hown (hu _ u_976) (hu _ u_93) (hu _ u_68) (hu _ u_94) (Nat.le_of_ble_eq_true rfl) (Nat.le_of_ble_eq_true rfl) (Nat.le_of_ble_eq_true rfl) (Nat.le_of_ble_eq_true rfl) dX6_mostErases_17 ?_
  refine tpi (y := 0) (by decide) ?_
  refine lv_istore_n (lv' := [(1, .int 0), (2, .int 3), (0, .ref drp)]) hx hb dX6_mostErases_20 rfl hl (by decide) rfl (fun ls hl => ?_)
  refine lv_iinc (v := 4) (lv' := [(2, .int 4), (1, .int 0), (0, .ref drp)]) hx hb dX6_mostErases_21 hl (k := 1) rfl (by decide) (by decide) rfl (fun ls hl => ?_)
  refine lv_goto (tgt := 4) hx hb dX6_mostErases_24 (by decide) ?_
  refine lv_iload_n hx hb dX6_mostErases_4 rfl (lv_at hl 0 rfl) ?_
  refine lv_bipush (v := 24) hx hb dX6_mostErases_5 (by decide) ?_
  refine lv_icmp_ge (tgt := 27) hx hb dX6_mostErases_7 (by decide) (fun c_5 => absurd c_5 (by decide)) (fun c_5 => ?_)
  refine lv_iload_n hx hb dX6_mostErases_10 rfl (lv_at hl 1 rfl) ?_
  refine lv_aload_n hx hb dX6_mostErases_11 rfl (lv_at hl 2 rfl) ?_
  refine va_get (D := D) (ci := 6) (v := .ref drp2) (C := RX6) (T := TX6) (N := 17) hx hb hu in_X6 hown hK.1 hP 0 rfl rfl 8 (by decide) (hu _ u_211) (fun _ h9 => h9) rfl dX6_mostErases_12 ?_
  refine lv_iload_n hx hb dX6_mostErases_15 rfl (lv_at hl 0 rfl) ?_
  refine va_iald hx hb hK.1 hP 1 0 rfl rfl (vin_c _ _ rfl) dX6_mostErases_16 ?_
  refine tpi (y := 0) (z_f_drp2 _ (cl_lt (vin_c _ _ rfl))) ?_
  refine va_mmax hx hb (hml.trans hl.1.symm) hown (hu _ u_976) (hu _ u_93) (hu _ u_68) (hu _ u_94) (Nat.le_of_ble_eq_true rfl) (Nat.le_of_ble_eq_true rfl) (Nat.le_of_ble_eq_true rfl) (Nat.le_of_ble_eq_true rfl) dX6_mostErases_17 ?_
  refine tpi (y := 0) (by decide) ?_
  refine lv_istore_n (lv' := [(1, .int 0), (2, .int 4), (0, .ref drp)]) hx hb dX6_mostErases_20 rfl hl (by decide) rfl (fun ls hl => ?_)
  refine lv_iinc (v := 5) (lv' := [(2, .int 5), (1, .int 0), (0, .ref drp)]) hx hb dX6_mostErases_21 hl (k := 1) rfl (by decide) (by decide) rfl (fun ls hl => ?_)
  refine lv_goto (tgt := 4) hx hb dX6_mostErases_24 (by decide) ?_
  refine lv_iload_n hx hb dX6_mostErases_4 rfl (lv_at hl 0 rfl) ?_
  refine lv_bipush (v := 24) hx hb dX6_mostErases_5 (by decide) ?_
  refine lv_icmp_ge (tgt := 27) hx hb dX6_mostErases_7 (by decide) (fun c_6 => absurd c_6 (by decide)) (fun c_6 => ?_)
  refine lv_iload_n hx hb dX6_mostErases_10 rfl (lv_at hl 1 rfl) ?_
  refine lv_aload_n hx hb dX6_mostErases_11 rfl (lv_at hl 2 rfl) ?_
  refine va_get (D := D) (ci := 6) (v := .ref drp2) (C := RX6) (T := TX6) (N := 17) hx hb hu in_X6 hown hK.1 hP 0 rfl rfl 8 (by decide) (hu _ u_211) (fun _ h9 => h9) rfl dX6_mostErases_12 ?_
  refine lv_iload_n hx hb dX6_mostErases_15 rfl (lv_at hl 0 rfl) ?_
  refine va_iald hx hb hK.1 hP 1 0 rfl rfl (vin_c _ _ rfl) dX6_mostErases_16 ?_
  refine tpi (y := 0) (z_f_drp2 _ (cl_lt (vin_c _ _ rfl))) ?_
  refine va_mmax hx hb (hml.trans hl.1.symm) hown (hu _ u_976) (hu _ u_93) (hu _ u_68) (hu _ u_94) (Nat.le_of_ble_eq_true rfl) (Nat.le_of_ble_eq_true rfl) (Nat.le_of_ble_eq_true rfl) (Nat.le_of_ble_eq_true rfl) dX6_mostErases_17 ?_
  refine tpi (y := 0) (by decide) ?_
  refine lv_istore_n (lv' := [(1, .int 0), (2, .int 5), (0, .ref drp)]) hx hb dX6_mostErases_20 rfl hl (by decide) rfl (fun ls hl => ?_)
  refine lv_iinc (v := 6) (lv' := [(2, .int 6), (1, .int 0), (0, .ref drp)]) hx hb dX6_mostErases_21 hl (k := 1) rfl (by decide) (by decide) rfl (fun ls hl => ?_)
  refine lv_goto (tgt := 4) hx hb dX6_mostErases_24 (by decide) ?_
  refine lv_iload_n hx hb dX6_mostErases_4 rfl (lv_at hl 0 rfl) ?_
  refine lv_bipush (v := 24) hx hb dX6_mostErases_5 (by decide) ?_
  refine lv_icmp_ge (tgt := 27) hx hb dX6_mostErases_7 (by decide) (fun c_7 => absurd c_7 (by decide)) (fun c_7 => ?_)
  refine lv_iload_n hx hb dX6_mostErases_10 rfl (lv_at hl 1 rfl) ?_
  refine lv_aload_n hx hb dX6_mostErases_11 rfl (lv_at hl 2 rfl) ?_
  refine va_get (D := D) (ci := 6) (v := .ref drp2) (C := RX6) (T := TX6) (N := 17) hx hb hu in_X6 hown hK.1 hP 0 rfl rfl 8 (by decide) (hu _ u_211) (fun _ h9 => h9) rfl dX6_mostErases_12 ?_
  refine lv_iload_n hx hb dX6_mostErases_15 rfl (lv_at hl 0 rfl) ?_
  refine va_iald hx hb hK.1 hP 1 0 rfl rfl (vin_c _ _ rfl) dX6_mostErases_16 ?_
  refine tpi (y := 0) (z_f_drp2 _ (cl_lt (vin_c _ _ rfl))) ?_
  refine va_mmax hx hb (hml.trans hl.1.symm) hown (hu _ u_976) (hu _ u_93) (hu _ u_68) (hu _ u_94) (Nat.le_of_ble_eq_true rfl) (Nat.le_of_ble_eq_true rfl) (Nat.le_of_ble_eq_true rfl) (Nat.le_of_ble_eq_true rfl) dX6_mostErases_17 ?_
  refine tpi (y := 0) (by decide) ?_
  refine lv_istore_n (lv' := [(1, .int 0), (2, .int 6), (0, .ref drp)]) hx hb dX6_mostErases_20 rfl hl (by decide) rfl (fun ls hl => ?_)
  refine lv_iinc (v := 7) (lv' := [(2, .int 7), (1, .int 0), (0, .ref drp)]) hx hb dX6_mostErases_21 hl (k := 1) rfl (by decide) (by decide) rfl (fun ls hl => ?_)
  refine lv_goto (tgt := 4) hx hb dX6_mostErases_24 (by decide) ?_
  refine lv_iload_n hx hb dX6_mostErases_4 rfl (lv_at hl 0 rfl) ?_
  refine lv_bipush (v := 24) hx hb dX6_mostErases_5 (by decide) ?_
  refine lv_icmp_ge (tgt := 27) hx hb dX6_mostErases_7 (by decide) (fun c_8 => absurd c_8 (by decide)) (fun c_8 => ?_)
  refine lv_iload_n hx hb dX6_mostErases_10 rfl (lv_at hl 1 rfl) ?_
  refine lv_aload_n hx hb dX6_mostErases_11 rfl (lv_at hl 2 rfl) ?_
  refine va_get (D := D) (ci := 6) (v := .ref drp2) (C := RX6) (T := TX6) (N := 17) hx hb hu in_X6 hown hK.1 hP 0 rfl rfl 8 (by decide) (hu _ u_211) (fun _ h9 => h9) rfl dX6_mostErases_12 ?_
  refine lv_iload_n hx hb dX6_mostErases_15 rfl (lv_at hl 0 rfl) ?_
  refine va_iald hx hb hK.1 hP 1 0 rfl rfl (vin_c _ _ rfl) dX6_mostErases_16 ?_
  refine tpi (y := 0) (z_f_drp2 _ (cl_lt (vin_c _ _ rfl))) ?_
  refine va_mmax hx hb (hml.trans hl.1.symm) hown (hu _ u_976) (hu _ u_93) (hu _ u_68) (hu _ u_94) (Nat.le_of_ble_eq_true rfl) (Nat.le_of_ble_eq_true rfl) (Nat.le_of_ble_eq_true rfl) (Nat.le_of_ble_eq_true rfl) dX6_mostErases_17 ?_
  refine tpi (y := 0) (by decide) ?_
  refine lv_istore_n (lv' := [(1, .int 0), (2, .int 7), (0, .ref drp)]) hx hb dX6_mostErases_20 rfl hl (by decide) rfl (fun ls hl => ?_)
  refine lv_iinc (v := 8) (lv' := [(2, .int 8), (1, .int 0), (0, .ref drp)]) hx hb dX6_mostErases_21 hl (k := 1) rfl (by decide) (by decide) rfl (fun ls hl => ?_)
  refine lv_goto (tgt := 4) hx hb dX6_mostErases_24 (by decide) ?_
  refine lv_iload_n hx hb dX6_mostErases_4 rfl (lv_at hl 0 rfl) ?_
  refine lv_bipush (v := 24) hx hb dX6_mostErases_5 (by decide) ?_
  refine lv_icmp_ge (tgt := 27) hx hb dX6_mostErases_7 (by decide) (fun c_9 => absurd c_9 (by decide)) (fun c_9 => ?_)
  refine lv_iload_n hx hb dX6_mostErases_10 rfl (lv_at hl 1 rfl) ?_
  refine lv_aload_n hx hb dX6_mostErases_11 rfl (lv_at hl 2 rfl) ?_
  refine va_get (D := D) (ci := 6) (v := .ref drp2) (C := RX6) (T := TX6) (N := 17) hx hb hu in_X6 hown hK.1 hP 0 rfl rfl 8 (by decide) (hu _ u_211) (fun _ h9 => h9) rfl dX6_mostErases_12 ?_
  refine lv_iload_n hx hb dX6_mostErases_15 rfl (lv_at hl 0 rfl) ?_
  refine va_iald hx hb hK.1 hP 1 0 rfl rfl (vin_c _ _ rfl) dX6_mostErases_16 ?_
  refine tpi (y := 0) (z_f_drp2 _ (cl_lt (vin_c _ _ rfl))) ?_
  refine va_mmax hx hb (hml.trans hl.1.symm) hown (hu _ u_976) (hu _ u_93) (hu _ u_68) (hu _ u_94) (Nat.le_of_ble_eq_true rfl) (Nat.le_of_ble_eq_true rfl) (Nat.le_of_ble_eq_true rfl) (Nat.le_of_ble_eq_true rfl) dX6_mostErases_17 ?_
  refine tpi (y := 0) (by decide) ?_
  refine lv_istore_n (lv' := [(1, .int 0), (2, .int 8), (0, .ref drp)]) hx hb dX6_mostErases_20 rfl hl (by decide) rfl (fun ls hl => ?_)
  refine lv_iinc (v := 9) (lv' := [(2, .int 9), (1, .int 0), (0, .ref drp)]) hx hb dX6_mostErases_21 hl (k := 1) rfl (by decide) (by decide) rfl (fun ls hl => ?_)
  refine lv_goto (tgt := 4) hx hb dX6_mostErases_24 (by decide) ?_
  refine lv_iload_n hx hb dX6_mostErases_4 rfl (lv_at hl 0 rfl) ?_
  refine lv_bipush (v := 24) hx hb dX6_mostErases_5 (by decide) ?_
  refine lv_icmp_ge (tgt := 27) hx hb dX6_mostErases_7 (by decide) (fun c_10 => absurd c_10 (by decide)) (fun c_10 => ?_)
  refine lv_iload_n hx hb dX6_mostErases_10 rfl (lv_at hl 1 rfl) ?_
  refine lv_aload_n hx hb dX6_mostErases_11 rfl (lv_at hl 2 rfl) ?_
  refine va_get (D := D) (ci := 6) (v := .ref drp2) (C := RX6) (T := TX6) (N := 17) hx hb hu in_X6 hown hK.1 hP 0 rfl rfl 8 (by decide) (hu _ u_211) (fun _ h9 => h9) rfl dX6_mostErases_12 ?_
  refine lv_iload_n hx hb dX6_mostErases_15 rfl (lv_at hl 0 rfl) ?_
  refine va_iald hx hb hK.1 hP 1 0 rfl rfl (vin_c _ _ rfl) dX6_mostErases_16 ?_
  refine tpi (y := 0) (z_f_drp2 _ (cl_lt (vin_c _ _ rfl))) ?_
  refine va_mmax hx hb (hml.trans hl.1.symm) hown (hu _ u_976) (hu _ u_93) (hu _ u_68) (hu _ u_94) (Nat.le_of_ble_eq_true rfl) (Nat.le_of_ble_eq_true rfl) (Nat.le_of_ble_eq_true rfl) (Nat.le_of_ble_eq_true rfl) dX6_mostErases_17 ?_
  refine tpi (y := 0) (by decide) ?_
  refine lv_istore_n (lv' := [(1, .int 0), (2, .int 9), (0, .ref drp)]) hx hb dX6_mostErases_20 rfl hl (by decide) rfl (fun ls hl => ?_)
  refine lv_iinc (v := 10) (lv' := [(2, .int 10), (1, .int 0), (0, .ref drp)]) hx hb dX6_mostErases_21 hl (k := 1) rfl (by decide) (by decide) rfl (fun ls hl => ?_)
  refine lv_goto (tgt := 4) hx hb dX6_mostErases_24 (by decide) ?_
  refine lv_iload_n hx hb dX6_mostErases_4 rfl (lv_at hl 0 rfl) ?_
  refine lv_bipush (v := 24) hx hb dX6_mostErases_5 (by decide) ?_
  refine lv_icmp_ge (tgt := 27) hx hb dX6_mostErases_7 (by decide) (fun c_11 => absurd c_11 (by decide)) (fun c_11 => ?_)
  refine lv_iload_n hx hb dX6_mostErases_10 rfl (lv_at hl 1 rfl) ?_
  refine lv_aload_n hx hb dX6_mostErases_11 rfl (lv_at hl 2 rfl) ?_
  refine va_get (D := D) (ci := 6) (v := .ref drp2) (C := RX6) (T := TX6) (N := 17) hx hb hu in_X6 hown hK.1 hP 0 rfl rfl 8 (by decide) (hu _ u_211) (fun _ h9 => h9) rfl dX6_mostErases_12 ?_
  refine lv_iload_n hx hb dX6_mostErases_15 rfl (lv_at hl 0 rfl) ?_
  refine va_iald hx hb hK.1 hP 1 0 rfl rfl (vin_c _ _ rfl) dX6_mostErases_16 ?_
  refine tpi (y := 0) (z_f_drp2 _ (cl_lt (vin_c _ _ rfl))) ?_
  refine va_mmax hx hb (hml.trans hl.1.symm) hown (hu _ u_976) (hu _ u_93) (hu _ u_68) (hu _ u_94) (Nat.le_of_ble_eq_true rfl) (Nat.le_of_ble_eq_true rfl) (Nat.le_of_ble_eq_true rfl) (Nat.le_of_ble_eq_true rfl) dX6_mostErases_17 ?_
  refine tpi (y := 0) (by decide) ?_
  refine lv_istore_n (lv' := [(1, .int 0), (2, .int 10), (0, .ref drp)]) hx hb dX6_mostErases_20 rfl hl (by decide) rfl (fun ls hl => ?_)
  refine lv_iinc (v := 11) (lv' := [(2, .int 11), (1, .int 0), (0, .ref drp)]) hx hb dX6_mostErases_21 hl (k := 1) rfl (by decide) (by decide) rfl (fun ls hl => ?_)
  refine lv_goto (tgt := 4) hx hb dX6_mostErases_24 (by decide) ?_
  refine lv_iload_n hx hb dX6_mostErases_4 rfl (lv_at hl 0 rfl) ?_
  refine lv_bipush (v := 24) hx hb dX6_mostErases_5 (by decide) ?_
  refine lv_icmp_ge (tgt := 27) hx hb dX6_mostErases_7 (by decide) (fun c_12 => absurd c_12 (by decide)) (fun c_12 => ?_)
  refine lv_iload_n hx hb dX6_mostErases_10 rfl (lv_at hl 1 rfl) ?_
  refine lv_aload_n hx hb dX6_mostErases_11 rfl (lv_at hl 2 rfl) ?_
  refine va_get (D := D) (ci := 6) (v := .ref drp2) (C := RX6) (T := TX6) (N := 17) hx hb hu in_X6 hown hK.1 hP 0 rfl rfl 8 (by decide) (hu _ u_211) (fun _ h9 => h9) rfl dX6_mostErases_12 ?_
  refine lv_iload_n hx hb dX6_mostErases_15 rfl (lv_at hl 0 rfl) ?_
  refine va_iald hx hb hK.1 hP 1 0 rfl rfl (vin_c _ _ rfl) dX6_mostErases_16 ?_
  refine tpi (y := 0) (z_f_drp2 _ (cl_lt (vin_c _ _ rfl))) ?_
  refine va_mmax hx hb (hml.trans hl.1.symm) hown (hu _ u_976) (hu _ u_93) (hu _ u_68) (hu _ u_94) (Nat.le_of_ble_eq_true rfl) (Nat.le_of_ble_eq_true rfl) (Nat.le_of_ble_eq_true rfl) (Nat.le_of_ble_eq_true rfl) dX6_mostErases_17 ?_
  refine tpi (y := 0) (by decide) ?_
  refine lv_istore_n (lv' := [(1, .int 0), (2, .int 11), (0, .ref drp)]) hx hb dX6_mostErases_20 rfl hl (by decide) rfl (fun ls hl => ?_)
  refine lv_iinc (v := 12) (lv' := [(2, .int 12), (1, .int 0), (0, .ref drp)]) hx hb dX6_mostErases_21 hl (k := 1) rfl (by decide) (by decide) rfl (fun ls hl => ?_)
  refine lv_goto (tgt := 4) hx hb dX6_mostErases_24 (by decide) ?_
  refine lv_iload_n hx hb dX6_mostErases_4 rfl (lv_at hl 0 rfl) ?_
  refine lv_bipush (v := 24) hx hb dX6_mostErases_5 (by decide) ?_
  refine lv_icmp_ge (tgt := 27) hx hb dX6_mostErases_7 (by decide) (fun c_13 => absurd c_13 (by decide)) (fun c_13 => ?_)
  refine lv_iload_n hx hb dX6_mostErases_10 rfl (lv_at hl 1 rfl) ?_
  refine lv_aload_n hx hb dX6_mostErases_11 rfl (lv_at hl 2 rfl) ?_
  refine va_get (D := D) (ci := 6) (v := .ref drp2) (C := RX6) (T := TX6) (N := 17) hx hb hu in_X6 hown hK.1 hP 0 rfl rfl 8 (by decide) (hu _ u_211) (fun _ h9 => h9) rfl dX6_mostErases_12 ?_
  refine lv_iload_n hx hb dX6_mostErases_15 rfl (lv_at hl 0 rfl) ?_
  refine va_iald hx hb hK.1 hP 1 0 rfl rfl (vin_c _ _ rfl) dX6_mostErases_16 ?_
  refine tpi (y := 0) (z_f_drp2 _ (cl_lt (vin_c _ _ rfl))) ?_
  refine va_mmax hx hb (hml.trans hl.1.symm) hown (hu _ u_976) (hu _ u_93) (hu _ u_68) (hu _ u_94) (Nat.le_of_ble_eq_true rfl) (Nat.le_of_ble_eq_true rfl) (Nat.le_of_ble_eq_true rfl) (Nat.le_of_ble_eq_true rfl) dX6_mostErases_17 ?_
  refine tpi (y := 0) (by decide) ?_
  refine lv_istore_n (lv' := [(1, .int 0), (2, .int 12), (0, .ref drp)]) hx hb dX6_mostErases_20 rfl hl (by decide) rfl (fun ls hl => ?_)
  refine lv_iinc (v := 13) (lv' := [(2, .int 13), (1, .int 0), (0, .ref drp)]) hx hb dX6_mostErases_21 hl (k := 1) rfl (by decide) (by decide) rfl (fun ls hl => ?_)
  refine lv_goto (tgt := 4) hx hb dX6_mostErases_24 (by decide) ?_
  refine lv_iload_n hx hb dX6_mostErases_4 rfl (lv_at hl 0 rfl) ?_
  refine lv_bipush (v := 24) hx hb dX6_mostErases_5 (by decide) ?_
  refine lv_icmp_ge (tgt := 27) hx hb dX6_mostErases_7 (by decide) (fun c_14 => absurd c_14 (by decide)) (fun c_14 => ?_)
  refine lv_iload_n hx hb dX6_mostErases_10 rfl (lv_at hl 1 rfl) ?_
  refine lv_aload_n hx hb dX6_mostErases_11 rfl (lv_at hl 2 rfl) ?_
  refine va_get (D := D) (ci := 6) (v := .ref drp2) (C := RX6) (T := TX6) (N := 17) hx hb hu in_X6 hown hK.1 hP 0 rfl rfl 8 (by decide) (hu _ u_211) (fun _ h9 => h9) rfl dX6_mostErases_12 ?_
  refine lv_iload_n hx hb dX6_mostErases_15 rfl (lv_at hl 0 rfl) ?_
  refine va_iald hx hb hK.1 hP 1 0 rfl rfl (vin_c _ _ rfl) dX6_mostErases_16 ?_
  refine tpi (y := 0) (z_f_drp2 _ (cl_lt (vin_c _ _ rfl))) ?_
  refine va_mmax hx hb (hml.trans hl.1.symm) hown (hu _ u_976) (hu _ u_93) (hu _ u_68) (hu _ u_94) (Nat.le_of_ble_eq_true rfl) (Nat.le_of_ble_eq_true rfl) (Nat.le_of_ble_eq_true rfl) (Nat.le_of_ble_eq_true rfl) dX6_mostErases_17 ?_
  refine tpi (y := 0) (by decide) ?_
  refine lv_istore_n (lv' := [(1, .int 0), (2, .int 13), (0, .ref drp)]) hx hb dX6_mostErases_20 rfl hl (by decide) rfl (fun ls hl => ?_)
  refine lv_iinc (v := 14) (lv' := [(2, .int 14), (1, .int 0), (0, .ref drp)]) hx hb dX6_mostErases_21 hl (k := 1) rfl (by decide) (by decide) rfl (fun ls hl => ?_)
  refine lv_goto (tgt := 4) hx hb dX6_mostErases_24 (by decide) ?_
  refine lv_iload_n hx hb dX6_mostErases_4 rfl (lv_at hl 0 rfl) ?_
  refine lv_bipush (v := 24) hx hb dX6_mostErases_5 (by decide) ?_
  refine lv_icmp_ge (tgt := 27) hx hb dX6_mostErases_7 (by decide) (fun c_15 => absurd c_15 (by decide)) (fun c_15 => ?_)
  refine lv_iload_n hx hb dX6_mostErases_10 rfl (lv_at hl 1 rfl) ?_
  refine lv_aload_n hx hb dX6_mostErases_11 rfl (lv_at hl 2 rfl) ?_
  refine va_get (D := D) (ci := 6) (v := .ref drp2) (C := RX6) (T := TX6) (N := 17) hx hb hu in_X6 hown hK.1 hP 0 rfl rfl 8 (by decide) (hu _ u_211) (fun _ h9 => h9) rfl dX6_mostErases_12 ?_
  refine lv_iload_n hx hb dX6_mostErases_15 rfl (lv_at hl 0 rfl) ?_
  refine va_iald hx hb hK.1 hP 1 0 rfl rfl (vin_c _ _ rfl) dX6_mostErases_16 ?_
  refine tpi (y := 0) (z_f_drp2 _ (cl_lt (vin_c _ _ rfl))) ?_
  refine va_mmax hx hb (hml.trans hl.1.symm) hown (hu _ u_976) (hu _ u_93) (hu _ u_68) (hu _ u_94) (Nat.le_of_ble_eq_true rfl) (Nat.le_of_ble_eq_true rfl) (Nat.le_of_ble_eq_true rfl) (Nat.le_of_ble_eq_true rfl) dX6_mostErases_17 ?_
  refine tpi (y := 0) (by decide) ?_
  refine lv_istore_n (lv' := [(1, .int 0), (2, .int 14), (0, .ref drp)]) hx hb dX6_mostErases_20 rfl hl (by decide) rfl (fun ls hl => ?_)
  refine lv_iinc (v := 15) (lv' := [(2, .int 15), (1, .int 0), (0, .ref drp)]) hx hb dX6_mostErases_21 hl (k := 1) rfl (by decide) (by decide) rfl (fun ls hl => ?_)
  refine lv_goto (tgt := 4) hx hb dX6_mostErases_24 (by decide) ?_
  refine lv_iload_n hx hb dX6_mostErases_4 rfl (lv_at hl 0 rfl) ?_
  refine lv_bipush (v := 24) hx hb dX6_mostErases_5 (by decide) ?_
  refine lv_icmp_ge (tgt := 27) hx hb dX6_mostErases_7 (by decide) (fun c_16 => absurd c_16 (by decide)) (fun c_16 => ?_)
  refine lv_iload_n hx hb dX6_mostErases_10 rfl (lv_at hl 1 rfl) ?_
  refine lv_aload_n hx hb dX6_mostErases_11 rfl (lv_at hl 2 rfl) ?_
  refine va_get (D := D) (ci := 6) (v := .ref drp2) (C := RX6) (T := TX6) (N := 17) hx hb hu in_X6 hown hK.1 hP 0 rfl rfl 8 (by decide) (hu _ u_211) (fun _ h9 => h9) rfl dX6_mostErases_12 ?_
  refine lv_iload_n hx hb dX6_mostErases_15 rfl (lv_at hl 0 rfl) ?_
  refine va_iald hx hb hK.1 hP 1 0 rfl rfl (vin_c _ _ rfl) dX6_mostErases_16 ?_
  refine tpi (y := 0) (z_f_drp2 _ (cl_lt (vin_c _ _ rfl))) ?_
  refine va_mmax hx hb (hml.trans hl.1.symm) hown (hu _ u_976) (hu _ u_93) (hu _ u_68) (hu _ u_94) (Nat.le_of_ble_eq_true rfl) (Nat.le_of_ble_eq_true rfl) (Nat.le_of_ble_eq_true rfl) (Nat.le_of_ble_eq_true rfl) dX6_mostErases_17 ?_
  refine tpi (y := 0) (by decide) ?_
  refine lv_istore_n (lv' := [(1, .int 0), (2, .int 15), (0, .ref drp)]) hx hb dX6_mostErases_20 rfl hl (by decide) rfl (fun ls hl => ?_)
  refine lv_iinc (v := 16) (lv' := [(2, .int 16), (1, .int 0), (0, .ref drp)]) hx hb dX6_mostErases_21 hl (k := 1) rfl (by decide) (by decide) rfl (fun ls hl => ?_)
  refine lv_goto (tgt := 4) hx hb dX6_mostErases_24 (by decide) ?_
  refine lv_iload_n hx hb dX6_mostErases_4 rfl (lv_at hl 0 rfl) ?_
  refine lv_bipush (v := 24) hx hb dX6_mostErases_5 (by decide) ?_
  refine lv_icmp_ge (tgt := 27) hx hb dX6_mostErases_7 (by decide) (fun c_17 => absurd c_17 (by decide)) (fun c_17 => ?_)
  refine lv_iload_n hx hb dX6_mostErases_10 rfl (lv_at hl 1 rfl) ?_
  refine lv_aload_n hx hb dX6_mostErases_11 rfl (lv_at hl 2 rfl) ?_
  refine va_get (D := D) (ci := 6) (v := .ref drp2) (C := RX6) (T := TX6) (N := 17) hx hb hu in_X6 hown hK.1 hP 0 rfl rfl 8 (by decide) (hu _ u_211) (fun _ h9 => h9) rfl dX6_mostErases_12 ?_
  refine lv_iload_n hx hb dX6_mostErases_15 rfl (lv_at hl 0 rfl) ?_
  refine va_iald hx hb hK.1 hP 1 0 rfl rfl (vin_c _ _ rfl) dX6_mostErases_16 ?_
  refine tpi (y := 0) (z_f_drp2 _ (cl_lt (vin_c _ _ rfl))) ?_
  refine va_mmax hx hb (hml.trans hl.1.symm) hown (hu _ u_976) (hu _ u_93) (hu _ u_68) (hu _ u_94) (Nat.le_of_ble_eq_true rfl) (Nat.le_of_ble_eq_true rfl) (Nat.le_of_ble_eq_true rfl) (Nat.le_of_ble_eq_true rfl) dX6_mostErases_17 ?_
  refine tpi (y := 0) (by decide) ?_
  refine lv_istore_n (lv' := [(1, .int 0), (2, .int 16), (0, .ref drp)]) hx hb dX6_mostErases_20 rfl hl (by decide) rfl (fun ls hl => ?_)
  refine lv_iinc (v := 17) (lv' := [(2, .int 17), (1, .int 0), (0, .ref drp)]) hx hb dX6_mostErases_21 hl (k := 1) rfl (by decide) (by decide) rfl (fun ls hl => ?_)
  refine lv_goto (tgt := 4) hx hb dX6_mostErases_24 (by decide) ?_
  refine lv_iload_n hx hb dX6_mostErases_4 rfl (lv_at hl 0 rfl) ?_
  refine lv_bipush (v := 24) hx hb dX6_mostErases_5 (by decide) ?_
  refine lv_icmp_ge (tgt := 27) hx hb dX6_mostErases_7 (by decide) (fun c_18 => absurd c_18 (by decide)) (fun c_18 => ?_)
  refine lv_iload_n hx hb dX6_mostErases_10 rfl (lv_at hl 1 rfl) ?_
  refine lv_aload_n hx hb dX6_mostErases_11 rfl (lv_at hl 2 rfl) ?_
  refine va_get (D := D) (ci := 6) (v := .ref drp2) (C := RX6) (T := TX6) (N := 17) hx hb hu in_X6 hown hK.1 hP 0 rfl rfl 8 (by decide) (hu _ u_211) (fun _ h9 => h9) rfl dX6_mostErases_12 ?_
  refine lv_iload_n hx hb dX6_mostErases_15 rfl (lv_at hl 0 rfl) ?_
  refine va_iald hx hb hK.1 hP 1 0 rfl rfl (vin_c _ _ rfl) dX6_mostErases_16 ?_
  refine tpi (y := 0) (z_f_drp2 _ (cl_lt (vin_c _ _ rfl))) ?_
  refine va_mmax hx hb (hml.trans hl.1.symm) hown (hu _ u_976) (hu _ u_93) (hu _ u_68) (hu _ u_94) (Nat.le_of_ble_eq_true rfl) (Nat.le_of_ble_eq_true rfl) (Nat.le_of_ble_eq_true rfl) (Nat.le_of_ble_eq_true rfl) dX6_mostErases_17 ?_
  refine tpi (y := 0) (by decide) ?_
  refine lv_istore_n (lv' := [(1, .int 0), (2, .int 17), (0, .ref drp)]) hx hb dX6_mostErases_20 rfl hl (by decide) rfl (fun ls hl => ?_)
  refine lv_iinc (v := 18) (lv' := [(2, .int 18), (1, .int 0), (0, .ref drp)]) hx hb dX6_mostErases_21 hl (k := 1) rfl (by decide) (by decide) rfl (fun ls hl => ?_)
  refine lv_goto (tgt := 4) hx hb dX6_mostErases_24 (by decide) ?_
  refine lv_iload_n hx hb dX6_mostErases_4 rfl (lv_at hl 0 rfl) ?_
  refine lv_bipush (v := 24) hx hb dX6_mostErases_5 (by decide) ?_
  refine lv_icmp_ge (tgt := 27) hx hb dX6_mostErases_7 (by decide) (fun c_19 => absurd c_19 (by decide)) (fun c_19 => ?_)
  refine lv_iload_n hx hb dX6_mostErases_10 rfl (lv_at hl 1 rfl) ?_
  refine lv_aload_n hx hb dX6_mostErases_11 rfl (lv_at hl 2 rfl) ?_
  refine va_get (D := D) (ci := 6) (v := .ref drp2) (C := RX6) (T := TX6) (N := 17) hx hb hu in_X6 hown hK.1 hP 0 rfl rfl 8 (by decide) (hu _ u_211) (fun _ h9 => h9) rfl dX6_mostErases_12 ?_
  refine lv_iload_n hx hb dX6_mostErases_15 rfl (lv_at hl 0 rfl) ?_
  refine va_iald hx hb hK.1 hP 1 0 rfl rfl (vin_c _ _ rfl) dX6_mostErases_16 ?_
  refine tpi (y := 0) (z_f_drp2 _ (cl_lt (vin_c _ _ rfl))) ?_
  refine va_mmax hx hb (hml.trans hl.1.symm) hown (hu _ u_976) (hu _ u_93) (hu _ u_68) (hu _ u_94) (Nat.le_of_ble_eq_true rfl) (Nat.le_of_ble_eq_true rfl) (Nat.le_of_ble_eq_true rfl) (Nat.le_of_ble_eq_true rfl) dX6_mostErases_17 ?_
  refine tpi (y := 0) (by decide) ?_
  refine lv_istore_n (lv' := [(1, .int 0), (2, .int 18), (0, .ref drp)]) hx hb dX6_mostErases_20 rfl hl (by decide) rfl (fun ls hl => ?_)
  refine lv_iinc (v := 19) (lv' := [(2, .int 19), (1, .int 0), (0, .ref drp)]) hx hb dX6_mostErases_21 hl (k := 1) rfl (by decide) (by decide) rfl (fun ls hl => ?_)
  refine lv_goto (tgt := 4) hx hb dX6_mostErases_24 (by decide) ?_
  refine lv_iload_n hx hb dX6_mostErases_4 rfl (lv_at hl 0 rfl) ?_
  refine lv_bipush (v := 24) hx hb dX6_mostErases_5 (by decide) ?_
  refine lv_icmp_ge (tgt := 27) hx hb dX6_mostErases_7 (by decide) (fun c_20 => absurd c_20 (by decide)) (fun c_20 => ?_)
  refine lv_iload_n hx hb dX6_mostErases_10 rfl (lv_at hl 1 rfl) ?_
  refine lv_aload_n hx hb dX6_mostErases_11 rfl (lv_at hl 2 rfl) ?_
  refine va_get (D := D) (ci := 6) (v := .ref drp2) (C := RX6) (T := TX6) (N := 17) hx hb hu in_X6 hown hK.1 hP 0 rfl rfl 8 (by decide) (hu _ u_211) (fun _ h9 => h9) rfl dX6_mostErases_12 ?_
  refine lv_iload_n hx hb dX6_mostErases_15 rfl (lv_at hl 0 rfl) ?_
  refine va_iald hx hb hK.1 hP 1 0 rfl rfl (vin_c _ _ rfl) dX6_mostErases_16 ?_
  refine tpi (y := 0) (z_f_drp2 _ (cl_lt (vin_c _ _ rfl))) ?_
  refine va_mmax hx hb (hml.trans hl.1.symm) hown (hu _ u_976) (hu _ u_93) (hu _ u_68) (hu _ u_94) (Nat.le_of_ble_eq_true rfl) (Nat.le_of_ble_eq_true rfl) (Nat.le_of_ble_eq_true rfl) (Nat.le_of_ble_eq_true rfl) dX6_mostErases_17 ?_
  refine tpi (y := 0) (by decide) ?_
  refine lv_istore_n (lv' := [(1, .int 0), (2, .int 19), (0, .ref drp)]) hx hb dX6_mostErases_20 rfl hl (by decide) rfl (fun ls hl => ?_)
  refine lv_iinc (v := 20) (lv' := [(2, .int 20), (1, .int 0), (0, .ref drp)]) hx hb dX6_mostErases_21 hl (k := 1) rfl (by decide) (by decide) rfl (fun ls hl => ?_)
  refine lv_goto (tgt := 4) hx hb dX6_mostErases_24 (by decide) ?_
  refine lv_iload_n hx hb dX6_mostErases_4 rfl (lv_at hl 0 rfl) ?_
  refine lv_bipush (v := 24) hx hb dX6_mostErases_5 (by decide) ?_
  refine lv_icmp_ge (tgt := 27) hx hb dX6_mostErases_7 (by decide) (fun c_21 => absurd c_21 (by decide)) (fun c_21 => ?_)
  refine lv_iload_n hx hb dX6_mostErases_10 rfl (lv_at hl 1 rfl) ?_
  refine lv_aload_n hx hb dX6_mostErases_11 rfl (lv_at hl 2 rfl) ?_
  refine va_get (D := D) (ci := 6) (v := .ref drp2) (C := RX6) (T := TX6) (N := 17) hx hb hu in_X6 hown hK.1 hP 0 rfl rfl 8 (by decide) (hu _ u_211) (fun _ h9 => h9) rfl dX6_mostErases_12 ?_
  refine lv_iload_n hx hb dX6_mostErases_15 rfl (lv_at hl 0 rfl) ?_
  refine va_iald hx hb hK.1 hP 1 0 rfl rfl (vin_c _ _ rfl) dX6_mostErases_16 ?_
  refine tpi (y := 0) (z_f_drp2 _ (cl_lt (vin_c _ _ rfl))) ?_
  refine va_mmax hx hb (hml.trans hl.1.symm) hown (hu _ u_976) (hu _ u_93) (hu _ u_68) (hu _ u_94) (Nat.le_of_ble_eq_true rfl) (Nat.le_of_ble_eq_true rfl) (Nat.le_of_ble_eq_true rfl) (Nat.le_of_ble_eq_true rfl) dX6_mostErases_17 ?_
  refine tpi (y := 0) (by decide) ?_
  refine lv_istore_n (lv' := [(1, .int 0), (2, .int 20), (0, .ref drp)]) hx hb dX6_mostErases_20 rfl hl (by decide) rfl (fun ls hl => ?_)
  refine lv_iinc (v := 21) (lv' := [(2, .int 21), (1, .int 0), (0, .ref drp)]) hx hb dX6_mostErases_21 hl (k := 1) rfl (by decide) (by decide) rfl (fun ls hl => ?_)
  refine lv_goto (tgt := 4) hx hb dX6_mostErases_24 (by decide) ?_
  refine lv_iload_n hx hb dX6_mostErases_4 rfl (lv_at hl 0 rfl) ?_
  refine lv_bipush (v := 24) hx hb dX6_mostErases_5 (by decide) ?_
  refine lv_icmp_ge (tgt := 27) hx hb dX6_mostErases_7 (by decide) (fun c_22 => absurd c_22 (by decide)) (fun c_22 => ?_)
  refine lv_iload_n hx hb dX6_mostErases_10 rfl (lv_at hl 1 rfl) ?_
  refine lv_aload_n hx hb dX6_mostErases_11 rfl (lv_at hl 2 rfl) ?_
  refine va_get (D := D) (ci := 6) (v := .ref drp2) (C := RX6) (T := TX6) (N := 17) hx hb hu in_X6 hown hK.1 hP 0 rfl rfl 8 (by decide) (hu _ u_211) (fun _ h9 => h9) rfl dX6_mostErases_12 ?_
  refine lv_iload_n hx hb dX6_mostErases_15 rfl (lv_at hl 0 rfl) ?_
  refine va_iald hx hb hK.1 hP 1 0 rfl rfl (vin_c _ _ rfl) dX6_mostErases_16 ?_
  refine tpi (y := 0) (z_f_drp2 _ (cl_lt (vin_c _ _ rfl))) ?_
  refine va_mmax hx hb (hml.trans hl.1.symm) hown (hu _ u_976) (hu _ u_93) (hu _ u_68) (hu _ u_94) (Nat.le_of_ble_eq_true rfl) (Nat.le_of_ble_eq_true rfl) (Nat.le_of_ble_eq_true rfl) (Nat.le_of_ble_eq_true rfl) dX6_mostErases_17 ?_
  refine tpi (y := 0) (by decide) ?_
  refine lv_istore_n (lv' := [(1, .int 0), (2, .int 21), (0, .ref drp)]) hx hb dX6_mostErases_20 rfl hl (by decide) rfl (fun ls hl => ?_)
  refine lv_iinc (v := 22) (lv' := [(2, .int 22), (1, .int 0), (0, .ref drp)]) hx hb dX6_mostErases_21 hl (k := 1) rfl (by decide) (by decide) rfl (fun ls hl => ?_)
  refine lv_goto (tgt := 4) hx hb dX6_mostErases_24 (by decide) ?_
  refine lv_iload_n hx hb dX6_mostErases_4 rfl (lv_at hl 0 rfl) ?_
  refine lv_bipush (v := 24) hx hb dX6_mostErases_5 (by decide) ?_
  refine lv_icmp_ge (tgt := 27) hx hb dX6_mostErases_7 (by decide) (fun c_23 => absurd c_23 (by decide)) (fun c_23 => ?_)
  refine lv_iload_n hx hb dX6_mostErases_10 rfl (lv_at hl 1 rfl) ?_
  refine lv_aload_n hx hb dX6_mostErases_11 rfl (lv_at hl 2 rfl) ?_
  refine va_get (D := D) (ci := 6) (v := .ref drp2) (C := RX6) (T := TX6) (N := 17) hx hb hu in_X6 hown hK.1 hP 0 rfl rfl 8 (by decide) (hu _ u_211) (fun _ h9 => h9) rfl dX6_mostErases_12 ?_
  refine lv_iload_n hx hb dX6_mostErases_15 rfl (lv_at hl 0 rfl) ?_
  refine va_iald hx hb hK.1 hP 1 0 rfl rfl (vin_c _ _ rfl) dX6_mostErases_16 ?_
  refine tpi (y := 0) (z_f_drp2 _ (cl_lt (vin_c _ _ rfl))) ?_
  refine va_mmax hx hb (hml.trans hl.1.symm) hown (hu _ u_976) (hu _ u_93) (hu _ u_68) (hu _ u_94) (Nat.le_of_ble_eq_true rfl) (Nat.le_of_ble_eq_true rfl) (Nat.le_of_ble_eq_true rfl) (Nat.le_of_ble_eq_true rfl) dX6_mostErases_17 ?_
  refine tpi (y := 0) (by decide) ?_
  refine lv_istore_n (lv' := [(1, .int 0), (2, .int 22), (0, .ref drp)]) hx hb dX6_mostErases_20 rfl hl (by decide) rfl (fun ls hl => ?_)
  refine lv_iinc (v := 23) (lv' := [(2, .int 23), (1, .int 0), (0, .ref drp)]) hx hb dX6_mostErases_21 hl (k := 1) rfl (by decide) (by decide) rfl (fun ls hl => ?_)
  refine lv_goto (tgt := 4) hx hb dX6_mostErases_24 (by decide) ?_
  refine lv_iload_n hx hb dX6_mostErases_4 rfl (lv_at hl 0 rfl) ?_
  refine lv_bipush (v := 24) hx hb dX6_mostErases_5 (by decide) ?_
  refine lv_icmp_ge (tgt := 27) hx hb dX6_mostErases_7 (by decide) (fun c_24 => absurd c_24 (by decide)) (fun c_24 => ?_)
  refine lv_iload_n hx hb dX6_mostErases_10 rfl (lv_at hl 1 rfl) ?_
  refine lv_aload_n hx hb dX6_mostErases_11 rfl (lv_at hl 2 rfl) ?_
  refine va_get (D := D) (ci := 6) (v := .ref drp2) (C := RX6) (T := TX6) (N := 17) hx hb hu in_X6 hown hK.1 hP 0 rfl rfl 8 (by decide) (hu _ u_211) (fun _ h9 => h9) rfl dX6_mostErases_12 ?_
  refine lv_iload_n hx hb dX6_mostErases_15 rfl (lv_at hl 0 rfl) ?_
  refine va_iald hx hb hK.1 hP 1 0 rfl rfl (vin_c _ _ rfl) dX6_mostErases_16 ?_
  refine tpi (y := 0) (z_f_drp2 _ (cl_lt (vin_c _ _ rfl))) ?_
  refine va_mmax hx hb (hml.trans hl.1.symm) hown (hu _ u_976) (hu _ u_93) (hu _ u_68) (hu _ u_94) (Nat.le_of_ble_eq_true rfl) (Nat.le_of_ble_eq_true rfl) (Nat.le_of_ble_eq_true rfl) (Nat.le_of_ble_eq_true rfl) dX6_mostErases_17 ?_
  refine tpi (y := 0) (by decide) ?_
  refine lv_istore_n (lv' := [(1, .int 0), (2, .int 23), (0, .ref drp)]) hx hb dX6_mostErases_20 rfl hl (by decide) rfl (fun ls hl => ?_)
  refine lv_iinc (v := 24) (lv' := [(2, .int 24), (1, .int 0), (0, .ref drp)]) hx hb dX6_mostErases_21 hl (k := 1) rfl (by decide) (by decide) rfl (fun ls hl => ?_)
  refine lv_goto (tgt := 4) hx hb dX6_mostErases_24 (by decide) ?_
  refine lv_iload_n hx hb dX6_mostErases_4 rfl (lv_at hl 0 rfl) ?_
  refine lv_bipush (v := 24) hx hb dX6_mostErases_5 (by decide) ?_
  refine lv_icmp_ge (tgt := 27) hx hb dX6_mostErases_7 (by decide) (fun c_25 => ?_) (fun c_25 => absurd (by decide) c_25)
  refine lv_iload_n hx hb dX6_mostErases_27 rfl (lv_at hl 1 rfl) ?_
  exact hz () hP hD hS rfl [0, 1] rfl rfl (Nat.le_of_ble_eq_true rfl) (Nat.le_of_ble_eq_true rfl) .int rfl rfl dX6_mostErases_28
abbrev rm_c_X6_fewestErases : Room := { frames := 1, cells := 0, slots := 0, locals := 21 }
set_option maxHeartbeats 4000000 in
set_option maxRecDepth 100000 in
theorem c_X6_fewestErases (l : Launch) (D : va_G) (cs : Nat → ClassId) (sz : Nat) (drp : Nat) (drp1 : Nat) (drp2 : Nat) (f_drp2 : Nat → Int32) (drp3 : Nat) (drp4 : Nat) (drp5 : Nat) (drp6 : Nat) (drp7 : Nat) (drp8 : Nat) (drp9 : Nat) (drp10 : Nat) (i1 : Int32) (i2 : Int32) (i3 : Int32) (i4 : Int32) (i5 : Int32) (i6 : Int32) (i7 : Int32) (z_f_drp2 : ∀ j, j < 24 → f_drp2 j = 0) : cMi l yX6_fewestErases (Cond.code yX6_fewestErases cX6_fewestErases 3 (some .int)) (rm_c_X6_fewestErases) D cs [.ref drp] sz [(drp, .inr (6, [.int i1, .int i2, .int i3, .int i4, .int i5, .int i6, .int i7, .ref drp1, .ref drp2, .ref drp3, .ref drp4, .ref drp5, .ref drp6, .ref drp7, .ref drp8, .ref drp9, .ref drp10])), (drp2, aI cs 24 f_drp2)] (fun (r : Int32) (u : Unit) => (r = 0)) (fun (u : Unit) => [(drp, .inr (6, [.int i1, .int i2, .int i3, .int i4, .int i5, .int i6, .int i7, .ref drp1, .ref drp2, .ref drp3, .ref drp4, .ref drp5, .ref drp6, .ref drp7, .ref drp8, .ref drp9, .ref drp10])), (drp2, aI cs 24 f_drp2)]) := by
  refine kMet_i RX6 (by decide) rfl (Nat.le_of_ble_eq_true rfl) ?_
  intro p e s m below meth c ls A Qz H locs hx hb hml hown hin hu hK hsz hA hP hD hS hl hz
  subst hsz
  have hl : lv_has ls 3 [(0, .ref drp)] := hl
  refine lv_aload_n hx hb dX6_fewestErases_0 rfl (lv_at hl 0 rfl) ?_
  refine va_get (D := D) (ci := 6) (v := .ref drp2) (C := RX6) (T := TX6) (N := 17) hx hb hu in_X6 hown hK.1 hP 0 rfl rfl 8 (by decide) (hu _ u_211) (fun _ h9 => h9) rfl dX6_fewestErases_1 ?_
  refine lv_iconst (v := 0) hx hb dX6_fewestErases_4 (by decide) ?_
  refine va_iald hx hb hK.1 hP 1 0 rfl rfl (vin_c _ _ rfl) dX6_fewestErases_5 ?_
  refine tpi (y := 0) (z_f_drp2 _ (cl_lt (vin_c _ _ rfl))) ?_
  refine lv_istore_n (lv' := [(1, .int 0), (0, .ref drp)]) hx hb dX6_fewestErases_6 rfl hl (by decide) rfl (fun ls hl => ?_)
  refine lv_iconst (v := 1) hx hb dX6_fewestErases_7 (by decide) ?_
  refine lv_istore_n (lv' := [(2, .int 1), (1, .int 0), (0, .ref drp)]) hx hb dX6_fewestErases_8 rfl hl (by decide) rfl (fun ls hl => ?_)
  refine lv_iload_n hx hb dX6_fewestErases_9 rfl (lv_at hl 0 rfl) ?_
  refine lv_bipush (v := 24) hx hb dX6_fewestErases_10 (by decide) ?_
  refine lv_icmp_ge (tgt := 32) hx hb dX6_fewestErases_12 (by decide) (fun c_1 => absurd c_1 (by decide)) (fun c_1 => ?_)
  refine lv_iload_n hx hb dX6_fewestErases_15 rfl (lv_at hl 1 rfl) ?_
  refine lv_aload_n hx hb dX6_fewestErases_16 rfl (lv_at hl 2 rfl) ?_
  refine va_get (D := D) (ci := 6) (v := .ref drp2) (C := RX6) (T := TX6) (N := 17) hx hb hu in_X6 hown hK.1 hP 0 rfl rfl 8 (by decide) (hu _ u_211) (fun _ h9 => h9) rfl dX6_fewestErases_17 ?_
  refine lv_iload_n hx hb dX6_fewestErases_20 rfl (lv_at hl 0 rfl) ?_
  refine va_iald hx hb hK.1 hP 1 0 rfl rfl (vin_c _ _ rfl) dX6_fewestErases_21 ?_
  refine tpi (y := 0) (z_f_drp2 _ (cl_lt (vin_c _ _ rfl))) ?_
  refine va_mmin hx hb (hml.trans hl.1.symm) hown (hu _ u_1030) (hu _ u_598) (hu _ u_68) (hu _ u_599) (Nat.le_of_ble_eq_true rfl) (Nat.le_of_ble_eq_true rfl) (Nat.le_of_ble_eq_true rfl) (Nat.le_of_ble_eq_true rfl) dX6_fewestErases_22 ?_
  refine tpi (y := 0) (by decide) ?_
  refine lv_istore_n (lv' := [(1, .int 0), (2, .int 1), (0, .ref drp)]) hx hb dX6_fewestErases_25 rfl hl (by decide) rfl (fun ls hl => ?_)
  refine lv_iinc (v := 2) (lv' := [(2, .int 2), (1, .int 0), (0, .ref drp)]) hx hb dX6_fewestErases_26 hl (k := 1) rfl (by decide) (by decide) rfl (fun ls hl => ?_)
  refine lv_goto (tgt := 9) hx hb dX6_fewestErases_29 (by decide) ?_
  refine lv_iload_n hx hb dX6_fewestErases_9 rfl (lv_at hl 0 rfl) ?_
  refine lv_bipush (v := 24) hx hb dX6_fewestErases_10 (by decide) ?_
  refine lv_icmp_ge (tgt := 32) hx hb dX6_fewestErases_12 (by decide) (fun c_2 => absurd c_2 (by decide)) (fun c_2 => ?_)
  refine lv_iload_n hx hb dX6_fewestErases_15 rfl (lv_at hl 1 rfl) ?_
  refine lv_aload_n hx hb dX6_fewestErases_16 rfl (lv_at hl 2 rfl) ?_
  refine va_get (D := D) (ci := 6) (v := .ref drp2) (C := RX6) (T := TX6) (N := 17) hx hb hu in_X6 hown hK.1 hP 0 rfl rfl 8 (by decide) (hu _ u_211) (fun _ h9 => h9) rfl dX6_fewestErases_17 ?_
  refine lv_iload_n hx hb dX6_fewestErases_20 rfl (lv_at hl 0 rfl) ?_
  refine va_iald hx hb hK.1 hP 1 0 rfl rfl (vin_c _ _ rfl) dX6_fewestErases_21 ?_
  refine tpi (y := 0) (z_f_drp2 _ (cl_lt (vin_c _ _ rfl))) ?_
  refine va_mmin hx hb (hml.trans hl.1.symm) hown (hu _ u_1030) (hu _ u_598) (hu _ u_68) (hu _ u_599) (Nat.le_of_ble_eq_true rfl) (Nat.le_of_ble_eq_true rfl) (Nat.le_of_ble_eq_true rfl) (Nat.le_of_ble_eq_true rfl) dX6_fewestErases_22 ?_
  refine tpi (y := 0) (by decide) ?_
  refine lv_istore_n (lv' := [(1, .int 0), (2, .int 2), (0, .ref drp)]) hx hb dX6_fewestErases_25 rfl hl (by decide) rfl (fun ls hl => ?_)
  refine lv_iinc (v := 3) (lv' := [(2, .int 3), (1, .int 0), (0, .ref drp)]) hx hb dX6_fewestErases_26 hl (k := 1) rfl (by decide) (by decide) rfl (fun ls hl => ?_)
  refine lv_goto (tgt := 9) hx hb dX6_fewestErases_29 (by decide) ?_
  refine lv_iload_n hx hb dX6_fewestErases_9 rfl (lv_at hl 0 rfl) ?_
  refine lv_bipush (v := 24) hx hb dX6_fewestErases_10 (by decide) ?_
  refine lv_icmp_ge (tgt := 32) hx hb dX6_fewestErases_12 (by decide) (fun c_3 => absurd c_3 (by decide)) (fun c_3 => ?_)
  refine lv_iload_n hx hb dX6_fewestErases_15 rfl (lv_at hl 1 rfl) ?_
  refine lv_aload_n hx hb dX6_fewestErases_16 rfl (lv_at hl 2 rfl) ?_
  refine va_get (D := D) (ci := 6) (v := .ref drp2) (C := RX6) (T := TX6) (N := 17) hx hb hu in_X6 hown hK.1 hP 0 rfl rfl 8 (by decide) (hu _ u_211) (fun _ h9 => h9) rfl dX6_fewestErases_17 ?_
  refine lv_iload_n hx hb dX6_fewestErases_20 rfl (lv_at hl 0 rfl) ?_
  refine va_iald hx hb hK.1 hP 1 0 rfl rfl (vin_c _ _ rfl) dX6_fewestErases_21 ?_
  refine tpi (y := 0) (z_f_drp2 _ (cl_lt (vin_c _ _ rfl))) ?_
  refine va_mmin hx hb (hml.trans hl.1.symm) hown (hu _ u_1030) (hu _ u_598) (hu _ u_68) (hu _ u_599) (Nat.le_of_ble_eq_true rfl) (Nat.le_of_ble_eq_true rfl) (Nat.le_of_ble_eq_true rfl) (Nat.le_of_ble_eq_true rfl) dX6_fewestErases_22 ?_
  refine tpi (y := 0) (by decide) ?_
  refine lv_istore_n (lv' := [(1, .int 0), (2, .int 3), (0, .ref drp)]) hx hb dX6_fewestErases_25 rfl hl (by decide) rfl (fun ls hl => ?_)
  refine lv_iinc (v := 4) (lv' := [(2, .int 4), (1, .int 0), (0, .ref drp)]) hx hb dX6_fewestErases_26 hl (k := 1) rfl (by decide) (by decide) rfl (fun ls hl => ?_)
  refine lv_goto (tgt := 9) hx hb dX6_fewestErases_29 (by decide) ?_
  refine lv_iload_n hx hb dX6_fewestErases_9 rfl (lv_at hl 0 rfl) ?_
  refine lv_bipush (v := 24) hx hb dX6_fewestErases_10 (by decide) ?_
  refine lv_icmp_ge (tgt := 32) hx hb dX6_fewestErases_12 (by decide) (fun c_4 => absurd c_4 (by decide)) (fun c_4 => ?_)
  refine lv_iload_n hx hb dX6_fewestErases_15 rfl (lv_at hl 1 rfl) ?_
  refine lv_aload_n hx hb dX6_fewestErases_16 rfl (lv_at hl 2 rfl) ?_
  refine va_get (D := D) (ci := 6) (v := .ref drp2) (C := RX6) (T := TX6) (N := 17) hx hb hu in_X6 hown hK.1 hP 0 rfl rfl 8 (by decide) (hu _ u_211) (fun _ h9 => h9) rfl dX6_fewestErases_17 ?_
  refine lv_iload_n hx hb dX6_fewestErases_20 rfl (lv_at hl 0 rfl) ?_
  refine va_iald hx hb hK.1 hP 1 0 rfl rfl (vin_c _ _ rfl) dX6_fewestErases_21 ?_
  refine tpi (y := 0) (z_f_drp2 _ (cl_lt (vin_c _ _ rfl))) ?_
  refine va_mmin hx hb (hml.trans hl.1.symm) hown (hu _ u_1030) (hu _ u_598) (hu _ u_68) (hu _ u_599) (Nat.le_of_ble_eq_true rfl) (Nat.le_of_ble_eq_true rfl) (Nat.le_of_ble_eq_true rfl) (Nat.le_of_ble_eq_true rfl) dX6_fewestErases_22 ?_
  refine tpi (y := 0) (by decide) ?_
  refine lv_istore_n (lv' := [(1, .int 0), (2, .int 4), (0, .ref drp)]) hx hb dX6_fewestErases_25 rfl hl (by decide) rfl (fun ls hl => ?_)
  refine lv_iinc (v := 5) (lv' := [(2, .int 5), (1, .int 0), (0, .ref drp)]) hx hb dX6_fewestErases_26 hl (k := 1) rfl (by decide) (by decide) rfl (fun ls hl => ?_)
  refine lv_goto (tgt := 9) hx hb dX6_fewestErases_29 (by decide) ?_
  refine lv_iload_n hx hb dX6_fewestErases_9 rfl (lv_at hl 0 rfl) ?_
  refine lv_bipush (v := 24) hx hb dX6_fewestErases_10 (by decide) ?_
  refine lv_icmp_ge (tgt := 32) hx hb dX6_fewestErases_12 (by decide) (fun c_5 => absurd c_5 (by decide)) (fun c_5 => ?_)
  refine lv_iload_n hx hb dX6_fewestErases_15 rfl (lv_at hl 1 rfl) ?_
  refine lv_aload_n hx hb dX6_fewestErases_16 rfl (lv_at hl 2 rfl) ?_
  refine va_get (D := D) (ci := 6) (v := .ref drp2) (C := RX6) (T := TX6) (N := 17) hx hb hu in_X6 hown hK.1 hP 0 rfl rfl 8 (by decide) (hu _ u_211) (fun _ h9 => h9) rfl dX6_fewestErases_17 ?_
  refine lv_iload_n hx hb dX6_fewestErases_20 rfl (lv_at hl 0 rfl) ?_
  refine va_iald hx hb hK.1 hP 1 0 rfl rfl (vin_c _ _ rfl) dX6_fewestErases_21 ?_
  refine tpi (y := 0) (z_f_drp2 _ (cl_lt (vin_c _ _ rfl))) ?_
  refine va_mmin hx hb (hml.trans hl.1.symm) hown (hu _ u_1030) (hu _ u_598) (hu _ u_68) (hu _ u_599) (Nat.le_of_ble_eq_true rfl) (Nat.le_of_ble_eq_true rfl) (Nat.le_of_ble_eq_true rfl) (Nat.le_of_ble_eq_true rfl) dX6_fewestErases_22 ?_
  refine tpi (y := 0) (by decide) ?_
  refine lv_istore_n (lv' := [(1, .int 0), (2, .int 5), (0, .ref drp)]) hx hb dX6_fewestErases_25 rfl hl (by decide) rfl (fun ls hl => ?_)
  refine lv_iinc (v := 6) (lv' := [(2, .int 6), (1, .int 0), (0, .ref drp)]) hx hb dX6_fewestErases_26 hl (k := 1) rfl (by decide) (by decide) rfl (fun ls hl => ?_)
  refine lv_goto (tgt := 9) hx hb dX6_fewestErases_29 (by decide) ?_
  refine lv_iload_n hx hb dX6_fewestErases_9 rfl (lv_at hl 0 rfl) ?_
  refine lv_bipush (v := 24) hx hb dX6_fewestErases_10 (by decide) ?_
  refine lv_icmp_ge (tgt := 32) hx hb dX6_fewestErases_12 (by decide) (fun c_6 => absurd c_6 (by decide)) (fun c_6 => ?_)
  refine lv_iload_n hx hb dX6_fewestErases_15 rfl (lv_at hl 1 rfl) ?_
  refine lv_aload_n hx hb dX6_fewestErases_16 rfl (lv_at hl 2 rfl) ?_
  refine va_get (D := D) (ci := 6) (v := .ref drp2) (C := RX6) (T := TX6) (N := 17) hx hb hu in_X6 hown hK.1 hP 0 rfl rfl 8 (by decide) (hu _ u_211) (fun _ h9 => h9) rfl dX6_fewestErases_17 ?_
  refine lv_iload_n hx hb dX6_fewestErases_20 rfl (lv_at hl 0 rfl) ?_
  refine va_iald hx hb hK.1 hP 1 0 rfl rfl (vin_c _ _ rfl) dX6_fewestErases_21 ?_
  refine tpi (y := 0) (z_f_drp2 _ (cl_lt (vin_c _ _ rfl))) ?_
  refine va_mmin hx hb (hml.trans hl.1.symm) hown (hu _ u_1030) (hu _ u_598) (hu _ u_68) (hu _ u_599) (Nat.le_of_ble_eq_true rfl) (Nat.le_of_ble_eq_true rfl) (Nat.le_of_ble_eq_true rfl) (Nat.le_of_ble_eq_true rfl) dX6_fewestErases_22 ?_
  refine tpi (y := 0) (by decide) ?_
  refine lv_istore_n (lv' := [(1, .int 0), (2, .int 6), (0, .ref drp)]) hx hb dX6_fewestErases_25 rfl hl (by decide) rfl (fun ls hl => ?_)
  refine lv_iinc (v := 7) (lv' := [(2, .int 7), (1, .int 0), (0, .ref drp)]) hx hb dX6_fewestErases_26 hl (k := 1) rfl (by decide) (by decide) rfl (fun ls hl => ?_)
  refine lv_goto (tgt := 9) hx hb dX6_fewestErases_29 (by decide) ?_
  refine lv_iload_n hx hb dX6_fewestErases_9 rfl (lv_at hl 0 rfl) ?_
  refine lv_bipush (v := 24) hx hb dX6_fewestErases_10 (by decide) ?_
  refine lv_icmp_ge (tgt := 32) hx hb dX6_fewestErases_12 (by decide) (fun c_7 => absurd c_7 (by decide)) (fun c_7 => ?_)
  refine lv_iload_n hx hb dX6_fewestErases_15 rfl (lv_at hl 1 rfl) ?_
  refine lv_aload_n hx hb dX6_fewestErases_16 rfl (lv_at hl 2 rfl) ?_
  refine va_get (D := D) (ci := 6) (v := .ref drp2) (C := RX6) (T := TX6) (N := 17) hx hb hu in_X6 hown hK.1 hP 0 rfl rfl 8 (by decide) (hu _ u_211) (fun _ h9 => h9) rfl dX6_fewestErases_17 ?_
  refine lv_iload_n hx hb dX6_fewestErases_20 rfl (lv_at hl 0 rfl) ?_
  refine va_iald hx hb hK.1 hP 1 0 rfl rfl (vin_c _ _ rfl) dX6_fewestErases_21 ?_
  refine tpi (y := 0) (z_f_drp2 _ (cl_lt (vin_c _ _ rfl))) ?_
  refine va_mmin hx hb (hml.trans hl.1.symm) hown (hu _ u_1030) (hu _ u_598) (hu _ u_68) (hu _ u_599) (Nat.le_of_ble_eq_true rfl) (Nat.le_of_ble_eq_true rfl) (Nat.le_of_ble_eq_true rfl) (Nat.le_of_ble_eq_true rfl) dX6_fewestErases_22 ?_
  refine tpi (y := 0) (by decide) ?_
  refine lv_istore_n (lv' := [(1, .int 0), (2, .int 7), (0, .ref drp)]) hx hb dX6_fewestErases_25 rfl hl (by decide) rfl (fun ls hl => ?_)
  refine lv_iinc (v := 8) (lv' := [(2, .int 8), (1, .int 0), (0, .ref drp)]) hx hb dX6_fewestErases_26 hl (k := 1) rfl (by decide) (by decide) rfl (fun ls hl => ?_)
  refine lv_goto (tgt := 9) hx hb dX6_fewestErases_29 (by decide) ?_
  refine lv_iload_n hx hb dX6_fewestErases_9 rfl (lv_at hl 0 rfl) ?_
  refine lv_bipush (v := 24) hx hb dX6_fewestErases_10 (by decide) ?_
  refine lv_icmp_ge (tgt := 32) hx hb dX6_fewestErases_12 (by decide) (fun c_8 => absurd c_8 (by decide)) (fun c_8 => ?_)
  refine lv_iload_n hx hb dX6_fewestErases_15 rfl (lv_at hl 1 rfl) ?_
  refine lv_aload_n hx hb dX6_fewestErases_16 rfl (lv_at hl 2 rfl) ?_
  refine va_get (D := D) (ci := 6) (v := .ref drp2) (C := RX6) (T := TX6) (N := 17) hx hb hu in_X6 hown hK.1 hP 0 rfl rfl 8 (by decide) (hu _ u_211) (fun _ h9 => h9) rfl dX6_fewestErases_17 ?_
  refine lv_iload_n hx hb dX6_fewestErases_20 rfl (lv_at hl 0 rfl) ?_
  refine va_iald hx hb hK.1 hP 1 0 rfl rfl (vin_c _ _ rfl) dX6_fewestErases_21 ?_
  refine tpi (y := 0) (z_f_drp2 _ (cl_lt (vin_c _ _ rfl))) ?_
  refine va_mmin hx hb (hml.trans hl.1.symm) hown (hu _ u_1030) (hu _ u_598) (hu _ u_68) (hu _ u_599) (Nat.le_of_ble_eq_true rfl) (Nat.le_of_ble_eq_true rfl) (Nat.le_of_ble_eq_true rfl) (Nat.le_of_ble_eq_true rfl) dX6_fewestErases_22 ?_
  refine tpi (y := 0) (by decide) ?_
  refine lv_istore_n (lv' := [(1, .int 0), (2, .int 8), (0, .ref drp)]) hx hb dX6_fewestErases_25 rfl hl (by decide) rfl (fun ls hl => ?_)
  refine lv_iinc (v := 9) (lv' := [(2, .int 9), (1, .int 0), (0, .ref drp)]) hx hb dX6_fewestErases_26 hl (k := 1) rfl (by decide) (by decide) rfl (fun ls hl => ?_)
  refine lv_goto (tgt := 9) hx hb dX6_fewestErases_29 (by decide) ?_
  refine lv_iload_n hx hb dX6_fewestErases_9 rfl (lv_at hl 0 rfl) ?_
  refine lv_bipush (v := 24) hx hb dX6_fewestErases_10 (by decide) ?_
  refine lv_icmp_ge (tgt := 32) hx hb dX6_fewestErases_12 (by decide) (fun c_9 => absurd c_9 (by decide)) (fun c_9 => ?_)
  refine lv_iload_n hx hb dX6_fewestErases_15 rfl (lv_at hl 1 rfl) ?_
  refine lv_aload_n hx hb dX6_fewestErases_16 rfl (lv_at hl 2 rfl) ?_
  refine va_get (D := D) (ci := 6) (v := .ref drp2) (C := RX6) (T := TX6) (N := 17) hx hb hu in_X6 hown hK.1 hP 0 rfl rfl 8 (by decide) (hu _ u_211) (fun _ h9 => h9) rfl dX6_fewestErases_17 ?_
  refine lv_iload_n hx hb dX6_fewestErases_20 rfl (lv_at hl 0 rfl) ?_
  refine va_iald hx hb hK.1 hP 1 0 rfl rfl (vin_c _ _ rfl) dX6_fewestErases_21 ?_
  refine tpi (y := 0) (z_f_drp2 _ (cl_lt (vin_c _ _ rfl))) ?_
  refine va_mmin hx hb (hml.trans hl.1.symm) hown (hu _ u_1030) (hu _ u_598) (hu _ u_68) (hu _ u_599) (Nat.le_of_ble_eq_true rfl) (Nat.le_of_ble_eq_true rfl) (Nat.le_of_ble_eq_true rfl) (Nat.le_of_ble_eq_true rfl) dX6_fewestErases_22 ?_
  refine tpi (y := 0) (by decide) ?_
  refine lv_istore_n (lv' := [(1, .int 0), (2, .int 9), (0, .ref drp)]) hx hb dX6_fewestErases_25 rfl hl (by decide) rfl (fun ls hl => ?_)
  refine lv_iinc (v := 10) (lv' := [(2, .int 10), (1, .int 0), (0, .ref drp)]) hx hb dX6_fewestErases_26 hl (k := 1) rfl (by decide) (by decide) rfl (fun ls hl => ?_)
  refine lv_goto (tgt := 9) hx hb dX6_fewestErases_29 (by decide) ?_
  refine lv_iload_n hx hb dX6_fewestErases_9 rfl (lv_at hl 0 rfl) ?_
  refine lv_bipush (v := 24) hx hb dX6_fewestErases_10 (by decide) ?_
  refine lv_icmp_ge (tgt := 32) hx hb dX6_fewestErases_12 (by decide) (fun c_10 => absurd c_10 (by decide)) (fun c_10 => ?_)
  refine lv_iload_n hx hb dX6_fewestErases_15 rfl (lv_at hl 1 rfl) ?_
  refine lv_aload_n hx hb dX6_fewestErases_16 rfl (lv_at hl 2 rfl) ?_
  refine va_get (D := D) (ci := 6) (v := .ref drp2) (C := RX6) (T := TX6) (N := 17) hx hb hu in_X6 hown hK.1 hP 0 rfl rfl 8 (by decide) (hu _ u_211) (fun _ h9 => h9) rfl dX6_fewestErases_17 ?_
  refine lv_iload_n hx hb dX6_fewestErases_20 rfl (lv_at hl 0 rfl) ?_
  refine va_iald hx hb hK.1 hP 1 0 rfl rfl (vin_c _ _ rfl) dX6_fewestErases_21 ?_
  refine tpi (y := 0) (z_f_drp2 _ (cl_lt (vin_c _ _ rfl))) ?_
  refine va_mmin hx hb (hml.trans hl.1.symm) hown (hu _ u_1030) (hu _ u_598) (hu _ u_68) (hu _ u_599) (Nat.le_of_ble_eq_true rfl) (Nat.le_of_ble_eq_true rfl) (Nat.le_of_ble_eq_true rfl) (Nat.le_of_ble_eq_true rfl) dX6_fewestErases_22 ?_
  refine tpi (y := 0) (by decide) ?_
  refine lv_istore_n (lv' := [(1, .int 0), (2, .int 10), (0, .ref drp)]) hx hb dX6_fewestErases_25 rfl hl (by decide) rfl (fun ls hl => ?_)
  refine lv_iinc (v := 11) (lv' := [(2, .int 11), (1, .int 0), (0, .ref drp)]) hx hb dX6_fewestErases_26 hl (k := 1) rfl (by decide) (by decide) rfl (fun ls hl => ?_)
  refine lv_goto (tgt := 9) hx hb dX6_fewestErases_29 (by decide) ?_
  refine lv_iload_n hx hb dX6_fewestErases_9 rfl (lv_at hl 0 rfl) ?_
  refine lv_bipush (v := 24) hx hb dX6_fewestErases_10 (by decide) ?_
  refine lv_icmp_ge (tgt := 32) hx hb dX6_fewestErases_12 (by decide) (fun c_11 => absurd c_11 (by decide)) (fun c_11 => ?_)
  refine lv_iload_n hx hb dX6_fewestErases_15 rfl (lv_at hl 1 rfl) ?_
  refine lv_aload_n hx hb dX6_fewestErases_16 rfl (lv_at hl 2 rfl) ?_
  refine va_get (D := D) (ci := 6) (v := .ref drp2) (C := RX6) (T := TX6) (N := 17) hx hb hu in_X6 hown hK.1 hP 0 rfl rfl 8 (by decide) (hu _ u_211) (fun _ h9 => h9) rfl dX6_fewestErases_17 ?_
  refine lv_iload_n hx hb dX6_fewestErases_20 rfl (lv_at hl 0 rfl) ?_
  refine va_iald hx hb hK.1 hP 1 0 rfl rfl (vin_c _ _ rfl) dX6_fewestErases_21 ?_
  refine tpi (y := 0) (z_f_drp2 _ (cl_lt (vin_c _ _ rfl))) ?_
  refine va_mmin hx hb (hml.trans hl.1.symm) hown (hu _ u_1030) (hu _ u_598) (hu _ u_68) (hu _ u_599) (Nat.le_of_ble_eq_true rfl) (Nat.le_of_ble_eq_true rfl) (Nat.le_of_ble_eq_true rfl) (Nat.le_of_ble_eq_true rfl) dX6_fewestErases_22 ?_
  refine tpi (y := 0) (by decide) ?_
  refine lv_istore_n (lv' := [(1, .int 0), (2, .int 11), (0, .ref drp)]) hx hb dX6_fewestErases_25 rfl hl (by decide) rfl (fun ls hl => ?_)
  refine lv_iinc (v := 12) (lv' := [(2, .int 12), (1, .int 0), (0, .ref drp)]) hx hb dX6_fewestErases_26 hl (k := 1) rfl (by decide) (by decide) rfl (fun ls hl => ?_)
  refine lv_goto (tgt := 9) hx hb dX6_fewestErases_29 (by decide) ?_
  refine lv_iload_n hx hb dX6_fewestErases_9 rfl (lv_at hl 0 rfl) ?_
  refine lv_bipush (v := 24) hx hb dX6_fewestErases_10 (by decide) ?_
  refine lv_icmp_ge (tgt := 32) hx hb dX6_fewestErases_12 (by decide) (fun c_12 => absurd c_12 (by decide)) (fun c_12 => ?_)
  refine lv_iload_n hx hb dX6_fewestErases_15 rfl (lv_at hl 1 rfl) ?_
  refine lv_aload_n hx hb dX6_fewestErases_16 rfl (lv_at hl 2 rfl) ?_
  refine va_get (D := D) (ci := 6) (v := .ref drp2) (C := RX6) (T := TX6) (N := 17) hx hb hu in_X6 hown hK.1 hP 0 rfl rfl 8 (by decide) (hu _ u_211) (fun _ h9 => h9) rfl dX6_fewestErases_17 ?_
  refine lv_iload_n hx hb dX6_fewestErases_20 rfl (lv_at hl 0 rfl) ?_
  refine va_iald hx hb hK.1 hP 1 0 rfl rfl (vin_c _ _ rfl) dX6_fewestErases_21 ?_
  refine tpi (y := 0) (z_f_drp2 _ (cl_lt (vin_c _ _ rfl))) ?_
  refine va_mmin hx hb (hml.trans hl.1.symm) hown (hu _ u_1030) (hu _ u_598) (hu _ u_68) (hu _ u_599) (Nat.le_of_ble_eq_true rfl) (Nat.le_of_ble_eq_true rfl) (Nat.le_of_ble_eq_true rfl) (Nat.le_of_ble_eq_true rfl) dX6_fewestErases_22 ?_
  refine tpi (y := 0) (by decide) ?_
  refine lv_istore_n (lv' := [(1, .int 0), (2, .int 12), (0, .ref drp)]) hx hb dX6_fewestErases_25 rfl hl (by decide) rfl (fun ls hl => ?_)
  refine lv_iinc (v := 13) (lv' := [(2, .int 13), (1, .int 0), (0, .ref drp)]) hx hb dX6_fewestErases_26 hl (k := 1) rfl (by decide) (by decide) rfl (fun ls hl => ?_)
  refine lv_goto (tgt := 9) hx hb dX6_fewestErases_29 (by decide) ?_
  refine lv_iload_n hx hb dX6_fewestErases_9 rfl (lv_at hl 0 rfl) ?_
  refine lv_bipush (v := 24) hx hb dX6_fewestErases_10 (by decide) ?_
  refine lv_icmp_ge (tgt := 32) hx hb dX6_fewestErases_12 (by decide) (fun c_13 => absurd c_13 (by decide)) (fun c_13 => ?_)
  refine lv_iload_n hx hb dX6_fewestErases_15 rfl (lv_at hl 1 rfl) ?_
  refine lv_aload_n hx hb dX6_fewestErases_16 rfl (lv_at hl 2 rfl) ?_
  refine va_get (D := D) (ci := 6) (v := .ref drp2) (C := RX6) (T := TX6) (N := 17) hx hb hu in_X6 hown hK.1 hP 0 rfl rfl 8 (by decide) (hu _ u_211) (fun _ h9 => h9) rfl dX6_fewestErases_17 ?_
  refine lv_iload_n hx hb dX6_fewestErases_20 rfl (lv_at hl 0 rfl) ?_
  refine va_iald hx hb hK.1 hP 1 0 rfl rfl (vin_c _ _ rfl) dX6_fewestErases_21 ?_
  refine tpi (y := 0) (z_f_drp2 _ (cl_lt (vin_c _ _ rfl))) ?_
  refine va_mmin hx hb (hml.trans hl.1.symm) hown (hu _ u_1030) (hu _ u_598) (hu _ u_68) (hu _ u_599) (Nat.le_of_ble_eq_true rfl) (Nat.le_of_ble_eq_true rfl) (Nat.le_of_ble_eq_true rfl) (Nat.le_of_ble_eq_true rfl) dX6_fewestErases_22 ?_
  refine tpi (y := 0) (by decide) ?_
  refine lv_istore_n (lv' := [(1, .int 0), (2, .int 13), (0, .ref drp)]) hx hb dX6_fewestErases_25 rfl hl (by decide) rfl (fun ls hl => ?_)
  refine lv_iinc (v := 14) (lv' := [(2, .int 14), (1, .int 0), (0, .ref drp)]) hx hb dX6_fewestErases_26 hl (k := 1) rfl (by decide) (by decide) rfl (fun ls hl => ?_)
  refine lv_goto (tgt := 9) hx hb dX6_fewestErases_29 (by decide) ?_
  refine lv_iload_n hx hb dX6_fewestErases_9 rfl (lv_at hl 0 rfl) ?_
  refine lv_bipush (v := 24) hx hb dX6_fewestErases_10 (by decide) ?_
  refine lv_icmp_ge (tgt := 32) hx hb dX6_fewestErases_12 (by decide) (fun c_14 => absurd c_14 (by decide)) (fun c_14 => ?_)
  refine lv_iload_n hx hb dX6_fewestErases_15 rfl (lv_at hl 1 rfl) ?_
  refine lv_aload_n hx hb dX6_fewestErases_16 rfl (lv_at hl 2 rfl) ?_
  refine va_get (D := D) (ci := 6) (v := .ref drp2) (C := RX6) (T := TX6) (N := 17) hx hb hu in_X6 hown hK.1 hP 0 rfl rfl 8 (by decide) (hu _ u_211) (fun _ h9 => h9) rfl dX6_fewestErases_17 ?_
  refine lv_iload_n hx hb dX6_fewestErases_20 rfl (lv_at hl 0 rfl) ?_
  refine va_iald hx hb hK.1 hP 1 0 rfl rfl (vin_c _ _ rfl) dX6_fewestErases_21 ?_
  refine tpi (y := 0) (z_f_drp2 _ (cl_lt (vin_c _ _ rfl))) ?_
  refine va_mmin hx hb (hml.trans hl.1.symm) hown (hu _ u_1030) (hu _ u_598) (hu _ u_68) (hu _ u_599) (Nat.le_of_ble_eq_true rfl) (Nat.le_of_ble_eq_true rfl) (Nat.le_of_ble_eq_true rfl) (Nat.le_of_ble_eq_true rfl) dX6_fewestErases_22 ?_
  refine tpi (y := 0) (by decide) ?_
  refine lv_istore_n (lv' := [(1, .int 0), (2, .int 14), (0, .ref drp)]) hx hb dX6_fewestErases_25 rfl hl (by decide) rfl (fun ls hl => ?_)
  refine lv_iinc (v := 15) (lv' := [(2, .int 15), (1, .int 0), (0, .ref drp)]) hx hb dX6_fewestErases_26 hl (k := 1) rfl (by decide) (by decide) rfl (fun ls hl => ?_)
  refine lv_goto (tgt := 9) hx hb dX6_fewestErases_29 (by decide) ?_
  refine lv_iload_n hx hb dX6_fewestErases_9 rfl (lv_at hl 0 rfl) ?_
  refine lv_bipush (v := 24) hx hb dX6_fewestErases_10 (by decide) ?_
  refine lv_icmp_ge (tgt := 32) hx hb dX6_fewestErases_12 (by decide) (fun c_15 => absurd c_15 (by decide)) (fun c_15 => ?_)
  refine lv_iload_n hx hb dX6_fewestErases_15 rfl (lv_at hl 1 rfl) ?_
  refine lv_aload_n hx hb dX6_fewestErases_16 rfl (lv_at hl 2 rfl) ?_
  refine va_get (D := D) (ci := 6) (v := .ref drp2) (C := RX6) (T := TX6) (N := 17) hx hb hu in_X6 hown hK.1 hP 0 rfl rfl 8 (by decide) (hu _ u_211) (fun _ h9 => h9) rfl dX6_fewestErases_17 ?_
  refine lv_iload_n hx hb dX6_fewestErases_20 rfl (lv_at hl 0 rfl) ?_
  refine va_iald hx hb hK.1 hP 1 0 rfl rfl (vin_c _ _ rfl) dX6_fewestErases_21 ?_
  refine tpi (y := 0) (z_f_drp2 _ (cl_lt (vin_c _ _ rfl))) ?_
  refine va_mmin hx hb (hml.trans hl.1.symm) hown (hu _ u_1030) (hu _ u_598) (hu _ u_68) (hu _ u_599) (Nat.le_of_ble_eq_true rfl) (Nat.le_of_ble_eq_true rfl) (Nat.le_of_ble_eq_true rfl) (Nat.le_of_ble_eq_true rfl) dX6_fewestErases_22 ?_
  refine tpi (y := 0) (by decide) ?_
  refine lv_istore_n (lv' := [(1, .int 0), (2, .int 15), (0, .ref drp)]) hx hb dX6_fewestErases_25 rfl hl (by decide) rfl (fun ls hl => ?_)
  refine lv_iinc (v := 16) (lv' := [(2, .int 16), (1, .int 0), (0, .ref drp)]) hx hb dX6_fewestErases_26 hl (k := 1) rfl (by decide) (by decide) rfl (fun ls hl => ?_)
  refine lv_goto (tgt := 9) hx hb dX6_fewestErases_29 (by decide) ?_
  refine lv_iload_n hx hb dX6_fewestErases_9 rfl (lv_at hl 0 rfl) ?_
  refine lv_bipush (v := 24) hx hb dX6_fewestErases_10 (by decide) ?_
  refine lv_icmp_ge (tgt := 32) hx hb dX6_fewestErases_12 (by decide) (fun c_16 => absurd c_16 (by decide)) (fun c_16 => ?_)
  refine lv_iload_n hx hb dX6_fewestErases_15 rfl (lv_at hl 1 rfl) ?_
  refine lv_aload_n hx hb dX6_fewestErases_16 rfl (lv_at hl 2 rfl) ?_
  refine va_get (D := D) (ci := 6) (v := .ref drp2) (C := RX6) (T := TX6) (N := 17) hx hb hu in_X6 hown hK.1 hP 0 rfl rfl 8 (by decide) (hu _ u_211) (fun _ h9 => h9) rfl dX6_fewestErases_17 ?_
  refine lv_iload_n hx hb dX6_fewestErases_20 rfl (lv_at hl 0 rfl) ?_
  refine va_iald hx hb hK.1 hP 1 0 rfl rfl (vin_c _ _ rfl) dX6_fewestErases_21 ?_
  refine tpi (y := 0) (z_f_drp2 _ (cl_lt (vin_c _ _ rfl))) ?_
  refine va_mmin hx hb (hml.trans hl.1.symm) hown (hu _ u_1030) (hu _ u_598) (hu _ u_68) (hu _ u_599) (Nat.le_of_ble_eq_true rfl) (Nat.le_of_ble_eq_true rfl) (Nat.le_of_ble_eq_true rfl) (Nat.le_of_ble_eq_true rfl) dX6_fewestErases_22 ?_
  refine tpi (y := 0) (by decide) ?_
  refine lv_istore_n (lv' := [(1, .int 0), (2, .int 16), (0, .ref drp)]) hx hb dX6_fewestErases_25 rfl hl (by decide) rfl (fun ls hl => ?_)
  refine lv_iinc (v := 17) (lv' := [(2, .int 17), (1, .int 0), (0, .ref drp)]) hx hb dX6_fewestErases_26 hl (k := 1) rfl (by decide) (by decide) rfl (fun ls hl => ?_)
  refine lv_goto (tgt := 9) hx hb dX6_fewestErases_29 (by decide) ?_
  refine lv_iload_n hx hb dX6_fewestErases_9 rfl (lv_at hl 0 rfl) ?_
  refine lv_bipush (v := 24) hx hb dX6_fewestErases_10 (by decide) ?_
  refine lv_icmp_ge (tgt := 32) hx hb dX6_fewestErases_12 (by decide) (fun c_17 => absurd c_17 (by decide)) (fun c_17 => ?_)
  refine lv_iload_n hx hb dX6_fewestErases_15 rfl (lv_at hl 1 rfl) ?_
  refine lv_aload_n hx hb dX6_fewestErases_16 rfl (lv_at hl 2 rfl) ?_
  refine va_get (D := D) (ci := 6) (v := .ref drp2) (C := RX6) (T := TX6) (N := 17) hx hb hu in_X6 hown hK.1 hP 0 rfl rfl 8 (by decide) (hu _ u_211) (fun _ h9 => h9) rfl dX6_fewestErases_17 ?_
  refine lv_iload_n hx hb dX6_fewestErases_20 rfl (lv_at hl 0 rfl) ?_
  refine va_iald hx hb hK.1 hP 1 0 rfl rfl (vin_c _ _ rfl) dX6_fewestErases_21 ?_
  refine tpi (y := 0) (z_f_drp2 _ (cl_lt (vin_c _ _ rfl))) ?_
  refine va_mmin hx hb (hml.trans hl.1.symm) hown (hu _ u_1030) (hu _ u_598) (hu _ u_68) (hu _ u_599) (Nat.le_of_ble_eq_true rfl) (Nat.le_of_ble_eq_true rfl) (Nat.le_of_ble_eq_true rfl) (Nat.le_of_ble_eq_true rfl) dX6_fewestErases_22 ?_
  refine tpi (y := 0) (by decide) ?_
  refine lv_istore_n (lv' := [(1, .int 0), (2, .int 17), (0, .ref drp)]) hx hb dX6_fewestErases_25 rfl hl (by decide) rfl (fun ls hl => ?_)
  refine lv_iinc (v := 18) (lv' := [(2, .int 18), (1, .int 0), (0, .ref drp)]) hx hb dX6_fewestErases_26 hl (k := 1) rfl (by decide) (by decide) rfl (fun ls hl => ?_)
  refine lv_goto (tgt := 9) hx hb dX6_fewestErases_29 (by decide) ?_
  refine lv_iload_n hx hb dX6_fewestErases_9 rfl (lv_at hl 0 rfl) ?_
  refine lv_bipush (v := 24) hx hb dX6_fewestErases_10 (by decide) ?_
  refine lv_icmp_ge (tgt := 32) hx hb dX6_fewestErases_12 (by decide) (fun c_18 => absurd c_18 (by decide)) (fun c_18 => ?_)
  refine lv_iload_n hx hb dX6_fewestErases_15 rfl (lv_at hl 1 rfl) ?_
  refine lv_aload_n hx hb dX6_fewestErases_16 rfl (lv_at hl 2 rfl) ?_
  refine va_get (D := D) (ci := 6) (v := .ref drp2) (C := RX6) (T := TX6) (N := 17) hx hb hu in_X6 hown hK.1 hP 0 rfl rfl 8 (by decide) (hu _ u_211) (fun _ h9 => h9) rfl dX6_fewestErases_17 ?_
  refine lv_iload_n hx hb dX6_fewestErases_20 rfl (lv_at hl 0 rfl) ?_
  refine va_iald hx hb hK.1 hP 1 0 rfl rfl (vin_c _ _ rfl) dX6_fewestErases_21 ?_
  refine tpi (y := 0) (z_f_drp2 _ (cl_lt (vin_c _ _ rfl))) ?_
  refine va_mmin hx hb (hml.trans hl.1.symm) hown (hu _ u_1030) (hu _ u_598) (hu _ u_68) (hu _ u_599) (Nat.le_of_ble_eq_true rfl) (Nat.le_of_ble_eq_true rfl) (Nat.le_of_ble_eq_true rfl) (Nat.le_of_ble_eq_true rfl) dX6_fewestErases_22 ?_
  refine tpi (y := 0) (by decide) ?_
  refine lv_istore_n (lv' := [(1, .int 0), (2, .int 18), (0, .ref drp)]) hx hb dX6_fewestErases_25 rfl hl (by decide) rfl (fun ls hl => ?_)
  refine lv_iinc (v := 19) (lv' := [(2, .int 19), (1, .int 0), (0, .ref drp)]) hx hb dX6_fewestErases_26 hl (k := 1) rfl (by decide) (by decide) rfl (fun ls hl => ?_)
  refine lv_goto (tgt := 9) hx hb dX6_fewestErases_29 (by decide) ?_
  refine lv_iload_n hx hb dX6_fewestErases_9 rfl (lv_at hl 0 rfl) ?_
  refine lv_bipush (v := 24) hx hb dX6_fewestErases_10 (by decide) ?_
  refine lv_icmp_ge (tgt := 32) hx hb dX6_fewestErases_12 (by decide) (fun c_19 => absurd c_19 (by decide)) (fun c_19 => ?_)
  refine lv_iload_n hx hb dX6_fewestErases_15 rfl (lv_at hl 1 rfl) ?_
  refine lv_aload_n hx hb dX6_fewestErases_16 rfl (lv_at hl 2 rfl) ?_
  refine va_get (D := D) (ci := 6) (v := .ref drp2) (C := RX6) (T := TX6) (N := 17) hx hb hu in_X6 hown hK.1 hP 0 rfl rfl 8 (by decide) (hu _ u_211) (fun _ h9 => h9) rfl dX6_fewestErases_17 ?_
  refine lv_iload_n hx hb dX6_fewestErases_20 rfl (lv_at hl 0 rfl) ?_
  refine va_iald hx hb hK.1 hP 1 0 rfl rfl (vin_c _ _ rfl) dX6_fewestErases_21 ?_
  refine tpi (y := 0) (z_f_drp2 _ (cl_lt (vin_c _ _ rfl))) ?_
  refine va_mmin hx hb (hml.trans hl.1.symm) hown (hu _ u_1030) (hu _ u_598) (hu _ u_68) (hu _ u_599) (Nat.le_of_ble_eq_true rfl) (Nat.le_of_ble_eq_true rfl) (Nat.le_of_ble_eq_true rfl) (Nat.le_of_ble_eq_true rfl) dX6_fewestErases_22 ?_
  refine tpi (y := 0) (by decide) ?_
  refine lv_istore_n (lv' := [(1, .int 0), (2, .int 19), (0, .ref drp)]) hx hb dX6_fewestErases_25 rfl hl (by decide) rfl (fun ls hl => ?_)
  refine lv_iinc (v := 20) (lv' := [(2, .int 20), (1, .int 0), (0, .ref drp)]) hx hb dX6_fewestErases_26 hl (k := 1) rfl (by decide) (by decide) rfl (fun ls hl => ?_)
  refine lv_goto (tgt := 9) hx hb dX6_fewestErases_29 (by decide) ?_
  refine lv_iload_n hx hb dX6_fewestErases_9 rfl (lv_at hl 0 rfl) ?_
  refine lv_bipush (v := 24) hx hb dX6_fewestErases_10 (by decide) ?_
  refine lv_icmp_ge (tgt := 32) hx hb dX6_fewestErases_12 (by decide) (fun c_20 => absurd c_20 (by decide)) (fun c_20 => ?_)
  refine lv_iload_n hx hb dX6_fewestErases_15 rfl (lv_at hl 1 rfl) ?_
  refine lv_aload_n hx hb dX6_fewestErases_16 rfl (lv_at hl 2 rfl) ?_
  refine va_get (D := D) (ci := 6) (v := .ref drp2) (C := RX6) (T := TX6) (N := 17) hx hb hu in_X6 hown hK.1 hP 0 rfl rfl 8 (by decide) (hu _ u_211) (fun _ h9 => h9) rfl dX6_fewestErases_17 ?_
  refine lv_iload_n hx hb dX6_fewestErases_20 rfl (lv_at hl 0 rfl) ?_
  refine va_iald hx hb hK.1 hP 1 0 rfl rfl (vin_c _ _ rfl) dX6_fewestErases_21 ?_
  refine tpi (y := 0) (z_f_drp2 _ (cl_lt (vin_c _ _ rfl))) ?_
  refine va_mmin hx hb (hml.trans hl.1.symm) hown (hu _ u_1030) (hu _ u_598) (hu _ u_68) (hu _ u_599) (Nat.le_of_ble_eq_true rfl) (Nat.le_of_ble_eq_true rfl) (Nat.le_of_ble_eq_true rfl) (Nat.le_of_ble_eq_true rfl) dX6_fewestErases_22 ?_
  refine tpi (y := 0) (by decide) ?_
  refine lv_istore_n (lv' := [(1, .int 0), (2, .int 20), (0, .ref drp)]) hx hb dX6_fewestErases_25 rfl hl (by decide) rfl (fun ls hl => ?_)
  refine lv_iinc (v := 21) (lv' := [(2, .int 21), (1, .int 0), (0, .ref drp)]) hx hb dX6_fewestErases_26 hl (k := 1) rfl (by decide) (by decide) rfl (fun ls hl => ?_)
  refine lv_goto (tgt := 9) hx hb dX6_fewestErases_29 (by decide) ?_
  refine lv_iload_n hx hb dX6_fewestErases_9 rfl (lv_at hl 0 rfl) ?_
  refine lv_bipush (v := 24) hx hb dX6_fewestErases_10 (by decide) ?_
  refine lv_icmp_ge (tgt := 32) hx hb dX6_fewestErases_12 (by decide) (fun c_21 => absurd c_21 (by decide)) (fun c_21 => ?_)
  refine lv_iload_n hx hb dX6_fewestErases_15 rfl (lv_at hl 1 rfl) ?_
  refine lv_aload_n hx hb dX6_fewestErases_16 rfl (lv_at hl 2 rfl) ?_
  refine va_get (D := D) (ci := 6) (v := .ref drp2) (C := RX6) (T := TX6) (N := 17) hx hb hu in_X6 hown hK.1 hP 0 rfl rfl 8 (by decide) (hu _ u_211) (fun _ h9 => h9) rfl dX6_fewestErases_17 ?_
  refine lv_iload_n hx hb dX6_fewestErases_20 rfl (lv_at hl 0 rfl) ?_
  refine va_iald hx hb hK.1 hP 1 0 rfl rfl (vin_c _ _ rfl) dX6_fewestErases_21 ?_
  refine tpi (y := 0) (z_f_drp2 _ (cl_lt (vin_c _ _ rfl))) ?_
  refine va_mmin hx hb (hml.trans hl.1.symm) hown (hu _ u_1030) (hu _ u_598) (hu _ u_68) (hu _ u_599) (Nat.le_of_ble_eq_true rfl) (Nat.le_of_ble_eq_true rfl) (Nat.le_of_ble_eq_true rfl) (Nat.le_of_ble_eq_true rfl) dX6_fewestErases_22 ?_
  refine tpi (y := 0) (by decide) ?_
  refine lv_istore_n (lv' := [(1, .int 0), (2, .int 21), (0, .ref drp)]) hx hb dX6_fewestErases_25 rfl hl (by decide) rfl (fun ls hl => ?_)
  refine lv_iinc (v := 22) (lv' := [(2, .int 22), (1, .int 0), (0, .ref drp)]) hx hb dX6_fewestErases_26 hl (k := 1) rfl (by decide) (by decide) rfl (fun ls hl => ?_)
  refine lv_goto (tgt := 9) hx hb dX6_fewestErases_29 (by decide) ?_
  refine lv_iload_n hx hb dX6_fewestErases_9 rfl (lv_at hl 0 rfl) ?_
  refine lv_bipush (v := 24) hx hb dX6_fewestErases_10 (by decide) ?_
  refine lv_icmp_ge (tgt := 32) hx hb dX6_fewestErases_12 (by decide) (fun c_22 => absurd c_22 (by decide)) (fun c_22 => ?_)
  refine lv_iload_n hx hb dX6_fewestErases_15 rfl (lv_at hl 1 rfl) ?_
  refine lv_aload_n hx hb dX6_fewestErases_16 rfl (lv_at hl 2 rfl) ?_
  refine va_get (D := D) (ci := 6) (v := .ref drp2) (C := RX6) (T := TX6) (N := 17) hx hb hu in_X6 hown hK.1 hP 0 rfl rfl 8 (by decide) (hu _ u_211) (fun _ h9 => h9) rfl dX6_fewestErases_17 ?_
  refine lv_iload_n hx hb dX6_fewestErases_20 rfl (lv_at hl 0 rfl) ?_
  refine va_iald hx hb hK.1 hP 1 0 rfl rfl (vin_c _ _ rfl) dX6_fewestErases_21 ?_
  refine tpi (y := 0) (z_f_drp2 _ (cl_lt (vin_c _ _ rfl))) ?_
  refine va_mmin hx hb (hml.trans hl.1.symm) hown (hu _ u_1030) (hu _ u_598) (hu _ u_68) (hu _ u_599) (Nat.le_of_ble_eq_true rfl) (Nat.le_of_ble_eq_true rfl) (Nat.le_of_ble_eq_true rfl) (Nat.le_of_ble_eq_true rfl) dX6_fewestErases_22 ?_
  refine tpi (y := 0) (by decide) ?_
  refine lv_istore_n (lv' := [(1, .int 0), (2, .int 22), (0, .ref drp)]) hx hb dX6_fewestErases_25 rfl hl (by decide) rfl (fun ls hl => ?_)
  refine lv_iinc (v := 23) (lv' := [(2, .int 23), (1, .int 0), (0, .ref drp)]) hx hb dX6_fewestErases_26 hl (k := 1) rfl (by decide) (by decide) rfl (fun ls hl => ?_)
  refine lv_goto (tgt := 9) hx hb dX6_fewestErases_29 (by decide) ?_
  refine lv_iload_n hx hb dX6_fewestErases_9 rfl (lv_at hl 0 rfl) ?_
  refine lv_bipush (v := 24) hx hb dX6_fewestErases_10 (by decide) ?_
  refine lv_icmp_ge (tgt := 32) hx hb dX6_fewestErases_12 (by decide) (fun c_23 => absurd c_23 (by decide)) (fun c_23 => ?_)
  refine lv_iload_n hx hb dX6_fewestErases_15 rfl (lv_at hl 1 rfl) ?_
  refine lv_aload_n hx hb dX6_fewestErases_16 rfl (lv_at hl 2 rfl) ?_
  refine va_get (D := D) (ci := 6) (v := .ref drp2) (C := RX6) (T := TX6) (N := 17) hx hb hu in_X6 hown hK.1 hP 0 rfl rfl 8 (by decide) (hu _ u_211) (fun _ h9 => h9) rfl dX6_fewestErases_17 ?_
  refine lv_iload_n hx hb dX6_fewestErases_20 rfl (lv_at hl 0 rfl) ?_
  refine va_iald hx hb hK.1 hP 1 0 rfl rfl (vin_c _ _ rfl) dX6_fewestErases_21 ?_
  refine tpi (y := 0) (z_f_drp2 _ (cl_lt (vin_c _ _ rfl))) ?_
  refine va_mmin hx hb (hml.trans hl.1.symm) hown (hu _ u_1030) (hu _ u_598) (hu _ u_68) (hu _ u_599) (Nat.le_of_ble_eq_true rfl) (Nat.le_of_ble_eq_true rfl) (Nat.le_of_ble_eq_true rfl) (Nat.le_of_ble_eq_true rfl) dX6_fewestErases_22 ?_
  refine tpi (y := 0) (by decide) ?_
  refine lv_istore_n (lv' := [(1, .int 0), (2, .int 23), (0, .ref drp)]) hx hb dX6_fewestErases_25 rfl hl (by decide) rfl (fun ls hl => ?_)
  refine lv_iinc (v := 24) (lv' := [(2, .int 24), (1, .int 0), (0, .ref drp)]) hx hb dX6_fewestErases_26 hl (k := 1) rfl (by decide) (by decide) rfl (fun ls hl => ?_)
  refine lv_goto (tgt := 9) hx hb dX6_fewestErases_29 (by decide) ?_
  refine lv_iload_n hx hb dX6_fewestErases_9 rfl (lv_at hl 0 rfl) ?_
  refine lv_bipush (v := 24) hx hb dX6_fewestErases_10 (by decide) ?_
  refine lv_icmp_ge (tgt := 32) hx hb dX6_fewestErases_12 (by decide) (fun c_24 => ?_) (fun c_24 => absurd (by decide) c_24)
  refine lv_iload_n hx hb dX6_fewestErases_32 rfl (lv_at hl 1 rfl) ?_
  exact hz () hP hD hS rfl [0, 1] rfl rfl (Nat.le_of_ble_eq_true rfl) (Nat.le_of_ble_eq_true rfl) .int rfl rfl dX6_fewestErases_33
abbrev rm_c_X6_chosen : Room := { frames := 2, cells := 0, slots := 0, locals := 44 }
set_option maxHeartbeats 4000000 in
set_option maxRecDepth 100000 in
theorem c_X6_chosen (l : Launch) (D : va_G) (cs : Nat → ClassId) (sz : Nat) (drp : Nat) (drp1 : Nat) (drp2 : Nat) (drp3 : Nat) (f_drp3 : Nat → Int32) (drp4 : Nat) (drp5 : Nat) (drp6 : Nat) (drp7 : Nat) (drp8 : Nat) (drp9 : Nat) (drp10 : Nat) (i1 : Int32) (i2 : Int32) (i3 : Int32) (i4 : Int32) (i5 : Int32) (i6 : Int32) (i7 : Int32) (x : Int32) (z_f_drp3 : ∀ j, j < 24 → f_drp3 j = 0) : cMi l yX6_chosen (Cond.code yX6_chosen cX6_chosen 7 (some .int)) (rm_c_X6_chosen) D cs [.ref drp, .int x] sz [(drp, .inr (6, [.int i1, .int i2, .int i3, .int i4, .int i5, .int i6, .int i7, .ref drp1, .ref drp2, .ref drp3, .ref drp4, .ref drp5, .ref drp6, .ref drp7, .ref drp8, .ref drp9, .ref drp10])), (drp3, aI cs 24 f_drp3)] (fun (r : Int32) (u : Unit) => (r = (-1))) (fun (u : Unit) => [(drp, .inr (6, [.int i1, .int i2, .int i3, .int i4, .int i5, .int i6, .int i7, .ref drp1, .ref drp2, .ref drp3, .ref drp4, .ref drp5, .ref drp6, .ref drp7, .ref drp8, .ref drp9, .ref drp10])), (drp3, aI cs 24 f_drp3)]) := by
  refine kMet_i RX6 (by decide) rfl (Nat.le_of_ble_eq_true rfl) ?_
  intro p e s m below meth c ls A Qz H locs hx hb hml hown hin hu hK hsz hA hP hD hS hl hz
  subst hsz
  have hl : lv_has ls 7 [(0, .ref drp), (1, .int x)] := hl
  refine lv_iconst (v := (-1)) hx hb dX6_chosen_0 (by decide) ?_
  refine lv_istore_n (lv' := [(2, .int (-1)), (0, .ref drp), (1, .int x)]) hx hb dX6_chosen_1 rfl hl (by decide) rfl (fun ls hl => ?_)
  refine lv_iconst (v := 0) hx hb dX6_chosen_2 (by decide) ?_
  refine lv_istore_n (lv' := [(3, .int 0), (2, .int (-1)), (0, .ref drp), (1, .int x)]) hx hb dX6_chosen_3 rfl hl (by decide) rfl (fun ls hl => ?_)
  refine lv_iconst (v := 0) hx hb dX6_chosen_4 (by decide) ?_
  refine lv_istore (lv' := [(4, .int 0), (3, .int 0), (2, .int (-1)), (0, .ref drp), (1, .int x)]) hx hb dX6_chosen_5 hl (by decide) rfl (fun ls hl => ?_)
  refine lv_iload hx hb dX6_chosen_7 (lv_at hl 0 rfl) ?_
  refine lv_bipush (v := 24) hx hb dX6_chosen_9 (by decide) ?_
  refine lv_icmp_ge (tgt := 90) hx hb dX6_chosen_11 (by decide) (fun c_1 => absurd c_1 (by decide)) (fun c_1 => ?_)
  refine lv_aload_n hx hb dX6_chosen_14 rfl (lv_at hl 3 rfl) ?_
  refine lv_iload hx hb dX6_chosen_15 (lv_at hl 0 rfl) ?_
  refine kV_i (ci := 6) (As := [.int 0]) (rest := []) (wc := [(drp, .inr (6, [.int i1, .int i2, .int i3, .int i4, .int i5, .int i6, .int i7, .ref drp1, .ref drp2, .ref drp3, .ref drp4, .ref drp5, .ref drp6, .ref drp7, .ref drp8, .ref drp9, .ref drp10])), (drp3, aI cs 24 f_drp3)]) (wr := []) hx hb hml hown hu hK hP hD hS hA hl.1 (c_X6_deadOn l D cs H.size drp drp1 drp2 drp3 f_drp3 drp4 drp5 drp6 drp7 drp8 drp9 drp10 i1 i2 i3 i4 i5 i6 i7 0 z_f_drp3) (gV u_457 u_458 u_459 u_72 u_460) hd_X6_deadOn ⟨(Nat.le_of_ble_eq_true rfl), (Nat.le_of_ble_eq_true rfl)⟩ [0, 1] [] rfl rfl rfl rfl (by decide) rfl 0 rfl rfl rfl (Nat.le_of_ble_eq_true rfl) dX6_chosen_17 ⟨(Nat.le_of_ble_eq_true rfl), (Nat.le_of_ble_eq_true rfl)⟩ (fun r_2 ut_3 H locs hw_4 hP hD hS => ?_)
  have hP : va_P D vwCl [(drp, .inr (6, [.int i1, .int i2, .int i3, .int i4, .int i5, .int i6, .int i7, .ref drp1, .ref drp2, .ref drp3, .ref drp4, .ref drp5, .ref drp6, .ref drp7, .ref drp8, .ref drp9, .ref drp10])), (drp3, aI cs 24 f_drp3)] H := hP
  have hD : va_D A [(drp, .inr (6, [.int i1, .int i2, .int i3, .int i4, .int i5, .int i6, .int i7, .ref drp1, .ref drp2, .ref drp3, .ref drp4, .ref drp5, .ref drp6, .ref drp7, .ref drp8, .ref drp9, .ref drp10])), (drp3, aI cs 24 f_drp3)] := hD
  have er_5 := hw_4
  subst er_5
  refine lv_istore (lv' := [(5, .int 0), (4, .int 0), (3, .int 0), (2, .int (-1)), (0, .ref drp), (1, .int x)]) hx hb dX6_chosen_20 hl (by decide) rfl (fun ls hl => ?_)
  refine lv_iload hx hb dX6_chosen_22 (lv_at hl 0 rfl) ?_
  refine lv_if_ne (tgt := 30) hx hb dX6_chosen_24 (by decide) (fun c_6 => absurd (by decide) c_6) (fun c_6 => ?_)
  refine lv_goto (tgt := 84) hx hb dX6_chosen_27 (by decide) ?_
  refine lv_iinc (v := 1) (lv' := [(4, .int 1), (5, .int 0), (3, .int 0), (2, .int (-1)), (0, .ref drp), (1, .int x)]) hx hb dX6_chosen_84 hl (k := 1) rfl (by decide) (by decide) rfl (fun ls hl => ?_)
  refine lv_goto (tgt := 7) hx hb dX6_chosen_87 (by decide) ?_
  refine lv_iload hx hb dX6_chosen_7 (lv_at hl 0 rfl) ?_
  refine lv_bipush (v := 24) hx hb dX6_chosen_9 (by decide) ?_
  refine lv_icmp_ge (tgt := 90) hx hb dX6_chosen_11 (by decide) (fun c_7 => absurd c_7 (by decide)) (fun c_7 => ?_)
  refine lv_aload_n hx hb dX6_chosen_14 rfl (lv_at hl 4 rfl) ?_
  refine lv_iload hx hb dX6_chosen_15 (lv_at hl 0 rfl) ?_
  refine kV_i (ci := 6) (As := [.int 1]) (rest := []) (wc := [(drp, .inr (6, [.int i1, .int i2, .int i3, .int i4, .int i5, .int i6, .int i7, .ref drp1, .ref drp2, .ref drp3, .ref drp4, .ref drp5, .ref drp6, .ref drp7, .ref drp8, .ref drp9, .ref drp10])), (drp3, aI cs 24 f_drp3)]) (wr := []) hx hb hml hown hu hK hP hD hS hA hl.1 (c_X6_deadOn l D cs H.size drp drp1 drp2 drp3 f_drp3 drp4 drp5 drp6 drp7 drp8 drp9 drp10 i1 i2 i3 i4 i5 i6 i7 1 z_f_drp3) (gV u_457 u_458 u_459 u_72 u_460) hd_X6_deadOn ⟨(Nat.le_of_ble_eq_true rfl), (Nat.le_of_ble_eq_true rfl)⟩ [0, 1] [] rfl rfl rfl rfl (by decide) rfl 0 rfl rfl rfl (Nat.le_of_ble_eq_true rfl) dX6_chosen_17 ⟨(Nat.le_of_ble_eq_true rfl), (Nat.le_of_ble_eq_true rfl)⟩ (fun r_8 ut_9 H locs hw_10 hP hD hS => ?_)
  have hP : va_P D vwCl [(drp, .inr (6, [.int i1, .int i2, .int i3, .int i4, .int i5, .int i6, .int i7, .ref drp1, .ref drp2, .ref drp3, .ref drp4, .ref drp5, .ref drp6, .ref drp7, .ref drp8, .ref drp9, .ref drp10])), (drp3, aI cs 24 f_drp3)] H := hP
  have hD : va_D A [(drp, .inr (6, [.int i1, .int i2, .int i3, .int i4, .int i5, .int i6, .int i7, .ref drp1, .ref drp2, .ref drp3, .ref drp4, .ref drp5, .ref drp6, .ref drp7, .ref drp8, .ref drp9, .ref drp10])), (drp3, aI cs 24 f_drp3)] := hD
  have er_11 := hw_10
  subst er_11
  refine lv_istore (lv' := [(5, .int 0), (4, .int 1), (3, .int 0), (2, .int (-1)), (0, .ref drp), (1, .int x)]) hx hb dX6_chosen_20 hl (by decide) rfl (fun ls hl => ?_)
  refine lv_iload hx hb dX6_chosen_22 (lv_at hl 0 rfl) ?_
  refine lv_if_ne (tgt := 30) hx hb dX6_chosen_24 (by decide) (fun c_12 => absurd (by decide) c_12) (fun c_12 => ?_)
  refine lv_goto (tgt := 84) hx hb dX6_chosen_27 (by decide) ?_
  refine lv_iinc (v := 2) (lv' := [(4, .int 2), (5, .int 0), (3, .int 0), (2, .int (-1)), (0, .ref drp), (1, .int x)]) hx hb dX6_chosen_84 hl (k := 1) rfl (by decide) (by decide) rfl (fun ls hl => ?_)
  refine lv_goto (tgt := 7) hx hb dX6_chosen_87 (by decide) ?_
  refine lv_iload hx hb dX6_chosen_7 (lv_at hl 0 rfl) ?_
  refine lv_bipush (v := 24) hx hb dX6_chosen_9 (by decide) ?_
  refine lv_icmp_ge (tgt := 90) hx hb dX6_chosen_11 (by decide) (fun c_13 => absurd c_13 (by decide)) (fun c_13 => ?_)
  refine lv_aload_n hx hb dX6_chosen_14 rfl (lv_at hl 4 rfl) ?_
  refine lv_iload hx hb dX6_chosen_15 (lv_at hl 0 rfl) ?_
  refine kV_i (ci := 6) (As := [.int 2]) (rest := []) (wc := [(drp, .inr (6, [.int i1, .int i2, .int i3, .int i4, .int i5, .int i6, .int i7, .ref drp1, .ref drp2, .ref drp3, .ref drp4, .ref drp5, .ref drp6, .ref drp7, .ref drp8, .ref drp9, .ref drp10])), (drp3, aI cs 24 f_drp3)]) (wr := []) hx hb hml hown hu hK hP hD hS hA hl.1 (c_X6_deadOn l D cs H.size drp drp1 drp2 drp3 f_drp3 drp4 drp5 drp6 drp7 drp8 drp9 drp10 i1 i2 i3 i4 i5 i6 i7 2 z_f_drp3) (gV u_457 u_458 u_459 u_72 u_460) hd_X6_deadOn ⟨(Nat.le_of_ble_eq_true rfl), (Nat.le_of_ble_eq_true rfl)⟩ [0, 1] [] rfl rfl rfl rfl (by decide) rfl 0 rfl rfl rfl (Nat.le_of_ble_eq_true rfl) dX6_chosen_17 ⟨(Nat.le_of_ble_eq_true rfl), (Nat.le_of_ble_eq_true rfl)⟩ (fun r_14 ut_15 H locs hw_16 hP hD hS => ?_)
  have hP : va_P D vwCl [(drp, .inr (6, [.int i1, .int i2, .int i3, .int i4, .int i5, .int i6, .int i7, .ref drp1, .ref drp2, .ref drp3, .ref drp4, .ref drp5, .ref drp6, .ref drp7, .ref drp8, .ref drp9, .ref drp10])), (drp3, aI cs 24 f_drp3)] H := hP
  have hD : va_D A [(drp, .inr (6, [.int i1, .int i2, .int i3, .int i4, .int i5, .int i6, .int i7, .ref drp1, .ref drp2, .ref drp3, .ref drp4, .ref drp5, .ref drp6, .ref drp7, .ref drp8, .ref drp9, .ref drp10])), (drp3, aI cs 24 f_drp3)] := hD
  have er_17 := hw_16
  subst er_17
  refine lv_istore (lv' := [(5, .int 0), (4, .int 2), (3, .int 0), (2, .int (-1)), (0, .ref drp), (1, .int x)]) hx hb dX6_chosen_20 hl (by decide) rfl (fun ls hl => ?_)
  refine lv_iload hx hb dX6_chosen_22 (lv_at hl 0 rfl) ?_
  refine lv_if_ne (tgt := 30) hx hb dX6_chosen_24 (by decide) (fun c_18 => absurd (by decide) c_18) (fun c_18 => ?_)
  refine lv_goto (tgt := 84) hx hb dX6_chosen_27 (by decide) ?_
  refine lv_iinc (v := 3) (lv' := [(4, .int 3), (5, .int 0), (3, .int 0), (2, .int (-1)), (0, .ref drp), (1, .int x)]) hx hb dX6_chosen_84 hl (k := 1) rfl (by decide) (by decide) rfl (fun ls hl => ?_)
  refine lv_goto (tgt := 7) hx hb dX6_chosen_87 (by decide) ?_
  refine lv_iload hx hb dX6_chosen_7 (lv_at hl 0 rfl) ?_
  refine lv_bipush (v := 24) hx hb dX6_chosen_9 (by decide) ?_
  refine lv_icmp_ge (tgt := 90) hx hb dX6_chosen_11 (by decide) (fun c_19 => absurd c_19 (by decide)) (fun c_19 => ?_)
  refine lv_aload_n hx hb dX6_chosen_14 rfl (lv_at hl 4 rfl) ?_
  refine lv_iload hx hb dX6_chosen_15 (lv_at hl 0 rfl) ?_
  refine kV_i (ci := 6) (As := [.int 3]) (rest := []) (wc := [(drp, .inr (6, [.int i1, .int i2, .int i3, .int i4, .int i5, .int i6, .int i7, .ref drp1, .ref drp2, .ref drp3, .ref drp4, .ref drp5, .ref drp6, .ref drp7, .ref drp8, .ref drp9, .ref drp10])), (drp3, aI cs 24 f_drp3)]) (wr := []) hx hb hml hown hu hK hP hD hS hA hl.1 (c_X6_deadOn l D cs H.size drp drp1 drp2 drp3 f_drp3 drp4 drp5 drp6 drp7 drp8 drp9 drp10 i1 i2 i3 i4 i5 i6 i7 3 z_f_drp3) (gV u_457 u_458 u_459 u_72 u_460) hd_X6_deadOn ⟨(Nat.le_of_ble_eq_true rfl), (Nat.le_of_ble_eq_true rfl)⟩ [0, 1] [] rfl rfl rfl rfl (by decide) rfl 0 rfl rfl rfl (Nat.le_of_ble_eq_true rfl) dX6_chosen_17 ⟨(Nat.le_of_ble_eq_true rfl), (Nat.le_of_ble_eq_true rfl)⟩ (fun r_20 ut_21 H locs hw_22 hP hD hS => ?_)
  have hP : va_P D vwCl [(drp, .inr (6, [.int i1, .int i2, .int i3, .int i4, .int i5, .int i6, .int i7, .ref drp1, .ref drp2, .ref drp3, .ref drp4, .ref drp5, .ref drp6, .ref drp7, .ref drp8, .ref drp9, .ref drp10])), (drp3, aI cs 24 f_drp3)] H := hP
  have hD : va_D A [(drp, .inr (6, [.int i1, .int i2, .int i3, .int i4, .int i5, .int i6, .int i7, .ref drp1, .ref drp2, .ref drp3, .ref drp4, .ref drp5, .ref drp6, .ref drp7, .ref drp8, .ref drp9, .ref drp10])), (drp3, aI cs 24 f_drp3)] := hD
  have er_23 := hw_22
  subst er_23
  refine lv_istore (lv' := [(5, .int 0), (4, .int 3), (3, .int 0), (2, .int (-1)), (0, .ref drp), (1, .int x)]) hx hb dX6_chosen_20 hl (by decide) rfl (fun ls hl => ?_)
  refine lv_iload hx hb dX6_chosen_22 (lv_at hl 0 rfl) ?_
  refine lv_if_ne (tgt := 30) hx hb dX6_chosen_24 (by decide) (fun c_24 => absurd (by decide) c_24) (fun c_24 => ?_)
  refine lv_goto (tgt := 84) hx hb dX6_chosen_27 (by decide) ?_
  refine lv_iinc (v := 4) (lv' := [(4, .int 4), (5, .int 0), (3, .int 0), (2, .int (-1)), (0, .ref drp), (1, .int x)]) hx hb dX6_chosen_84 hl (k := 1) rfl (by decide) (by decide) rfl (fun ls hl => ?_)
  refine lv_goto (tgt := 7) hx hb dX6_chosen_87 (by decide) ?_
  refine lv_iload hx hb dX6_chosen_7 (lv_at hl 0 rfl) ?_
  refine lv_bipush (v := 24) hx hb dX6_chosen_9 (by decide) ?_
  refine lv_icmp_ge (tgt := 90) hx hb dX6_chosen_11 (by decide) (fun c_25 => absurd c_25 (by decide)) (fun c_25 => ?_)
  refine lv_aload_n hx hb dX6_chosen_14 rfl (lv_at hl 4 rfl) ?_
  refine lv_iload hx hb dX6_chosen_15 (lv_at hl 0 rfl) ?_
  refine kV_i (ci := 6) (As := [.int 4]) (rest := []) (wc := [(drp, .inr (6, [.int i1, .int i2, .int i3, .int i4, .int i5, .int i6, .int i7, .ref drp1, .ref drp2, .ref drp3, .ref drp4, .ref drp5, .ref drp6, .ref drp7, .ref drp8, .ref drp9, .ref drp10])), (drp3, aI cs 24 f_drp3)]) (wr := []) hx hb hml hown hu hK hP hD hS hA hl.1 (c_X6_deadOn l D cs H.size drp drp1 drp2 drp3 f_drp3 drp4 drp5 drp6 drp7 drp8 drp9 drp10 i1 i2 i3 i4 i5 i6 i7 4 z_f_drp3) (gV u_457 u_458 u_459 u_72 u_460) hd_X6_deadOn ⟨(Nat.le_of_ble_eq_true rfl), (Nat.le_of_ble_eq_true rfl)⟩ [0, 1] [] rfl rfl rfl rfl (by decide) rfl 0 rfl rfl rfl (Nat.le_of_ble_eq_true rfl) dX6_chosen_17 ⟨(Nat.le_of_ble_eq_true rfl), (Nat.le_of_ble_eq_true rfl)⟩ (fun r_26 ut_27 H locs hw_28 hP hD hS => ?_)
  have hP : va_P D vwCl [(drp, .inr (6, [.int i1, .int i2, .int i3, .int i4, .int i5, .int i6, .int i7, .ref drp1, .ref drp2, .ref drp3, .ref drp4, .ref drp5, .ref drp6, .ref drp7, .ref drp8, .ref drp9, .ref drp10])), (drp3, aI cs 24 f_drp3)] H := hP
  have hD : va_D A [(drp, .inr (6, [.int i1, .int i2, .int i3, .int i4, .int i5, .int i6, .int i7, .ref drp1, .ref drp2, .ref drp3, .ref drp4, .ref drp5, .ref drp6, .ref drp7, .ref drp8, .ref drp9, .ref drp10])), (drp3, aI cs 24 f_drp3)] := hD
  have er_29 := hw_28
  subst er_29
  refine lv_istore (lv' := [(5, .int 0), (4, .int 4), (3, .int 0), (2, .int (-1)), (0, .ref drp), (1, .int x)]) hx hb dX6_chosen_20 hl (by decide) rfl (fun ls hl => ?_)
  refine lv_iload hx hb dX6_chosen_22 (lv_at hl 0 rfl) ?_
  refine lv_if_ne (tgt := 30) hx hb dX6_chosen_24 (by decide) (fun c_30 => absurd (by decide) c_30) (fun c_30 => ?_)
  refine lv_goto (tgt := 84) hx hb dX6_chosen_27 (by decide) ?_
  refine lv_iinc (v := 5) (lv' := [(4, .int 5), (5, .int 0), (3, .int 0), (2, .int (-1)), (0, .ref drp), (1, .int x)]) hx hb dX6_chosen_84 hl (k := 1) rfl (by decide) (by decide) rfl (fun ls hl => ?_)
  refine lv_goto (tgt := 7) hx hb dX6_chosen_87 (by decide) ?_
  refine lv_iload hx hb dX6_chosen_7 (lv_at hl 0 rfl) ?_
  refine lv_bipush (v := 24) hx hb dX6_chosen_9 (by decide) ?_
  refine lv_icmp_ge (tgt := 90) hx hb dX6_chosen_11 (by decide) (fun c_31 => absurd c_31 (by decide)) (fun c_31 => ?_)
  refine lv_aload_n hx hb dX6_chosen_14 rfl (lv_at hl 4 rfl) ?_
  refine lv_iload hx hb dX6_chosen_15 (lv_at hl 0 rfl) ?_
  refine kV_i (ci := 6) (As := [.int 5]) (rest := []) (wc := [(drp, .inr (6, [.int i1, .int i2, .int i3, .int i4, .int i5, .int i6, .int i7, .ref drp1, .ref drp2, .ref drp3, .ref drp4, .ref drp5, .ref drp6, .ref drp7, .ref drp8, .ref drp9, .ref drp10])), (drp3, aI cs 24 f_drp3)]) (wr := []) hx hb hml hown hu hK hP hD hS hA hl.1 (c_X6_deadOn l D cs H.size drp drp1 drp2 drp3 f_drp3 drp4 drp5 drp6 drp7 drp8 drp9 drp10 i1 i2 i3 i4 i5 i6 i7 5 z_f_drp3) (gV u_457 u_458 u_459 u_72 u_460) hd_X6_deadOn ⟨(Nat.le_of_ble_eq_true rfl), (Nat.le_of_ble_eq_true rfl)⟩ [0, 1] [] rfl rfl rfl rfl (by decide) rfl 0 rfl rfl rfl (Nat.le_of_ble_eq_true rfl) dX6_chosen_17 ⟨(Nat.le_of_ble_eq_true rfl), (Nat.le_of_ble_eq_true rfl)⟩ (fun r_32 ut_33 H locs hw_34 hP hD hS => ?_)
  have hP : va_P D vwCl [(drp, .inr (6, [.int i1, .int i2, .int i3, .int i4, .int i5, .int i6, .int i7, .ref drp1, .ref drp2, .ref drp3, .ref drp4, .ref drp5, .ref drp6, .ref drp7, .ref drp8, .ref drp9, .ref drp10])), (drp3, aI cs 24 f_drp3)] H := hP
  have hD : va_D A [(drp, .inr (6, [.int i1, .int i2, .int i3, .int i4, .int i5, .int i6, .int i7, .ref drp1, .ref drp2, .ref drp3, .ref drp4, .ref drp5, .ref drp6, .ref drp7, .ref drp8, .ref drp9, .ref drp10])), (drp3, aI cs 24 f_drp3)] := hD
  have er_35 := hw_34
  subst er_35
  refine lv_istore (lv' := [(5, .int 0), (4, .int 5), (3, .int 0), (2, .int (-1)), (0, .ref drp), (1, .int x)]) hx hb dX6_chosen_20 hl (by decide) rfl (fun ls hl => ?_)
  refine lv_iload hx hb dX6_chosen_22 (lv_at hl 0 rfl) ?_
  refine lv_if_ne (tgt := 30) hx hb dX6_chosen_24 (by decide) (fun c_36 => absurd (by decide) c_36) (fun c_36 => ?_)
  refine lv_goto (tgt := 84) hx hb dX6_chosen_27 (by decide) ?_
  refine lv_iinc (v := 6) (lv' := [(4, .int 6), (5, .int 0), (3, .int 0), (2, .int (-1)), (0, .ref drp), (1, .int x)]) hx hb dX6_chosen_84 hl (k := 1) rfl (by decide) (by decide) rfl (fun ls hl => ?_)
  refine lv_goto (tgt := 7) hx hb dX6_chosen_87 (by decide) ?_
  refine lv_iload hx hb dX6_chosen_7 (lv_at hl 0 rfl) ?_
  refine lv_bipush (v := 24) hx hb dX6_chosen_9 (by decide) ?_
  refine lv_icmp_ge (tgt := 90) hx hb dX6_chosen_11 (by decide) (fun c_37 => absurd c_37 (by decide)) (fun c_37 => ?_)
  refine lv_aload_n hx hb dX6_chosen_14 rfl (lv_at hl 4 rfl) ?_
  refine lv_iload hx hb dX6_chosen_15 (lv_at hl 0 rfl) ?_
  refine kV_i (ci := 6) (As := [.int 6]) (rest := []) (wc := [(drp, .inr (6, [.int i1, .int i2, .int i3, .int i4, .int i5, .int i6, .int i7, .ref drp1, .ref drp2, .ref drp3, .ref drp4, .ref drp5, .ref drp6, .ref drp7, .ref drp8, .ref drp9, .ref drp10])), (drp3, aI cs 24 f_drp3)]) (wr := []) hx hb hml hown hu hK hP hD hS hA hl.1 (c_X6_deadOn l D cs H.size drp drp1 drp2 drp3 f_drp3 drp4 drp5 drp6 drp7 drp8 drp9 drp10 i1 i2 i3 i4 i5 i6 i7 6 z_f_drp3) (gV u_457 u_458 u_459 u_72 u_460) hd_X6_deadOn ⟨(Nat.le_of_ble_eq_true rfl), (Nat.le_of_ble_eq_true rfl)⟩ [0, 1] [] rfl rfl rfl rfl (by decide) rfl 0 rfl rfl rfl (Nat.le_of_ble_eq_true rfl) dX6_chosen_17 ⟨(Nat.le_of_ble_eq_true rfl), (Nat.le_of_ble_eq_true rfl)⟩ (fun r_38 ut_39 H locs hw_40 hP hD hS => ?_)
  have hP : va_P D vwCl [(drp, .inr (6, [.int i1, .int i2, .int i3, .int i4, .int i5, .int i6, .int i7, .ref drp1, .ref drp2, .ref drp3, .ref drp4, .ref drp5, .ref drp6, .ref drp7, .ref drp8, .ref drp9, .ref drp10])), (drp3, aI cs 24 f_drp3)] H := hP
  have hD : va_D A [(drp, .inr (6, [.int i1, .int i2, .int i3, .int i4, .int i5, .int i6, .int i7, .ref drp1, .ref drp2, .ref drp3, .ref drp4, .ref drp5, .ref drp6, .ref drp7, .ref drp8, .ref drp9, .ref drp10])), (drp3, aI cs 24 f_drp3)] := hD
  have er_41 := hw_40
  subst er_41
  refine lv_istore (lv' := [(5, .int 0), (4, .int 6), (3, .int 0), (2, .int (-1)), (0, .ref drp), (1, .int x)]) hx hb dX6_chosen_20 hl (by decide) rfl (fun ls hl => ?_)
  refine lv_iload hx hb dX6_chosen_22 (lv_at hl 0 rfl) ?_
  refine lv_if_ne (tgt := 30) hx hb dX6_chosen_24 (by decide) (fun c_42 => absurd (by decide) c_42) (fun c_42 => ?_)
  refine lv_goto (tgt := 84) hx hb dX6_chosen_27 (by decide) ?_
  refine lv_iinc (v := 7) (lv' := [(4, .int 7), (5, .int 0), (3, .int 0), (2, .int (-1)), (0, .ref drp), (1, .int x)]) hx hb dX6_chosen_84 hl (k := 1) rfl (by decide) (by decide) rfl (fun ls hl => ?_)
  refine lv_goto (tgt := 7) hx hb dX6_chosen_87 (by decide) ?_
  refine lv_iload hx hb dX6_chosen_7 (lv_at hl 0 rfl) ?_
  refine lv_bipush (v := 24) hx hb dX6_chosen_9 (by decide) ?_
  refine lv_icmp_ge (tgt := 90) hx hb dX6_chosen_11 (by decide) (fun c_43 => absurd c_43 (by decide)) (fun c_43 => ?_)
  refine lv_aload_n hx hb dX6_chosen_14 rfl (lv_at hl 4 rfl) ?_
  refine lv_iload hx hb dX6_chosen_15 (lv_at hl 0 rfl) ?_
  refine kV_i (ci := 6) (As := [.int 7]) (rest := []) (wc := [(drp, .inr (6, [.int i1, .int i2, .int i3, .int i4, .int i5, .int i6, .int i7, .ref drp1, .ref drp2, .ref drp3, .ref drp4, .ref drp5, .ref drp6, .ref drp7, .ref drp8, .ref drp9, .ref drp10])), (drp3, aI cs 24 f_drp3)]) (wr := []) hx hb hml hown hu hK hP hD hS hA hl.1 (c_X6_deadOn l D cs H.size drp drp1 drp2 drp3 f_drp3 drp4 drp5 drp6 drp7 drp8 drp9 drp10 i1 i2 i3 i4 i5 i6 i7 7 z_f_drp3) (gV u_457 u_458 u_459 u_72 u_460) hd_X6_deadOn ⟨(Nat.le_of_ble_eq_true rfl), (Nat.le_of_ble_eq_true rfl)⟩ [0, 1] [] rfl rfl rfl rfl (by decide) rfl 0 rfl rfl rfl (Nat.le_of_ble_eq_true rfl) dX6_chosen_17 ⟨(Nat.le_of_ble_eq_true rfl), (Nat.le_of_ble_eq_true rfl)⟩ (fun r_44 ut_45 H locs hw_46 hP hD hS => ?_)
  have hP : va_P D vwCl [(drp, .inr (6, [.int i1, .int i2, .int i3, .int i4, .int i5, .int i6, .int i7, .ref drp1, .ref drp2, .ref drp3, .ref drp4, .ref drp5, .ref drp6, .ref drp7, .ref drp8, .ref drp9, .ref drp10])), (drp3, aI cs 24 f_drp3)] H := hP
  have hD : va_D A [(drp, .inr (6, [.int i1, .int i2, .int i3, .int i4, .int i5, .int i6, .int i7, .ref drp1, .ref drp2, .ref drp3, .ref drp4, .ref drp5, .ref drp6, .ref drp7, .ref drp8, .ref drp9, .ref drp10])), (drp3, aI cs 24 f_drp3)] := hD
  have er_47 := hw_46
  subst er_47
  refine lv_istore (lv' := [(5, .int 0), (4, .int 7), (3, .int 0), (2, .int (-1)), (0, .ref drp), (1, .int x)]) hx hb dX6_chosen_20 hl (by decide) rfl (fun ls hl => ?_)
  refine lv_iload hx hb dX6_chosen_22 (lv_at hl 0 rfl) ?_
  refine lv_if_ne (tgt := 30) hx hb dX6_chosen_24 (by decide) (fun c_48 => absurd (by decide) c_48) (fun c_48 => ?_)
  refine lv_goto (tgt := 84) hx hb dX6_chosen_27 (by decide) ?_
  refine lv_iinc (v := 8) (lv' := [(4, .int 8), (5, .int 0), (3, .int 0), (2, .int (-1)), (0, .ref drp), (1, .int x)]) hx hb dX6_chosen_84 hl (k := 1) rfl (by decide) (by decide) rfl (fun ls hl => ?_)
  refine lv_goto (tgt := 7) hx hb dX6_chosen_87 (by decide) ?_
  refine lv_iload hx hb dX6_chosen_7 (lv_at hl 0 rfl) ?_
  refine lv_bipush (v := 24) hx hb dX6_chosen_9 (by decide) ?_
  refine lv_icmp_ge (tgt := 90) hx hb dX6_chosen_11 (by decide) (fun c_49 => absurd c_49 (by decide)) (fun c_49 => ?_)
  refine lv_aload_n hx hb dX6_chosen_14 rfl (lv_at hl 4 rfl) ?_
  refine lv_iload hx hb dX6_chosen_15 (lv_at hl 0 rfl) ?_
  refine kV_i (ci := 6) (As := [.int 8]) (rest := []) (wc := [(drp, .inr (6, [.int i1, .int i2, .int i3, .int i4, .int i5, .int i6, .int i7, .ref drp1, .ref drp2, .ref drp3, .ref drp4, .ref drp5, .ref drp6, .ref drp7, .ref drp8, .ref drp9, .ref drp10])), (drp3, aI cs 24 f_drp3)]) (wr := []) hx hb hml hown hu hK hP hD hS hA hl.1 (c_X6_deadOn l D cs H.size drp drp1 drp2 drp3 f_drp3 drp4 drp5 drp6 drp7 drp8 drp9 drp10 i1 i2 i3 i4 i5 i6 i7 8 z_f_drp3) (gV u_457 u_458 u_459 u_72 u_460) hd_X6_deadOn ⟨(Nat.le_of_ble_eq_true rfl), (Nat.le_of_ble_eq_true rfl)⟩ [0, 1] [] rfl rfl rfl rfl (by decide) rfl 0 rfl rfl rfl (Nat.le_of_ble_eq_true rfl) dX6_chosen_17 ⟨(Nat.le_of_ble_eq_true rfl), (Nat.le_of_ble_eq_true rfl)⟩ (fun r_50 ut_51 H locs hw_52 hP hD hS => ?_)
  have hP : va_P D vwCl [(drp, .inr (6, [.int i1, .int i2, .int i3, .int i4, .int i5, .int i6, .int i7, .ref drp1, .ref drp2, .ref drp3, .ref drp4, .ref drp5, .ref drp6, .ref drp7, .ref drp8, .ref drp9, .ref drp10])), (drp3, aI cs 24 f_drp3)] H := hP
  have hD : va_D A [(drp, .inr (6, [.int i1, .int i2, .int i3, .int i4, .int i5, .int i6, .int i7, .ref drp1, .ref drp2, .ref drp3, .ref drp4, .ref drp5, .ref drp6, .ref drp7, .ref drp8, .ref drp9, .ref drp10])), (drp3, aI cs 24 f_drp3)] := hD
  have er_53 := hw_52
  subst er_53
  refine lv_istore (lv' := [(5, .int 0), (4, .int 8), (3, .int 0), (2, .int (-1)), (0, .ref drp), (1, .int x)]) hx hb dX6_chosen_20 hl (by decide) rfl (fun ls hl => ?_)
  refine lv_iload hx hb dX6_chosen_22 (lv_at hl 0 rfl) ?_
  refine lv_if_ne (tgt := 30) hx hb dX6_chosen_24 (by decide) (fun c_54 => absurd (by decide) c_54) (fun c_54 => ?_)
  refine lv_goto (tgt := 84) hx hb dX6_chosen_27 (by decide) ?_
  refine lv_iinc (v := 9) (lv' := [(4, .int 9), (5, .int 0), (3, .int 0), (2, .int (-1)), (0, .ref drp), (1, .int x)]) hx hb dX6_chosen_84 hl (k := 1) rfl (by decide) (by decide) rfl (fun ls hl => ?_)
  refine lv_goto (tgt := 7) hx hb dX6_chosen_87 (by decide) ?_
  refine lv_iload hx hb dX6_chosen_7 (lv_at hl 0 rfl) ?_
  refine lv_bipush (v := 24) hx hb dX6_chosen_9 (by decide) ?_
  refine lv_icmp_ge (tgt := 90) hx hb dX6_chosen_11 (by decide) (fun c_55 => absurd c_55 (by decide)) (fun c_55 => ?_)
  refine lv_aload_n hx hb dX6_chosen_14 rfl (lv_at hl 4 rfl) ?_
  refine lv_iload hx hb dX6_chosen_15 (lv_at hl 0 rfl) ?_
  refine kV_i (ci := 6) (As := [.int 9]) (rest := []) (wc := [(drp, .inr (6, [.int i1, .int i2, .int i3, .int i4, .int i5, .int i6, .int i7, .ref drp1, .ref drp2, .ref drp3, .ref drp4, .ref drp5, .ref drp6, .ref drp7, .ref drp8, .ref drp9, .ref drp10])), (drp3, aI cs 24 f_drp3)]) (wr := []) hx hb hml hown hu hK hP hD hS hA hl.1 (c_X6_deadOn l D cs H.size drp drp1 drp2 drp3 f_drp3 drp4 drp5 drp6 drp7 drp8 drp9 drp10 i1 i2 i3 i4 i5 i6 i7 9 z_f_drp3) (gV u_457 u_458 u_459 u_72 u_460) hd_X6_deadOn ⟨(Nat.le_of_ble_eq_true rfl), (Nat.le_of_ble_eq_true rfl)⟩ [0, 1] [] rfl rfl rfl rfl (by decide) rfl 0 rfl rfl rfl (Nat.le_of_ble_eq_true rfl) dX6_chosen_17 ⟨(Nat.le_of_ble_eq_true rfl), (Nat.le_of_ble_eq_true rfl)⟩ (fun r_56 ut_57 H locs hw_58 hP hD hS => ?_)
  have hP : va_P D vwCl [(drp, .inr (6, [.int i1, .int i2, .int i3, .int i4, .int i5, .int i6, .int i7, .ref drp1, .ref drp2, .ref drp3, .ref drp4, .ref drp5, .ref drp6, .ref drp7, .ref drp8, .ref drp9, .ref drp10])), (drp3, aI cs 24 f_drp3)] H := hP
  have hD : va_D A [(drp, .inr (6, [.int i1, .int i2, .int i3, .int i4, .int i5, .int i6, .int i7, .ref drp1, .ref drp2, .ref drp3, .ref drp4, .ref drp5, .ref drp6, .ref drp7, .ref drp8, .ref drp9, .ref drp10])), (drp3, aI cs 24 f_drp3)] := hD
  have er_59 := hw_58
  subst er_59
  refine lv_istore (lv' := [(5, .int 0), (4, .int 9), (3, .int 0), (2, .int (-1)), (0, .ref drp), (1, .int x)]) hx hb dX6_chosen_20 hl (by decide) rfl (fun ls hl => ?_)
  refine lv_iload hx hb dX6_chosen_22 (lv_at hl 0 rfl) ?_
  refine lv_if_ne (tgt := 30) hx hb dX6_chosen_24 (by decide) (fun c_60 => absurd (by decide) c_60) (fun c_60 => ?_)
  refine lv_goto (tgt := 84) hx hb dX6_chosen_27 (by decide) ?_
  refine lv_iinc (v := 10) (lv' := [(4, .int 10), (5, .int 0), (3, .int 0), (2, .int (-1)), (0, .ref drp), (1, .int x)]) hx hb dX6_chosen_84 hl (k := 1) rfl (by decide) (by decide) rfl (fun ls hl => ?_)
  refine lv_goto (tgt := 7) hx hb dX6_chosen_87 (by decide) ?_
  refine lv_iload hx hb dX6_chosen_7 (lv_at hl 0 rfl) ?_
  refine lv_bipush (v := 24) hx hb dX6_chosen_9 (by decide) ?_
  refine lv_icmp_ge (tgt := 90) hx hb dX6_chosen_11 (by decide) (fun c_61 => absurd c_61 (by decide)) (fun c_61 => ?_)
  refine lv_aload_n hx hb dX6_chosen_14 rfl (lv_at hl 4 rfl) ?_
  refine lv_iload hx hb dX6_chosen_15 (lv_at hl 0 rfl) ?_
  refine kV_i (ci := 6) (As := [.int 10]) (rest := []) (wc := [(drp, .inr (6, [.int i1, .int i2, .int i3, .int i4, .int i5, .int i6, .int i7, .ref drp1, .ref drp2, .ref drp3, .ref drp4, .ref drp5, .ref drp6, .ref drp7, .ref drp8, .ref drp9, .ref drp10])), (drp3, aI cs 24 f_drp3)]) (wr := []) hx hb hml hown hu hK hP hD hS hA hl.1 (c_X6_deadOn l D cs H.size drp drp1 drp2 drp3 f_drp3 drp4 drp5 drp6 drp7 drp8 drp9 drp10 i1 i2 i3 i4 i5 i6 i7 10 z_f_drp3) (gV u_457 u_458 u_459 u_72 u_460) hd_X6_deadOn ⟨(Nat.le_of_ble_eq_true rfl), (Nat.le_of_ble_eq_true rfl)⟩ [0, 1] [] rfl rfl rfl rfl (by decide) rfl 0 rfl rfl rfl (Nat.le_of_ble_eq_true rfl) dX6_chosen_17 ⟨(Nat.le_of_ble_eq_true rfl), (Nat.le_of_ble_eq_true rfl)⟩ (fun r_62 ut_63 H locs hw_64 hP hD hS => ?_)
  have hP : va_P D vwCl [(drp, .inr (6, [.int i1, .int i2, .int i3, .int i4, .int i5, .int i6, .int i7, .ref drp1, .ref drp2, .ref drp3, .ref drp4, .ref drp5, .ref drp6, .ref drp7, .ref drp8, .ref drp9, .ref drp10])), (drp3, aI cs 24 f_drp3)] H := hP
  have hD : va_D A [(drp, .inr (6, [.int i1, .int i2, .int i3, .int i4, .int i5, .int i6, .int i7, .ref drp1, .ref drp2, .ref drp3, .ref drp4, .ref drp5, .ref drp6, .ref drp7, .ref drp8, .ref drp9, .ref drp10])), (drp3, aI cs 24 f_drp3)] := hD
  have er_65 := hw_64
  subst er_65
  refine lv_istore (lv' := [(5, .int 0), (4, .int 10), (3, .int 0), (2, .int (-1)), (0, .ref drp), (1, .int x)]) hx hb dX6_chosen_20 hl (by decide) rfl (fun ls hl => ?_)
  refine lv_iload hx hb dX6_chosen_22 (lv_at hl 0 rfl) ?_
  refine lv_if_ne (tgt := 30) hx hb dX6_chosen_24 (by decide) (fun c_66 => absurd (by decide) c_66) (fun c_66 => ?_)
  refine lv_goto (tgt := 84) hx hb dX6_chosen_27 (by decide) ?_
  refine lv_iinc (v := 11) (lv' := [(4, .int 11), (5, .int 0), (3, .int 0), (2, .int (-1)), (0, .ref drp), (1, .int x)]) hx hb dX6_chosen_84 hl (k := 1) rfl (by decide) (by decide) rfl (fun ls hl => ?_)
  refine lv_goto (tgt := 7) hx hb dX6_chosen_87 (by decide) ?_
  refine lv_iload hx hb dX6_chosen_7 (lv_at hl 0 rfl) ?_
  refine lv_bipush (v := 24) hx hb dX6_chosen_9 (by decide) ?_
  refine lv_icmp_ge (tgt := 90) hx hb dX6_chosen_11 (by decide) (fun c_67 => absurd c_67 (by decide)) (fun c_67 => ?_)
  refine lv_aload_n hx hb dX6_chosen_14 rfl (lv_at hl 4 rfl) ?_
  refine lv_iload hx hb dX6_chosen_15 (lv_at hl 0 rfl) ?_
  refine kV_i (ci := 6) (As := [.int 11]) (rest := []) (wc := [(drp, .inr (6, [.int i1, .int i2, .int i3, .int i4, .int i5, .int i6, .int i7, .ref drp1, .ref drp2, .ref drp3, .ref drp4, .ref drp5, .ref drp6, .ref drp7, .ref drp8, .ref drp9, .ref drp10])), (drp3, aI cs 24 f_drp3)]) (wr := []) hx hb hml hown hu hK hP hD hS hA hl.1 (c_X6_deadOn l D cs H.size drp drp1 drp2 drp3 f_drp3 drp4 drp5 drp6 drp7 drp8 drp9 drp10 i1 i2 i3 i4 i5 i6 i7 11 z_f_drp3) (gV u_457 u_458 u_459 u_72 u_460) hd_X6_deadOn ⟨(Nat.le_of_ble_eq_true rfl), (Nat.le_of_ble_eq_true rfl)⟩ [0, 1] [] rfl rfl rfl rfl (by decide) rfl 0 rfl rfl rfl (Nat.le_of_ble_eq_true rfl) dX6_chosen_17 ⟨(Nat.le_of_ble_eq_true rfl), (Nat.le_of_ble_eq_true rfl)⟩ (fun r_68 ut_69 H locs hw_70 hP hD hS => ?_)
  have hP : va_P D vwCl [(drp, .inr (6, [.int i1, .int i2, .int i3, .int i4, .int i5, .int i6, .int i7, .ref drp1, .ref drp2, .ref drp3, .ref drp4, .ref drp5, .ref drp6, .ref drp7, .ref drp8, .ref drp9, .ref drp10])), (drp3, aI cs 24 f_drp3)] H := hP
  have hD : va_D A [(drp, .inr (6, [.int i1, .int i2, .int i3, .int i4, .int i5, .int i6, .int i7, .ref drp1, .ref drp2, .ref drp3, .ref drp4, .ref drp5, .ref drp6, .ref drp7, .ref drp8, .ref drp9, .ref drp10])), (drp3, aI cs 24 f_drp3)] := hD
  have er_71 := hw_70
  subst er_71
  refine lv_istore (lv' := [(5, .int 0), (4, .int 11), (3, .int 0), (2, .int (-1)), (0, .ref drp), (1, .int x)]) hx hb dX6_chosen_20 hl (by decide) rfl (fun ls hl => ?_)
  refine lv_iload hx hb dX6_chosen_22 (lv_at hl 0 rfl) ?_
  refine lv_if_ne (tgt := 30) hx hb dX6_chosen_24 (by decide) (fun c_72 => absurd (by decide) c_72) (fun c_72 => ?_)
  refine lv_goto (tgt := 84) hx hb dX6_chosen_27 (by decide) ?_
  refine lv_iinc (v := 12) (lv' := [(4, .int 12), (5, .int 0), (3, .int 0), (2, .int (-1)), (0, .ref drp), (1, .int x)]) hx hb dX6_chosen_84 hl (k := 1) rfl (by decide) (by decide) rfl (fun ls hl => ?_)
  refine lv_goto (tgt := 7) hx hb dX6_chosen_87 (by decide) ?_
  refine lv_iload hx hb dX6_chosen_7 (lv_at hl 0 rfl) ?_
  refine lv_bipush (v := 24) hx hb dX6_chosen_9 (by decide) ?_
  refine lv_icmp_ge (tgt := 90) hx hb dX6_chosen_11 (by decide) (fun c_73 => absurd c_73 (by decide)) (fun c_73 => ?_)
  refine lv_aload_n hx hb dX6_chosen_14 rfl (lv_at hl 4 rfl) ?_
  refine lv_iload hx hb dX6_chosen_15 (lv_at hl 0 rfl) ?_
  refine kV_i (ci := 6) (As := [.int 12]) (rest := []) (wc := [(drp, .inr (6, [.int i1, .int i2, .int i3, .int i4, .int i5, .int i6, .int i7, .ref drp1, .ref drp2, .ref drp3, .ref drp4, .ref drp5, .ref drp6, .ref drp7, .ref drp8, .ref drp9, .ref drp10])), (drp3, aI cs 24 f_drp3)]) (wr := []) hx hb hml hown hu hK hP hD hS hA hl.1 (c_X6_deadOn l D cs H.size drp drp1 drp2 drp3 f_drp3 drp4 drp5 drp6 drp7 drp8 drp9 drp10 i1 i2 i3 i4 i5 i6 i7 12 z_f_drp3) (gV u_457 u_458 u_459 u_72 u_460) hd_X6_deadOn ⟨(Nat.le_of_ble_eq_true rfl), (Nat.le_of_ble_eq_true rfl)⟩ [0, 1] [] rfl rfl rfl rfl (by decide) rfl 0 rfl rfl rfl (Nat.le_of_ble_eq_true rfl) dX6_chosen_17 ⟨(Nat.le_of_ble_eq_true rfl), (Nat.le_of_ble_eq_true rfl)⟩ (fun r_74 ut_75 H locs hw_76 hP hD hS => ?_)
  have hP : va_P D vwCl [(drp, .inr (6, [.int i1, .int i2, .int i3, .int i4, .int i5, .int i6, .int i7, .ref drp1, .ref drp2, .ref drp3, .ref drp4, .ref drp5, .ref drp6, .ref drp7, .ref drp8, .ref drp9, .ref drp10])), (drp3, aI cs 24 f_drp3)] H := hP
  have hD : va_D A [(drp, .inr (6, [.int i1, .int i2, .int i3, .int i4, .int i5, .int i6, .int i7, .ref drp1, .ref drp2, .ref drp3, .ref drp4, .ref drp5, .ref drp6, .ref drp7, .ref drp8, .ref drp9, .ref drp10])), (drp3, aI cs 24 f_drp3)] := hD
  have er_77 := hw_76
  subst er_77
  refine lv_istore (lv' := [(5, .int 0), (4, .int 12), (3, .int 0), (2, .int (-1)), (0, .ref drp), (1, .int x)]) hx hb dX6_chosen_20 hl (by decide) rfl (fun ls hl => ?_)
  refine lv_iload hx hb dX6_chosen_22 (lv_at hl 0 rfl) ?_
  refine lv_if_ne (tgt := 30) hx hb dX6_chosen_24 (by decide) (fun c_78 => absurd (by decide) c_78) (fun c_78 => ?_)
  refine lv_goto (tgt := 84) hx hb dX6_chosen_27 (by decide) ?_
  refine lv_iinc (v := 13) (lv' := [(4, .int 13), (5, .int 0), (3, .int 0), (2, .int (-1)), (0, .ref drp), (1, .int x)]) hx hb dX6_chosen_84 hl (k := 1) rfl (by decide) (by decide) rfl (fun ls hl => ?_)
  refine lv_goto (tgt := 7) hx hb dX6_chosen_87 (by decide) ?_
  refine lv_iload hx hb dX6_chosen_7 (lv_at hl 0 rfl) ?_
  refine lv_bipush (v := 24) hx hb dX6_chosen_9 (by decide) ?_
  refine lv_icmp_ge (tgt := 90) hx hb dX6_chosen_11 (by decide) (fun c_79 => absurd c_79 (by decide)) (fun c_79 => ?_)
  refine lv_aload_n hx hb dX6_chosen_14 rfl (lv_at hl 4 rfl) ?_
  refine lv_iload hx hb dX6_chosen_15 (lv_at hl 0 rfl) ?_
  refine kV_i (ci := 6) (As := [.int 13]) (rest := []) (wc := [(drp, .inr (6, [.int i1, .int i2, .int i3, .int i4, .int i5, .int i6, .int i7, .ref drp1, .ref drp2, .ref drp3, .ref drp4, .ref drp5, .ref drp6, .ref drp7, .ref drp8, .ref drp9, .ref drp10])), (drp3, aI cs 24 f_drp3)]) (wr := []) hx hb hml hown hu hK hP hD hS hA hl.1 (c_X6_deadOn l D cs H.size drp drp1 drp2 drp3 f_drp3 drp4 drp5 drp6 drp7 drp8 drp9 drp10 i1 i2 i3 i4 i5 i6 i7 13 z_f_drp3) (gV u_457 u_458 u_459 u_72 u_460) hd_X6_deadOn ⟨(Nat.le_of_ble_eq_true rfl), (Nat.le_of_ble_eq_true rfl)⟩ [0, 1] [] rfl rfl rfl rfl (by decide) rfl 0 rfl rfl rfl (Nat.le_of_ble_eq_true rfl) dX6_chosen_17 ⟨(Nat.le_of_ble_eq_true rfl), (Nat.le_of_ble_eq_true rfl)⟩ (fun r_80 ut_81 H locs hw_82 hP hD hS => ?_)
  have hP : va_P D vwCl [(drp, .inr (6, [.int i1, .int i2, .int i3, .int i4, .int i5, .int i6, .int i7, .ref drp1, .ref drp2, .ref drp3, .ref drp4, .ref drp5, .ref drp6, .ref drp7, .ref drp8, .ref drp9, .ref drp10])), (drp3, aI cs 24 f_drp3)] H := hP
  have hD : va_D A [(drp, .inr (6, [.int i1, .int i2, .int i3, .int i4, .int i5, .int i6, .int i7, .ref drp1, .ref drp2, .ref drp3, .ref drp4, .ref drp5, .ref drp6, .ref drp7, .ref drp8, .ref drp9, .ref drp10])), (drp3, aI cs 24 f_drp3)] := hD
  have er_83 := hw_82
  subst er_83
  refine lv_istore (lv' := [(5, .int 0), (4, .int 13), (3, .int 0), (2, .int (-1)), (0, .ref drp), (1, .int x)]) hx hb dX6_chosen_20 hl (by decide) rfl (fun ls hl => ?_)
  refine lv_iload hx hb dX6_chosen_22 (lv_at hl 0 rfl) ?_
  refine lv_if_ne (tgt := 30) hx hb dX6_chosen_24 (by decide) (fun c_84 => absurd (by decide) c_84) (fun c_84 => ?_)
  refine lv_goto (tgt := 84) hx hb dX6_chosen_27 (by decide) ?_
  refine lv_iinc (v := 14) (lv' := [(4, .int 14), (5, .int 0), (3, .int 0), (2, .int (-1)), (0, .ref drp), (1, .int x)]) hx hb dX6_chosen_84 hl (k := 1) rfl (by decide) (by decide) rfl (fun ls hl => ?_)
  refine lv_goto (tgt := 7) hx hb dX6_chosen_87 (by decide) ?_
  refine lv_iload hx hb dX6_chosen_7 (lv_at hl 0 rfl) ?_
  refine lv_bipush (v := 24) hx hb dX6_chosen_9 (by decide) ?_
  refine lv_icmp_ge (tgt := 90) hx hb dX6_chosen_11 (by decide) (fun c_85 => absurd c_85 (by decide)) (fun c_85 => ?_)
  refine lv_aload_n hx hb dX6_chosen_14 rfl (lv_at hl 4 rfl) ?_
  refine lv_iload hx hb dX6_chosen_15 (lv_at hl 0 rfl) ?_
  refine kV_i (ci := 6) (As := [.int 14]) (rest := []) (wc := [(drp, .inr (6, [.int i1, .int i2, .int i3, .int i4, .int i5, .int i6, .int i7, .ref drp1, .ref drp2, .ref drp3, .ref drp4, .ref drp5, .ref drp6, .ref drp7, .ref drp8, .ref drp9, .ref drp10])), (drp3, aI cs 24 f_drp3)]) (wr := []) hx hb hml hown hu hK hP hD hS hA hl.1 (c_X6_deadOn l D cs H.size drp drp1 drp2 drp3 f_drp3 drp4 drp5 drp6 drp7 drp8 drp9 drp10 i1 i2 i3 i4 i5 i6 i7 14 z_f_drp3) (gV u_457 u_458 u_459 u_72 u_460) hd_X6_deadOn ⟨(Nat.le_of_ble_eq_true rfl), (Nat.le_of_ble_eq_true rfl)⟩ [0, 1] [] rfl rfl rfl rfl (by decide) rfl 0 rfl rfl rfl (Nat.le_of_ble_eq_true rfl) dX6_chosen_17 ⟨(Nat.le_of_ble_eq_true rfl), (Nat.le_of_ble_eq_true rfl)⟩ (fun r_86 ut_87 H locs hw_88 hP hD hS => ?_)
  have hP : va_P D vwCl [(drp, .inr (6, [.int i1, .int i2, .int i3, .int i4, .int i5, .int i6, .int i7, .ref drp1, .ref drp2, .ref drp3, .ref drp4, .ref drp5, .ref drp6, .ref drp7, .ref drp8, .ref drp9, .ref drp10])), (drp3, aI cs 24 f_drp3)] H := hP
  have hD : va_D A [(drp, .inr (6, [.int i1, .int i2, .int i3, .int i4, .int i5, .int i6, .int i7, .ref drp1, .ref drp2, .ref drp3, .ref drp4, .ref drp5, .ref drp6, .ref drp7, .ref drp8, .ref drp9, .ref drp10])), (drp3, aI cs 24 f_drp3)] := hD
  have er_89 := hw_88
  subst er_89
  refine lv_istore (lv' := [(5, .int 0), (4, .int 14), (3, .int 0), (2, .int (-1)), (0, .ref drp), (1, .int x)]) hx hb dX6_chosen_20 hl (by decide) rfl (fun ls hl => ?_)
  refine lv_iload hx hb dX6_chosen_22 (lv_at hl 0 rfl) ?_
  refine lv_if_ne (tgt := 30) hx hb dX6_chosen_24 (by decide) (fun c_90 => absurd (by decide) c_90) (fun c_90 => ?_)
  refine lv_goto (tgt := 84) hx hb dX6_chosen_27 (by decide) ?_
  refine lv_iinc (v := 15) (lv' := [(4, .int 15), (5, .int 0), (3, .int 0), (2, .int (-1)), (0, .ref drp), (1, .int x)]) hx hb dX6_chosen_84 hl (k := 1) rfl (by decide) (by decide) rfl (fun ls hl => ?_)
  refine lv_goto (tgt := 7) hx hb dX6_chosen_87 (by decide) ?_
  refine lv_iload hx hb dX6_chosen_7 (lv_at hl 0 rfl) ?_
  refine lv_bipush (v := 24) hx hb dX6_chosen_9 (by decide) ?_
  refine lv_icmp_ge (tgt := 90) hx hb dX6_chosen_11 (by decide) (fun c_91 => absurd c_91 (by decide)) (fun c_91 => ?_)
  refine lv_aload_n hx hb dX6_chosen_14 rfl (lv_at hl 4 rfl) ?_
  refine lv_iload hx hb dX6_chosen_15 (lv_at hl 0 rfl) ?_
  refine kV_i (ci := 6) (As := [.int 15]) (rest := []) (wc := [(drp, .inr (6, [.int i1, .int i2, .int i3, .int i4, .int i5, .int i6, .int i7, .ref drp1, .ref drp2, .ref drp3, .ref drp4, .ref drp5, .ref drp6, .ref drp7, .ref drp8, .ref drp9, .ref drp10])), (drp3, aI cs 24 f_drp3)]) (wr := []) hx hb hml hown hu hK hP hD hS hA hl.1 (c_X6_deadOn l D cs H.size drp drp1 drp2 drp3 f_drp3 drp4 drp5 drp6 drp7 drp8 drp9 drp10 i1 i2 i3 i4 i5 i6 i7 15 z_f_drp3) (gV u_457 u_458 u_459 u_72 u_460) hd_X6_deadOn ⟨(Nat.le_of_ble_eq_true rfl), (Nat.le_of_ble_eq_true rfl)⟩ [0, 1] [] rfl rfl rfl rfl (by decide) rfl 0 rfl rfl rfl (Nat.le_of_ble_eq_true rfl) dX6_chosen_17 ⟨(Nat.le_of_ble_eq_true rfl), (Nat.le_of_ble_eq_true rfl)⟩ (fun r_92 ut_93 H locs hw_94 hP hD hS => ?_)
  have hP : va_P D vwCl [(drp, .inr (6, [.int i1, .int i2, .int i3, .int i4, .int i5, .int i6, .int i7, .ref drp1, .ref drp2, .ref drp3, .ref drp4, .ref drp5, .ref drp6, .ref drp7, .ref drp8, .ref drp9, .ref drp10])), (drp3, aI cs 24 f_drp3)] H := hP
  have hD : va_D A [(drp, .inr (6, [.int i1, .int i2, .int i3, .int i4, .int i5, .int i6, .int i7, .ref drp1, .ref drp2, .ref drp3, .ref drp4, .ref drp5, .ref drp6, .ref drp7, .ref drp8, .ref drp9, .ref drp10])), (drp3, aI cs 24 f_drp3)] := hD
  have er_95 := hw_94
  subst er_95
  refine lv_istore (lv' := [(5, .int 0), (4, .int 15), (3, .int 0), (2, .int (-1)), (0, .ref drp), (1, .int x)]) hx hb dX6_chosen_20 hl (by decide) rfl (fun ls hl => ?_)
  refine lv_iload hx hb dX6_chosen_22 (lv_at hl 0 rfl) ?_
  refine lv_if_ne (tgt := 30) hx hb dX6_chosen_24 (by decide) (fun c_96 => absurd (by decide) c_96) (fun c_96 => ?_)
  refine lv_goto (tgt := 84) hx hb dX6_chosen_27 (by decide) ?_
  refine lv_iinc (v := 16) (lv' := [(4, .int 16), (5, .int 0), (3, .int 0), (2, .int (-1)), (0, .ref drp), (1, .int x)]) hx hb dX6_chosen_84 hl (k := 1) rfl (by decide) (by decide) rfl (fun ls hl => ?_)
  refine lv_goto (tgt := 7) hx hb dX6_chosen_87 (by decide) ?_
  refine lv_iload hx hb dX6_chosen_7 (lv_at hl 0 rfl) ?_
  refine lv_bipush (v := 24) hx hb dX6_chosen_9 (by decide) ?_
  refine lv_icmp_ge (tgt := 90) hx hb dX6_chosen_11 (by decide) (fun c_97 => absurd c_97 (by decide)) (fun c_97 => ?_)
  refine lv_aload_n hx hb dX6_chosen_14 rfl (lv_at hl 4 rfl) ?_
  refine lv_iload hx hb dX6_chosen_15 (lv_at hl 0 rfl) ?_
  refine kV_i (ci := 6) (As := [.int 16]) (rest := []) (wc := [(drp, .inr (6, [.int i1, .int i2, .int i3, .int i4, .int i5, .int i6, .int i7, .ref drp1, .ref drp2, .ref drp3, .ref drp4, .ref drp5, .ref drp6, .ref drp7, .ref drp8, .ref drp9, .ref drp10])), (drp3, aI cs 24 f_drp3)]) (wr := []) hx hb hml hown hu hK hP hD hS hA hl.1 (c_X6_deadOn l D cs H.size drp drp1 drp2 drp3 f_drp3 drp4 drp5 drp6 drp7 drp8 drp9 drp10 i1 i2 i3 i4 i5 i6 i7 16 z_f_drp3) (gV u_457 u_458 u_459 u_72 u_460) hd_X6_deadOn ⟨(Nat.le_of_ble_eq_true rfl), (Nat.le_of_ble_eq_true rfl)⟩ [0, 1] [] rfl rfl rfl rfl (by decide) rfl 0 rfl rfl rfl (Nat.le_of_ble_eq_true rfl) dX6_chosen_17 ⟨(Nat.le_of_ble_eq_true rfl), (Nat.le_of_ble_eq_true rfl)⟩ (fun r_98 ut_99 H locs hw_100 hP hD hS => ?_)
  have hP : va_P D vwCl [(drp, .inr (6, [.int i1, .int i2, .int i3, .int i4, .int i5, .int i6, .int i7, .ref drp1, .ref drp2, .ref drp3, .ref drp4, .ref drp5, .ref drp6, .ref drp7, .ref drp8, .ref drp9, .ref drp10])), (drp3, aI cs 24 f_drp3)] H := hP
  have hD : va_D A [(drp, .inr (6, [.int i1, .int i2, .int i3, .int i4, .int i5, .int i6, .int i7, .ref drp1, .ref drp2, .ref drp3, .ref drp4, .ref drp5, .ref drp6, .ref drp7, .ref drp8, .ref drp9, .ref drp10])), (drp3, aI cs 24 f_drp3)] := hD
  have er_101 := hw_100
  subst er_101
  refine lv_istore (lv' := [(5, .int 0), (4, .int 16), (3, .int 0), (2, .int (-1)), (0, .ref drp), (1, .int x)]) hx hb dX6_chosen_20 hl (by decide) rfl (fun ls hl => ?_)
  refine lv_iload hx hb dX6_chosen_22 (lv_at hl 0 rfl) ?_
  refine lv_if_ne (tgt := 30) hx hb dX6_chosen_24 (by decide) (fun c_102 => absurd (by decide) c_102) (fun c_102 => ?_)
  refine lv_goto (tgt := 84) hx hb dX6_chosen_27 (by decide) ?_
  refine lv_iinc (v := 17) (lv' := [(4, .int 17), (5, .int 0), (3, .int 0), (2, .int (-1)), (0, .ref drp), (1, .int x)]) hx hb dX6_chosen_84 hl (k := 1) rfl (by decide) (by decide) rfl (fun ls hl => ?_)
  refine lv_goto (tgt := 7) hx hb dX6_chosen_87 (by decide) ?_
  refine lv_iload hx hb dX6_chosen_7 (lv_at hl 0 rfl) ?_
  refine lv_bipush (v := 24) hx hb dX6_chosen_9 (by decide) ?_
  refine lv_icmp_ge (tgt := 90) hx hb dX6_chosen_11 (by decide) (fun c_103 => absurd c_103 (by decide)) (fun c_103 => ?_)
  refine lv_aload_n hx hb dX6_chosen_14 rfl (lv_at hl 4 rfl) ?_
  refine lv_iload hx hb dX6_chosen_15 (lv_at hl 0 rfl) ?_
  refine kV_i (ci := 6) (As := [.int 17]) (rest := []) (wc := [(drp, .inr (6, [.int i1, .int i2, .int i3, .int i4, .int i5, .int i6, .int i7, .ref drp1, .ref drp2, .ref drp3, .ref drp4, .ref drp5, .ref drp6, .ref drp7, .ref drp8, .ref drp9, .ref drp10])), (drp3, aI cs 24 f_drp3)]) (wr := []) hx hb hml hown hu hK hP hD hS hA hl.1 (c_X6_deadOn l D cs H.size drp drp1 drp2 drp3 f_drp3 drp4 drp5 drp6 drp7 drp8 drp9 drp10 i1 i2 i3 i4 i5 i6 i7 17 z_f_drp3) (gV u_457 u_458 u_459 u_72 u_460) hd_X6_deadOn ⟨(Nat.le_of_ble_eq_true rfl), (Nat.le_of_ble_eq_true rfl)⟩ [0, 1] [] rfl rfl rfl rfl (by decide) rfl 0 rfl rfl rfl (Nat.le_of_ble_eq_true rfl) dX6_chosen_17 ⟨(Nat.le_of_ble_eq_true rfl), (Nat.le_of_ble_eq_true rfl)⟩ (fun r_104 ut_105 H locs hw_106 hP hD hS => ?_)
  have hP : va_P D vwCl [(drp, .inr (6, [.int i1, .int i2, .int i3, .int i4, .int i5, .int i6, .int i7, .ref drp1, .ref drp2, .ref drp3, .ref drp4, .ref drp5, .ref drp6, .ref drp7, .ref drp8, .ref drp9, .ref drp10])), (drp3, aI cs 24 f_drp3)] H := hP
  have hD : va_D A [(drp, .inr (6, [.int i1, .int i2, .int i3, .int i4, .int i5, .int i6, .int i7, .ref drp1, .ref drp2, .ref drp3, .ref drp4, .ref drp5, .ref drp6, .ref drp7, .ref drp8, .ref drp9, .ref drp10])), (drp3, aI cs 24 f_drp3)] := hD
  have er_107 := hw_106
  subst er_107
  refine lv_istore (lv' := [(5, .int 0), (4, .int 17), (3, .int 0), (2, .int (-1)), (0, .ref drp), (1, .int x)]) hx hb dX6_chosen_20 hl (by decide) rfl (fun ls hl => ?_)
  refine lv_iload hx hb dX6_chosen_22 (lv_at hl 0 rfl) ?_
  refine lv_if_ne (tgt := 30) hx hb dX6_chosen_24 (by decide) (fun c_108 => absurd (by decide) c_108) (fun c_108 => ?_)
  refine lv_goto (tgt := 84) hx hb dX6_chosen_27 (by decide) ?_
  refine lv_iinc (v := 18) (lv' := [(4, .int 18), (5, .int 0), (3, .int 0), (2, .int (-1)), (0, .ref drp), (1, .int x)]) hx hb dX6_chosen_84 hl (k := 1) rfl (by decide) (by decide) rfl (fun ls hl => ?_)
  refine lv_goto (tgt := 7) hx hb dX6_chosen_87 (by decide) ?_
  refine lv_iload hx hb dX6_chosen_7 (lv_at hl 0 rfl) ?_
  refine lv_bipush (v := 24) hx hb dX6_chosen_9 (by decide) ?_
  refine lv_icmp_ge (tgt := 90) hx hb dX6_chosen_11 (by decide) (fun c_109 => absurd c_109 (by decide)) (fun c_109 => ?_)
  refine lv_aload_n hx hb dX6_chosen_14 rfl (lv_at hl 4 rfl) ?_
  refine lv_iload hx hb dX6_chosen_15 (lv_at hl 0 rfl) ?_
  refine kV_i (ci := 6) (As := [.int 18]) (rest := []) (wc := [(drp, .inr (6, [.int i1, .int i2, .int i3, .int i4, .int i5, .int i6, .int i7, .ref drp1, .ref drp2, .ref drp3, .ref drp4, .ref drp5, .ref drp6, .ref drp7, .ref drp8, .ref drp9, .ref drp10])), (drp3, aI cs 24 f_drp3)]) (wr := []) hx hb hml hown hu hK hP hD hS hA hl.1 (c_X6_deadOn l D cs H.size drp drp1 drp2 drp3 f_drp3 drp4 drp5 drp6 drp7 drp8 drp9 drp10 i1 i2 i3 i4 i5 i6 i7 18 z_f_drp3) (gV u_457 u_458 u_459 u_72 u_460) hd_X6_deadOn ⟨(Nat.le_of_ble_eq_true rfl), (Nat.le_of_ble_eq_true rfl)⟩ [0, 1] [] rfl rfl rfl rfl (by decide) rfl 0 rfl rfl rfl (Nat.le_of_ble_eq_true rfl) dX6_chosen_17 ⟨(Nat.le_of_ble_eq_true rfl), (Nat.le_of_ble_eq_true rfl)⟩ (fun r_110 ut_111 H locs hw_112 hP hD hS => ?_)
  have hP : va_P D vwCl [(drp, .inr (6, [.int i1, .int i2, .int i3, .int i4, .int i5, .int i6, .int i7, .ref drp1, .ref drp2, .ref drp3, .ref drp4, .ref drp5, .ref drp6, .ref drp7, .ref drp8, .ref drp9, .ref drp10])), (drp3, aI cs 24 f_drp3)] H := hP
  have hD : va_D A [(drp, .inr (6, [.int i1, .int i2, .int i3, .int i4, .int i5, .int i6, .int i7, .ref drp1, .ref drp2, .ref drp3, .ref drp4, .ref drp5, .ref drp6, .ref drp7, .ref drp8, .ref drp9, .ref drp10])), (drp3, aI cs 24 f_drp3)] := hD
  have er_113 := hw_112
  subst er_113
  refine lv_istore (lv' := [(5, .int 0), (4, .int 18), (3, .int 0), (2, .int (-1)), (0, .ref drp), (1, .int x)]) hx hb dX6_chosen_20 hl (by decide) rfl (fun ls hl => ?_)
  refine lv_iload hx hb dX6_chosen_22 (lv_at hl 0 rfl) ?_
  refine lv_if_ne (tgt := 30) hx hb dX6_chosen_24 (by decide) (fun c_114 => absurd (by decide) c_114) (fun c_114 => ?_)
  refine lv_goto (tgt := 84) hx hb dX6_chosen_27 (by decide) ?_
  refine lv_iinc (v := 19) (lv' := [(4, .int 19), (5, .int 0), (3, .int 0), (2, .int (-1)), (0, .ref drp), (1, .int x)]) hx hb dX6_chosen_84 hl (k := 1) rfl (by decide) (by decide) rfl (fun ls hl => ?_)
  refine lv_goto (tgt := 7) hx hb dX6_chosen_87 (by decide) ?_
  refine lv_iload hx hb dX6_chosen_7 (lv_at hl 0 rfl) ?_
  refine lv_bipush (v := 24) hx hb dX6_chosen_9 (by decide) ?_
  refine lv_icmp_ge (tgt := 90) hx hb dX6_chosen_11 (by decide) (fun c_115 => absurd c_115 (by decide)) (fun c_115 => ?_)
  refine lv_aload_n hx hb dX6_chosen_14 rfl (lv_at hl 4 rfl) ?_
  refine lv_iload hx hb dX6_chosen_15 (lv_at hl 0 rfl) ?_
  refine kV_i (ci := 6) (As := [.int 19]) (rest := []) (wc := [(drp, .inr (6, [.int i1, .int i2, .int i3, .int i4, .int i5, .int i6, .int i7, .ref drp1, .ref drp2, .ref drp3, .ref drp4, .ref drp5, .ref drp6, .ref drp7, .ref drp8, .ref drp9, .ref drp10])), (drp3, aI cs 24 f_drp3)]) (wr := []) hx hb hml hown hu hK hP hD hS hA hl.1 (c_X6_deadOn l D cs H.size drp drp1 drp2 drp3 f_drp3 drp4 drp5 drp6 drp7 drp8 drp9 drp10 i1 i2 i3 i4 i5 i6 i7 19 z_f_drp3) (gV u_457 u_458 u_459 u_72 u_460) hd_X6_deadOn ⟨(Nat.le_of_ble_eq_true rfl), (Nat.le_of_ble_eq_true rfl)⟩ [0, 1] [] rfl rfl rfl rfl (by decide) rfl 0 rfl rfl rfl (Nat.le_of_ble_eq_true rfl) dX6_chosen_17 ⟨(Nat.le_of_ble_eq_true rfl), (Nat.le_of_ble_eq_true rfl)⟩ (fun r_116 ut_117 H locs hw_118 hP hD hS => ?_)
  have hP : va_P D vwCl [(drp, .inr (6, [.int i1, .int i2, .int i3, .int i4, .int i5, .int i6, .int i7, .ref drp1, .ref drp2, .ref drp3, .ref drp4, .ref drp5, .ref drp6, .ref drp7, .ref drp8, .ref drp9, .ref drp10])), (drp3, aI cs 24 f_drp3)] H := hP
  have hD : va_D A [(drp, .inr (6, [.int i1, .int i2, .int i3, .int i4, .int i5, .int i6, .int i7, .ref drp1, .ref drp2, .ref drp3, .ref drp4, .ref drp5, .ref drp6, .ref drp7, .ref drp8, .ref drp9, .ref drp10])), (drp3, aI cs 24 f_drp3)] := hD
  have er_119 := hw_118
  subst er_119
  refine lv_istore (lv' := [(5, .int 0), (4, .int 19), (3, .int 0), (2, .int (-1)), (0, .ref drp), (1, .int x)]) hx hb dX6_chosen_20 hl (by decide) rfl (fun ls hl => ?_)
  refine lv_iload hx hb dX6_chosen_22 (lv_at hl 0 rfl) ?_
  refine lv_if_ne (tgt := 30) hx hb dX6_chosen_24 (by decide) (fun c_120 => absurd (by decide) c_120) (fun c_120 => ?_)
  refine lv_goto (tgt := 84) hx hb dX6_chosen_27 (by decide) ?_
  refine lv_iinc (v := 20) (lv' := [(4, .int 20), (5, .int 0), (3, .int 0), (2, .int (-1)), (0, .ref drp), (1, .int x)]) hx hb dX6_chosen_84 hl (k := 1) rfl (by decide) (by decide) rfl (fun ls hl => ?_)
  refine lv_goto (tgt := 7) hx hb dX6_chosen_87 (by decide) ?_
  refine lv_iload hx hb dX6_chosen_7 (lv_at hl 0 rfl) ?_
  refine lv_bipush (v := 24) hx hb dX6_chosen_9 (by decide) ?_
  refine lv_icmp_ge (tgt := 90) hx hb dX6_chosen_11 (by decide) (fun c_121 => absurd c_121 (by decide)) (fun c_121 => ?_)
  refine lv_aload_n hx hb dX6_chosen_14 rfl (lv_at hl 4 rfl) ?_
  refine lv_iload hx hb dX6_chosen_15 (lv_at hl 0 rfl) ?_
  refine kV_i (ci := 6) (As := [.int 20]) (rest := []) (wc := [(drp, .inr (6, [.int i1, .int i2, .int i3, .int i4, .int i5, .int i6, .int i7, .ref drp1, .ref drp2, .ref drp3, .ref drp4, .ref drp5, .ref drp6, .ref drp7, .ref drp8, .ref drp9, .ref drp10])), (drp3, aI cs 24 f_drp3)]) (wr := []) hx hb hml hown hu hK hP hD hS hA hl.1 (c_X6_deadOn l D cs H.size drp drp1 drp2 drp3 f_drp3 drp4 drp5 drp6 drp7 drp8 drp9 drp10 i1 i2 i3 i4 i5 i6 i7 20 z_f_drp3) (gV u_457 u_458 u_459 u_72 u_460) hd_X6_deadOn ⟨(Nat.le_of_ble_eq_true rfl), (Nat.le_of_ble_eq_true rfl)⟩ [0, 1] [] rfl rfl rfl rfl (by decide) rfl 0 rfl rfl rfl (Nat.le_of_ble_eq_true rfl) dX6_chosen_17 ⟨(Nat.le_of_ble_eq_true rfl), (Nat.le_of_ble_eq_true rfl)⟩ (fun r_122 ut_123 H locs hw_124 hP hD hS => ?_)
  have hP : va_P D vwCl [(drp, .inr (6, [.int i1, .int i2, .int i3, .int i4, .int i5, .int i6, .int i7, .ref drp1, .ref drp2, .ref drp3, .ref drp4, .ref drp5, .ref drp6, .ref drp7, .ref drp8, .ref drp9, .ref drp10])), (drp3, aI cs 24 f_drp3)] H := hP
  have hD : va_D A [(drp, .inr (6, [.int i1, .int i2, .int i3, .int i4, .int i5, .int i6, .int i7, .ref drp1, .ref drp2, .ref drp3, .ref drp4, .ref drp5, .ref drp6, .ref drp7, .ref drp8, .ref drp9, .ref drp10])), (drp3, aI cs 24 f_drp3)] := hD
  have er_125 := hw_124
  subst er_125
  refine lv_istore (lv' := [(5, .int 0), (4, .int 20), (3, .int 0), (2, .int (-1)), (0, .ref drp), (1, .int x)]) hx hb dX6_chosen_20 hl (by decide) rfl (fun ls hl => ?_)
  refine lv_iload hx hb dX6_chosen_22 (lv_at hl 0 rfl) ?_
  refine lv_if_ne (tgt := 30) hx hb dX6_chosen_24 (by decide) (fun c_126 => absurd (by decide) c_126) (fun c_126 => ?_)
  refine lv_goto (tgt := 84) hx hb dX6_chosen_27 (by decide) ?_
  refine lv_iinc (v := 21) (lv' := [(4, .int 21), (5, .int 0), (3, .int 0), (2, .int (-1)), (0, .ref drp), (1, .int x)]) hx hb dX6_chosen_84 hl (k := 1) rfl (by decide) (by decide) rfl (fun ls hl => ?_)
  refine lv_goto (tgt := 7) hx hb dX6_chosen_87 (by decide) ?_
  refine lv_iload hx hb dX6_chosen_7 (lv_at hl 0 rfl) ?_
  refine lv_bipush (v := 24) hx hb dX6_chosen_9 (by decide) ?_
  refine lv_icmp_ge (tgt := 90) hx hb dX6_chosen_11 (by decide) (fun c_127 => absurd c_127 (by decide)) (fun c_127 => ?_)
  refine lv_aload_n hx hb dX6_chosen_14 rfl (lv_at hl 4 rfl) ?_
  refine lv_iload hx hb dX6_chosen_15 (lv_at hl 0 rfl) ?_
  refine kV_i (ci := 6) (As := [.int 21]) (rest := []) (wc := [(drp, .inr (6, [.int i1, .int i2, .int i3, .int i4, .int i5, .int i6, .int i7, .ref drp1, .ref drp2, .ref drp3, .ref drp4, .ref drp5, .ref drp6, .ref drp7, .ref drp8, .ref drp9, .ref drp10])), (drp3, aI cs 24 f_drp3)]) (wr := []) hx hb hml hown hu hK hP hD hS hA hl.1 (c_X6_deadOn l D cs H.size drp drp1 drp2 drp3 f_drp3 drp4 drp5 drp6 drp7 drp8 drp9 drp10 i1 i2 i3 i4 i5 i6 i7 21 z_f_drp3) (gV u_457 u_458 u_459 u_72 u_460) hd_X6_deadOn ⟨(Nat.le_of_ble_eq_true rfl), (Nat.le_of_ble_eq_true rfl)⟩ [0, 1] [] rfl rfl rfl rfl (by decide) rfl 0 rfl rfl rfl (Nat.le_of_ble_eq_true rfl) dX6_chosen_17 ⟨(Nat.le_of_ble_eq_true rfl), (Nat.le_of_ble_eq_true rfl)⟩ (fun r_128 ut_129 H locs hw_130 hP hD hS => ?_)
  have hP : va_P D vwCl [(drp, .inr (6, [.int i1, .int i2, .int i3, .int i4, .int i5, .int i6, .int i7, .ref drp1, .ref drp2, .ref drp3, .ref drp4, .ref drp5, .ref drp6, .ref drp7, .ref drp8, .ref drp9, .ref drp10])), (drp3, aI cs 24 f_drp3)] H := hP
  have hD : va_D A [(drp, .inr (6, [.int i1, .int i2, .int i3, .int i4, .int i5, .int i6, .int i7, .ref drp1, .ref drp2, .ref drp3, .ref drp4, .ref drp5, .ref drp6, .ref drp7, .ref drp8, .ref drp9, .ref drp10])), (drp3, aI cs 24 f_drp3)] := hD
  have er_131 := hw_130
  subst er_131
  refine lv_istore (lv' := [(5, .int 0), (4, .int 21), (3, .int 0), (2, .int (-1)), (0, .ref drp), (1, .int x)]) hx hb dX6_chosen_20 hl (by decide) rfl (fun ls hl => ?_)
  refine lv_iload hx hb dX6_chosen_22 (lv_at hl 0 rfl) ?_
  refine lv_if_ne (tgt := 30) hx hb dX6_chosen_24 (by decide) (fun c_132 => absurd (by decide) c_132) (fun c_132 => ?_)
  refine lv_goto (tgt := 84) hx hb dX6_chosen_27 (by decide) ?_
  refine lv_iinc (v := 22) (lv' := [(4, .int 22), (5, .int 0), (3, .int 0), (2, .int (-1)), (0, .ref drp), (1, .int x)]) hx hb dX6_chosen_84 hl (k := 1) rfl (by decide) (by decide) rfl (fun ls hl => ?_)
  refine lv_goto (tgt := 7) hx hb dX6_chosen_87 (by decide) ?_
  refine lv_iload hx hb dX6_chosen_7 (lv_at hl 0 rfl) ?_
  refine lv_bipush (v := 24) hx hb dX6_chosen_9 (by decide) ?_
  refine lv_icmp_ge (tgt := 90) hx hb dX6_chosen_11 (by decide) (fun c_133 => absurd c_133 (by decide)) (fun c_133 => ?_)
  refine lv_aload_n hx hb dX6_chosen_14 rfl (lv_at hl 4 rfl) ?_
  refine lv_iload hx hb dX6_chosen_15 (lv_at hl 0 rfl) ?_
  refine kV_i (ci := 6) (As := [.int 22]) (rest := []) (wc := [(drp, .inr (6, [.int i1, .int i2, .int i3, .int i4, .int i5, .int i6, .int i7, .ref drp1, .ref drp2, .ref drp3, .ref drp4, .ref drp5, .ref drp6, .ref drp7, .ref drp8, .ref drp9, .ref drp10])), (drp3, aI cs 24 f_drp3)]) (wr := []) hx hb hml hown hu hK hP hD hS hA hl.1 (c_X6_deadOn l D cs H.size drp drp1 drp2 drp3 f_drp3 drp4 drp5 drp6 drp7 drp8 drp9 drp10 i1 i2 i3 i4 i5 i6 i7 22 z_f_drp3) (gV u_457 u_458 u_459 u_72 u_460) hd_X6_deadOn ⟨(Nat.le_of_ble_eq_true rfl), (Nat.le_of_ble_eq_true rfl)⟩ [0, 1] [] rfl rfl rfl rfl (by decide) rfl 0 rfl rfl rfl (Nat.le_of_ble_eq_true rfl) dX6_chosen_17 ⟨(Nat.le_of_ble_eq_true rfl), (Nat.le_of_ble_eq_true rfl)⟩ (fun r_134 ut_135 H locs hw_136 hP hD hS => ?_)
  have hP : va_P D vwCl [(drp, .inr (6, [.int i1, .int i2, .int i3, .int i4, .int i5, .int i6, .int i7, .ref drp1, .ref drp2, .ref drp3, .ref drp4, .ref drp5, .ref drp6, .ref drp7, .ref drp8, .ref drp9, .ref drp10])), (drp3, aI cs 24 f_drp3)] H := hP
  have hD : va_D A [(drp, .inr (6, [.int i1, .int i2, .int i3, .int i4, .int i5, .int i6, .int i7, .ref drp1, .ref drp2, .ref drp3, .ref drp4, .ref drp5, .ref drp6, .ref drp7, .ref drp8, .ref drp9, .ref drp10])), (drp3, aI cs 24 f_drp3)] := hD
  have er_137 := hw_136
  subst er_137
  refine lv_istore (lv' := [(5, .int 0), (4, .int 22), (3, .int 0), (2, .int (-1)), (0, .ref drp), (1, .int x)]) hx hb dX6_chosen_20 hl (by decide) rfl (fun ls hl => ?_)
  refine lv_iload hx hb dX6_chosen_22 (lv_at hl 0 rfl) ?_
  refine lv_if_ne (tgt := 30) hx hb dX6_chosen_24 (by decide) (fun c_138 => absurd (by decide) c_138) (fun c_138 => ?_)
  refine lv_goto (tgt := 84) hx hb dX6_chosen_27 (by decide) ?_
  refine lv_iinc (v := 23) (lv' := [(4, .int 23), (5, .int 0), (3, .int 0), (2, .int (-1)), (0, .ref drp), (1, .int x)]) hx hb dX6_chosen_84 hl (k := 1) rfl (by decide) (by decide) rfl (fun ls hl => ?_)
  refine lv_goto (tgt := 7) hx hb dX6_chosen_87 (by decide) ?_
  refine lv_iload hx hb dX6_chosen_7 (lv_at hl 0 rfl) ?_
  refine lv_bipush (v := 24) hx hb dX6_chosen_9 (by decide) ?_
  refine lv_icmp_ge (tgt := 90) hx hb dX6_chosen_11 (by decide) (fun c_139 => absurd c_139 (by decide)) (fun c_139 => ?_)
  refine lv_aload_n hx hb dX6_chosen_14 rfl (lv_at hl 4 rfl) ?_
  refine lv_iload hx hb dX6_chosen_15 (lv_at hl 0 rfl) ?_
  refine kV_i (ci := 6) (As := [.int 23]) (rest := []) (wc := [(drp, .inr (6, [.int i1, .int i2, .int i3, .int i4, .int i5, .int i6, .int i7, .ref drp1, .ref drp2, .ref drp3, .ref drp4, .ref drp5, .ref drp6, .ref drp7, .ref drp8, .ref drp9, .ref drp10])), (drp3, aI cs 24 f_drp3)]) (wr := []) hx hb hml hown hu hK hP hD hS hA hl.1 (c_X6_deadOn l D cs H.size drp drp1 drp2 drp3 f_drp3 drp4 drp5 drp6 drp7 drp8 drp9 drp10 i1 i2 i3 i4 i5 i6 i7 23 z_f_drp3) (gV u_457 u_458 u_459 u_72 u_460) hd_X6_deadOn ⟨(Nat.le_of_ble_eq_true rfl), (Nat.le_of_ble_eq_true rfl)⟩ [0, 1] [] rfl rfl rfl rfl (by decide) rfl 0 rfl rfl rfl (Nat.le_of_ble_eq_true rfl) dX6_chosen_17 ⟨(Nat.le_of_ble_eq_true rfl), (Nat.le_of_ble_eq_true rfl)⟩ (fun r_140 ut_141 H locs hw_142 hP hD hS => ?_)
  have hP : va_P D vwCl [(drp, .inr (6, [.int i1, .int i2, .int i3, .int i4, .int i5, .int i6, .int i7, .ref drp1, .ref drp2, .ref drp3, .ref drp4, .ref drp5, .ref drp6, .ref drp7, .ref drp8, .ref drp9, .ref drp10])), (drp3, aI cs 24 f_drp3)] H := hP
  have hD : va_D A [(drp, .inr (6, [.int i1, .int i2, .int i3, .int i4, .int i5, .int i6, .int i7, .ref drp1, .ref drp2, .ref drp3, .ref drp4, .ref drp5, .ref drp6, .ref drp7, .ref drp8, .ref drp9, .ref drp10])), (drp3, aI cs 24 f_drp3)] := hD
  have er_143 := hw_142
  subst er_143
  refine lv_istore (lv' := [(5, .int 0), (4, .int 23), (3, .int 0), (2, .int (-1)), (0, .ref drp), (1, .int x)]) hx hb dX6_chosen_20 hl (by decide) rfl (fun ls hl => ?_)
  refine lv_iload hx hb dX6_chosen_22 (lv_at hl 0 rfl) ?_
  refine lv_if_ne (tgt := 30) hx hb dX6_chosen_24 (by decide) (fun c_144 => absurd (by decide) c_144) (fun c_144 => ?_)
  refine lv_goto (tgt := 84) hx hb dX6_chosen_27 (by decide) ?_
  refine lv_iinc (v := 24) (lv' := [(4, .int 24), (5, .int 0), (3, .int 0), (2, .int (-1)), (0, .ref drp), (1, .int x)]) hx hb dX6_chosen_84 hl (k := 1) rfl (by decide) (by decide) rfl (fun ls hl => ?_)
  refine lv_goto (tgt := 7) hx hb dX6_chosen_87 (by decide) ?_
  refine lv_iload hx hb dX6_chosen_7 (lv_at hl 0 rfl) ?_
  refine lv_bipush (v := 24) hx hb dX6_chosen_9 (by decide) ?_
  refine lv_icmp_ge (tgt := 90) hx hb dX6_chosen_11 (by decide) (fun c_145 => ?_) (fun c_145 => absurd (by decide) c_145)
  refine lv_iload_n hx hb dX6_chosen_90 rfl (lv_at hl 3 rfl) ?_
  exact hz () hP hD hS rfl [0, 1] rfl rfl (Nat.le_of_ble_eq_true rfl) (Nat.le_of_ble_eq_true rfl) .int rfl rfl dX6_chosen_91
