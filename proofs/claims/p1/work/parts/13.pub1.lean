theorem u_381 : Cond.code yX7_addWord prog_9_method_4_code 2 none ∈ U0 := um 381 (by decide +kernel) (by decide +kernel)
theorem u_378 : Cond.methodLink "KeyDrive" 73 yX7_addWord ∈ U0 := um 378 (by decide +kernel) (by decide +kernel)
theorem u_379 : Cond.instanceMethod yX7_addWord ∈ U0 := um 379 (by decide +kernel) (by decide +kernel)
theorem u_380 : Cond.selects "KeyDrive$Row" yX7_addWord yX7_addWord ∈ U0 := um 380 (by decide +kernel) (by decide +kernel)
theorem u_611 : Cond.code yX8_momentOf prog_1_method_62_code 3 (some .int) ∈ U0 := um 611 (by decide +kernel) (by decide +kernel)
theorem u_608 : Cond.methodLink "KeyDrive" 104 yX8_momentOf ∈ U0 := um 608 (by decide +kernel) (by decide +kernel)
theorem u_610 : Cond.instanceMethod yX8_momentOf ∈ U0 := um 610 (by decide +kernel) (by decide +kernel)
theorem u_4 : Cond.selects "KeyDrive" yX8_momentOf yX8_momentOf ∈ U0 := um 4 (by decide +kernel) (by decide +kernel)
theorem u_622 : Cond.code yX8_isOnTape prog_1_method_59_code 2 (some .boolean) ∈ U0 := um 622 (by decide +kernel) (by decide +kernel)
theorem u_619 : Cond.methodLink "KeyDrive" 108 yX8_isOnTape ∈ U0 := um 619 (by decide +kernel) (by decide +kernel)
theorem u_621 : Cond.instanceMethod yX8_isOnTape ∈ U0 := um 621 (by decide +kernel) (by decide +kernel)
theorem u_5 : Cond.selects "KeyDrive" yX8_isOnTape yX8_isOnTape ∈ U0 := um 5 (by decide +kernel) (by decide +kernel)
theorem u_680 : Cond.code yX1_read prog_3_method_2_code 5 none ∈ U0 := um 680 (by decide +kernel) (by decide +kernel)
theorem u_677 : Cond.methodLink "KeyDrive" 157 yX1_read ∈ U0 := um 677 (by decide +kernel) (by decide +kernel)
theorem u_678 : Cond.instanceMethod yX1_read ∈ U0 := um 678 (by decide +kernel) (by decide +kernel)
theorem u_679 : Cond.selects "KeyDrive$Deeds" yX1_read yX1_read ∈ U0 := um 679 (by decide +kernel) (by decide +kernel)
theorem u_113 : Cond.fieldLink "KeyDrive" 161 "KeyDrive$Deeds" "fault" "I" ∈ U0 := um 113 (by decide +kernel) (by decide +kernel)
theorem u_404 : Cond.code yX8_keepState prog_1_method_66_code 1 none ∈ U0 := um 404 (by decide +kernel) (by decide +kernel)
theorem u_401 : Cond.methodLink "KeyDrive" 84 yX8_keepState ∈ U0 := um 401 (by decide +kernel) (by decide +kernel)
theorem u_403 : Cond.instanceMethod yX8_keepState ∈ U0 := um 403 (by decide +kernel) (by decide +kernel)
theorem u_0 : Cond.selects "KeyDrive" yX8_keepState yX8_keepState ∈ U0 := um 0 (by decide +kernel) (by decide +kernel)
theorem u_698 : Cond.code yX1_carryOut prog_3_method_10_code 9 (some .int) ∈ U0 := um 698 (by decide +kernel) (by decide +kernel)
theorem u_695 : Cond.methodLink "KeyDrive" 164 yX1_carryOut ∈ U0 := um 695 (by decide +kernel) (by decide +kernel)
theorem u_696 : Cond.instanceMethod yX1_carryOut ∈ U0 := um 696 (by decide +kernel) (by decide +kernel)
theorem u_697 : Cond.selects "KeyDrive$Deeds" yX1_carryOut yX1_carryOut ∈ U0 := um 697 (by decide +kernel) (by decide +kernel)
theorem u_567 : Cond.code yX8_makeUndoable prog_1_method_68_code 3 none ∈ U0 := um 567 (by decide +kernel) (by decide +kernel)
theorem u_564 : Cond.methodLink "KeyDrive" 94 yX8_makeUndoable ∈ U0 := um 564 (by decide +kernel) (by decide +kernel)
theorem u_566 : Cond.instanceMethod yX8_makeUndoable ∈ U0 := um 566 (by decide +kernel) (by decide +kernel)
theorem u_2 : Cond.selects "KeyDrive" yX8_makeUndoable yX8_makeUndoable ∈ U0 := um 2 (by decide +kernel) (by decide +kernel)
theorem u_715 : Cond.code yX8_touchDeeds prog_1_method_65_code 2 none ∈ U0 := um 715 (by decide +kernel) (by decide +kernel)
theorem u_712 : Cond.methodLink "KeyDrive" 168 yX8_touchDeeds ∈ U0 := um 712 (by decide +kernel) (by decide +kernel)
theorem u_714 : Cond.instanceMethod yX8_touchDeeds ∈ U0 := um 714 (by decide +kernel) (by decide +kernel)
theorem u_7 : Cond.selects "KeyDrive" yX8_touchDeeds yX8_touchDeeds ∈ U0 := um 7 (by decide +kernel) (by decide +kernel)
theorem u_115 : Cond.fieldLink "KeyDrive" 171 "KeyDrive$Deeds" "place" "I" ∈ U0 := um 115 (by decide +kernel) (by decide +kernel)
theorem u_773 : Cond.code yX2_tellable prog_4_method_9_code 7 (some .int) ∈ U0 := um 773 (by decide +kernel) (by decide +kernel)
theorem u_770 : Cond.methodLink "KeyDrive" 200 yX2_tellable ∈ U0 := um 770 (by decide +kernel) (by decide +kernel)
theorem u_771 : Cond.instanceMethod yX2_tellable ∈ U0 := um 771 (by decide +kernel) (by decide +kernel)
theorem u_772 : Cond.selects "KeyDrive$Drive" yX2_tellable yX2_tellable ∈ U0 := um 772 (by decide +kernel) (by decide +kernel)
theorem u_324 : Cond.fieldLink "KeyDrive" 115 "KeyDrive$Drive" "keys" "LKeyDrive$Keys;" ∈ U0 := um 324 (by decide +kernel) (by decide +kernel)
theorem u_274 : Cond.fieldLink "KeyDrive" 177 "KeyDrive$Keys" "count" "I" ∈ U0 := um 274 (by decide +kernel) (by decide +kernel)
theorem dX8_feed_0 : decode cX8_feed 0 = .ok (.aload_n 0, 1) := by decide +kernel
theorem dX8_feed_1 : decode cX8_feed 1 = .ok (.getfield 14, 3) := by decide +kernel
theorem dX8_feed_4 : decode cX8_feed 4 = .ok (.getfield 69, 3) := by decide +kernel
theorem dX8_feed_7 : decode cX8_feed 7 = .ok (.bipush 20, 2) := by decide +kernel
theorem dX8_feed_9 : decode cX8_feed 9 = .ok (.iadd, 1) := by decide +kernel
theorem dX8_feed_10 : decode cX8_feed 10 = .ok (.bipush 60, 2) := by decide +kernel
theorem dX8_feed_12 : decode cX8_feed 12 = .ok (.if_icmp .le 6, 3) := by decide +kernel
theorem dX8_feed_18 : decode cX8_feed 18 = .ok (.aload_n 0, 1) := by decide +kernel
theorem dX8_feed_19 : decode cX8_feed 19 = .ok (.getfield 14, 3) := by decide +kernel
theorem dX8_feed_22 : decode cX8_feed 22 = .ok (.iload_n 1, 1) := by decide +kernel
theorem dX8_feed_23 : decode cX8_feed 23 = .ok (.invokevirtual 73, 3) := by decide +kernel
theorem dX8_feed_26 : decode cX8_feed 26 = .ok (.aload_n 0, 1) := by decide +kernel
theorem dX8_feed_27 : decode cX8_feed 27 = .ok (.getfield 14, 3) := by decide +kernel
theorem dX8_feed_30 : decode cX8_feed 30 = .ok (.iload_n 2, 1) := by decide +kernel
theorem dX8_feed_31 : decode cX8_feed 31 = .ok (.invokevirtual 73, 3) := by decide +kernel
theorem dX8_feed_34 : decode cX8_feed 34 = .ok (.aload_n 0, 1) := by decide +kernel
theorem dX8_feed_35 : decode cX8_feed 35 = .ok (.getfield 14, 3) := by decide +kernel
theorem dX8_feed_38 : decode cX8_feed 38 = .ok (.iload_n 3, 1) := by decide +kernel
theorem dX8_feed_39 : decode cX8_feed 39 = .ok (.invokevirtual 73, 3) := by decide +kernel
theorem dX8_feed_42 : decode cX8_feed 42 = .ok (.aload_n 0, 1) := by decide +kernel
theorem dX8_feed_43 : decode cX8_feed 43 = .ok (.getfield 14, 3) := by decide +kernel
theorem dX8_feed_46 : decode cX8_feed 46 = .ok (.iload 4, 2) := by decide +kernel
theorem dX8_feed_48 : decode cX8_feed 48 = .ok (.invokevirtual 73, 3) := by decide +kernel
theorem dX8_feed_51 : decode cX8_feed 51 = .ok (.aload_n 0, 1) := by decide +kernel
theorem dX8_feed_52 : decode cX8_feed 52 = .ok (.getfield 14, 3) := by decide +kernel
theorem dX8_feed_55 : decode cX8_feed 55 = .ok (.iload 5, 2) := by decide +kernel
theorem dX8_feed_57 : decode cX8_feed 57 = .ok (.invokevirtual 73, 3) := by decide +kernel
theorem dX8_feed_60 : decode cX8_feed 60 = .ok (.aload_n 0, 1) := by decide +kernel
theorem dX8_feed_61 : decode cX8_feed 61 = .ok (.getfield 14, 3) := by decide +kernel
theorem dX8_feed_64 : decode cX8_feed 64 = .ok (.getfield 69, 3) := by decide +kernel
theorem dX8_feed_67 : decode cX8_feed 67 = .ok (.ireturn, 1) := by decide +kernel
theorem dX8_put_0 : decode cX8_put 0 = .ok (.iload_n 1, 1) := by decide +kernel
theorem dX8_put_1 : decode cX8_put 1 = .ok (.invokestatic 76, 3) := by decide +kernel
theorem dX8_put_4 : decode cX8_put 4 = .ok (.ifCond .eq 26, 3) := by decide +kernel
theorem dX8_put_7 : decode cX8_put 7 = .ok (.iload_n 2, 1) := by decide +kernel
theorem dX8_put_8 : decode cX8_put 8 = .ok (.ifCond .lt 22, 3) := by decide +kernel
theorem dX8_put_11 : decode cX8_put 11 = .ok (.iload_n 2, 1) := by decide +kernel
theorem dX8_put_12 : decode cX8_put 12 = .ok (.bipush 40, 2) := by decide +kernel
theorem dX8_put_14 : decode cX8_put 14 = .ok (.if_icmp .gt 16, 3) := by decide +kernel
theorem dX8_put_17 : decode cX8_put 17 = .ok (.iload_n 1, 1) := by decide +kernel
theorem dX8_put_18 : decode cX8_put 18 = .ok (.iload_n 2, 1) := by decide +kernel
theorem dX8_put_19 : decode cX8_put 19 = .ok (.iadd, 1) := by decide +kernel
theorem dX8_put_20 : decode cX8_put 20 = .ok (.aload_n 0, 1) := by decide +kernel
theorem dX8_put_21 : decode cX8_put 21 = .ok (.getfield 14, 3) := by decide +kernel
theorem dX8_put_24 : decode cX8_put 24 = .ok (.getfield 69, 3) := by decide +kernel
theorem dX8_put_27 : decode cX8_put 27 = .ok (.if_icmp .le 6, 3) := by decide +kernel
theorem dX8_put_30 : decode cX8_put 30 = .ok (.bipush (-3), 2) := by decide +kernel
theorem dX8_put_32 : decode cX8_put 32 = .ok (.ireturn, 1) := by decide +kernel
theorem dX8_get_0 : decode cX8_get 0 = .ok (.aload_n 0, 1) := by decide +kernel
theorem dX8_get_1 : decode cX8_get 1 = .ok (.iload_n 2, 1) := by decide +kernel
theorem dX8_get_2 : decode cX8_get 2 = .ok (.invokevirtual 104, 3) := by decide +kernel
theorem dX8_get_5 : decode cX8_get 5 = .ok (.istore_n 3, 1) := by decide +kernel
theorem dX8_get_6 : decode cX8_get 6 = .ok (.iload_n 3, 1) := by decide +kernel
theorem dX8_get_7 : decode cX8_get 7 = .ok (.bipush (-2), 2) := by decide +kernel
theorem dX8_get_9 : decode cX8_get 9 = .ok (.if_icmp .ne 6, 3) := by decide +kernel
theorem dX8_get_12 : decode cX8_get 12 = .ok (.bipush (-2), 2) := by decide +kernel
theorem dX8_get_14 : decode cX8_get 14 = .ok (.ireturn, 1) := by decide +kernel
theorem dX8_get_15 : decode cX8_get 15 = .ok (.aload_n 0, 1) := by decide +kernel
theorem dX8_get_16 : decode cX8_get 16 = .ok (.iload_n 1, 1) := by decide +kernel
theorem dX8_get_17 : decode cX8_get 17 = .ok (.invokevirtual 108, 3) := by decide +kernel
theorem dX8_get_20 : decode cX8_get 20 = .ok (.ifCond .ne 6, 3) := by decide +kernel
theorem dX8_get_23 : decode cX8_get 23 = .ok (.bipush (-3), 2) := by decide +kernel
theorem dX8_get_25 : decode cX8_get 25 = .ok (.ireturn, 1) := by decide +kernel
theorem dX8_answer_0 : decode cX8_answer 0 = .ok (.iload_n 1, 1) := by decide +kernel
theorem dX8_answer_1 : decode cX8_answer 1 = .ok (.ifCond .lt 14, 3) := by decide +kernel
theorem dX8_answer_4 : decode cX8_answer 4 = .ok (.iload_n 1, 1) := by decide +kernel
theorem dX8_answer_5 : decode cX8_answer 5 = .ok (.aload_n 0, 1) := by decide +kernel
theorem dX8_answer_6 : decode cX8_answer 6 = .ok (.getfield 18, 3) := by decide +kernel
theorem dX8_answer_9 : decode cX8_answer 9 = .ok (.getfield 69, 3) := by decide +kernel
theorem dX8_answer_12 : decode cX8_answer 12 = .ok (.if_icmp .lt 7, 3) := by decide +kernel
theorem dX8_answer_15 : decode cX8_answer 15 = .ok (.iconst (-1), 1) := by decide +kernel
theorem dX8_answer_16 : decode cX8_answer 16 = .ok (.goto 11, 3) := by decide +kernel
theorem dX8_answer_27 : decode cX8_answer 27 = .ok (.ireturn, 1) := by decide +kernel
theorem dX8_remove_0 : decode cX8_remove 0 = .ok (.aload_n 0, 1) := by decide +kernel
theorem dX8_remove_1 : decode cX8_remove 1 = .ok (.iload_n 1, 1) := by decide +kernel
theorem dX8_remove_2 : decode cX8_remove 2 = .ok (.invokevirtual 108, 3) := by decide +kernel
theorem dX8_remove_5 : decode cX8_remove 5 = .ok (.ifCond .ne 6, 3) := by decide +kernel
theorem dX8_remove_8 : decode cX8_remove 8 = .ok (.bipush (-3), 2) := by decide +kernel
theorem dX8_remove_10 : decode cX8_remove 10 = .ok (.ireturn, 1) := by decide +kernel
theorem dX8_versions_0 : decode cX8_versions 0 = .ok (.aload_n 0, 1) := by decide +kernel
theorem dX8_versions_1 : decode cX8_versions 1 = .ok (.iload_n 1, 1) := by decide +kernel
theorem dX8_versions_2 : decode cX8_versions 2 = .ok (.invokevirtual 108, 3) := by decide +kernel
theorem dX8_versions_5 : decode cX8_versions 5 = .ok (.ifCond .ne 6, 3) := by decide +kernel
theorem dX8_versions_8 : decode cX8_versions 8 = .ok (.bipush (-3), 2) := by decide +kernel
theorem dX8_versions_10 : decode cX8_versions 10 = .ok (.ireturn, 1) := by decide +kernel
theorem dX8_version_0 : decode cX8_version 0 = .ok (.iload_n 3, 1) := by decide +kernel
theorem dX8_version_1 : decode cX8_version 1 = .ok (.ifCond .lt 8, 3) := by decide +kernel
theorem dX8_version_4 : decode cX8_version 4 = .ok (.iload_n 3, 1) := by decide +kernel
theorem dX8_version_5 : decode cX8_version 5 = .ok (.iconst 3, 1) := by decide +kernel
theorem dX8_version_6 : decode cX8_version 6 = .ok (.if_icmp .le 6, 3) := by decide +kernel
theorem dX8_version_9 : decode cX8_version 9 = .ok (.bipush (-2), 2) := by decide +kernel
theorem dX8_version_11 : decode cX8_version 11 = .ok (.ireturn, 1) := by decide +kernel
theorem dX8_version_12 : decode cX8_version 12 = .ok (.aload_n 0, 1) := by decide +kernel
theorem dX8_version_13 : decode cX8_version 13 = .ok (.iload_n 1, 1) := by decide +kernel
theorem dX8_version_14 : decode cX8_version 14 = .ok (.invokevirtual 108, 3) := by decide +kernel
theorem dX8_version_17 : decode cX8_version 17 = .ok (.ifCond .ne 6, 3) := by decide +kernel
theorem dX8_version_20 : decode cX8_version 20 = .ok (.bipush (-3), 2) := by decide +kernel
theorem dX8_version_22 : decode cX8_version 22 = .ok (.ireturn, 1) := by decide +kernel
theorem dX8_hash_0 : decode cX8_hash 0 = .ok (.aload_n 0, 1) := by decide +kernel
theorem dX8_hash_1 : decode cX8_hash 1 = .ok (.iload_n 1, 1) := by decide +kernel
theorem dX8_hash_2 : decode cX8_hash 2 = .ok (.invokevirtual 108, 3) := by decide +kernel
theorem dX8_hash_5 : decode cX8_hash 5 = .ok (.ifCond .ne 6, 3) := by decide +kernel
theorem dX8_hash_8 : decode cX8_hash 8 = .ok (.bipush (-3), 2) := by decide +kernel
theorem dX8_hash_10 : decode cX8_hash 10 = .ok (.ireturn, 1) := by decide +kernel
theorem dX8_batch_0 : decode cX8_batch 0 = .ok (.iload_n 1, 1) := by decide +kernel
theorem dX8_batch_1 : decode cX8_batch 1 = .ok (.ifCond .lt 14, 3) := by decide +kernel
theorem dX8_batch_4 : decode cX8_batch 4 = .ok (.iload_n 1, 1) := by decide +kernel
theorem dX8_batch_5 : decode cX8_batch 5 = .ok (.aload_n 0, 1) := by decide +kernel
theorem dX8_batch_6 : decode cX8_batch 6 = .ok (.getfield 14, 3) := by decide +kernel
theorem dX8_batch_9 : decode cX8_batch 9 = .ok (.getfield 69, 3) := by decide +kernel
theorem dX8_batch_12 : decode cX8_batch 12 = .ok (.if_icmp .le 6, 3) := by decide +kernel
theorem dX8_batch_15 : decode cX8_batch 15 = .ok (.bipush (-3), 2) := by decide +kernel
theorem dX8_batch_17 : decode cX8_batch 17 = .ok (.ireturn, 1) := by decide +kernel
theorem dX8_batch_18 : decode cX8_batch 18 = .ok (.aload_n 0, 1) := by decide +kernel
theorem dX8_batch_19 : decode cX8_batch 19 = .ok (.getfield 27, 3) := by decide +kernel
theorem dX8_batch_22 : decode cX8_batch 22 = .ok (.aload_n 0, 1) := by decide +kernel
theorem dX8_batch_23 : decode cX8_batch 23 = .ok (.getfield 14, 3) := by decide +kernel
theorem dX8_batch_26 : decode cX8_batch 26 = .ok (.iload_n 1, 1) := by decide +kernel
theorem dX8_batch_27 : decode cX8_batch 27 = .ok (.invokevirtual 157, 3) := by decide +kernel
theorem dX8_batch_30 : decode cX8_batch 30 = .ok (.aload_n 0, 1) := by decide +kernel
theorem dX8_batch_31 : decode cX8_batch 31 = .ok (.getfield 27, 3) := by decide +kernel
theorem dX8_batch_34 : decode cX8_batch 34 = .ok (.getfield 161, 3) := by decide +kernel
theorem dX8_batch_37 : decode cX8_batch 37 = .ok (.ifCond .eq 22, 3) := by decide +kernel
theorem dX8_batch_59 : decode cX8_batch 59 = .ok (.aload_n 0, 1) := by decide +kernel
theorem dX8_batch_60 : decode cX8_batch 60 = .ok (.invokevirtual 84, 3) := by decide +kernel
theorem dX8_batch_63 : decode cX8_batch 63 = .ok (.aload_n 0, 1) := by decide +kernel
theorem dX8_batch_64 : decode cX8_batch 64 = .ok (.getfield 27, 3) := by decide +kernel
theorem dX8_batch_67 : decode cX8_batch 67 = .ok (.aload_n 0, 1) := by decide +kernel
theorem dX8_batch_68 : decode cX8_batch 68 = .ok (.getfield 62, 3) := by decide +kernel
theorem dX8_batch_71 : decode cX8_batch 71 = .ok (.aload_n 0, 1) := by decide +kernel
theorem dX8_batch_72 : decode cX8_batch 72 = .ok (.getfield 14, 3) := by decide +kernel
theorem dX8_batch_75 : decode cX8_batch 75 = .ok (.invokevirtual 164, 3) := by decide +kernel
theorem dX8_batch_78 : decode cX8_batch 78 = .ok (.istore_n 2, 1) := by decide +kernel
theorem dX8_batch_79 : decode cX8_batch 79 = .ok (.iload_n 2, 1) := by decide +kernel
theorem dX8_batch_80 : decode cX8_batch 80 = .ok (.bipush (-4), 2) := by decide +kernel
theorem dX8_batch_82 : decode cX8_batch 82 = .ok (.if_icmp .ne 10, 3) := by decide +kernel
theorem dX8_batch_92 : decode cX8_batch 92 = .ok (.aload_n 0, 1) := by decide +kernel
theorem dX8_batch_93 : decode cX8_batch 93 = .ok (.invokevirtual 94, 3) := by decide +kernel
theorem dX8_batch_96 : decode cX8_batch 96 = .ok (.aload_n 0, 1) := by decide +kernel
theorem dX8_batch_97 : decode cX8_batch 97 = .ok (.invokevirtual 168, 3) := by decide +kernel
theorem dX8_batch_100 : decode cX8_batch 100 = .ok (.aload_n 0, 1) := by decide +kernel
theorem dX8_batch_101 : decode cX8_batch 101 = .ok (.getfield 14, 3) := by decide +kernel
theorem dX8_batch_104 : decode cX8_batch 104 = .ok (.iconst 0, 1) := by decide +kernel
theorem dX8_batch_105 : decode cX8_batch 105 = .ok (.putfield 69, 3) := by decide +kernel
theorem dX8_batch_108 : decode cX8_batch 108 = .ok (.iload_n 2, 1) := by decide +kernel
theorem dX8_batch_109 : decode cX8_batch 109 = .ok (.ireturn, 1) := by decide +kernel
theorem dX8_fault_0 : decode cX8_fault 0 = .ok (.iload_n 1, 1) := by decide +kernel
theorem dX8_fault_1 : decode cX8_fault 1 = .ok (.lookupswitch 43 #[(0, 27), (1, 35)], 27) := by decide +kernel
theorem dX8_fault_28 : decode cX8_fault 28 = .ok (.aload_n 0, 1) := by decide +kernel
theorem dX8_fault_29 : decode cX8_fault 29 = .ok (.getfield 27, 3) := by decide +kernel
theorem dX8_fault_32 : decode cX8_fault 32 = .ok (.getfield 161, 3) := by decide +kernel
theorem dX8_fault_35 : decode cX8_fault 35 = .ok (.ireturn, 1) := by decide +kernel
theorem dX8_fault_36 : decode cX8_fault 36 = .ok (.aload_n 0, 1) := by decide +kernel
theorem dX8_fault_37 : decode cX8_fault 37 = .ok (.getfield 27, 3) := by decide +kernel
theorem dX8_fault_40 : decode cX8_fault 40 = .ok (.getfield 171, 3) := by decide +kernel
theorem dX8_fault_43 : decode cX8_fault 43 = .ok (.ireturn, 1) := by decide +kernel
theorem dX8_fault_44 : decode cX8_fault 44 = .ok (.iconst (-1), 1) := by decide +kernel
theorem dX8_fault_45 : decode cX8_fault 45 = .ok (.ireturn, 1) := by decide +kernel
theorem dX8_seek_0 : decode cX8_seek 0 = .ok (.aload_n 0, 1) := by decide +kernel
theorem dX8_seek_1 : decode cX8_seek 1 = .ok (.iload_n 1, 1) := by decide +kernel
theorem dX8_seek_2 : decode cX8_seek 2 = .ok (.invokevirtual 108, 3) := by decide +kernel
theorem dX8_seek_5 : decode cX8_seek 5 = .ok (.ifCond .ne 6, 3) := by decide +kernel
theorem dX8_seek_8 : decode cX8_seek 8 = .ok (.bipush (-3), 2) := by decide +kernel
theorem dX8_seek_10 : decode cX8_seek 10 = .ok (.ireturn, 1) := by decide +kernel
theorem dX8_between_0 : decode cX8_between 0 = .ok (.iload_n 1, 1) := by decide +kernel
theorem dX8_between_1 : decode cX8_between 1 = .ok (.invokestatic 76, 3) := by decide +kernel
theorem dX8_between_4 : decode cX8_between 4 = .ok (.ifCond .eq 23, 3) := by decide +kernel
theorem dX8_between_7 : decode cX8_between 7 = .ok (.iload_n 2, 1) := by decide +kernel
theorem dX8_between_8 : decode cX8_between 8 = .ok (.invokestatic 76, 3) := by decide +kernel
theorem dX8_between_11 : decode cX8_between 11 = .ok (.ifCond .eq 16, 3) := by decide +kernel
theorem dX8_between_14 : decode cX8_between 14 = .ok (.iload_n 1, 1) := by decide +kernel
theorem dX8_between_15 : decode cX8_between 15 = .ok (.iload_n 2, 1) := by decide +kernel
theorem dX8_between_16 : decode cX8_between 16 = .ok (.iadd, 1) := by decide +kernel
theorem dX8_between_17 : decode cX8_between 17 = .ok (.aload_n 0, 1) := by decide +kernel
theorem dX8_between_18 : decode cX8_between 18 = .ok (.getfield 14, 3) := by decide +kernel
theorem dX8_between_21 : decode cX8_between 21 = .ok (.getfield 69, 3) := by decide +kernel
theorem dX8_between_24 : decode cX8_between 24 = .ok (.if_icmp .le 6, 3) := by decide +kernel
theorem dX8_between_27 : decode cX8_between 27 = .ok (.bipush (-3), 2) := by decide +kernel
theorem dX8_between_29 : decode cX8_between 29 = .ok (.ireturn, 1) := by decide +kernel
theorem dX8_diff_0 : decode cX8_diff 0 = .ok (.iload_n 1, 1) := by decide +kernel
theorem dX8_diff_1 : decode cX8_diff 1 = .ok (.invokestatic 189, 3) := by decide +kernel
theorem dX8_diff_4 : decode cX8_diff 4 = .ok (.ifCond .eq 12, 3) := by decide +kernel
theorem dX8_diff_7 : decode cX8_diff 7 = .ok (.iload_n 2, 1) := by decide +kernel
theorem dX8_diff_8 : decode cX8_diff 8 = .ok (.ifCond .lt 8, 3) := by decide +kernel
theorem dX8_diff_11 : decode cX8_diff 11 = .ok (.iload_n 2, 1) := by decide +kernel
theorem dX8_diff_12 : decode cX8_diff 12 = .ok (.iconst 2, 1) := by decide +kernel
theorem dX8_diff_13 : decode cX8_diff 13 = .ok (.if_icmp .le 6, 3) := by decide +kernel
theorem dX8_diff_16 : decode cX8_diff 16 = .ok (.bipush (-2), 2) := by decide +kernel
theorem dX8_diff_18 : decode cX8_diff 18 = .ok (.ireturn, 1) := by decide +kernel
theorem dX8_diff_19 : decode cX8_diff 19 = .ok (.aload_n 0, 1) := by decide +kernel
theorem dX8_diff_20 : decode cX8_diff 20 = .ok (.iload_n 1, 1) := by decide +kernel
theorem dX8_diff_21 : decode cX8_diff 21 = .ok (.invokevirtual 104, 3) := by decide +kernel
theorem dX8_diff_24 : decode cX8_diff 24 = .ok (.istore_n 3, 1) := by decide +kernel
theorem dX8_diff_25 : decode cX8_diff 25 = .ok (.iload_n 3, 1) := by decide +kernel
theorem dX8_diff_26 : decode cX8_diff 26 = .ok (.ifCond .ge 5, 3) := by decide +kernel
theorem dX8_diff_29 : decode cX8_diff 29 = .ok (.iload_n 3, 1) := by decide +kernel
theorem dX8_diff_30 : decode cX8_diff 30 = .ok (.ireturn, 1) := by decide +kernel
theorem dX8_roll_0 : decode cX8_roll 0 = .ok (.iload_n 1, 1) := by decide +kernel
theorem dX8_roll_1 : decode cX8_roll 1 = .ok (.invokestatic 189, 3) := by decide +kernel
theorem dX8_roll_4 : decode cX8_roll 4 = .ok (.ifCond .ne 6, 3) := by decide +kernel
theorem dX8_roll_7 : decode cX8_roll 7 = .ok (.bipush (-2), 2) := by decide +kernel
theorem dX8_roll_9 : decode cX8_roll 9 = .ok (.ireturn, 1) := by decide +kernel
theorem dX8_roll_10 : decode cX8_roll 10 = .ok (.aload_n 0, 1) := by decide +kernel
theorem dX8_roll_11 : decode cX8_roll 11 = .ok (.iload_n 1, 1) := by decide +kernel
theorem dX8_roll_12 : decode cX8_roll 12 = .ok (.invokevirtual 104, 3) := by decide +kernel
theorem dX8_roll_15 : decode cX8_roll 15 = .ok (.istore_n 2, 1) := by decide +kernel
theorem dX8_roll_16 : decode cX8_roll 16 = .ok (.iload_n 2, 1) := by decide +kernel
theorem dX8_roll_17 : decode cX8_roll 17 = .ok (.ifCond .ge 5, 3) := by decide +kernel
theorem dX8_roll_20 : decode cX8_roll 20 = .ok (.iload_n 2, 1) := by decide +kernel
theorem dX8_roll_21 : decode cX8_roll 21 = .ok (.ireturn, 1) := by decide +kernel
theorem dX8_keys_0 : decode cX8_keys 0 = .ok (.aload_n 0, 1) := by decide +kernel
theorem dX8_keys_1 : decode cX8_keys 1 = .ok (.iload_n 1, 1) := by decide +kernel
theorem dX8_keys_2 : decode cX8_keys 2 = .ok (.invokevirtual 104, 3) := by decide +kernel
theorem dX8_keys_5 : decode cX8_keys 5 = .ok (.istore_n 2, 1) := by decide +kernel
theorem dX8_keys_6 : decode cX8_keys 6 = .ok (.iload_n 2, 1) := by decide +kernel
theorem dX8_keys_7 : decode cX8_keys 7 = .ok (.ifCond .ge 5, 3) := by decide +kernel
theorem dX8_keys_10 : decode cX8_keys 10 = .ok (.iload_n 2, 1) := by decide +kernel
theorem dX8_keys_11 : decode cX8_keys 11 = .ok (.ireturn, 1) := by decide +kernel
theorem dX8_keys_12 : decode cX8_keys 12 = .ok (.aload_n 0, 1) := by decide +kernel
theorem dX8_keys_13 : decode cX8_keys 13 = .ok (.getfield 62, 3) := by decide +kernel
theorem dX8_keys_16 : decode cX8_keys 16 = .ok (.iload_n 2, 1) := by decide +kernel
theorem dX8_keys_17 : decode cX8_keys 17 = .ok (.lconst 0, 1) := by decide +kernel
theorem dX8_keys_18 : decode cX8_keys 18 = .ok (.iconst 0, 1) := by decide +kernel
theorem dX8_keys_19 : decode cX8_keys 19 = .ok (.invokevirtual 200, 3) := by decide +kernel
theorem dX8_keys_22 : decode cX8_keys 22 = .ok (.ireturn, 1) := by decide +kernel
theorem dX8_groups_0 : decode cX8_groups 0 = .ok (.iload_n 2, 1) := by decide +kernel
theorem dX8_groups_1 : decode cX8_groups 1 = .ok (.ifCond .lt 8, 3) := by decide +kernel
theorem dX8_groups_4 : decode cX8_groups 4 = .ok (.iload_n 2, 1) := by decide +kernel
theorem dX8_groups_5 : decode cX8_groups 5 = .ok (.iconst 1, 1) := by decide +kernel
theorem dX8_groups_6 : decode cX8_groups 6 = .ok (.if_icmp .le 6, 3) := by decide +kernel
theorem dX8_groups_9 : decode cX8_groups 9 = .ok (.bipush (-2), 2) := by decide +kernel
theorem dX8_groups_11 : decode cX8_groups 11 = .ok (.ireturn, 1) := by decide +kernel
theorem dX8_groups_12 : decode cX8_groups 12 = .ok (.iload_n 1, 1) := by decide +kernel
theorem dX8_groups_13 : decode cX8_groups 13 = .ok (.invokestatic 76, 3) := by decide +kernel
theorem dX8_groups_16 : decode cX8_groups 16 = .ok (.ifCond .ne 6, 3) := by decide +kernel
theorem dX8_groups_19 : decode cX8_groups 19 = .ok (.bipush (-3), 2) := by decide +kernel
theorem dX8_groups_21 : decode cX8_groups 21 = .ok (.ireturn, 1) := by decide +kernel
theorem dX8_groups_22 : decode cX8_groups 22 = .ok (.iconst 0, 1) := by decide +kernel
theorem dX8_groups_23 : decode cX8_groups 23 = .ok (.istore_n 3, 1) := by decide +kernel
theorem dX8_groups_24 : decode cX8_groups 24 = .ok (.iconst 0, 1) := by decide +kernel
theorem dX8_groups_25 : decode cX8_groups 25 = .ok (.istore 4, 2) := by decide +kernel
theorem dX8_groups_27 : decode cX8_groups 27 = .ok (.iconst 0, 1) := by decide +kernel
theorem dX8_groups_28 : decode cX8_groups 28 = .ok (.istore 5, 2) := by decide +kernel
theorem dX8_groups_30 : decode cX8_groups 30 = .ok (.iconst (-1), 1) := by decide +kernel
theorem dX8_groups_31 : decode cX8_groups 31 = .ok (.istore 6, 2) := by decide +kernel
theorem dX8_groups_33 : decode cX8_groups 33 = .ok (.aload_n 0, 1) := by decide +kernel
theorem dX8_groups_34 : decode cX8_groups 34 = .ok (.getfield 62, 3) := by decide +kernel
theorem dX8_groups_37 : decode cX8_groups 37 = .ok (.getfield 115, 3) := by decide +kernel
theorem dX8_groups_40 : decode cX8_groups 40 = .ok (.astore 7, 2) := by decide +kernel
theorem dX8_groups_42 : decode cX8_groups 42 = .ok (.iconst 0, 1) := by decide +kernel
theorem dX8_groups_43 : decode cX8_groups 43 = .ok (.istore 8, 2) := by decide +kernel
theorem dX8_groups_45 : decode cX8_groups 45 = .ok (.iload 8, 2) := by decide +kernel
theorem dX8_groups_47 : decode cX8_groups 47 = .ok (.aload 7, 2) := by decide +kernel
theorem dX8_groups_49 : decode cX8_groups 49 = .ok (.getfield 177, 3) := by decide +kernel
theorem dX8_groups_52 : decode cX8_groups 52 = .ok (.if_icmp .ge 82, 3) := by decide +kernel
theorem dX8_groups_134 : decode cX8_groups 134 = .ok (.iload_n 2, 1) := by decide +kernel
theorem dX8_groups_135 : decode cX8_groups 135 = .ok (.ifCond .ne 7, 3) := by decide +kernel
theorem dX8_groups_138 : decode cX8_groups 138 = .ok (.iload_n 3, 1) := by decide +kernel
theorem dX8_groups_139 : decode cX8_groups 139 = .ok (.goto 5, 3) := by decide +kernel
theorem dX8_groups_142 : decode cX8_groups 142 = .ok (.iload 4, 2) := by decide +kernel
theorem dX8_groups_144 : decode cX8_groups 144 = .ok (.ireturn, 1) := by decide +kernel
theorem dX8_alike_0 : decode cX8_alike 0 = .ok (.iload_n 1, 1) := by decide +kernel
theorem dX8_alike_1 : decode cX8_alike 1 = .ok (.ifCond .lt 8, 3) := by decide +kernel
theorem dX8_alike_4 : decode cX8_alike 4 = .ok (.iload_n 1, 1) := by decide +kernel
theorem dX8_alike_5 : decode cX8_alike 5 = .ok (.iconst 1, 1) := by decide +kernel
theorem dX8_alike_6 : decode cX8_alike 6 = .ok (.if_icmp .le 6, 3) := by decide +kernel
theorem dX8_alike_9 : decode cX8_alike 9 = .ok (.bipush (-2), 2) := by decide +kernel
theorem dX8_alike_11 : decode cX8_alike 11 = .ok (.ireturn, 1) := by decide +kernel
theorem dX8_alike_12 : decode cX8_alike 12 = .ok (.aload_n 0, 1) := by decide +kernel
theorem dX8_alike_13 : decode cX8_alike 13 = .ok (.getfield 62, 3) := by decide +kernel
theorem dX8_alike_16 : decode cX8_alike 16 = .ok (.getfield 115, 3) := by decide +kernel
theorem dX8_alike_19 : decode cX8_alike 19 = .ok (.astore_n 2, 1) := by decide +kernel
theorem dX8_alike_20 : decode cX8_alike 20 = .ok (.iconst (-1), 1) := by decide +kernel
theorem dX8_alike_21 : decode cX8_alike 21 = .ok (.istore_n 3, 1) := by decide +kernel
theorem dX8_alike_22 : decode cX8_alike 22 = .ok (.iconst (-1), 1) := by decide +kernel
theorem dX8_alike_23 : decode cX8_alike 23 = .ok (.istore 4, 2) := by decide +kernel
theorem dX8_alike_25 : decode cX8_alike 25 = .ok (.iconst 0, 1) := by decide +kernel
theorem dX8_alike_26 : decode cX8_alike 26 = .ok (.istore 5, 2) := by decide +kernel
theorem dX8_alike_28 : decode cX8_alike 28 = .ok (.iconst 0, 1) := by decide +kernel
theorem dX8_alike_29 : decode cX8_alike 29 = .ok (.istore 6, 2) := by decide +kernel
theorem dX8_alike_31 : decode cX8_alike 31 = .ok (.iload 6, 2) := by decide +kernel
theorem dX8_alike_33 : decode cX8_alike 33 = .ok (.aload_n 2, 1) := by decide +kernel
theorem dX8_alike_34 : decode cX8_alike 34 = .ok (.getfield 177, 3) := by decide +kernel
theorem dX8_alike_37 : decode cX8_alike 37 = .ok (.if_icmp .ge 59, 3) := by decide +kernel
theorem dX8_alike_96 : decode cX8_alike 96 = .ok (.iload_n 1, 1) := by decide +kernel
theorem dX8_alike_97 : decode cX8_alike 97 = .ok (.iconst 1, 1) := by decide +kernel
theorem dX8_alike_98 : decode cX8_alike 98 = .ok (.if_icmp .ne 6, 3) := by decide +kernel
theorem dX8_alike_101 : decode cX8_alike 101 = .ok (.iload 5, 2) := by decide +kernel
theorem dX8_alike_103 : decode cX8_alike 103 = .ok (.ireturn, 1) := by decide +kernel
theorem dX8_alike_104 : decode cX8_alike 104 = .ok (.iload_n 3, 1) := by decide +kernel
theorem dX8_alike_105 : decode cX8_alike 105 = .ok (.iconst (-1), 1) := by decide +kernel
theorem dX8_alike_106 : decode cX8_alike 106 = .ok (.if_icmp .ne 7, 3) := by decide +kernel
theorem dX8_alike_109 : decode cX8_alike 109 = .ok (.iconst 0, 1) := by decide +kernel
theorem dX8_alike_110 : decode cX8_alike 110 = .ok (.goto 10, 3) := by decide +kernel
theorem dX8_alike_120 : decode cX8_alike 120 = .ok (.ireturn, 1) := by decide +kernel
theorem hd_X1_carryOut : yX1_carryOut.cls = RX1 ∧ yX1_carryOut.cls ≠ "java/lang/invoke/MethodHandle" ∧ yX1_carryOut.cls ≠ "java/lang/invoke/VarHandle" ∧ (parseMethodDescriptor yX1_carryOut.desc).map (fun d => d.parameters.length) = some 2 := by decide +kernel
theorem hd_X1_read : yX1_read.cls = RX1 ∧ yX1_read.cls ≠ "java/lang/invoke/MethodHandle" ∧ yX1_read.cls ≠ "java/lang/invoke/VarHandle" ∧ (parseMethodDescriptor yX1_read.desc).map (fun d => d.parameters.length) = some 2 := by decide +kernel
theorem hd_X2_tellable : yX2_tellable.cls = RX2 ∧ yX2_tellable.cls ≠ "java/lang/invoke/MethodHandle" ∧ yX2_tellable.cls ≠ "java/lang/invoke/VarHandle" ∧ (parseMethodDescriptor yX2_tellable.desc).map (fun d => d.parameters.length) = some 3 := by decide +kernel
theorem hd_X7_addWord : yX7_addWord.cls = RX7 ∧ yX7_addWord.cls ≠ "java/lang/invoke/MethodHandle" ∧ yX7_addWord.cls ≠ "java/lang/invoke/VarHandle" ∧ (parseMethodDescriptor yX7_addWord.desc).map (fun d => d.parameters.length) = some 1 := by decide +kernel
theorem hd_X8_isOnTape : yX8_isOnTape.cls = RX8 ∧ yX8_isOnTape.cls ≠ "java/lang/invoke/MethodHandle" ∧ yX8_isOnTape.cls ≠ "java/lang/invoke/VarHandle" ∧ (parseMethodDescriptor yX8_isOnTape.desc).map (fun d => d.parameters.length) = some 1 := by decide +kernel
theorem hd_X8_keepState : yX8_keepState.cls = RX8 ∧ yX8_keepState.cls ≠ "java/lang/invoke/MethodHandle" ∧ yX8_keepState.cls ≠ "java/lang/invoke/VarHandle" ∧ (parseMethodDescriptor yX8_keepState.desc).map (fun d => d.parameters.length) = some 0 := by decide +kernel
theorem hd_X8_makeUndoable : yX8_makeUndoable.cls = RX8 ∧ yX8_makeUndoable.cls ≠ "java/lang/invoke/MethodHandle" ∧ yX8_makeUndoable.cls ≠ "java/lang/invoke/VarHandle" ∧ (parseMethodDescriptor yX8_makeUndoable.desc).map (fun d => d.parameters.length) = some 0 := by decide +kernel
theorem hd_X8_momentOf : yX8_momentOf.cls = RX8 ∧ yX8_momentOf.cls ≠ "java/lang/invoke/MethodHandle" ∧ yX8_momentOf.cls ≠ "java/lang/invoke/VarHandle" ∧ (parseMethodDescriptor yX8_momentOf.desc).map (fun d => d.parameters.length) = some 1 := by decide +kernel
theorem hd_X8_touchDeeds : yX8_touchDeeds.cls = RX8 ∧ yX8_touchDeeds.cls ≠ "java/lang/invoke/MethodHandle" ∧ yX8_touchDeeds.cls ≠ "java/lang/invoke/VarHandle" ∧ (parseMethodDescriptor yX8_touchDeeds.desc).map (fun d => d.parameters.length) = some 0 := by decide +kernel
abbrev rm_c_X8_feed : Room := { frames := 2, cells := 0, slots := 0, locals := 42 }
set_option maxHeartbeats 4000000 in
set_option maxRecDepth 100000 in
theorem c_X8_feed (l : Launch) (D : va_G) (cs : Nat → ClassId) (sz : Nat) (kd : Nat) (tp : Nat) (tpb : Nat) (f_tpb : Nat → Int32) (rp : Nat) (ca : Nat) (de : Nat) (bu : Nat) (pk : Nat) (pp : Nat) (pst : Nat) (img : Nat) (dr : Nat) (sp : Nat) (x : Int32) (y : Int32) (z : Int32) (x4 : Int32) (x5 : Int32) (z_f_tpb : ∀ j, j < 60 → f_tpb j = 0) : cMi l yX8_feed (Cond.code yX8_feed cX8_feed 6 (some .int)) (rm_c_X8_feed) D cs [.ref kd, .int x, .int y, .int z, .int x4, .int x5] sz [(kd, .inr (8, [.ref tp, .ref rp, .ref ca, .ref de, .ref bu, .ref pk, .ref pp, .ref pst, .ref img, .int 0, .ref dr, .ref sp])), (tp, .inr (7, [.ref tpb, .int 0])), (tpb, aI cs 60 f_tpb)] (fun (r : Int32) (u : Unit) => (r = 20)) (fun (u : Unit) => []) := by
  refine kMet_i RX8 (by decide) rfl (Nat.le_of_ble_eq_true rfl) ?_
  intro p e s m below meth c ls A Qz H locs hx hb hml hown hin hu hK hsz hA hP hD hS hl hz
  subst hsz
  have hl : lv_has ls 6 [(0, .ref kd), (1, .int x), (2, .int y), (3, .int z), (4, .int x4), (5, .int x5)] := hl
  refine lv_aload_n hx hb dX8_feed_0 rfl (lv_at hl 0 rfl) ?_
  refine va_get (D := D) (ci := 8) (v := .ref tp) (C := RX8) (T := TX8) (N := 12) hx hb hu in_X8 hown hK.1 hP 0 rfl rfl 0 (by decide) (hu _ u_337) (fun _ h9 => h9) rfl dX8_feed_1 ?_
  refine va_get (D := D) (ci := 7) (v := .int 0) (C := RX7) (T := TX7) (N := 2) hx hb hu in_X7 hown hK.1 hP 1 rfl rfl 1 (by decide) (hu _ u_96) (fun _ h9 => h9) rfl dX8_feed_4 ?_
  refine lv_bipush (v := 20) hx hb dX8_feed_7 (by decide) ?_
  refine lv_iadd hx hb dX8_feed_9 ?_
  refine tpi (y := 20) (by decide) ?_
  refine lv_bipush (v := 60) hx hb dX8_feed_10 (by decide) ?_
  refine lv_icmp_le (tgt := 18) hx hb dX8_feed_12 (by decide) (fun c_1 => ?_) (fun c_1 => absurd (by decide) c_1)
  refine lv_aload_n hx hb dX8_feed_18 rfl (lv_at hl 0 rfl) ?_
  refine va_get (D := D) (ci := 8) (v := .ref tp) (C := RX8) (T := TX8) (N := 12) hx hb hu in_X8 hown hK.1 hP 0 rfl rfl 0 (by decide) (hu _ u_337) (fun _ h9 => h9) rfl dX8_feed_19 ?_
  refine lv_iload_n hx hb dX8_feed_22 rfl (lv_at hl 1 rfl) ?_
  refine kV_v (ci := 7) (As := [.int x]) (rest := []) (wc := [(tp, .inr (7, [.ref tpb, .int 0])), (tpb, aI cs 60 f_tpb)]) (wr := [(kd, .inr (8, [.ref tp, .ref rp, .ref ca, .ref de, .ref bu, .ref pk, .ref pp, .ref pst, .ref img, .int 0, .ref dr, .ref sp]))]) hx hb hml hown hu hK hP hD hS hA hl.1 (c_X7_addWord l D cs H.size tp tpb f_tpb 0 x (by omega)) (gV u_378 u_379 u_380 u_67 u_381) hd_X7_addWord ⟨(Nat.le_of_ble_eq_true rfl), (Nat.le_of_ble_eq_true rfl)⟩ [1, 2] [0] rfl rfl rfl rfl (by decide) rfl 0 rfl rfl rfl (Nat.le_of_ble_eq_true rfl) dX8_feed_23 ⟨(Nat.le_of_ble_eq_true rfl), (Nat.le_of_ble_eq_true rfl)⟩ (fun ut_3 H locs hw_4 hP hD hS => ?_)
  have hP : va_P D vwCl [(kd, .inr (8, [.ref tp, .ref rp, .ref ca, .ref de, .ref bu, .ref pk, .ref pp, .ref pst, .ref img, .int 0, .ref dr, .ref sp])), (tp, .inr (7, [.ref tpb, .int (nI (0 + 1 + 1 + 1 + 1))])), (tpb, aI cs 60 ut_3)] H := hP
  have hD : va_D A [(kd, .inr (8, [.ref tp, .ref rp, .ref ca, .ref de, .ref bu, .ref pk, .ref pp, .ref pst, .ref img, .int 0, .ref dr, .ref sp])), (tp, .inr (7, [.ref tpb, .int (nI (0 + 1 + 1 + 1 + 1))])), (tpb, aI cs 60 ut_3)] := hD
  obtain ⟨ug_5, rfl⟩ : ∃ z, z = ut_3 := ⟨_, rfl⟩
  have hP : va_P D vwCl [(kd, .inr (8, [.ref tp, .ref rp, .ref ca, .ref de, .ref bu, .ref pk, .ref pp, .ref pst, .ref img, .int 0, .ref dr, .ref sp])), (tp, .inr (7, [.ref tpb, .int (nI (0 + 1 + 1 + 1 + 1))])), (tpb, aI cs 60 ug_5)] H := hP
  have hD : va_D A [(kd, .inr (8, [.ref tp, .ref rp, .ref ca, .ref de, .ref bu, .ref pk, .ref pp, .ref pst, .ref img, .int 0, .ref dr, .ref sp])), (tp, .inr (7, [.ref tpb, .int (nI (0 + 1 + 1 + 1 + 1))])), (tpb, aI cs 60 ug_5)] := hD
  try dsimp only at hw_4
  refine lv_aload_n hx hb dX8_feed_26 rfl (lv_at hl 0 rfl) ?_
  refine va_get (D := D) (ci := 8) (v := .ref tp) (C := RX8) (T := TX8) (N := 12) hx hb hu in_X8 hown hK.1 hP 0 rfl rfl 0 (by decide) (hu _ u_337) (fun _ h9 => h9) rfl dX8_feed_27 ?_
  refine lv_iload_n hx hb dX8_feed_30 rfl (lv_at hl 2 rfl) ?_
  refine kV_v (ci := 7) (As := [.int y]) (rest := []) (wc := [(tp, .inr (7, [.ref tpb, .int (nI (0 + 1 + 1 + 1 + 1))])), (tpb, aI cs 60 ug_5)]) (wr := [(kd, .inr (8, [.ref tp, .ref rp, .ref ca, .ref de, .ref bu, .ref pk, .ref pp, .ref pst, .ref img, .int 0, .ref dr, .ref sp]))]) hx hb hml hown hu hK hP hD hS hA hl.1 (c_X7_addWord l D cs H.size tp tpb ug_5 (0 + 1 + 1 + 1 + 1) y (by omega)) (gV u_378 u_379 u_380 u_67 u_381) hd_X7_addWord ⟨(Nat.le_of_ble_eq_true rfl), (Nat.le_of_ble_eq_true rfl)⟩ [1, 2] [0] rfl rfl rfl rfl (by decide) rfl 0 rfl rfl rfl (Nat.le_of_ble_eq_true rfl) dX8_feed_31 ⟨(Nat.le_of_ble_eq_true rfl), (Nat.le_of_ble_eq_true rfl)⟩ (fun ut_7 H locs hw_8 hP hD hS => ?_)
  have hP : va_P D vwCl [(kd, .inr (8, [.ref tp, .ref rp, .ref ca, .ref de, .ref bu, .ref pk, .ref pp, .ref pst, .ref img, .int 0, .ref dr, .ref sp])), (tp, .inr (7, [.ref tpb, .int (nI ((0 + 1 + 1 + 1 + 1) + 1 + 1 + 1 + 1))])), (tpb, aI cs 60 ut_7)] H := hP
  have hD : va_D A [(kd, .inr (8, [.ref tp, .ref rp, .ref ca, .ref de, .ref bu, .ref pk, .ref pp, .ref pst, .ref img, .int 0, .ref dr, .ref sp])), (tp, .inr (7, [.ref tpb, .int (nI ((0 + 1 + 1 + 1 + 1) + 1 + 1 + 1 + 1))])), (tpb, aI cs 60 ut_7)] := hD
  obtain ⟨ug_9, rfl⟩ : ∃ z, z = ut_7 := ⟨_, rfl⟩
  have hP : va_P D vwCl [(kd, .inr (8, [.ref tp, .ref rp, .ref ca, .ref de, .ref bu, .ref pk, .ref pp, .ref pst, .ref img, .int 0, .ref dr, .ref sp])), (tp, .inr (7, [.ref tpb, .int (nI ((0 + 1 + 1 + 1 + 1) + 1 + 1 + 1 + 1))])), (tpb, aI cs 60 ug_9)] H := hP
  have hD : va_D A [(kd, .inr (8, [.ref tp, .ref rp, .ref ca, .ref de, .ref bu, .ref pk, .ref pp, .ref pst, .ref img, .int 0, .ref dr, .ref sp])), (tp, .inr (7, [.ref tpb, .int (nI ((0 + 1 + 1 + 1 + 1) + 1 + 1 + 1 + 1))])), (tpb, aI cs 60 ug_9)] := hD
  try dsimp only at hw_8
  refine lv_aload_n hx hb dX8_feed_34 rfl (lv_at hl 0 rfl) ?_
  refine va_get (D := D) (ci := 8) (v := .ref tp) (C := RX8) (T := TX8) (N := 12) hx hb hu in_X8 hown hK.1 hP 0 rfl rfl 0 (by decide) (hu _ u_337) (fun _ h9 => h9) rfl dX8_feed_35 ?_
  refine lv_iload_n hx hb dX8_feed_38 rfl (lv_at hl 3 rfl) ?_
  refine kV_v (ci := 7) (As := [.int z]) (rest := []) (wc := [(tp, .inr (7, [.ref tpb, .int (nI ((0 + 1 + 1 + 1 + 1) + 1 + 1 + 1 + 1))])), (tpb, aI cs 60 ug_9)]) (wr := [(kd, .inr (8, [.ref tp, .ref rp, .ref ca, .ref de, .ref bu, .ref pk, .ref pp, .ref pst, .ref img, .int 0, .ref dr, .ref sp]))]) hx hb hml hown hu hK hP hD hS hA hl.1 (c_X7_addWord l D cs H.size tp tpb ug_9 ((0 + 1 + 1 + 1 + 1) + 1 + 1 + 1 + 1) z (by omega)) (gV u_378 u_379 u_380 u_67 u_381) hd_X7_addWord ⟨(Nat.le_of_ble_eq_true rfl), (Nat.le_of_ble_eq_true rfl)⟩ [1, 2] [0] rfl rfl rfl rfl (by decide) rfl 0 rfl rfl rfl (Nat.le_of_ble_eq_true rfl) dX8_feed_39 ⟨(Nat.le_of_ble_eq_true rfl), (Nat.le_of_ble_eq_true rfl)⟩ (fun ut_11 H locs hw_12 hP hD hS => ?_)
  have hP : va_P D vwCl [(kd, .inr (8, [.ref tp, .ref rp, .ref ca, .ref de, .ref bu, .ref pk, .ref pp, .ref pst, .ref img, .int 0, .ref dr, .ref sp])), (tp, .inr (7, [.ref tpb, .int (nI (((0 + 1 + 1 + 1 + 1) + 1 + 1 + 1 + 1) + 1 + 1 + 1 + 1))])), (tpb, aI cs 60 ut_11)] H := hP
  have hD : va_D A [(kd, .inr (8, [.ref tp, .ref rp, .ref ca, .ref de, .ref bu, .ref pk, .ref pp, .ref pst, .ref img, .int 0, .ref dr, .ref sp])), (tp, .inr (7, [.ref tpb, .int (nI (((0 + 1 + 1 + 1 + 1) + 1 + 1 + 1 + 1) + 1 + 1 + 1 + 1))])), (tpb, aI cs 60 ut_11)] := hD
  obtain ⟨ug_13, rfl⟩ : ∃ z, z = ut_11 := ⟨_, rfl⟩
  have hP : va_P D vwCl [(kd, .inr (8, [.ref tp, .ref rp, .ref ca, .ref de, .ref bu, .ref pk, .ref pp, .ref pst, .ref img, .int 0, .ref dr, .ref sp])), (tp, .inr (7, [.ref tpb, .int (nI (((0 + 1 + 1 + 1 + 1) + 1 + 1 + 1 + 1) + 1 + 1 + 1 + 1))])), (tpb, aI cs 60 ug_13)] H := hP
  have hD : va_D A [(kd, .inr (8, [.ref tp, .ref rp, .ref ca, .ref de, .ref bu, .ref pk, .ref pp, .ref pst, .ref img, .int 0, .ref dr, .ref sp])), (tp, .inr (7, [.ref tpb, .int (nI (((0 + 1 + 1 + 1 + 1) + 1 + 1 + 1 + 1) + 1 + 1 + 1 + 1))])), (tpb, aI cs 60 ug_13)] := hD
  try dsimp only at hw_12
  refine lv_aload_n hx hb dX8_feed_42 rfl (lv_at hl 0 rfl) ?_
  refine va_get (D := D) (ci := 8) (v := .ref tp) (C := RX8) (T := TX8) (N := 12) hx hb hu in_X8 hown hK.1 hP 0 rfl rfl 0 (by decide) (hu _ u_337) (fun _ h9 => h9) rfl dX8_feed_43 ?_
  refine lv_iload hx hb dX8_feed_46 (lv_at hl 4 rfl) ?_
  refine kV_v (ci := 7) (As := [.int x4]) (rest := []) (wc := [(tp, .inr (7, [.ref tpb, .int (nI (((0 + 1 + 1 + 1 + 1) + 1 + 1 + 1 + 1) + 1 + 1 + 1 + 1))])), (tpb, aI cs 60 ug_13)]) (wr := [(kd, .inr (8, [.ref tp, .ref rp, .ref ca, .ref de, .ref bu, .ref pk, .ref pp, .ref pst, .ref img, .int 0, .ref dr, .ref sp]))]) hx hb hml hown hu hK hP hD hS hA hl.1 (c_X7_addWord l D cs H.size tp tpb ug_13 (((0 + 1 + 1 + 1 + 1) + 1 + 1 + 1 + 1) + 1 + 1 + 1 + 1) x4 (by omega)) (gV u_378 u_379 u_380 u_67 u_381) hd_X7_addWord ⟨(Nat.le_of_ble_eq_true rfl), (Nat.le_of_ble_eq_true rfl)⟩ [1, 2] [0] rfl rfl rfl rfl (by decide) rfl 0 rfl rfl rfl (Nat.le_of_ble_eq_true rfl) dX8_feed_48 ⟨(Nat.le_of_ble_eq_true rfl), (Nat.le_of_ble_eq_true rfl)⟩ (fun ut_15 H locs hw_16 hP hD hS => ?_)
  have hP : va_P D vwCl [(kd, .inr (8, [.ref tp, .ref rp, .ref ca, .ref de, .ref bu, .ref pk, .ref pp, .ref pst, .ref img, .int 0, .ref dr, .ref sp])), (tp, .inr (7, [.ref tpb, .int (nI ((((0 + 1 + 1 + 1 + 1) + 1 + 1 + 1 + 1) + 1 + 1 + 1 + 1) + 1 + 1 + 1 + 1))])), (tpb, aI cs 60 ut_15)] H := hP
  have hD : va_D A [(kd, .inr (8, [.ref tp, .ref rp, .ref ca, .ref de, .ref bu, .ref pk, .ref pp, .ref pst, .ref img, .int 0, .ref dr, .ref sp])), (tp, .inr (7, [.ref tpb, .int (nI ((((0 + 1 + 1 + 1 + 1) + 1 + 1 + 1 + 1) + 1 + 1 + 1 + 1) + 1 + 1 + 1 + 1))])), (tpb, aI cs 60 ut_15)] := hD
  obtain ⟨ug_17, rfl⟩ : ∃ z, z = ut_15 := ⟨_, rfl⟩
  have hP : va_P D vwCl [(kd, .inr (8, [.ref tp, .ref rp, .ref ca, .ref de, .ref bu, .ref pk, .ref pp, .ref pst, .ref img, .int 0, .ref dr, .ref sp])), (tp, .inr (7, [.ref tpb, .int (nI ((((0 + 1 + 1 + 1 + 1) + 1 + 1 + 1 + 1) + 1 + 1 + 1 + 1) + 1 + 1 + 1 + 1))])), (tpb, aI cs 60 ug_17)] H := hP
  have hD : va_D A [(kd, .inr (8, [.ref tp, .ref rp, .ref ca, .ref de, .ref bu, .ref pk, .ref pp, .ref pst, .ref img, .int 0, .ref dr, .ref sp])), (tp, .inr (7, [.ref tpb, .int (nI ((((0 + 1 + 1 + 1 + 1) + 1 + 1 + 1 + 1) + 1 + 1 + 1 + 1) + 1 + 1 + 1 + 1))])), (tpb, aI cs 60 ug_17)] := hD
  try dsimp only at hw_16
  refine lv_aload_n hx hb dX8_feed_51 rfl (lv_at hl 0 rfl) ?_
  refine va_get (D := D) (ci := 8) (v := .ref tp) (C := RX8) (T := TX8) (N := 12) hx hb hu in_X8 hown hK.1 hP 0 rfl rfl 0 (by decide) (hu _ u_337) (fun _ h9 => h9) rfl dX8_feed_52 ?_
  refine lv_iload hx hb dX8_feed_55 (lv_at hl 5 rfl) ?_
  refine kV_v (ci := 7) (As := [.int x5]) (rest := []) (wc := [(tp, .inr (7, [.ref tpb, .int (nI ((((0 + 1 + 1 + 1 + 1) + 1 + 1 + 1 + 1) + 1 + 1 + 1 + 1) + 1 + 1 + 1 + 1))])), (tpb, aI cs 60 ug_17)]) (wr := [(kd, .inr (8, [.ref tp, .ref rp, .ref ca, .ref de, .ref bu, .ref pk, .ref pp, .ref pst, .ref img, .int 0, .ref dr, .ref sp]))]) hx hb hml hown hu hK hP hD hS hA hl.1 (c_X7_addWord l D cs H.size tp tpb ug_17 ((((0 + 1 + 1 + 1 + 1) + 1 + 1 + 1 + 1) + 1 + 1 + 1 + 1) + 1 + 1 + 1 + 1) x5 (by omega)) (gV u_378 u_379 u_380 u_67 u_381) hd_X7_addWord ⟨(Nat.le_of_ble_eq_true rfl), (Nat.le_of_ble_eq_true rfl)⟩ [1, 2] [0] rfl rfl rfl rfl (by decide) rfl 0 rfl rfl rfl (Nat.le_of_ble_eq_true rfl) dX8_feed_57 ⟨(Nat.le_of_ble_eq_true rfl), (Nat.le_of_ble_eq_true rfl)⟩ (fun ut_19 H locs hw_20 hP hD hS => ?_)
  have hP : va_P D vwCl [(kd, .inr (8, [.ref tp, .ref rp, .ref ca, .ref de, .ref bu, .ref pk, .ref pp, .ref pst, .ref img, .int 0, .ref dr, .ref sp])), (tp, .inr (7, [.ref tpb, .int (nI (((((0 + 1 + 1 + 1 + 1) + 1 + 1 + 1 + 1) + 1 + 1 + 1 + 1) + 1 + 1 + 1 + 1) + 1 + 1 + 1 + 1))])), (tpb, aI cs 60 ut_19)] H := hP
  have hD : va_D A [(kd, .inr (8, [.ref tp, .ref rp, .ref ca, .ref de, .ref bu, .ref pk, .ref pp, .ref pst, .ref img, .int 0, .ref dr, .ref sp])), (tp, .inr (7, [.ref tpb, .int (nI (((((0 + 1 + 1 + 1 + 1) + 1 + 1 + 1 + 1) + 1 + 1 + 1 + 1) + 1 + 1 + 1 + 1) + 1 + 1 + 1 + 1))])), (tpb, aI cs 60 ut_19)] := hD
  obtain ⟨ug_21, rfl⟩ : ∃ z, z = ut_19 := ⟨_, rfl⟩
  have hP : va_P D vwCl [(kd, .inr (8, [.ref tp, .ref rp, .ref ca, .ref de, .ref bu, .ref pk, .ref pp, .ref pst, .ref img, .int 0, .ref dr, .ref sp])), (tp, .inr (7, [.ref tpb, .int (nI (((((0 + 1 + 1 + 1 + 1) + 1 + 1 + 1 + 1) + 1 + 1 + 1 + 1) + 1 + 1 + 1 + 1) + 1 + 1 + 1 + 1))])), (tpb, aI cs 60 ug_21)] H := hP
  have hD : va_D A [(kd, .inr (8, [.ref tp, .ref rp, .ref ca, .ref de, .ref bu, .ref pk, .ref pp, .ref pst, .ref img, .int 0, .ref dr, .ref sp])), (tp, .inr (7, [.ref tpb, .int (nI (((((0 + 1 + 1 + 1 + 1) + 1 + 1 + 1 + 1) + 1 + 1 + 1 + 1) + 1 + 1 + 1 + 1) + 1 + 1 + 1 + 1))])), (tpb, aI cs 60 ug_21)] := hD
  try dsimp only at hw_20
  refine lv_aload_n hx hb dX8_feed_60 rfl (lv_at hl 0 rfl) ?_
  refine va_get (D := D) (ci := 8) (v := .ref tp) (C := RX8) (T := TX8) (N := 12) hx hb hu in_X8 hown hK.1 hP 0 rfl rfl 0 (by decide) (hu _ u_337) (fun _ h9 => h9) rfl dX8_feed_61 ?_
  refine va_get (D := D) (ci := 7) (v := .int (nI (((((0 + 1 + 1 + 1 + 1) + 1 + 1 + 1 + 1) + 1 + 1 + 1 + 1) + 1 + 1 + 1 + 1) + 1 + 1 + 1 + 1))) (C := RX7) (T := TX7) (N := 2) hx hb hu in_X7 hown hK.1 hP 1 rfl rfl 1 (by decide) (hu _ u_96) (fun _ h9 => h9) rfl dX8_feed_64 ?_
  exact hz () hP hD hS rfl [] rfl rfl (Nat.le_of_ble_eq_true rfl) (Nat.le_of_ble_eq_true rfl) .int rfl rfl dX8_feed_67
abbrev rm_c_X8_put : Room := { frames := 1, cells := 0, slots := 0, locals := 20 }
set_option maxHeartbeats 4000000 in
set_option maxRecDepth 100000 in
theorem c_X8_put (l : Launch) (D : va_G) (cs : Nat → ClassId) (sz : Nat) (kd : Nat) (tp : Nat) (tpb : Nat) (rp : Nat) (ca : Nat) (de : Nat) (bu : Nat) (pk : Nat) (pp : Nat) (pst : Nat) (img : Nat) (dr : Nat) (sp : Nat) (x : Int32) (y : Int32)  : cMi l yX8_put (Cond.code yX8_put cX8_put 5 (some .int)) (rm_c_X8_put) D cs [.ref kd, .int x, .int y] sz [(kd, .inr (8, [.ref tp, .ref rp, .ref ca, .ref de, .ref bu, .ref pk, .ref pp, .ref pst, .ref img, .int 0, .ref dr, .ref sp])), (tp, .inr (7, [.ref tpb, .int 0]))] (fun (r : Int32) (u : Unit) => (r = (-3))) (fun (u : Unit) => []) := by
  refine kMet_i RX8 (by decide) rfl (Nat.le_of_ble_eq_true rfl) ?_
  intro p e s m below meth c ls A Qz H locs hx hb hml hown hin hu hK hsz hA hP hD hS hl hz
  subst hsz
  have hl : lv_has ls 5 [(0, .ref kd), (1, .int x), (2, .int y)] := hl
  refine lv_iload_n hx hb dX8_put_0 rfl (lv_at hl 1 rfl) ?_
  refine kS_i  (As := [.int x]) (rest := []) (wc := []) (wr := [(kd, .inr (8, [.ref tp, .ref rp, .ref ca, .ref de, .ref bu, .ref pk, .ref pp, .ref pst, .ref img, .int 0, .ref dr, .ref sp])), (tp, .inr (7, [.ref tpb, .int 0]))]) hx hb hml hown hu hK hP hD hS hA hl.1 (c_X8_isKeyLength l D cs H.size x) (gS u_390 u_391 u_66 u_392) hd_X8_isKeyLength ⟨(Nat.le_of_ble_eq_true rfl), (Nat.le_of_ble_eq_true rfl)⟩ [] [0, 1] rfl rfl rfl rfl (by decide) rfl rfl (Nat.le_of_ble_eq_true rfl) dX8_put_1 ⟨(Nat.le_of_ble_eq_true rfl), (Nat.le_of_ble_eq_true rfl)⟩ (fun r_1 ut_2 H locs hw_3 hP hD hS => ?_)
  have hP : va_P D vwCl [(kd, .inr (8, [.ref tp, .ref rp, .ref ca, .ref de, .ref bu, .ref pk, .ref pp, .ref pst, .ref img, .int 0, .ref dr, .ref sp])), (tp, .inr (7, [.ref tpb, .int 0]))] H := hP
  have hD : va_D A [(kd, .inr (8, [.ref tp, .ref rp, .ref ca, .ref de, .ref bu, .ref pk, .ref pp, .ref pst, .ref img, .int 0, .ref dr, .ref sp])), (tp, .inr (7, [.ref tpb, .int 0]))] := hD
  rcases hw_3 with hw_3 | hw_3
  · obtain ⟨er_4, hf_5⟩ := hw_3
    subst er_4
    refine lv_if_eq (tgt := 30) hx hb dX8_put_4 (by decide) (fun c_6 => absurd c_6 (by decide)) (fun c_6 => ?_)
    refine lv_iload_n hx hb dX8_put_7 rfl (lv_at hl 2 rfl) ?_
    refine lv_if_lt (tgt := 30) hx hb dX8_put_8 (by decide) (fun c_7 => ?_) (fun c_7 => ?_)
    · refine lv_bipush (v := (-3)) hx hb dX8_put_30 (by decide) ?_
      exact hz () hP hD hS rfl [] rfl rfl (Nat.le_of_ble_eq_true rfl) (Nat.le_of_ble_eq_true rfl) .int rfl rfl dX8_put_32
    · refine lv_iload_n hx hb dX8_put_11 rfl (lv_at hl 2 rfl) ?_
      refine lv_bipush (v := 40) hx hb dX8_put_12 (by decide) ?_
      refine lv_icmp_gt (tgt := 30) hx hb dX8_put_14 (by decide) (fun c_8 => ?_) (fun c_8 => ?_)
      · refine lv_bipush (v := (-3)) hx hb dX8_put_30 (by decide) ?_
        exact hz () hP hD hS rfl [] rfl rfl (Nat.le_of_ble_eq_true rfl) (Nat.le_of_ble_eq_true rfl) .int rfl rfl dX8_put_32
      · refine lv_iload_n hx hb dX8_put_17 rfl (lv_at hl 1 rfl) ?_
        refine lv_iload_n hx hb dX8_put_18 rfl (lv_at hl 2 rfl) ?_
        refine lv_iadd hx hb dX8_put_19 ?_
        refine lv_aload_n hx hb dX8_put_20 rfl (lv_at hl 0 rfl) ?_
        refine va_get (D := D) (ci := 8) (v := .ref tp) (C := RX8) (T := TX8) (N := 12) hx hb hu in_X8 hown hK.1 hP 0 rfl rfl 0 (by decide) (hu _ u_337) (fun _ h9 => h9) rfl dX8_put_21 ?_
        refine va_get (D := D) (ci := 7) (v := .int 0) (C := RX7) (T := TX7) (N := 2) hx hb hu in_X7 hown hK.1 hP 1 rfl rfl 1 (by decide) (hu _ u_96) (fun _ h9 => h9) rfl dX8_put_24 ?_
        refine lv_icmp_le (tgt := 33) hx hb dX8_put_27 (by decide) (fun c_9 => absurd c_9 (by grind)) (fun c_9 => ?_)
        refine lv_bipush (v := (-3)) hx hb dX8_put_30 (by decide) ?_
        exact hz () hP hD hS rfl [] rfl rfl (Nat.le_of_ble_eq_true rfl) (Nat.le_of_ble_eq_true rfl) .int rfl rfl dX8_put_32
  · obtain ⟨er_10, hf_11⟩ := hw_3
    subst er_10
    refine lv_if_eq (tgt := 30) hx hb dX8_put_4 (by decide) (fun c_12 => ?_) (fun c_12 => absurd (by decide) c_12)
    refine lv_bipush (v := (-3)) hx hb dX8_put_30 (by decide) ?_
    exact hz () hP hD hS rfl [] rfl rfl (Nat.le_of_ble_eq_true rfl) (Nat.le_of_ble_eq_true rfl) .int rfl rfl dX8_put_32
abbrev rm_c_X8_get : Room := { frames := 2, cells := 0, slots := 0, locals := 43 }
set_option maxHeartbeats 4000000 in
set_option maxRecDepth 100000 in
theorem c_X8_get (l : Launch) (D : va_G) (cs : Nat → ClassId) (sz : Nat) (kd : Nat) (tp : Nat) (tpb : Nat) (rp : Nat) (ca : Nat) (de : Nat) (bu : Nat) (pk : Nat) (pp : Nat) (pst : Nat) (img : Nat) (dr : Nat) (drp : Nat) (drk : Nat) (drm : Nat) (drm1 : Nat) (f_drm1 : Nat → Int32) (drm2 : Nat) (drm3 : Nat) (drm4 : Nat) (sp : Nat) (x : Int32) (y : Int32) (z_f_drm1 : ∀ j, j < 7 → f_drm1 j = (-1)) : cMi l yX8_get (Cond.code yX8_get cX8_get 7 (some .int)) (rm_c_X8_get) D cs [.ref kd, .int x, .int y] sz [(kd, .inr (8, [.ref tp, .ref rp, .ref ca, .ref de, .ref bu, .ref pk, .ref pp, .ref pst, .ref img, .int 0, .ref dr, .ref sp])), (tp, .inr (7, [.ref tpb, .int 0])), (dr, .inr (2, [.int 0, .ref drp, .ref drk, .ref drm])), (drm, .inr (4, [.ref drm1, .ref drm2, .ref drm3, .ref drm4])), (drm1, aI cs 7 f_drm1)] (fun (r : Int32) (u : Unit) => ((r = (-2)) ∧ (¬ y = -1 ∧ (y < 0 ∨ 4 ≤ y))) ∨ ((r = (-3)) ∧ (y = -1 ∨ (¬ y < 0 ∧ y < 4)))) (fun (u : Unit) => []) := by
  refine kMet_i RX8 (by decide) rfl (Nat.le_of_ble_eq_true rfl) ?_
  intro p e s m below meth c ls A Qz H locs hx hb hml hown hin hu hK hsz hA hP hD hS hl hz
  subst hsz
  have hl : lv_has ls 7 [(0, .ref kd), (1, .int x), (2, .int y)] := hl
  refine lv_aload_n hx hb dX8_get_0 rfl (lv_at hl 0 rfl) ?_
  refine lv_iload_n hx hb dX8_get_1 rfl (lv_at hl 2 rfl) ?_
  refine kV_i (ci := 8) (As := [.int y]) (rest := []) (wc := [(kd, .inr (8, [.ref tp, .ref rp, .ref ca, .ref de, .ref bu, .ref pk, .ref pp, .ref pst, .ref img, .int 0, .ref dr, .ref sp])), (dr, .inr (2, [.int 0, .ref drp, .ref drk, .ref drm])), (drm, .inr (4, [.ref drm1, .ref drm2, .ref drm3, .ref drm4])), (drm1, aI cs 7 f_drm1)]) (wr := [(tp, .inr (7, [.ref tpb, .int 0]))]) hx hb hml hown hu hK hP hD hS hA hl.1 (c_X8_momentOf l D cs H.size kd tp rp ca de bu pk pp pst img dr drp drk drm drm1 f_drm1 drm2 drm3 drm4 sp y z_f_drm1) (gV u_608 u_610 u_4 u_66 u_611) hd_X8_momentOf ⟨(Nat.le_of_ble_eq_true rfl), (Nat.le_of_ble_eq_true rfl)⟩ [0, 2, 3, 4] [1] rfl rfl rfl rfl (by decide) rfl 0 rfl rfl rfl (Nat.le_of_ble_eq_true rfl) dX8_get_2 ⟨(Nat.le_of_ble_eq_true rfl), (Nat.le_of_ble_eq_true rfl)⟩ (fun r_1 ut_2 H locs hw_3 hP hD hS => ?_)
  have hP : va_P D vwCl [(tp, .inr (7, [.ref tpb, .int 0])), (kd, .inr (8, [.ref tp, .ref rp, .ref ca, .ref de, .ref bu, .ref pk, .ref pp, .ref pst, .ref img, .int 0, .ref dr, .ref sp])), (dr, .inr (2, [.int 0, .ref drp, .ref drk, .ref drm])), (drm, .inr (4, [.ref drm1, .ref drm2, .ref drm3, .ref drm4])), (drm1, aI cs 7 f_drm1)] H := hP
  have hD : va_D A [(tp, .inr (7, [.ref tpb, .int 0])), (kd, .inr (8, [.ref tp, .ref rp, .ref ca, .ref de, .ref bu, .ref pk, .ref pp, .ref pst, .ref img, .int 0, .ref dr, .ref sp])), (dr, .inr (2, [.int 0, .ref drp, .ref drk, .ref drm])), (drm, .inr (4, [.ref drm1, .ref drm2, .ref drm3, .ref drm4])), (drm1, aI cs 7 f_drm1)] := hD
  rcases hw_3 with hw_3 | hw_3 | hw_3
  · obtain ⟨er_4, hf_5⟩ := hw_3
    subst er_4
    refine lv_istore_n (lv' := [(3, .int 0), (0, .ref kd), (1, .int x), (2, .int y)]) hx hb dX8_get_5 rfl hl (by decide) rfl (fun ls hl => ?_)
    refine lv_iload_n hx hb dX8_get_6 rfl (lv_at hl 0 rfl) ?_
    refine lv_bipush (v := (-2)) hx hb dX8_get_7 (by decide) ?_
    refine lv_icmp_ne (tgt := 15) hx hb dX8_get_9 (by decide) (fun c_6 => ?_) (fun c_6 => absurd c_6 (by decide))
    refine lv_aload_n hx hb dX8_get_15 rfl (lv_at hl 1 rfl) ?_
    refine lv_iload_n hx hb dX8_get_16 rfl (lv_at hl 2 rfl) ?_
    refine kV_i (ci := 8) (As := [.int x]) (rest := []) (wc := [(kd, .inr (8, [.ref tp, .ref rp, .ref ca, .ref de, .ref bu, .ref pk, .ref pp, .ref pst, .ref img, .int 0, .ref dr, .ref sp])), (tp, .inr (7, [.ref tpb, .int 0]))]) (wr := [(dr, .inr (2, [.int 0, .ref drp, .ref drk, .ref drm])), (drm, .inr (4, [.ref drm1, .ref drm2, .ref drm3, .ref drm4])), (drm1, aI cs 7 f_drm1)]) hx hb hml hown hu hK hP hD hS hA hl.1 (c_X8_isOnTape l D cs H.size kd tp tpb rp ca de bu pk pp pst img dr sp x) (gV u_619 u_621 u_5 u_66 u_622) hd_X8_isOnTape ⟨(Nat.le_of_ble_eq_true rfl), (Nat.le_of_ble_eq_true rfl)⟩ [1, 0] [2, 3, 4] rfl rfl rfl rfl (by decide) rfl 0 rfl rfl rfl (Nat.le_of_ble_eq_true rfl) dX8_get_17 ⟨(Nat.le_of_ble_eq_true rfl), (Nat.le_of_ble_eq_true rfl)⟩ (fun r_7 ut_8 H locs hw_9 hP hD hS => ?_)
    have hP : va_P D vwCl [(dr, .inr (2, [.int 0, .ref drp, .ref drk, .ref drm])), (drm, .inr (4, [.ref drm1, .ref drm2, .ref drm3, .ref drm4])), (drm1, aI cs 7 f_drm1), (kd, .inr (8, [.ref tp, .ref rp, .ref ca, .ref de, .ref bu, .ref pk, .ref pp, .ref pst, .ref img, .int 0, .ref dr, .ref sp])), (tp, .inr (7, [.ref tpb, .int 0]))] H := hP
    have hD : va_D A [(dr, .inr (2, [.int 0, .ref drp, .ref drk, .ref drm])), (drm, .inr (4, [.ref drm1, .ref drm2, .ref drm3, .ref drm4])), (drm1, aI cs 7 f_drm1), (kd, .inr (8, [.ref tp, .ref rp, .ref ca, .ref de, .ref bu, .ref pk, .ref pp, .ref pst, .ref img, .int 0, .ref dr, .ref sp])), (tp, .inr (7, [.ref tpb, .int 0]))] := hD
    have er_10 := hw_9
    subst er_10
    refine lv_if_ne (tgt := 26) hx hb dX8_get_20 (by decide) (fun c_11 => absurd (by decide) c_11) (fun c_11 => ?_)
    refine lv_bipush (v := (-3)) hx hb dX8_get_23 (by decide) ?_
    exact hz () hP hD hS (by grind) [] rfl rfl (Nat.le_of_ble_eq_true rfl) (Nat.le_of_ble_eq_true rfl) .int rfl rfl dX8_get_25
  · obtain ⟨er_12, hf_13⟩ := hw_3
    subst er_12
    refine lv_istore_n (lv' := [(3, .int (-2)), (0, .ref kd), (1, .int x), (2, .int y)]) hx hb dX8_get_5 rfl hl (by decide) rfl (fun ls hl => ?_)
    refine lv_iload_n hx hb dX8_get_6 rfl (lv_at hl 0 rfl) ?_
    refine lv_bipush (v := (-2)) hx hb dX8_get_7 (by decide) ?_
    refine lv_icmp_ne (tgt := 15) hx hb dX8_get_9 (by decide) (fun c_14 => absurd (by decide) c_14) (fun c_14 => ?_)
    refine lv_bipush (v := (-2)) hx hb dX8_get_12 (by decide) ?_
    exact hz () hP hD hS (by grind) [] rfl rfl (Nat.le_of_ble_eq_true rfl) (Nat.le_of_ble_eq_true rfl) .int rfl rfl dX8_get_14
  · obtain ⟨er_15, hf_16⟩ := hw_3
    subst er_15
    refine lv_istore_n (lv' := [(3, .int (-6)), (0, .ref kd), (1, .int x), (2, .int y)]) hx hb dX8_get_5 rfl hl (by decide) rfl (fun ls hl => ?_)
    refine lv_iload_n hx hb dX8_get_6 rfl (lv_at hl 0 rfl) ?_
    refine lv_bipush (v := (-2)) hx hb dX8_get_7 (by decide) ?_
    refine lv_icmp_ne (tgt := 15) hx hb dX8_get_9 (by decide) (fun c_17 => ?_) (fun c_17 => absurd c_17 (by decide))
    refine lv_aload_n hx hb dX8_get_15 rfl (lv_at hl 1 rfl) ?_
    refine lv_iload_n hx hb dX8_get_16 rfl (lv_at hl 2 rfl) ?_
    refine kV_i (ci := 8) (As := [.int x]) (rest := []) (wc := [(kd, .inr (8, [.ref tp, .ref rp, .ref ca, .ref de, .ref bu, .ref pk, .ref pp, .ref pst, .ref img, .int 0, .ref dr, .ref sp])), (tp, .inr (7, [.ref tpb, .int 0]))]) (wr := [(dr, .inr (2, [.int 0, .ref drp, .ref drk, .ref drm])), (drm, .inr (4, [.ref drm1, .ref drm2, .ref drm3, .ref drm4])), (drm1, aI cs 7 f_drm1)]) hx hb hml hown hu hK hP hD hS hA hl.1 (c_X8_isOnTape l D cs H.size kd tp tpb rp ca de bu pk pp pst img dr sp x) (gV u_619 u_621 u_5 u_66 u_622) hd_X8_isOnTape ⟨(Nat.le_of_ble_eq_true rfl), (Nat.le_of_ble_eq_true rfl)⟩ [1, 0] [2, 3, 4] rfl rfl rfl rfl (by decide) rfl 0 rfl rfl rfl (Nat.le_of_ble_eq_true rfl) dX8_get_17 ⟨(Nat.le_of_ble_eq_true rfl), (Nat.le_of_ble_eq_true rfl)⟩ (fun r_18 ut_19 H locs hw_20 hP hD hS => ?_)
    have hP : va_P D vwCl [(dr, .inr (2, [.int 0, .ref drp, .ref drk, .ref drm])), (drm, .inr (4, [.ref drm1, .ref drm2, .ref drm3, .ref drm4])), (drm1, aI cs 7 f_drm1), (kd, .inr (8, [.ref tp, .ref rp, .ref ca, .ref de, .ref bu, .ref pk, .ref pp, .ref pst, .ref img, .int 0, .ref dr, .ref sp])), (tp, .inr (7, [.ref tpb, .int 0]))] H := hP
    have hD : va_D A [(dr, .inr (2, [.int 0, .ref drp, .ref drk, .ref drm])), (drm, .inr (4, [.ref drm1, .ref drm2, .ref drm3, .ref drm4])), (drm1, aI cs 7 f_drm1), (kd, .inr (8, [.ref tp, .ref rp, .ref ca, .ref de, .ref bu, .ref pk, .ref pp, .ref pst, .ref img, .int 0, .ref dr, .ref sp])), (tp, .inr (7, [.ref tpb, .int 0]))] := hD
    have er_21 := hw_20
    subst er_21
    refine lv_if_ne (tgt := 26) hx hb dX8_get_20 (by decide) (fun c_22 => absurd (by decide) c_22) (fun c_22 => ?_)
    refine lv_bipush (v := (-3)) hx hb dX8_get_23 (by decide) ?_
    exact hz () hP hD hS (by grind) [] rfl rfl (Nat.le_of_ble_eq_true rfl) (Nat.le_of_ble_eq_true rfl) .int rfl rfl dX8_get_25
abbrev rm_c_X8_answer : Room := { frames := 0, cells := 0, slots := 0, locals := 0 }
set_option maxHeartbeats 4000000 in
set_option maxRecDepth 100000 in
theorem c_X8_answer (l : Launch) (D : va_G) (cs : Nat → ClassId) (sz : Nat) (kd : Nat) (tp : Nat) (rp : Nat) (rpb : Nat) (ca : Nat) (de : Nat) (bu : Nat) (pk : Nat) (pp : Nat) (pst : Nat) (img : Nat) (dr : Nat) (sp : Nat) (x : Int32)  : cMi l yX8_answer (Cond.code yX8_answer cX8_answer 2 (some .int)) (rm_c_X8_answer) D cs [.ref kd, .int x] sz [(kd, .inr (8, [.ref tp, .ref rp, .ref ca, .ref de, .ref bu, .ref pk, .ref pp, .ref pst, .ref img, .int 0, .ref dr, .ref sp])), (rp, .inr (7, [.ref rpb, .int 0]))] (fun (r : Int32) (u : Unit) => (r = (-1))) (fun (u : Unit) => []) := by
  refine kMet_i RX8 (by decide) rfl (Nat.le_of_ble_eq_true rfl) ?_
  intro p e s m below meth c ls A Qz H locs hx hb hml hown hin hu hK hsz hA hP hD hS hl hz
  subst hsz
  have hl : lv_has ls 2 [(0, .ref kd), (1, .int x)] := hl
  refine lv_iload_n hx hb dX8_answer_0 rfl (lv_at hl 1 rfl) ?_
  refine lv_if_lt (tgt := 15) hx hb dX8_answer_1 (by decide) (fun c_1 => ?_) (fun c_1 => ?_)
  · refine lv_iconst (v := (-1)) hx hb dX8_answer_15 (by decide) ?_
    refine lv_goto (tgt := 27) hx hb dX8_answer_16 (by decide) ?_
    exact hz () hP hD hS rfl [] rfl rfl (Nat.le_of_ble_eq_true rfl) (Nat.le_of_ble_eq_true rfl) .int rfl rfl dX8_answer_27
  · refine lv_iload_n hx hb dX8_answer_4 rfl (lv_at hl 1 rfl) ?_
    refine lv_aload_n hx hb dX8_answer_5 rfl (lv_at hl 0 rfl) ?_
    refine va_get (D := D) (ci := 8) (v := .ref rp) (C := RX8) (T := TX8) (N := 12) hx hb hu in_X8 hown hK.1 hP 0 rfl rfl 1 (by decide) (hu _ u_338) (fun _ h9 => h9) rfl dX8_answer_6 ?_
    refine va_get (D := D) (ci := 7) (v := .int 0) (C := RX7) (T := TX7) (N := 2) hx hb hu in_X7 hown hK.1 hP 1 rfl rfl 1 (by decide) (hu _ u_96) (fun _ h9 => h9) rfl dX8_answer_9 ?_
    refine lv_icmp_lt (tgt := 19) hx hb dX8_answer_12 (by decide) (fun c_2 => absurd c_2 (by grind)) (fun c_2 => ?_)
    refine lv_iconst (v := (-1)) hx hb dX8_answer_15 (by decide) ?_
    refine lv_goto (tgt := 27) hx hb dX8_answer_16 (by decide) ?_
    exact hz () hP hD hS rfl [] rfl rfl (Nat.le_of_ble_eq_true rfl) (Nat.le_of_ble_eq_true rfl) .int rfl rfl dX8_answer_27
abbrev rm_c_X8_remove : Room := { frames := 2, cells := 0, slots := 0, locals := 41 }
set_option maxHeartbeats 4000000 in
set_option maxRecDepth 100000 in
theorem c_X8_remove (l : Launch) (D : va_G) (cs : Nat → ClassId) (sz : Nat) (kd : Nat) (tp : Nat) (tpb : Nat) (rp : Nat) (ca : Nat) (de : Nat) (bu : Nat) (pk : Nat) (pp : Nat) (pst : Nat) (img : Nat) (dr : Nat) (sp : Nat) (x : Int32)  : cMi l yX8_remove (Cond.code yX8_remove cX8_remove 7 (some .int)) (rm_c_X8_remove) D cs [.ref kd, .int x] sz [(kd, .inr (8, [.ref tp, .ref rp, .ref ca, .ref de, .ref bu, .ref pk, .ref pp, .ref pst, .ref img, .int 0, .ref dr, .ref sp])), (tp, .inr (7, [.ref tpb, .int 0]))] (fun (r : Int32) (u : Unit) => (r = (-3))) (fun (u : Unit) => []) := by
  refine kMet_i RX8 (by decide) rfl (Nat.le_of_ble_eq_true rfl) ?_
  intro p e s m below meth c ls A Qz H locs hx hb hml hown hin hu hK hsz hA hP hD hS hl hz
  subst hsz
  have hl : lv_has ls 7 [(0, .ref kd), (1, .int x)] := hl
  refine lv_aload_n hx hb dX8_remove_0 rfl (lv_at hl 0 rfl) ?_
  refine lv_iload_n hx hb dX8_remove_1 rfl (lv_at hl 1 rfl) ?_
  refine kV_i (ci := 8) (As := [.int x]) (rest := []) (wc := [(kd, .inr (8, [.ref tp, .ref rp, .ref ca, .ref de, .ref bu, .ref pk, .ref pp, .ref pst, .ref img, .int 0, .ref dr, .ref sp])), (tp, .inr (7, [.ref tpb, .int 0]))]) (wr := []) hx hb hml hown hu hK hP hD hS hA hl.1 (c_X8_isOnTape l D cs H.size kd tp tpb rp ca de bu pk pp pst img dr sp x) (gV u_619 u_621 u_5 u_66 u_622) hd_X8_isOnTape ⟨(Nat.le_of_ble_eq_true rfl), (Nat.le_of_ble_eq_true rfl)⟩ [0, 1] [] rfl rfl rfl rfl (by decide) rfl 0 rfl rfl rfl (Nat.le_of_ble_eq_true rfl) dX8_remove_2 ⟨(Nat.le_of_ble_eq_true rfl), (Nat.le_of_ble_eq_true rfl)⟩ (fun r_1 ut_2 H locs hw_3 hP hD hS => ?_)
  have hP : va_P D vwCl [(kd, .inr (8, [.ref tp, .ref rp, .ref ca, .ref de, .ref bu, .ref pk, .ref pp, .ref pst, .ref img, .int 0, .ref dr, .ref sp])), (tp, .inr (7, [.ref tpb, .int 0]))] H := hP
  have hD : va_D A [(kd, .inr (8, [.ref tp, .ref rp, .ref ca, .ref de, .ref bu, .ref pk, .ref pp, .ref pst, .ref img, .int 0, .ref dr, .ref sp])), (tp, .inr (7, [.ref tpb, .int 0]))] := hD
  have er_4 := hw_3
  subst er_4
  refine lv_if_ne (tgt := 11) hx hb dX8_remove_5 (by decide) (fun c_5 => absurd (by decide) c_5) (fun c_5 => ?_)
  refine lv_bipush (v := (-3)) hx hb dX8_remove_8 (by decide) ?_
  exact hz () hP hD hS rfl [] rfl rfl (Nat.le_of_ble_eq_true rfl) (Nat.le_of_ble_eq_true rfl) .int rfl rfl dX8_remove_10
abbrev rm_c_X8_versions : Room := { frames := 2, cells := 0, slots := 0, locals := 41 }
set_option maxHeartbeats 4000000 in
set_option maxRecDepth 100000 in
theorem c_X8_versions (l : Launch) (D : va_G) (cs : Nat → ClassId) (sz : Nat) (kd : Nat) (tp : Nat) (tpb : Nat) (rp : Nat) (ca : Nat) (de : Nat) (bu : Nat) (pk : Nat) (pp : Nat) (pst : Nat) (img : Nat) (dr : Nat) (sp : Nat) (x : Int32)  : cMi l yX8_versions (Cond.code yX8_versions cX8_versions 4 (some .int)) (rm_c_X8_versions) D cs [.ref kd, .int x] sz [(kd, .inr (8, [.ref tp, .ref rp, .ref ca, .ref de, .ref bu, .ref pk, .ref pp, .ref pst, .ref img, .int 0, .ref dr, .ref sp])), (tp, .inr (7, [.ref tpb, .int 0]))] (fun (r : Int32) (u : Unit) => (r = (-3))) (fun (u : Unit) => []) := by
  refine kMet_i RX8 (by decide) rfl (Nat.le_of_ble_eq_true rfl) ?_
  intro p e s m below meth c ls A Qz H locs hx hb hml hown hin hu hK hsz hA hP hD hS hl hz
  subst hsz
  have hl : lv_has ls 4 [(0, .ref kd), (1, .int x)] := hl
  refine lv_aload_n hx hb dX8_versions_0 rfl (lv_at hl 0 rfl) ?_
  refine lv_iload_n hx hb dX8_versions_1 rfl (lv_at hl 1 rfl) ?_
  refine kV_i (ci := 8) (As := [.int x]) (rest := []) (wc := [(kd, .inr (8, [.ref tp, .ref rp, .ref ca, .ref de, .ref bu, .ref pk, .ref pp, .ref pst, .ref img, .int 0, .ref dr, .ref sp])), (tp, .inr (7, [.ref tpb, .int 0]))]) (wr := []) hx hb hml hown hu hK hP hD hS hA hl.1 (c_X8_isOnTape l D cs H.size kd tp tpb rp ca de bu pk pp pst img dr sp x) (gV u_619 u_621 u_5 u_66 u_622) hd_X8_isOnTape ⟨(Nat.le_of_ble_eq_true rfl), (Nat.le_of_ble_eq_true rfl)⟩ [0, 1] [] rfl rfl rfl rfl (by decide) rfl 0 rfl rfl rfl (Nat.le_of_ble_eq_true rfl) dX8_versions_2 ⟨(Nat.le_of_ble_eq_true rfl), (Nat.le_of_ble_eq_true rfl)⟩ (fun r_1 ut_2 H locs hw_3 hP hD hS => ?_)
  have hP : va_P D vwCl [(kd, .inr (8, [.ref tp, .ref rp, .ref ca, .ref de, .ref bu, .ref pk, .ref pp, .ref pst, .ref img, .int 0, .ref dr, .ref sp])), (tp, .inr (7, [.ref tpb, .int 0]))] H := hP
  have hD : va_D A [(kd, .inr (8, [.ref tp, .ref rp, .ref ca, .ref de, .ref bu, .ref pk, .ref pp, .ref pst, .ref img, .int 0, .ref dr, .ref sp])), (tp, .inr (7, [.ref tpb, .int 0]))] := hD
  have er_4 := hw_3
  subst er_4
  refine lv_if_ne (tgt := 11) hx hb dX8_versions_5 (by decide) (fun c_5 => absurd (by decide) c_5) (fun c_5 => ?_)
  refine lv_bipush (v := (-3)) hx hb dX8_versions_8 (by decide) ?_
  exact hz () hP hD hS rfl [] rfl rfl (Nat.le_of_ble_eq_true rfl) (Nat.le_of_ble_eq_true rfl) .int rfl rfl dX8_versions_10
abbrev rm_c_X8_version : Room := { frames := 2, cells := 0, slots := 0, locals := 41 }
set_option maxHeartbeats 4000000 in
set_option maxRecDepth 100000 in
theorem c_X8_version (l : Launch) (D : va_G) (cs : Nat → ClassId) (sz : Nat) (kd : Nat) (tp : Nat) (tpb : Nat) (rp : Nat) (ca : Nat) (de : Nat) (bu : Nat) (pk : Nat) (pp : Nat) (pst : Nat) (img : Nat) (dr : Nat) (sp : Nat) (x : Int32) (y : Int32) (z : Int32)  : cMi l yX8_version (Cond.code yX8_version cX8_version 7 (some .int)) (rm_c_X8_version) D cs [.ref kd, .int x, .int y, .int z] sz [(kd, .inr (8, [.ref tp, .ref rp, .ref ca, .ref de, .ref bu, .ref pk, .ref pp, .ref pst, .ref img, .int 0, .ref dr, .ref sp])), (tp, .inr (7, [.ref tpb, .int 0]))] (fun (r : Int32) (u : Unit) => ((r = (-2)) ∧ (z < 0 ∨ 3 < z)) ∨ ((r = (-3)) ∧ (¬ z < 0 ∧ ¬ 3 < z))) (fun (u : Unit) => []) := by
  refine kMet_i RX8 (by decide) rfl (Nat.le_of_ble_eq_true rfl) ?_
  intro p e s m below meth c ls A Qz H locs hx hb hml hown hin hu hK hsz hA hP hD hS hl hz
  subst hsz
  have hl : lv_has ls 7 [(0, .ref kd), (1, .int x), (2, .int y), (3, .int z)] := hl
  refine lv_iload_n hx hb dX8_version_0 rfl (lv_at hl 3 rfl) ?_
  refine lv_if_lt (tgt := 9) hx hb dX8_version_1 (by decide) (fun c_1 => ?_) (fun c_1 => ?_)
  · refine lv_bipush (v := (-2)) hx hb dX8_version_9 (by decide) ?_
    exact hz () hP hD hS (by grind) [] rfl rfl (Nat.le_of_ble_eq_true rfl) (Nat.le_of_ble_eq_true rfl) .int rfl rfl dX8_version_11
  · refine lv_iload_n hx hb dX8_version_4 rfl (lv_at hl 3 rfl) ?_
    refine lv_iconst (v := 3) hx hb dX8_version_5 (by decide) ?_
    refine lv_icmp_le (tgt := 12) hx hb dX8_version_6 (by decide) (fun c_2 => ?_) (fun c_2 => ?_)
    · refine lv_aload_n hx hb dX8_version_12 rfl (lv_at hl 0 rfl) ?_
      refine lv_iload_n hx hb dX8_version_13 rfl (lv_at hl 1 rfl) ?_
      refine kV_i (ci := 8) (As := [.int x]) (rest := []) (wc := [(kd, .inr (8, [.ref tp, .ref rp, .ref ca, .ref de, .ref bu, .ref pk, .ref pp, .ref pst, .ref img, .int 0, .ref dr, .ref sp])), (tp, .inr (7, [.ref tpb, .int 0]))]) (wr := []) hx hb hml hown hu hK hP hD hS hA hl.1 (c_X8_isOnTape l D cs H.size kd tp tpb rp ca de bu pk pp pst img dr sp x) (gV u_619 u_621 u_5 u_66 u_622) hd_X8_isOnTape ⟨(Nat.le_of_ble_eq_true rfl), (Nat.le_of_ble_eq_true rfl)⟩ [0, 1] [] rfl rfl rfl rfl (by decide) rfl 0 rfl rfl rfl (Nat.le_of_ble_eq_true rfl) dX8_version_14 ⟨(Nat.le_of_ble_eq_true rfl), (Nat.le_of_ble_eq_true rfl)⟩ (fun r_3 ut_4 H locs hw_5 hP hD hS => ?_)
      have hP : va_P D vwCl [(kd, .inr (8, [.ref tp, .ref rp, .ref ca, .ref de, .ref bu, .ref pk, .ref pp, .ref pst, .ref img, .int 0, .ref dr, .ref sp])), (tp, .inr (7, [.ref tpb, .int 0]))] H := hP
      have hD : va_D A [(kd, .inr (8, [.ref tp, .ref rp, .ref ca, .ref de, .ref bu, .ref pk, .ref pp, .ref pst, .ref img, .int 0, .ref dr, .ref sp])), (tp, .inr (7, [.ref tpb, .int 0]))] := hD
      have er_6 := hw_5
      subst er_6
      refine lv_if_ne (tgt := 23) hx hb dX8_version_17 (by decide) (fun c_7 => absurd (by decide) c_7) (fun c_7 => ?_)
      refine lv_bipush (v := (-3)) hx hb dX8_version_20 (by decide) ?_
      exact hz () hP hD hS (by grind) [] rfl rfl (Nat.le_of_ble_eq_true rfl) (Nat.le_of_ble_eq_true rfl) .int rfl rfl dX8_version_22
    · refine lv_bipush (v := (-2)) hx hb dX8_version_9 (by decide) ?_
      exact hz () hP hD hS (by grind) [] rfl rfl (Nat.le_of_ble_eq_true rfl) (Nat.le_of_ble_eq_true rfl) .int rfl rfl dX8_version_11
abbrev rm_c_X8_hash : Room := { frames := 2, cells := 0, slots := 0, locals := 41 }
set_option maxHeartbeats 4000000 in
set_option maxRecDepth 100000 in
theorem c_X8_hash (l : Launch) (D : va_G) (cs : Nat → ClassId) (sz : Nat) (kd : Nat) (tp : Nat) (tpb : Nat) (rp : Nat) (ca : Nat) (de : Nat) (bu : Nat) (pk : Nat) (pp : Nat) (pst : Nat) (img : Nat) (dr : Nat) (sp : Nat) (x : Int32)  : cMi l yX8_hash (Cond.code yX8_hash cX8_hash 2 (some .int)) (rm_c_X8_hash) D cs [.ref kd, .int x] sz [(kd, .inr (8, [.ref tp, .ref rp, .ref ca, .ref de, .ref bu, .ref pk, .ref pp, .ref pst, .ref img, .int 0, .ref dr, .ref sp])), (tp, .inr (7, [.ref tpb, .int 0]))] (fun (r : Int32) (u : Unit) => (r = (-3))) (fun (u : Unit) => []) := by
  refine kMet_i RX8 (by decide) rfl (Nat.le_of_ble_eq_true rfl) ?_
  intro p e s m below meth c ls A Qz H locs hx hb hml hown hin hu hK hsz hA hP hD hS hl hz
  subst hsz
  have hl : lv_has ls 2 [(0, .ref kd), (1, .int x)] := hl
  refine lv_aload_n hx hb dX8_hash_0 rfl (lv_at hl 0 rfl) ?_
  refine lv_iload_n hx hb dX8_hash_1 rfl (lv_at hl 1 rfl) ?_
  refine kV_i (ci := 8) (As := [.int x]) (rest := []) (wc := [(kd, .inr (8, [.ref tp, .ref rp, .ref ca, .ref de, .ref bu, .ref pk, .ref pp, .ref pst, .ref img, .int 0, .ref dr, .ref sp])), (tp, .inr (7, [.ref tpb, .int 0]))]) (wr := []) hx hb hml hown hu hK hP hD hS hA hl.1 (c_X8_isOnTape l D cs H.size kd tp tpb rp ca de bu pk pp pst img dr sp x) (gV u_619 u_621 u_5 u_66 u_622) hd_X8_isOnTape ⟨(Nat.le_of_ble_eq_true rfl), (Nat.le_of_ble_eq_true rfl)⟩ [0, 1] [] rfl rfl rfl rfl (by decide) rfl 0 rfl rfl rfl (Nat.le_of_ble_eq_true rfl) dX8_hash_2 ⟨(Nat.le_of_ble_eq_true rfl), (Nat.le_of_ble_eq_true rfl)⟩ (fun r_1 ut_2 H locs hw_3 hP hD hS => ?_)
  have hP : va_P D vwCl [(kd, .inr (8, [.ref tp, .ref rp, .ref ca, .ref de, .ref bu, .ref pk, .ref pp, .ref pst, .ref img, .int 0, .ref dr, .ref sp])), (tp, .inr (7, [.ref tpb, .int 0]))] H := hP
  have hD : va_D A [(kd, .inr (8, [.ref tp, .ref rp, .ref ca, .ref de, .ref bu, .ref pk, .ref pp, .ref pst, .ref img, .int 0, .ref dr, .ref sp])), (tp, .inr (7, [.ref tpb, .int 0]))] := hD
  have er_4 := hw_3
  subst er_4
  refine lv_if_ne (tgt := 11) hx hb dX8_hash_5 (by decide) (fun c_5 => absurd (by decide) c_5) (fun c_5 => ?_)
  refine lv_bipush (v := (-3)) hx hb dX8_hash_8 (by decide) ?_
  exact hz () hP hD hS rfl [] rfl rfl (Nat.le_of_ble_eq_true rfl) (Nat.le_of_ble_eq_true rfl) .int rfl rfl dX8_hash_10
abbrev rm_c_X8_batch : Room := { frames := 4, cells := 0, slots := 0, locals := 88 }
set_option maxHeartbeats 4000000 in
set_option maxRecDepth 100000 in
theorem c_X8_batch (l : Launch) (D : va_G) (cs : Nat → ClassId) (sz : Nat) (kd : Nat) (tp : Nat) (tpb : Nat) (rp : Nat) (ca : Nat) (de : Nat) (de1 : Nat) (de2 : Nat) (de3 : Nat) (de4 : Nat) (de5 : Nat) (bu : Nat) (pk : Nat) (pp : Nat) (pst : Nat) (img : Nat) (dr : Nat) (drp : Nat) (drp1 : Nat) (f_drp1 : Nat → Int32) (drp2 : Nat) (f_drp2 : Nat → Int32) (drp3 : Nat) (f_drp3 : Nat → Int32) (drp4 : Nat) (f_drp4 : Nat → Int32) (drp5 : Nat) (f_drp5 : Nat → Int32) (drp6 : Nat) (f_drp6 : Nat → Int32) (drp7 : Nat) (f_drp7 : Nat → Int32) (drp8 : Nat) (f_drp8 : Nat → Int32) (drp9 : Nat) (f_drp9 : Nat → Int32) (drp10 : Nat) (f_drp10 : Nat → Int32) (drk : Nat) (drk1 : Nat) (f_drk1 : Nat → Int32) (drk2 : Nat) (f_drk2 : Nat → Int64) (drk3 : Nat) (f_drk3 : Nat → Int32) (drk4 : Nat) (f_drk4 : Nat → Int32) (drk5 : Nat) (f_drk5 : Nat → Int32) (drk6 : Nat) (f_drk6 : Nat → Int32) (drm : Nat) (drm1 : Nat) (f_drm1 : Nat → Int32) (drm2 : Nat) (f_drm2 : Nat → Int64) (drm3 : Nat) (f_drm3 : Nat → Int32) (drm4 : Nat) (f_drm4 : Nat → Int32) (sp : Nat) (spp : Nat) (spp1 : Nat) (f_spp1 : Nat → Int32) (spp2 : Nat) (f_spp2 : Nat → Int32) (spp3 : Nat) (f_spp3 : Nat → Int32) (spp4 : Nat) (f_spp4 : Nat → Int32) (spp5 : Nat) (f_spp5 : Nat → Int32) (spp6 : Nat) (f_spp6 : Nat → Int32) (spp7 : Nat) (f_spp7 : Nat → Int32) (spp8 : Nat) (f_spp8 : Nat → Int32) (spp9 : Nat) (f_spp9 : Nat → Int32) (spp10 : Nat) (f_spp10 : Nat → Int32) (spk : Nat) (spk1 : Nat) (f_spk1 : Nat → Int32) (spk2 : Nat) (f_spk2 : Nat → Int64) (spk3 : Nat) (f_spk3 : Nat → Int32) (spk4 : Nat) (f_spk4 : Nat → Int32) (spk5 : Nat) (f_spk5 : Nat → Int32) (spk6 : Nat) (f_spk6 : Nat → Int32) (spm : Nat) (spm1 : Nat) (f_spm1 : Nat → Int32) (spm2 : Nat) (f_spm2 : Nat → Int64) (spm3 : Nat) (f_spm3 : Nat → Int32) (spm4 : Nat) (f_spm4 : Nat → Int32) (x : Int32) (z_f_drp1 : ∀ j, j < 24 → f_drp1 j = 0) (z_f_drp2 : ∀ j, j < 24 → f_drp2 j = 0) (z_f_drp3 : ∀ j, j < 24 → f_drp3 j = 0) (z_f_drp4 : ∀ j, j < 240 → f_drp4 j = 0) (z_f_drp5 : ∀ j, j < 240 → f_drp5 j = 0) (z_f_drp7 : ∀ j, j < 240 → f_drp7 j = 0) (z_f_drp8 : ∀ j, j < 240 → f_drp8 j = 0) (z_f_drp9 : ∀ j, j < 240 → f_drp9 j = 0) (z_f_drp10 : ∀ j, j < 1536 → f_drp10 j = 0) (z_f_drk3 : ∀ j, j < 240 → f_drk3 j = 0) (z_f_drk4 : ∀ j, j < 240 → f_drk4 j = 0) (z_f_drk5 : ∀ j, j < 2160 → f_drk5 j = 0) (z_f_drk6 : ∀ j, j < 2160 → f_drk6 j = 0) (z_f_drm1 : ∀ j, j < 7 → f_drm1 j = (-1)) (z_f_drm3 : ∀ j, j < 3 → f_drm3 j = 0) (z_f_drm4 : ∀ j, j < 3 → f_drm4 j = 0) : cMi l yX8_batch (Cond.code yX8_batch cX8_batch 3 (some .int)) (rm_c_X8_batch) D cs [.ref kd, .int x] sz [(kd, .inr (8, [.ref tp, .ref rp, .ref ca, .ref de, .ref bu, .ref pk, .ref pp, .ref pst, .ref img, .int 0, .ref dr, .ref sp])), (tp, .inr (7, [.ref tpb, .int 0])), (de, .inr (1, [.int 0, .int (-1), .int 0, .ref de1, .ref de2, .ref de3, .ref de4, .ref de5])), (pst, aD cs 10 (fun _ => none)), (dr, .inr (2, [.int 0, .ref drp, .ref drk, .ref drm])), (drp, .inr (6, [.int 0, .int 0, .int (-1), .int 0, .int 0, .int 0, .int 240, .ref drp1, .ref drp2, .ref drp3, .ref drp4, .ref drp5, .ref drp6, .ref drp7, .ref drp8, .ref drp9, .ref drp10])), (drp1, aI cs 24 f_drp1), (drp2, aI cs 24 f_drp2), (drp3, aI cs 24 f_drp3), (drp4, aI cs 240 f_drp4), (drp5, aI cs 240 f_drp5), (drp6, aI cs 240 f_drp6), (drp7, aI cs 240 f_drp7), (drp8, aI cs 240 f_drp8), (drp9, aI cs 240 f_drp9), (drp10, aB cs 1536 f_drp10), (drk, .inr (3, [.int 0, .ref drk1, .ref drk2, .ref drk3, .ref drk4, .ref drk5, .ref drk6])), (drk1, aI cs 240 f_drk1), (drk2, aJ cs 240 f_drk2), (drk3, aI cs 240 f_drk3), (drk4, aI cs 240 f_drk4), (drk5, aI cs 2160 f_drk5), (drk6, aI cs 2160 f_drk6), (drm, .inr (4, [.ref drm1, .ref drm2, .ref drm3, .ref drm4])), (drm1, aI cs 7 f_drm1), (drm2, aJ cs 3 f_drm2), (drm3, aI cs 3 f_drm3), (drm4, aI cs 3 f_drm4), (sp, .inr (2, [.int 0, .ref spp, .ref spk, .ref spm])), (spp, .inr (6, [.int 0, .int 0, .int (-1), .int 0, .int 0, .int 0, .int 240, .ref spp1, .ref spp2, .ref spp3, .ref spp4, .ref spp5, .ref spp6, .ref spp7, .ref spp8, .ref spp9, .ref spp10])), (spp1, aI cs 24 f_spp1), (spp2, aI cs 24 f_spp2), (spp3, aI cs 24 f_spp3), (spp4, aI cs 240 f_spp4), (spp5, aI cs 240 f_spp5), (spp6, aI cs 240 f_spp6), (spp7, aI cs 240 f_spp7), (spp8, aI cs 240 f_spp8), (spp9, aI cs 240 f_spp9), (spp10, aB cs 1536 f_spp10), (spk, .inr (3, [.int 0, .ref spk1, .ref spk2, .ref spk3, .ref spk4, .ref spk5, .ref spk6])), (spk1, aI cs 240 f_spk1), (spk2, aJ cs 240 f_spk2), (spk3, aI cs 240 f_spk3), (spk4, aI cs 240 f_spk4), (spk5, aI cs 2160 f_spk5), (spk6, aI cs 2160 f_spk6), (spm, .inr (4, [.ref spm1, .ref spm2, .ref spm3, .ref spm4])), (spm1, aI cs 7 f_spm1), (spm2, aJ cs 3 f_spm2), (spm3, aI cs 3 f_spm3), (spm4, aI cs 3 f_spm4)] (fun (r : Int32) (u : Unit) => ((r = (-3)) ∧ (¬ x = 0)) ∨ ((r = 0) ∧ (x = 0))) (fun (u : Unit) => []) := by
  refine kMet_i RX8 (by decide) rfl (Nat.le_of_ble_eq_true rfl) ?_
  intro p e s m below meth c ls A Qz H locs hx hb hml hown hin hu hK hsz hA hP hD hS hl hz
  subst hsz
  have hl : lv_has ls 3 [(0, .ref kd), (1, .int x)] := hl
  refine lv_iload_n hx hb dX8_batch_0 rfl (lv_at hl 1 rfl) ?_
  refine lv_if_lt (tgt := 15) hx hb dX8_batch_1 (by decide) (fun c_1 => ?_) (fun c_1 => ?_)
  · refine lv_bipush (v := (-3)) hx hb dX8_batch_15 (by decide) ?_
    exact hz () hP hD hS (by grind) [] rfl rfl (Nat.le_of_ble_eq_true rfl) (Nat.le_of_ble_eq_true rfl) .int rfl rfl dX8_batch_17
  · refine lv_iload_n hx hb dX8_batch_4 rfl (lv_at hl 1 rfl) ?_
    refine lv_aload_n hx hb dX8_batch_5 rfl (lv_at hl 0 rfl) ?_
    refine va_get (D := D) (ci := 8) (v := .ref tp) (C := RX8) (T := TX8) (N := 12) hx hb hu in_X8 hown hK.1 hP 0 rfl rfl 0 (by decide) (hu _ u_337) (fun _ h9 => h9) rfl dX8_batch_6 ?_
    refine va_get (D := D) (ci := 7) (v := .int 0) (C := RX7) (T := TX7) (N := 2) hx hb hu in_X7 hown hK.1 hP 1 rfl rfl 1 (by decide) (hu _ u_96) (fun _ h9 => h9) rfl dX8_batch_9 ?_
    refine lv_icmp_le (tgt := 18) hx hb dX8_batch_12 (by decide) (fun c_2 => ?_) (fun c_2 => ?_)
    · obtain rfl : x = 0 := by grind
      refine lv_aload_n hx hb dX8_batch_18 rfl (lv_at hl 0 rfl) ?_
      refine va_get (D := D) (ci := 8) (v := .ref de) (C := RX8) (T := TX8) (N := 12) hx hb hu in_X8 hown hK.1 hP 0 rfl rfl 3 (by decide) (hu _ u_340) (fun _ h9 => h9) rfl dX8_batch_19 ?_
      refine lv_aload_n hx hb dX8_batch_22 rfl (lv_at hl 0 rfl) ?_
      refine va_get (D := D) (ci := 8) (v := .ref tp) (C := RX8) (T := TX8) (N := 12) hx hb hu in_X8 hown hK.1 hP 0 rfl rfl 0 (by decide) (hu _ u_337) (fun _ h9 => h9) rfl dX8_batch_23 ?_
      refine lv_iload_n hx hb dX8_batch_26 rfl (lv_at hl 1 rfl) ?_
      refine kV_v (ci := 1) (As := [.ref tp, .int 0]) (rest := []) (wc := [(de, .inr (1, [.int 0, .int (-1), .int 0, .ref de1, .ref de2, .ref de3, .ref de4, .ref de5]))]) (wr := [(kd, .inr (8, [.ref tp, .ref rp, .ref ca, .ref de, .ref bu, .ref pk, .ref pp, .ref pst, .ref img, .int 0, .ref dr, .ref sp])), (tp, .inr (7, [.ref tpb, .int 0])), (pst, aD cs 10 (fun _ => none)), (dr, .inr (2, [.int 0, .ref drp, .ref drk, .ref drm])), (drp, .inr (6, [.int 0, .int 0, .int (-1), .int 0, .int 0, .int 0, .int 240, .ref drp1, .ref drp2, .ref drp3, .ref drp4, .ref drp5, .ref drp6, .ref drp7, .ref drp8, .ref drp9, .ref drp10])), (drp1, aI cs 24 f_drp1), (drp2, aI cs 24 f_drp2), (drp3, aI cs 24 f_drp3), (drp4, aI cs 240 f_drp4), (drp5, aI cs 240 f_drp5), (drp6, aI cs 240 f_drp6), (drp7, aI cs 240 f_drp7), (drp8, aI cs 240 f_drp8), (drp9, aI cs 240 f_drp9), (drp10, aB cs 1536 f_drp10), (drk, .inr (3, [.int 0, .ref drk1, .ref drk2, .ref drk3, .ref drk4, .ref drk5, .ref drk6])), (drk1, aI cs 240 f_drk1), (drk2, aJ cs 240 f_drk2), (drk3, aI cs 240 f_drk3), (drk4, aI cs 240 f_drk4), (drk5, aI cs 2160 f_drk5), (drk6, aI cs 2160 f_drk6), (drm, .inr (4, [.ref drm1, .ref drm2, .ref drm3, .ref drm4])), (drm1, aI cs 7 f_drm1), (drm2, aJ cs 3 f_drm2), (drm3, aI cs 3 f_drm3), (drm4, aI cs 3 f_drm4), (sp, .inr (2, [.int 0, .ref spp, .ref spk, .ref spm])), (spp, .inr (6, [.int 0, .int 0, .int (-1), .int 0, .int 0, .int 0, .int 240, .ref spp1, .ref spp2, .ref spp3, .ref spp4, .ref spp5, .ref spp6, .ref spp7, .ref spp8, .ref spp9, .ref spp10])), (spp1, aI cs 24 f_spp1), (spp2, aI cs 24 f_spp2), (spp3, aI cs 24 f_spp3), (spp4, aI cs 240 f_spp4), (spp5, aI cs 240 f_spp5), (spp6, aI cs 240 f_spp6), (spp7, aI cs 240 f_spp7), (spp8, aI cs 240 f_spp8), (spp9, aI cs 240 f_spp9), (spp10, aB cs 1536 f_spp10), (spk, .inr (3, [.int 0, .ref spk1, .ref spk2, .ref spk3, .ref spk4, .ref spk5, .ref spk6])), (spk1, aI cs 240 f_spk1), (spk2, aJ cs 240 f_spk2), (spk3, aI cs 240 f_spk3), (spk4, aI cs 240 f_spk4), (spk5, aI cs 2160 f_spk5), (spk6, aI cs 2160 f_spk6), (spm, .inr (4, [.ref spm1, .ref spm2, .ref spm3, .ref spm4])), (spm1, aI cs 7 f_spm1), (spm2, aJ cs 3 f_spm2), (spm3, aI cs 3 f_spm3), (spm4, aI cs 3 f_spm4)]) hx hb hml hown hu hK hP hD hS hA hl.1 (c_X1_read l D cs H.size tp de de1 de2 de3 de4 de5) (gV u_677 u_678 u_679 u_69 u_680) hd_X1_read ⟨(Nat.le_of_ble_eq_true rfl), (Nat.le_of_ble_eq_true rfl)⟩ [2] [0, 1, 3, 4, 5, 6, 7, 8, 9, 10, 11, 12, 13, 14, 15, 16, 17, 18, 19, 20, 21, 22, 23, 24, 25, 26, 27, 28, 29, 30, 31, 32, 33, 34, 35, 36, 37, 38, 39, 40, 41, 42, 43, 44, 45, 46, 47, 48, 49, 50, 51] rfl rfl rfl rfl (by decide) rfl 0 rfl rfl rfl (Nat.le_of_ble_eq_true rfl) dX8_batch_27 ⟨(Nat.le_of_ble_eq_true rfl), (Nat.le_of_ble_eq_true rfl)⟩ (fun ut_4 H locs hw_5 hP hD hS => ?_)
      have hP : va_P D vwCl [(kd, .inr (8, [.ref tp, .ref rp, .ref ca, .ref de, .ref bu, .ref pk, .ref pp, .ref pst, .ref img, .int 0, .ref dr, .ref sp])), (tp, .inr (7, [.ref tpb, .int 0])), (pst, aD cs 10 (fun _ => none)), (dr, .inr (2, [.int 0, .ref drp, .ref drk, .ref drm])), (drp, .inr (6, [.int 0, .int 0, .int (-1), .int 0, .int 0, .int 0, .int 240, .ref drp1, .ref drp2, .ref drp3, .ref drp4, .ref drp5, .ref drp6, .ref drp7, .ref drp8, .ref drp9, .ref drp10])), (drp1, aI cs 24 f_drp1), (drp2, aI cs 24 f_drp2), (drp3, aI cs 24 f_drp3), (drp4, aI cs 240 f_drp4), (drp5, aI cs 240 f_drp5), (drp6, aI cs 240 f_drp6), (drp7, aI cs 240 f_drp7), (drp8, aI cs 240 f_drp8), (drp9, aI cs 240 f_drp9), (drp10, aB cs 1536 f_drp10), (drk, .inr (3, [.int 0, .ref drk1, .ref drk2, .ref drk3, .ref drk4, .ref drk5, .ref drk6])), (drk1, aI cs 240 f_drk1), (drk2, aJ cs 240 f_drk2), (drk3, aI cs 240 f_drk3), (drk4, aI cs 240 f_drk4), (drk5, aI cs 2160 f_drk5), (drk6, aI cs 2160 f_drk6), (drm, .inr (4, [.ref drm1, .ref drm2, .ref drm3, .ref drm4])), (drm1, aI cs 7 f_drm1), (drm2, aJ cs 3 f_drm2), (drm3, aI cs 3 f_drm3), (drm4, aI cs 3 f_drm4), (sp, .inr (2, [.int 0, .ref spp, .ref spk, .ref spm])), (spp, .inr (6, [.int 0, .int 0, .int (-1), .int 0, .int 0, .int 0, .int 240, .ref spp1, .ref spp2, .ref spp3, .ref spp4, .ref spp5, .ref spp6, .ref spp7, .ref spp8, .ref spp9, .ref spp10])), (spp1, aI cs 24 f_spp1), (spp2, aI cs 24 f_spp2), (spp3, aI cs 24 f_spp3), (spp4, aI cs 240 f_spp4), (spp5, aI cs 240 f_spp5), (spp6, aI cs 240 f_spp6), (spp7, aI cs 240 f_spp7), (spp8, aI cs 240 f_spp8), (spp9, aI cs 240 f_spp9), (spp10, aB cs 1536 f_spp10), (spk, .inr (3, [.int 0, .ref spk1, .ref spk2, .ref spk3, .ref spk4, .ref spk5, .ref spk6])), (spk1, aI cs 240 f_spk1), (spk2, aJ cs 240 f_spk2), (spk3, aI cs 240 f_spk3), (spk4, aI cs 240 f_spk4), (spk5, aI cs 2160 f_spk5), (spk6, aI cs 2160 f_spk6), (spm, .inr (4, [.ref spm1, .ref spm2, .ref spm3, .ref spm4])), (spm1, aI cs 7 f_spm1), (spm2, aJ cs 3 f_spm2), (spm3, aI cs 3 f_spm3), (spm4, aI cs 3 f_spm4), (de, .inr (1, [.int 0, .int (-1), .int 0, .ref de1, .ref de2, .ref de3, .ref de4, .ref de5]))] H := hP
      have hD : va_D A [(kd, .inr (8, [.ref tp, .ref rp, .ref ca, .ref de, .ref bu, .ref pk, .ref pp, .ref pst, .ref img, .int 0, .ref dr, .ref sp])), (tp, .inr (7, [.ref tpb, .int 0])), (pst, aD cs 10 (fun _ => none)), (dr, .inr (2, [.int 0, .ref drp, .ref drk, .ref drm])), (drp, .inr (6, [.int 0, .int 0, .int (-1), .int 0, .int 0, .int 0, .int 240, .ref drp1, .ref drp2, .ref drp3, .ref drp4, .ref drp5, .ref drp6, .ref drp7, .ref drp8, .ref drp9, .ref drp10])), (drp1, aI cs 24 f_drp1), (drp2, aI cs 24 f_drp2), (drp3, aI cs 24 f_drp3), (drp4, aI cs 240 f_drp4), (drp5, aI cs 240 f_drp5), (drp6, aI cs 240 f_drp6), (drp7, aI cs 240 f_drp7), (drp8, aI cs 240 f_drp8), (drp9, aI cs 240 f_drp9), (drp10, aB cs 1536 f_drp10), (drk, .inr (3, [.int 0, .ref drk1, .ref drk2, .ref drk3, .ref drk4, .ref drk5, .ref drk6])), (drk1, aI cs 240 f_drk1), (drk2, aJ cs 240 f_drk2), (drk3, aI cs 240 f_drk3), (drk4, aI cs 240 f_drk4), (drk5, aI cs 2160 f_drk5), (drk6, aI cs 2160 f_drk6), (drm, .inr (4, [.ref drm1, .ref drm2, .ref drm3, .ref drm4])), (drm1, aI cs 7 f_drm1), (drm2, aJ cs 3 f_drm2), (drm3, aI cs 3 f_drm3), (drm4, aI cs 3 f_drm4), (sp, .inr (2, [.int 0, .ref spp, .ref spk, .ref spm])), (spp, .inr (6, [.int 0, .int 0, .int (-1), .int 0, .int 0, .int 0, .int 240, .ref spp1, .ref spp2, .ref spp3, .ref spp4, .ref spp5, .ref spp6, .ref spp7, .ref spp8, .ref spp9, .ref spp10])), (spp1, aI cs 24 f_spp1), (spp2, aI cs 24 f_spp2), (spp3, aI cs 24 f_spp3), (spp4, aI cs 240 f_spp4), (spp5, aI cs 240 f_spp5), (spp6, aI cs 240 f_spp6), (spp7, aI cs 240 f_spp7), (spp8, aI cs 240 f_spp8), (spp9, aI cs 240 f_spp9), (spp10, aB cs 1536 f_spp10), (spk, .inr (3, [.int 0, .ref spk1, .ref spk2, .ref spk3, .ref spk4, .ref spk5, .ref spk6])), (spk1, aI cs 240 f_spk1), (spk2, aJ cs 240 f_spk2), (spk3, aI cs 240 f_spk3), (spk4, aI cs 240 f_spk4), (spk5, aI cs 2160 f_spk5), (spk6, aI cs 2160 f_spk6), (spm, .inr (4, [.ref spm1, .ref spm2, .ref spm3, .ref spm4])), (spm1, aI cs 7 f_spm1), (spm2, aJ cs 3 f_spm2), (spm3, aI cs 3 f_spm3), (spm4, aI cs 3 f_spm4), (de, .inr (1, [.int 0, .int (-1), .int 0, .ref de1, .ref de2, .ref de3, .ref de4, .ref de5]))] := hD
      refine lv_aload_n hx hb dX8_batch_30 rfl (lv_at hl 0 rfl) ?_
      refine va_get (D := D) (ci := 8) (v := .ref de) (C := RX8) (T := TX8) (N := 12) hx hb hu in_X8 hown hK.1 hP 0 rfl rfl 3 (by decide) (hu _ u_340) (fun _ h9 => h9) rfl dX8_batch_31 ?_
      refine va_get (D := D) (ci := 1) (v := .int 0) (C := RX1) (T := TX1) (N := 8) hx hb hu in_X1 hown hK.1 hP 51 rfl rfl 0 (by decide) (hu _ u_113) (fun _ h9 => h9) rfl dX8_batch_34 ?_
      refine lv_if_eq (tgt := 59) hx hb dX8_batch_37 (by decide) (fun c_6 => ?_) (fun c_6 => absurd (by decide) c_6)
      refine lv_aload_n hx hb dX8_batch_59 rfl (lv_at hl 0 rfl) ?_
      refine kV_v (ci := 8) (As := []) (rest := []) (wc := [(kd, .inr (8, [.ref tp, .ref rp, .ref ca, .ref de, .ref bu, .ref pk, .ref pp, .ref pst, .ref img, .int 0, .ref dr, .ref sp])), (dr, .inr (2, [.int 0, .ref drp, .ref drk, .ref drm])), (drp, .inr (6, [.int 0, .int 0, .int (-1), .int 0, .int 0, .int 0, .int 240, .ref drp1, .ref drp2, .ref drp3, .ref drp4, .ref drp5, .ref drp6, .ref drp7, .ref drp8, .ref drp9, .ref drp10])), (drp1, aI cs 24 f_drp1), (drp2, aI cs 24 f_drp2), (drp3, aI cs 24 f_drp3), (drp4, aI cs 240 f_drp4), (drp5, aI cs 240 f_drp5), (drp6, aI cs 240 f_drp6), (drp7, aI cs 240 f_drp7), (drp8, aI cs 240 f_drp8), (drp9, aI cs 240 f_drp9), (drp10, aB cs 1536 f_drp10), (drk, .inr (3, [.int 0, .ref drk1, .ref drk2, .ref drk3, .ref drk4, .ref drk5, .ref drk6])), (drk1, aI cs 240 f_drk1), (drk2, aJ cs 240 f_drk2), (drk3, aI cs 240 f_drk3), (drk4, aI cs 240 f_drk4), (drk5, aI cs 2160 f_drk5), (drk6, aI cs 2160 f_drk6), (drm, .inr (4, [.ref drm1, .ref drm2, .ref drm3, .ref drm4])), (drm1, aI cs 7 f_drm1), (drm2, aJ cs 3 f_drm2), (drm3, aI cs 3 f_drm3), (drm4, aI cs 3 f_drm4), (sp, .inr (2, [.int 0, .ref spp, .ref spk, .ref spm])), (spp, .inr (6, [.int 0, .int 0, .int (-1), .int 0, .int 0, .int 0, .int 240, .ref spp1, .ref spp2, .ref spp3, .ref spp4, .ref spp5, .ref spp6, .ref spp7, .ref spp8, .ref spp9, .ref spp10])), (spp1, aI cs 24 f_spp1), (spp2, aI cs 24 f_spp2), (spp3, aI cs 24 f_spp3), (spp4, aI cs 240 f_spp4), (spp5, aI cs 240 f_spp5), (spp6, aI cs 240 f_spp6), (spp7, aI cs 240 f_spp7), (spp8, aI cs 240 f_spp8), (spp9, aI cs 240 f_spp9), (spp10, aB cs 1536 f_spp10), (spk, .inr (3, [.int 0, .ref spk1, .ref spk2, .ref spk3, .ref spk4, .ref spk5, .ref spk6])), (spk1, aI cs 240 f_spk1), (spk2, aJ cs 240 f_spk2), (spk3, aI cs 240 f_spk3), (spk4, aI cs 240 f_spk4), (spk5, aI cs 2160 f_spk5), (spk6, aI cs 2160 f_spk6), (spm, .inr (4, [.ref spm1, .ref spm2, .ref spm3, .ref spm4])), (spm1, aI cs 7 f_spm1), (spm2, aJ cs 3 f_spm2), (spm3, aI cs 3 f_spm3), (spm4, aI cs 3 f_spm4)]) (wr := [(tp, .inr (7, [.ref tpb, .int 0])), (pst, aD cs 10 (fun _ => none)), (de, .inr (1, [.int 0, .int (-1), .int 0, .ref de1, .ref de2, .ref de3, .ref de4, .ref de5]))]) hx hb hml hown hu hK hP hD hS hA hl.1 (c_X8_keepState l D cs H.size kd tp rp ca de bu pk pp pst img dr drp drp1 f_drp1 drp2 f_drp2 drp3 f_drp3 drp4 f_drp4 drp5 f_drp5 drp6 f_drp6 drp7 f_drp7 drp8 f_drp8 drp9 f_drp9 drp10 f_drp10 drk drk1 f_drk1 drk2 f_drk2 drk3 f_drk3 drk4 f_drk4 drk5 f_drk5 drk6 f_drk6 drm drm1 f_drm1 drm2 f_drm2 drm3 f_drm3 drm4 f_drm4 sp spp spp1 f_spp1 spp2 f_spp2 spp3 f_spp3 spp4 f_spp4 spp5 f_spp5 spp6 f_spp6 spp7 f_spp7 spp8 f_spp8 spp9 f_spp9 spp10 f_spp10 spk spk1 f_spk1 spk2 f_spk2 spk3 f_spk3 spk4 f_spk4 spk5 f_spk5 spk6 f_spk6 spm spm1 f_spm1 spm2 f_spm2 spm3 f_spm3 spm4 f_spm4 z_f_drp1 z_f_drp2 z_f_drp3 z_f_drp4 z_f_drp5 z_f_drp7 z_f_drp8 z_f_drp9 z_f_drp10 z_f_drk3 z_f_drk4 z_f_drk5 z_f_drk6 z_f_drm1 z_f_drm3 z_f_drm4) (gV u_401 u_403 u_0 u_66 u_404) hd_X8_keepState ⟨(Nat.le_of_ble_eq_true rfl), (Nat.le_of_ble_eq_true rfl)⟩ [0, 3, 4, 5, 6, 7, 8, 9, 10, 11, 12, 13, 14, 15, 16, 17, 18, 19, 20, 21, 22, 23, 24, 25, 26, 27, 28, 29, 30, 31, 32, 33, 34, 35, 36, 37, 38, 39, 40, 41, 42, 43, 44, 45, 46, 47, 48, 49, 50] [1, 2, 51] rfl rfl rfl rfl (by decide) rfl 0 rfl rfl rfl (Nat.le_of_ble_eq_true rfl) dX8_batch_60 ⟨(Nat.le_of_ble_eq_true rfl), (Nat.le_of_ble_eq_true rfl)⟩ (fun ut_8 H locs hw_9 hP hD hS => ?_)
      have hP : va_P D vwCl [(tp, .inr (7, [.ref tpb, .int 0])), (pst, aD cs 10 (fun _ => none)), (de, .inr (1, [.int 0, .int (-1), .int 0, .ref de1, .ref de2, .ref de3, .ref de4, .ref de5])), (kd, .inr (8, [.ref tp, .ref rp, .ref ca, .ref de, .ref bu, .ref pk, .ref pp, .ref pst, .ref img, .int 0, .ref dr, .ref sp])), (sp, .inr (2, [.int 0, .ref spp, .ref spk, .ref spm])), (dr, .inr (2, [.int 0, .ref drp, .ref drk, .ref drm])), (drp, .inr (6, [.int 0, .int 0, .int (-1), .int 0, .int 0, .int 0, .int 240, .ref drp1, .ref drp2, .ref drp3, .ref drp4, .ref drp5, .ref drp6, .ref drp7, .ref drp8, .ref drp9, .ref drp10])), (drp1, aI cs 24 f_drp1), (drp2, aI cs 24 f_drp2), (drp3, aI cs 24 f_drp3), (drp4, aI cs 240 f_drp4), (drp5, aI cs 240 f_drp5), (drp6, aI cs 240 f_drp6), (drp7, aI cs 240 f_drp7), (drp8, aI cs 240 f_drp8), (drp9, aI cs 240 f_drp9), (drp10, aB cs 1536 f_drp10), (drk, .inr (3, [.int 0, .ref drk1, .ref drk2, .ref drk3, .ref drk4, .ref drk5, .ref drk6])), (drk1, aI cs 240 f_drk1), (drk2, aJ cs 240 f_drk2), (drk3, aI cs 240 f_drk3), (drk4, aI cs 240 f_drk4), (drk5, aI cs 2160 f_drk5), (drk6, aI cs 2160 f_drk6), (drm, .inr (4, [.ref drm1, .ref drm2, .ref drm3, .ref drm4])), (drm1, aI cs 7 f_drm1), (drm2, aJ cs 3 f_drm2), (drm3, aI cs 3 f_drm3), (drm4, aI cs 3 f_drm4)] H := hP
      have hD : va_D A [(tp, .inr (7, [.ref tpb, .int 0])), (pst, aD cs 10 (fun _ => none)), (de, .inr (1, [.int 0, .int (-1), .int 0, .ref de1, .ref de2, .ref de3, .ref de4, .ref de5])), (kd, .inr (8, [.ref tp, .ref rp, .ref ca, .ref de, .ref bu, .ref pk, .ref pp, .ref pst, .ref img, .int 0, .ref dr, .ref sp])), (sp, .inr (2, [.int 0, .ref spp, .ref spk, .ref spm])), (dr, .inr (2, [.int 0, .ref drp, .ref drk, .ref drm])), (drp, .inr (6, [.int 0, .int 0, .int (-1), .int 0, .int 0, .int 0, .int 240, .ref drp1, .ref drp2, .ref drp3, .ref drp4, .ref drp5, .ref drp6, .ref drp7, .ref drp8, .ref drp9, .ref drp10])), (drp1, aI cs 24 f_drp1), (drp2, aI cs 24 f_drp2), (drp3, aI cs 24 f_drp3), (drp4, aI cs 240 f_drp4), (drp5, aI cs 240 f_drp5), (drp6, aI cs 240 f_drp6), (drp7, aI cs 240 f_drp7), (drp8, aI cs 240 f_drp8), (drp9, aI cs 240 f_drp9), (drp10, aB cs 1536 f_drp10), (drk, .inr (3, [.int 0, .ref drk1, .ref drk2, .ref drk3, .ref drk4, .ref drk5, .ref drk6])), (drk1, aI cs 240 f_drk1), (drk2, aJ cs 240 f_drk2), (drk3, aI cs 240 f_drk3), (drk4, aI cs 240 f_drk4), (drk5, aI cs 2160 f_drk5), (drk6, aI cs 2160 f_drk6), (drm, .inr (4, [.ref drm1, .ref drm2, .ref drm3, .ref drm4])), (drm1, aI cs 7 f_drm1), (drm2, aJ cs 3 f_drm2), (drm3, aI cs 3 f_drm3), (drm4, aI cs 3 f_drm4)] := hD
      refine lv_aload_n hx hb dX8_batch_63 rfl (lv_at hl 0 rfl) ?_
      refine va_get (D := D) (ci := 8) (v := .ref de) (C := RX8) (T := TX8) (N := 12) hx hb hu in_X8 hown hK.1 hP 3 rfl rfl 3 (by decide) (hu _ u_340) (fun _ h9 => h9) rfl dX8_batch_64 ?_
      refine lv_aload_n hx hb dX8_batch_67 rfl (lv_at hl 0 rfl) ?_
      refine va_get (D := D) (ci := 8) (v := .ref dr) (C := RX8) (T := TX8) (N := 12) hx hb hu in_X8 hown hK.1 hP 3 rfl rfl 10 (by decide) (hu _ u_347) (fun _ h9 => h9) rfl dX8_batch_68 ?_
      refine lv_aload_n hx hb dX8_batch_71 rfl (lv_at hl 0 rfl) ?_
      refine va_get (D := D) (ci := 8) (v := .ref tp) (C := RX8) (T := TX8) (N := 12) hx hb hu in_X8 hown hK.1 hP 3 rfl rfl 0 (by decide) (hu _ u_337) (fun _ h9 => h9) rfl dX8_batch_72 ?_
      refine kV_i (ci := 1) (As := [.ref dr, .ref tp]) (rest := []) (wc := [(de, .inr (1, [.int 0, .int (-1), .int 0, .ref de1, .ref de2, .ref de3, .ref de4, .ref de5]))]) (wr := [(tp, .inr (7, [.ref tpb, .int 0])), (pst, aD cs 10 (fun _ => none)), (kd, .inr (8, [.ref tp, .ref rp, .ref ca, .ref de, .ref bu, .ref pk, .ref pp, .ref pst, .ref img, .int 0, .ref dr, .ref sp])), (sp, .inr (2, [.int 0, .ref spp, .ref spk, .ref spm])), (dr, .inr (2, [.int 0, .ref drp, .ref drk, .ref drm])), (drp, .inr (6, [.int 0, .int 0, .int (-1), .int 0, .int 0, .int 0, .int 240, .ref drp1, .ref drp2, .ref drp3, .ref drp4, .ref drp5, .ref drp6, .ref drp7, .ref drp8, .ref drp9, .ref drp10])), (drp1, aI cs 24 f_drp1), (drp2, aI cs 24 f_drp2), (drp3, aI cs 24 f_drp3), (drp4, aI cs 240 f_drp4), (drp5, aI cs 240 f_drp5), (drp6, aI cs 240 f_drp6), (drp7, aI cs 240 f_drp7), (drp8, aI cs 240 f_drp8), (drp9, aI cs 240 f_drp9), (drp10, aB cs 1536 f_drp10), (drk, .inr (3, [.int 0, .ref drk1, .ref drk2, .ref drk3, .ref drk4, .ref drk5, .ref drk6])), (drk1, aI cs 240 f_drk1), (drk2, aJ cs 240 f_drk2), (drk3, aI cs 240 f_drk3), (drk4, aI cs 240 f_drk4), (drk5, aI cs 2160 f_drk5), (drk6, aI cs 2160 f_drk6), (drm, .inr (4, [.ref drm1, .ref drm2, .ref drm3, .ref drm4])), (drm1, aI cs 7 f_drm1), (drm2, aJ cs 3 f_drm2), (drm3, aI cs 3 f_drm3), (drm4, aI cs 3 f_drm4)]) hx hb hml hown hu hK hP hD hS hA hl.1 (c_X1_carryOut l D cs H.size tp de de1 de2 de3 de4 de5 dr) (gV u_695 u_696 u_697 u_69 u_698) hd_X1_carryOut ⟨(Nat.le_of_ble_eq_true rfl), (Nat.le_of_ble_eq_true rfl)⟩ [2] [0, 1, 3, 4, 5, 6, 7, 8, 9, 10, 11, 12, 13, 14, 15, 16, 17, 18, 19, 20, 21, 22, 23, 24, 25, 26, 27, 28] rfl rfl rfl rfl (by decide) rfl 0 rfl rfl rfl (Nat.le_of_ble_eq_true rfl) dX8_batch_75 ⟨(Nat.le_of_ble_eq_true rfl), (Nat.le_of_ble_eq_true rfl)⟩ (fun r_10 ut_11 H locs hw_12 hP hD hS => ?_)
      have hP : va_P D vwCl [(tp, .inr (7, [.ref tpb, .int 0])), (pst, aD cs 10 (fun _ => none)), (kd, .inr (8, [.ref tp, .ref rp, .ref ca, .ref de, .ref bu, .ref pk, .ref pp, .ref pst, .ref img, .int 0, .ref dr, .ref sp])), (sp, .inr (2, [.int 0, .ref spp, .ref spk, .ref spm])), (dr, .inr (2, [.int 0, .ref drp, .ref drk, .ref drm])), (drp, .inr (6, [.int 0, .int 0, .int (-1), .int 0, .int 0, .int 0, .int 240, .ref drp1, .ref drp2, .ref drp3, .ref drp4, .ref drp5, .ref drp6, .ref drp7, .ref drp8, .ref drp9, .ref drp10])), (drp1, aI cs 24 f_drp1), (drp2, aI cs 24 f_drp2), (drp3, aI cs 24 f_drp3), (drp4, aI cs 240 f_drp4), (drp5, aI cs 240 f_drp5), (drp6, aI cs 240 f_drp6), (drp7, aI cs 240 f_drp7), (drp8, aI cs 240 f_drp8), (drp9, aI cs 240 f_drp9), (drp10, aB cs 1536 f_drp10), (drk, .inr (3, [.int 0, .ref drk1, .ref drk2, .ref drk3, .ref drk4, .ref drk5, .ref drk6])), (drk1, aI cs 240 f_drk1), (drk2, aJ cs 240 f_drk2), (drk3, aI cs 240 f_drk3), (drk4, aI cs 240 f_drk4), (drk5, aI cs 2160 f_drk5), (drk6, aI cs 2160 f_drk6), (drm, .inr (4, [.ref drm1, .ref drm2, .ref drm3, .ref drm4])), (drm1, aI cs 7 f_drm1), (drm2, aJ cs 3 f_drm2), (drm3, aI cs 3 f_drm3), (drm4, aI cs 3 f_drm4), (de, .inr (1, [.int 0, .int (-1), .int 0, .ref de1, .ref de2, .ref de3, .ref de4, .ref de5]))] H := hP
      have hD : va_D A [(tp, .inr (7, [.ref tpb, .int 0])), (pst, aD cs 10 (fun _ => none)), (kd, .inr (8, [.ref tp, .ref rp, .ref ca, .ref de, .ref bu, .ref pk, .ref pp, .ref pst, .ref img, .int 0, .ref dr, .ref sp])), (sp, .inr (2, [.int 0, .ref spp, .ref spk, .ref spm])), (dr, .inr (2, [.int 0, .ref drp, .ref drk, .ref drm])), (drp, .inr (6, [.int 0, .int 0, .int (-1), .int 0, .int 0, .int 0, .int 240, .ref drp1, .ref drp2, .ref drp3, .ref drp4, .ref drp5, .ref drp6, .ref drp7, .ref drp8, .ref drp9, .ref drp10])), (drp1, aI cs 24 f_drp1), (drp2, aI cs 24 f_drp2), (drp3, aI cs 24 f_drp3), (drp4, aI cs 240 f_drp4), (drp5, aI cs 240 f_drp5), (drp6, aI cs 240 f_drp6), (drp7, aI cs 240 f_drp7), (drp8, aI cs 240 f_drp8), (drp9, aI cs 240 f_drp9), (drp10, aB cs 1536 f_drp10), (drk, .inr (3, [.int 0, .ref drk1, .ref drk2, .ref drk3, .ref drk4, .ref drk5, .ref drk6])), (drk1, aI cs 240 f_drk1), (drk2, aJ cs 240 f_drk2), (drk3, aI cs 240 f_drk3), (drk4, aI cs 240 f_drk4), (drk5, aI cs 2160 f_drk5), (drk6, aI cs 2160 f_drk6), (drm, .inr (4, [.ref drm1, .ref drm2, .ref drm3, .ref drm4])), (drm1, aI cs 7 f_drm1), (drm2, aJ cs 3 f_drm2), (drm3, aI cs 3 f_drm3), (drm4, aI cs 3 f_drm4), (de, .inr (1, [.int 0, .int (-1), .int 0, .ref de1, .ref de2, .ref de3, .ref de4, .ref de5]))] := hD
      have er_13 := hw_12
      subst er_13
      refine lv_istore_n (lv' := [(2, .int 0), (0, .ref kd), (1, .int 0)]) hx hb dX8_batch_78 rfl hl (by decide) rfl (fun ls hl => ?_)
      refine lv_iload_n hx hb dX8_batch_79 rfl (lv_at hl 0 rfl) ?_
      refine lv_bipush (v := (-4)) hx hb dX8_batch_80 (by decide) ?_
      refine lv_icmp_ne (tgt := 92) hx hb dX8_batch_82 (by decide) (fun c_14 => ?_) (fun c_14 => absurd c_14 (by decide))
      refine lv_aload_n hx hb dX8_batch_92 rfl (lv_at hl 1 rfl) ?_
      refine kV_v (ci := 8) (As := []) (rest := []) (wc := [(kd, .inr (8, [.ref tp, .ref rp, .ref ca, .ref de, .ref bu, .ref pk, .ref pp, .ref pst, .ref img, .int 0, .ref dr, .ref sp])), (pst, aD cs 10 (fun _ => none)), (sp, .inr (2, [.int 0, .ref spp, .ref spk, .ref spm]))]) (wr := [(tp, .inr (7, [.ref tpb, .int 0])), (dr, .inr (2, [.int 0, .ref drp, .ref drk, .ref drm])), (drp, .inr (6, [.int 0, .int 0, .int (-1), .int 0, .int 0, .int 0, .int 240, .ref drp1, .ref drp2, .ref drp3, .ref drp4, .ref drp5, .ref drp6, .ref drp7, .ref drp8, .ref drp9, .ref drp10])), (drp1, aI cs 24 f_drp1), (drp2, aI cs 24 f_drp2), (drp3, aI cs 24 f_drp3), (drp4, aI cs 240 f_drp4), (drp5, aI cs 240 f_drp5), (drp6, aI cs 240 f_drp6), (drp7, aI cs 240 f_drp7), (drp8, aI cs 240 f_drp8), (drp9, aI cs 240 f_drp9), (drp10, aB cs 1536 f_drp10), (drk, .inr (3, [.int 0, .ref drk1, .ref drk2, .ref drk3, .ref drk4, .ref drk5, .ref drk6])), (drk1, aI cs 240 f_drk1), (drk2, aJ cs 240 f_drk2), (drk3, aI cs 240 f_drk3), (drk4, aI cs 240 f_drk4), (drk5, aI cs 2160 f_drk5), (drk6, aI cs 2160 f_drk6), (drm, .inr (4, [.ref drm1, .ref drm2, .ref drm3, .ref drm4])), (drm1, aI cs 7 f_drm1), (drm2, aJ cs 3 f_drm2), (drm3, aI cs 3 f_drm3), (drm4, aI cs 3 f_drm4), (de, .inr (1, [.int 0, .int (-1), .int 0, .ref de1, .ref de2, .ref de3, .ref de4, .ref de5]))]) hx hb hml hown hu hK hP hD hS hA hl.1 (c_X8_makeUndoable l D cs H.size kd tp rp ca de bu pk pp pst img dr sp spp spk spm) (gV u_564 u_566 u_2 u_66 u_567) hd_X8_makeUndoable ⟨(Nat.le_of_ble_eq_true rfl), (Nat.le_of_ble_eq_true rfl)⟩ [2, 1, 3] [0, 4, 5, 6, 7, 8, 9, 10, 11, 12, 13, 14, 15, 16, 17, 18, 19, 20, 21, 22, 23, 24, 25, 26, 27, 28] rfl rfl rfl rfl (by decide) rfl 0 rfl rfl rfl (Nat.le_of_ble_eq_true rfl) dX8_batch_93 ⟨(Nat.le_of_ble_eq_true rfl), (Nat.le_of_ble_eq_true rfl)⟩ (fun ut_16 H locs hw_17 hP hD hS => ?_)
      have hP : va_P D vwCl [(tp, .inr (7, [.ref tpb, .int 0])), (dr, .inr (2, [.int 0, .ref drp, .ref drk, .ref drm])), (drp, .inr (6, [.int 0, .int 0, .int (-1), .int 0, .int 0, .int 0, .int 240, .ref drp1, .ref drp2, .ref drp3, .ref drp4, .ref drp5, .ref drp6, .ref drp7, .ref drp8, .ref drp9, .ref drp10])), (drp1, aI cs 24 f_drp1), (drp2, aI cs 24 f_drp2), (drp3, aI cs 24 f_drp3), (drp4, aI cs 240 f_drp4), (drp5, aI cs 240 f_drp5), (drp6, aI cs 240 f_drp6), (drp7, aI cs 240 f_drp7), (drp8, aI cs 240 f_drp8), (drp9, aI cs 240 f_drp9), (drp10, aB cs 1536 f_drp10), (drk, .inr (3, [.int 0, .ref drk1, .ref drk2, .ref drk3, .ref drk4, .ref drk5, .ref drk6])), (drk1, aI cs 240 f_drk1), (drk2, aJ cs 240 f_drk2), (drk3, aI cs 240 f_drk3), (drk4, aI cs 240 f_drk4), (drk5, aI cs 2160 f_drk5), (drk6, aI cs 2160 f_drk6), (drm, .inr (4, [.ref drm1, .ref drm2, .ref drm3, .ref drm4])), (drm1, aI cs 7 f_drm1), (drm2, aJ cs 3 f_drm2), (drm3, aI cs 3 f_drm3), (drm4, aI cs 3 f_drm4), (de, .inr (1, [.int 0, .int (-1), .int 0, .ref de1, .ref de2, .ref de3, .ref de4, .ref de5])), (kd, .inr (8, [.ref tp, .ref rp, .ref ca, .ref de, .ref bu, .ref pk, .ref pp, .ref pst, .ref img, .int 1, .ref dr, .null]))] H := hP
      have hD : va_D A [(tp, .inr (7, [.ref tpb, .int 0])), (dr, .inr (2, [.int 0, .ref drp, .ref drk, .ref drm])), (drp, .inr (6, [.int 0, .int 0, .int (-1), .int 0, .int 0, .int 0, .int 240, .ref drp1, .ref drp2, .ref drp3, .ref drp4, .ref drp5, .ref drp6, .ref drp7, .ref drp8, .ref drp9, .ref drp10])), (drp1, aI cs 24 f_drp1), (drp2, aI cs 24 f_drp2), (drp3, aI cs 24 f_drp3), (drp4, aI cs 240 f_drp4), (drp5, aI cs 240 f_drp5), (drp6, aI cs 240 f_drp6), (drp7, aI cs 240 f_drp7), (drp8, aI cs 240 f_drp8), (drp9, aI cs 240 f_drp9), (drp10, aB cs 1536 f_drp10), (drk, .inr (3, [.int 0, .ref drk1, .ref drk2, .ref drk3, .ref drk4, .ref drk5, .ref drk6])), (drk1, aI cs 240 f_drk1), (drk2, aJ cs 240 f_drk2), (drk3, aI cs 240 f_drk3), (drk4, aI cs 240 f_drk4), (drk5, aI cs 2160 f_drk5), (drk6, aI cs 2160 f_drk6), (drm, .inr (4, [.ref drm1, .ref drm2, .ref drm3, .ref drm4])), (drm1, aI cs 7 f_drm1), (drm2, aJ cs 3 f_drm2), (drm3, aI cs 3 f_drm3), (drm4, aI cs 3 f_drm4), (de, .inr (1, [.int 0, .int (-1), .int 0, .ref de1, .ref de2, .ref de3, .ref de4, .ref de5])), (kd, .inr (8, [.ref tp, .ref rp, .ref ca, .ref de, .ref bu, .ref pk, .ref pp, .ref pst, .ref img, .int 1, .ref dr, .null]))] := hD
      refine lv_aload_n hx hb dX8_batch_96 rfl (lv_at hl 1 rfl) ?_
      refine kV_v (ci := 8) (As := []) (rest := []) (wc := [(kd, .inr (8, [.ref tp, .ref rp, .ref ca, .ref de, .ref bu, .ref pk, .ref pp, .ref pst, .ref img, .int 1, .ref dr, .null])), (de, .inr (1, [.int 0, .int (-1), .int 0, .ref de1, .ref de2, .ref de3, .ref de4, .ref de5]))]) (wr := [(tp, .inr (7, [.ref tpb, .int 0])), (dr, .inr (2, [.int 0, .ref drp, .ref drk, .ref drm])), (drp, .inr (6, [.int 0, .int 0, .int (-1), .int 0, .int 0, .int 0, .int 240, .ref drp1, .ref drp2, .ref drp3, .ref drp4, .ref drp5, .ref drp6, .ref drp7, .ref drp8, .ref drp9, .ref drp10])), (drp1, aI cs 24 f_drp1), (drp2, aI cs 24 f_drp2), (drp3, aI cs 24 f_drp3), (drp4, aI cs 240 f_drp4), (drp5, aI cs 240 f_drp5), (drp6, aI cs 240 f_drp6), (drp7, aI cs 240 f_drp7), (drp8, aI cs 240 f_drp8), (drp9, aI cs 240 f_drp9), (drp10, aB cs 1536 f_drp10), (drk, .inr (3, [.int 0, .ref drk1, .ref drk2, .ref drk3, .ref drk4, .ref drk5, .ref drk6])), (drk1, aI cs 240 f_drk1), (drk2, aJ cs 240 f_drk2), (drk3, aI cs 240 f_drk3), (drk4, aI cs 240 f_drk4), (drk5, aI cs 2160 f_drk5), (drk6, aI cs 2160 f_drk6), (drm, .inr (4, [.ref drm1, .ref drm2, .ref drm3, .ref drm4])), (drm1, aI cs 7 f_drm1), (drm2, aJ cs 3 f_drm2), (drm3, aI cs 3 f_drm3), (drm4, aI cs 3 f_drm4)]) hx hb hml hown hu hK hP hD hS hA hl.1 (c_X8_touchDeeds l D cs H.size kd tp rp ca de de1 de2 de3 de4 de5 bu pk pp pst img dr) (gV u_712 u_714 u_7 u_66 u_715) hd_X8_touchDeeds ⟨(Nat.le_of_ble_eq_true rfl), (Nat.le_of_ble_eq_true rfl)⟩ [26, 25] [0, 1, 2, 3, 4, 5, 6, 7, 8, 9, 10, 11, 12, 13, 14, 15, 16, 17, 18, 19, 20, 21, 22, 23, 24] rfl rfl rfl rfl (by decide) rfl 0 rfl rfl rfl (Nat.le_of_ble_eq_true rfl) dX8_batch_97 ⟨(Nat.le_of_ble_eq_true rfl), (Nat.le_of_ble_eq_true rfl)⟩ (fun ut_19 H locs hw_20 hP hD hS => ?_)
      have hP : va_P D vwCl [(tp, .inr (7, [.ref tpb, .int 0])), (dr, .inr (2, [.int 0, .ref drp, .ref drk, .ref drm])), (drp, .inr (6, [.int 0, .int 0, .int (-1), .int 0, .int 0, .int 0, .int 240, .ref drp1, .ref drp2, .ref drp3, .ref drp4, .ref drp5, .ref drp6, .ref drp7, .ref drp8, .ref drp9, .ref drp10])), (drp1, aI cs 24 f_drp1), (drp2, aI cs 24 f_drp2), (drp3, aI cs 24 f_drp3), (drp4, aI cs 240 f_drp4), (drp5, aI cs 240 f_drp5), (drp6, aI cs 240 f_drp6), (drp7, aI cs 240 f_drp7), (drp8, aI cs 240 f_drp8), (drp9, aI cs 240 f_drp9), (drp10, aB cs 1536 f_drp10), (drk, .inr (3, [.int 0, .ref drk1, .ref drk2, .ref drk3, .ref drk4, .ref drk5, .ref drk6])), (drk1, aI cs 240 f_drk1), (drk2, aJ cs 240 f_drk2), (drk3, aI cs 240 f_drk3), (drk4, aI cs 240 f_drk4), (drk5, aI cs 2160 f_drk5), (drk6, aI cs 2160 f_drk6), (drm, .inr (4, [.ref drm1, .ref drm2, .ref drm3, .ref drm4])), (drm1, aI cs 7 f_drm1), (drm2, aJ cs 3 f_drm2), (drm3, aI cs 3 f_drm3), (drm4, aI cs 3 f_drm4), (kd, .inr (8, [.ref tp, .ref rp, .ref ca, .ref de, .ref bu, .ref pk, .ref pp, .ref pst, .ref img, .int 1, .ref dr, .null])), (de, .inr (1, [.int 0, .int (-1), .int 0, .ref de1, .ref de2, .ref de3, .ref de4, .ref de5]))] H := hP
      have hD : va_D A [(tp, .inr (7, [.ref tpb, .int 0])), (dr, .inr (2, [.int 0, .ref drp, .ref drk, .ref drm])), (drp, .inr (6, [.int 0, .int 0, .int (-1), .int 0, .int 0, .int 0, .int 240, .ref drp1, .ref drp2, .ref drp3, .ref drp4, .ref drp5, .ref drp6, .ref drp7, .ref drp8, .ref drp9, .ref drp10])), (drp1, aI cs 24 f_drp1), (drp2, aI cs 24 f_drp2), (drp3, aI cs 24 f_drp3), (drp4, aI cs 240 f_drp4), (drp5, aI cs 240 f_drp5), (drp6, aI cs 240 f_drp6), (drp7, aI cs 240 f_drp7), (drp8, aI cs 240 f_drp8), (drp9, aI cs 240 f_drp9), (drp10, aB cs 1536 f_drp10), (drk, .inr (3, [.int 0, .ref drk1, .ref drk2, .ref drk3, .ref drk4, .ref drk5, .ref drk6])), (drk1, aI cs 240 f_drk1), (drk2, aJ cs 240 f_drk2), (drk3, aI cs 240 f_drk3), (drk4, aI cs 240 f_drk4), (drk5, aI cs 2160 f_drk5), (drk6, aI cs 2160 f_drk6), (drm, .inr (4, [.ref drm1, .ref drm2, .ref drm3, .ref drm4])), (drm1, aI cs 7 f_drm1), (drm2, aJ cs 3 f_drm2), (drm3, aI cs 3 f_drm3), (drm4, aI cs 3 f_drm4), (kd, .inr (8, [.ref tp, .ref rp, .ref ca, .ref de, .ref bu, .ref pk, .ref pp, .ref pst, .ref img, .int 1, .ref dr, .null])), (de, .inr (1, [.int 0, .int (-1), .int 0, .ref de1, .ref de2, .ref de3, .ref de4, .ref de5]))] := hD
      refine lv_aload_n hx hb dX8_batch_100 rfl (lv_at hl 1 rfl) ?_
      refine va_get (D := D) (ci := 8) (v := .ref tp) (C := RX8) (T := TX8) (N := 12) hx hb hu in_X8 hown hK.1 hP 25 rfl rfl 0 (by decide) (hu _ u_337) (fun _ h9 => h9) rfl dX8_batch_101 ?_
      refine lv_iconst (v := 0) hx hb dX8_batch_104 (by decide) ?_
      refine va_put (D := D) (ci := 7) (v := .int 0) (ty := tyX7 1) (C := RX7) (T := TX7) (N := 2) hx hb hu in_X7 tyX7 tyX7_ok nmX7 hown hK.1 hP hD hS 0 rfl rfl 1 (by decide) (hu _ u_96) (fun _ h9 => h9) rfl (tyX7_ok 1 (by decide)) rfl rfl (Nat.le_of_ble_eq_true rfl) dX8_batch_105 (fun H locs hP hD hS => ?_)
      have hP : va_P D vwCl [(tp, .inr (7, [.ref tpb, .int 0])), (dr, .inr (2, [.int 0, .ref drp, .ref drk, .ref drm])), (drp, .inr (6, [.int 0, .int 0, .int (-1), .int 0, .int 0, .int 0, .int 240, .ref drp1, .ref drp2, .ref drp3, .ref drp4, .ref drp5, .ref drp6, .ref drp7, .ref drp8, .ref drp9, .ref drp10])), (drp1, aI cs 24 f_drp1), (drp2, aI cs 24 f_drp2), (drp3, aI cs 24 f_drp3), (drp4, aI cs 240 f_drp4), (drp5, aI cs 240 f_drp5), (drp6, aI cs 240 f_drp6), (drp7, aI cs 240 f_drp7), (drp8, aI cs 240 f_drp8), (drp9, aI cs 240 f_drp9), (drp10, aB cs 1536 f_drp10), (drk, .inr (3, [.int 0, .ref drk1, .ref drk2, .ref drk3, .ref drk4, .ref drk5, .ref drk6])), (drk1, aI cs 240 f_drk1), (drk2, aJ cs 240 f_drk2), (drk3, aI cs 240 f_drk3), (drk4, aI cs 240 f_drk4), (drk5, aI cs 2160 f_drk5), (drk6, aI cs 2160 f_drk6), (drm, .inr (4, [.ref drm1, .ref drm2, .ref drm3, .ref drm4])), (drm1, aI cs 7 f_drm1), (drm2, aJ cs 3 f_drm2), (drm3, aI cs 3 f_drm3), (drm4, aI cs 3 f_drm4), (kd, .inr (8, [.ref tp, .ref rp, .ref ca, .ref de, .ref bu, .ref pk, .ref pp, .ref pst, .ref img, .int 1, .ref dr, .null])), (de, .inr (1, [.int 0, .int (-1), .int 0, .ref de1, .ref de2, .ref de3, .ref de4, .ref de5]))] H := hP
      have hD : va_D A [(tp, .inr (7, [.ref tpb, .int 0])), (dr, .inr (2, [.int 0, .ref drp, .ref drk, .ref drm])), (drp, .inr (6, [.int 0, .int 0, .int (-1), .int 0, .int 0, .int 0, .int 240, .ref drp1, .ref drp2, .ref drp3, .ref drp4, .ref drp5, .ref drp6, .ref drp7, .ref drp8, .ref drp9, .ref drp10])), (drp1, aI cs 24 f_drp1), (drp2, aI cs 24 f_drp2), (drp3, aI cs 24 f_drp3), (drp4, aI cs 240 f_drp4), (drp5, aI cs 240 f_drp5), (drp6, aI cs 240 f_drp6), (drp7, aI cs 240 f_drp7), (drp8, aI cs 240 f_drp8), (drp9, aI cs 240 f_drp9), (drp10, aB cs 1536 f_drp10), (drk, .inr (3, [.int 0, .ref drk1, .ref drk2, .ref drk3, .ref drk4, .ref drk5, .ref drk6])), (drk1, aI cs 240 f_drk1), (drk2, aJ cs 240 f_drk2), (drk3, aI cs 240 f_drk3), (drk4, aI cs 240 f_drk4), (drk5, aI cs 2160 f_drk5), (drk6, aI cs 2160 f_drk6), (drm, .inr (4, [.ref drm1, .ref drm2, .ref drm3, .ref drm4])), (drm1, aI cs 7 f_drm1), (drm2, aJ cs 3 f_drm2), (drm3, aI cs 3 f_drm3), (drm4, aI cs 3 f_drm4), (kd, .inr (8, [.ref tp, .ref rp, .ref ca, .ref de, .ref bu, .ref pk, .ref pp, .ref pst, .ref img, .int 1, .ref dr, .null])), (de, .inr (1, [.int 0, .int (-1), .int 0, .ref de1, .ref de2, .ref de3, .ref de4, .ref de5]))] := hD
      refine lv_iload_n hx hb dX8_batch_108 rfl (lv_at hl 0 rfl) ?_
      exact hz () hP hD hS (by grind) [] rfl rfl (Nat.le_of_ble_eq_true rfl) (Nat.le_of_ble_eq_true rfl) .int rfl rfl dX8_batch_109
    · refine lv_bipush (v := (-3)) hx hb dX8_batch_15 (by decide) ?_
      exact hz () hP hD hS (by grind) [] rfl rfl (Nat.le_of_ble_eq_true rfl) (Nat.le_of_ble_eq_true rfl) .int rfl rfl dX8_batch_17
abbrev rm_c_X8_fault : Room := { frames := 0, cells := 0, slots := 0, locals := 0 }
set_option maxHeartbeats 4000000 in
set_option maxRecDepth 100000 in
theorem c_X8_fault (l : Launch) (D : va_G) (cs : Nat → ClassId) (sz : Nat) (kd : Nat) (tp : Nat) (rp : Nat) (ca : Nat) (de : Nat) (de1 : Nat) (de2 : Nat) (de3 : Nat) (de4 : Nat) (de5 : Nat) (bu : Nat) (pk : Nat) (pp : Nat) (pst : Nat) (img : Nat) (dr : Nat) (sp : Nat) (x : Int32)  : cMi l yX8_fault (Cond.code yX8_fault cX8_fault 2 (some .int)) (rm_c_X8_fault) D cs [.ref kd, .int x] sz [(kd, .inr (8, [.ref tp, .ref rp, .ref ca, .ref de, .ref bu, .ref pk, .ref pp, .ref pst, .ref img, .int 0, .ref dr, .ref sp])), (de, .inr (1, [.int 0, .int (-1), .int 0, .ref de1, .ref de2, .ref de3, .ref de4, .ref de5]))] (fun (r : Int32) (u : Unit) => ((r = 0) ∧ (x = 0)) ∨ ((r = (-1)) ∧ (¬ x = 0))) (fun (u : Unit) => []) := by
  refine kMet_i RX8 (by decide) rfl (Nat.le_of_ble_eq_true rfl) ?_
  intro p e s m below meth c ls A Qz H locs hx hb hml hown hin hu hK hsz hA hP hD hS hl hz
  subst hsz
  have hl : lv_has ls 2 [(0, .ref kd), (1, .int x)] := hl
  refine lv_iload_n hx hb dX8_fault_0 rfl (lv_at hl 1 rfl) ?_
  rcases (sw_2 x) with c_1 | c_1 | c_1
  · refine lv_lookup (tgt := 28) (off := 27) hx hb dX8_fault_1 (by decide) (by rw [c_1]; decide) (by decide) ?_
    refine lv_aload_n hx hb dX8_fault_28 rfl (lv_at hl 0 rfl) ?_
    refine va_get (D := D) (ci := 8) (v := .ref de) (C := RX8) (T := TX8) (N := 12) hx hb hu in_X8 hown hK.1 hP 0 rfl rfl 3 (by decide) (hu _ u_340) (fun _ h9 => h9) rfl dX8_fault_29 ?_
    refine va_get (D := D) (ci := 1) (v := .int 0) (C := RX1) (T := TX1) (N := 8) hx hb hu in_X1 hown hK.1 hP 1 rfl rfl 0 (by decide) (hu _ u_113) (fun _ h9 => h9) rfl dX8_fault_32 ?_
    exact hz () hP hD hS (by grind) [] rfl rfl (Nat.le_of_ble_eq_true rfl) (Nat.le_of_ble_eq_true rfl) .int rfl rfl dX8_fault_35
  · refine lv_lookup (tgt := 36) (off := 35) hx hb dX8_fault_1 (by decide) (by rw [c_1]; decide) (by decide) ?_
    refine lv_aload_n hx hb dX8_fault_36 rfl (lv_at hl 0 rfl) ?_
    refine va_get (D := D) (ci := 8) (v := .ref de) (C := RX8) (T := TX8) (N := 12) hx hb hu in_X8 hown hK.1 hP 0 rfl rfl 3 (by decide) (hu _ u_340) (fun _ h9 => h9) rfl dX8_fault_37 ?_
    refine va_get (D := D) (ci := 1) (v := .int (-1)) (C := RX1) (T := TX1) (N := 8) hx hb hu in_X1 hown hK.1 hP 1 rfl rfl 1 (by decide) (hu _ u_115) (fun _ h9 => h9) rfl dX8_fault_40 ?_
    exact hz () hP hD hS (by grind) [] rfl rfl (Nat.le_of_ble_eq_true rfl) (Nat.le_of_ble_eq_true rfl) .int rfl rfl dX8_fault_43
  · refine lv_lookup (tgt := 44) (off := 43) hx hb dX8_fault_1 (by decide) (by simp only [lookupswitch.offset]; rw [if_neg (by omega), if_neg (by omega)]) (by decide) ?_
    refine lv_iconst (v := (-1)) hx hb dX8_fault_44 (by decide) ?_
    exact hz () hP hD hS (by grind) [] rfl rfl (Nat.le_of_ble_eq_true rfl) (Nat.le_of_ble_eq_true rfl) .int rfl rfl dX8_fault_45
abbrev rm_c_X8_seek : Room := { frames := 2, cells := 0, slots := 0, locals := 41 }
set_option maxHeartbeats 4000000 in
set_option maxRecDepth 100000 in
theorem c_X8_seek (l : Launch) (D : va_G) (cs : Nat → ClassId) (sz : Nat) (kd : Nat) (tp : Nat) (tpb : Nat) (rp : Nat) (ca : Nat) (de : Nat) (bu : Nat) (pk : Nat) (pp : Nat) (pst : Nat) (img : Nat) (dr : Nat) (sp : Nat) (x : Int32)  : cMi l yX8_seek (Cond.code yX8_seek cX8_seek 6 (some .int)) (rm_c_X8_seek) D cs [.ref kd, .int x] sz [(kd, .inr (8, [.ref tp, .ref rp, .ref ca, .ref de, .ref bu, .ref pk, .ref pp, .ref pst, .ref img, .int 0, .ref dr, .ref sp])), (tp, .inr (7, [.ref tpb, .int 0]))] (fun (r : Int32) (u : Unit) => (r = (-3))) (fun (u : Unit) => []) := by
  refine kMet_i RX8 (by decide) rfl (Nat.le_of_ble_eq_true rfl) ?_
  intro p e s m below meth c ls A Qz H locs hx hb hml hown hin hu hK hsz hA hP hD hS hl hz
  subst hsz
  have hl : lv_has ls 6 [(0, .ref kd), (1, .int x)] := hl
  refine lv_aload_n hx hb dX8_seek_0 rfl (lv_at hl 0 rfl) ?_
  refine lv_iload_n hx hb dX8_seek_1 rfl (lv_at hl 1 rfl) ?_
  refine kV_i (ci := 8) (As := [.int x]) (rest := []) (wc := [(kd, .inr (8, [.ref tp, .ref rp, .ref ca, .ref de, .ref bu, .ref pk, .ref pp, .ref pst, .ref img, .int 0, .ref dr, .ref sp])), (tp, .inr (7, [.ref tpb, .int 0]))]) (wr := []) hx hb hml hown hu hK hP hD hS hA hl.1 (c_X8_isOnTape l D cs H.size kd tp tpb rp ca de bu pk pp pst img dr sp x) (gV u_619 u_621 u_5 u_66 u_622) hd_X8_isOnTape ⟨(Nat.le_of_ble_eq_true rfl), (Nat.le_of_ble_eq_true rfl)⟩ [0, 1] [] rfl rfl rfl rfl (by decide) rfl 0 rfl rfl rfl (Nat.le_of_ble_eq_true rfl) dX8_seek_2 ⟨(Nat.le_of_ble_eq_true rfl), (Nat.le_of_ble_eq_true rfl)⟩ (fun r_1 ut_2 H locs hw_3 hP hD hS => ?_)
  have hP : va_P D vwCl [(kd, .inr (8, [.ref tp, .ref rp, .ref ca, .ref de, .ref bu, .ref pk, .ref pp, .ref pst, .ref img, .int 0, .ref dr, .ref sp])), (tp, .inr (7, [.ref tpb, .int 0]))] H := hP
  have hD : va_D A [(kd, .inr (8, [.ref tp, .ref rp, .ref ca, .ref de, .ref bu, .ref pk, .ref pp, .ref pst, .ref img, .int 0, .ref dr, .ref sp])), (tp, .inr (7, [.ref tpb, .int 0]))] := hD
  have er_4 := hw_3
  subst er_4
  refine lv_if_ne (tgt := 11) hx hb dX8_seek_5 (by decide) (fun c_5 => absurd (by decide) c_5) (fun c_5 => ?_)
  refine lv_bipush (v := (-3)) hx hb dX8_seek_8 (by decide) ?_
  exact hz () hP hD hS rfl [] rfl rfl (Nat.le_of_ble_eq_true rfl) (Nat.le_of_ble_eq_true rfl) .int rfl rfl dX8_seek_10
abbrev rm_c_X8_between : Room := { frames := 1, cells := 0, slots := 0, locals := 20 }
set_option maxHeartbeats 4000000 in
set_option maxRecDepth 100000 in
theorem c_X8_between (l : Launch) (D : va_G) (cs : Nat → ClassId) (sz : Nat) (kd : Nat) (tp : Nat) (tpb : Nat) (rp : Nat) (ca : Nat) (de : Nat) (bu : Nat) (pk : Nat) (pp : Nat) (pst : Nat) (img : Nat) (dr : Nat) (sp : Nat) (x : Int32) (y : Int32)  : cMi l yX8_between (Cond.code yX8_between cX8_between 10 (some .int)) (rm_c_X8_between) D cs [.ref kd, .int x, .int y] sz [(kd, .inr (8, [.ref tp, .ref rp, .ref ca, .ref de, .ref bu, .ref pk, .ref pp, .ref pst, .ref img, .int 0, .ref dr, .ref sp])), (tp, .inr (7, [.ref tpb, .int 0]))] (fun (r : Int32) (u : Unit) => (r = (-3))) (fun (u : Unit) => []) := by
  refine kMet_i RX8 (by decide) rfl (Nat.le_of_ble_eq_true rfl) ?_
  intro p e s m below meth c ls A Qz H locs hx hb hml hown hin hu hK hsz hA hP hD hS hl hz
  subst hsz
  have hl : lv_has ls 10 [(0, .ref kd), (1, .int x), (2, .int y)] := hl
  refine lv_iload_n hx hb dX8_between_0 rfl (lv_at hl 1 rfl) ?_
  refine kS_i  (As := [.int x]) (rest := []) (wc := []) (wr := [(kd, .inr (8, [.ref tp, .ref rp, .ref ca, .ref de, .ref bu, .ref pk, .ref pp, .ref pst, .ref img, .int 0, .ref dr, .ref sp])), (tp, .inr (7, [.ref tpb, .int 0]))]) hx hb hml hown hu hK hP hD hS hA hl.1 (c_X8_isKeyLength l D cs H.size x) (gS u_390 u_391 u_66 u_392) hd_X8_isKeyLength ⟨(Nat.le_of_ble_eq_true rfl), (Nat.le_of_ble_eq_true rfl)⟩ [] [0, 1] rfl rfl rfl rfl (by decide) rfl rfl (Nat.le_of_ble_eq_true rfl) dX8_between_1 ⟨(Nat.le_of_ble_eq_true rfl), (Nat.le_of_ble_eq_true rfl)⟩ (fun r_1 ut_2 H locs hw_3 hP hD hS => ?_)
  have hP : va_P D vwCl [(kd, .inr (8, [.ref tp, .ref rp, .ref ca, .ref de, .ref bu, .ref pk, .ref pp, .ref pst, .ref img, .int 0, .ref dr, .ref sp])), (tp, .inr (7, [.ref tpb, .int 0]))] H := hP
  have hD : va_D A [(kd, .inr (8, [.ref tp, .ref rp, .ref ca, .ref de, .ref bu, .ref pk, .ref pp, .ref pst, .ref img, .int 0, .ref dr, .ref sp])), (tp, .inr (7, [.ref tpb, .int 0]))] := hD
  rcases hw_3 with hw_3 | hw_3
  · obtain ⟨er_4, hf_5⟩ := hw_3
    subst er_4
    refine lv_if_eq (tgt := 27) hx hb dX8_between_4 (by decide) (fun c_6 => absurd c_6 (by decide)) (fun c_6 => ?_)
    refine lv_iload_n hx hb dX8_between_7 rfl (lv_at hl 2 rfl) ?_
    refine kS_i  (As := [.int y]) (rest := []) (wc := []) (wr := [(kd, .inr (8, [.ref tp, .ref rp, .ref ca, .ref de, .ref bu, .ref pk, .ref pp, .ref pst, .ref img, .int 0, .ref dr, .ref sp])), (tp, .inr (7, [.ref tpb, .int 0]))]) hx hb hml hown hu hK hP hD hS hA hl.1 (c_X8_isKeyLength l D cs H.size y) (gS u_390 u_391 u_66 u_392) hd_X8_isKeyLength ⟨(Nat.le_of_ble_eq_true rfl), (Nat.le_of_ble_eq_true rfl)⟩ [] [0, 1] rfl rfl rfl rfl (by decide) rfl rfl (Nat.le_of_ble_eq_true rfl) dX8_between_8 ⟨(Nat.le_of_ble_eq_true rfl), (Nat.le_of_ble_eq_true rfl)⟩ (fun r_7 ut_8 H locs hw_9 hP hD hS => ?_)
    have hP : va_P D vwCl [(kd, .inr (8, [.ref tp, .ref rp, .ref ca, .ref de, .ref bu, .ref pk, .ref pp, .ref pst, .ref img, .int 0, .ref dr, .ref sp])), (tp, .inr (7, [.ref tpb, .int 0]))] H := hP
    have hD : va_D A [(kd, .inr (8, [.ref tp, .ref rp, .ref ca, .ref de, .ref bu, .ref pk, .ref pp, .ref pst, .ref img, .int 0, .ref dr, .ref sp])), (tp, .inr (7, [.ref tpb, .int 0]))] := hD
    rcases hw_9 with hw_9 | hw_9
    · obtain ⟨er_10, hf_11⟩ := hw_9
      subst er_10
      refine lv_if_eq (tgt := 27) hx hb dX8_between_11 (by decide) (fun c_12 => absurd c_12 (by decide)) (fun c_12 => ?_)
      refine lv_iload_n hx hb dX8_between_14 rfl (lv_at hl 1 rfl) ?_
      refine lv_iload_n hx hb dX8_between_15 rfl (lv_at hl 2 rfl) ?_
      refine lv_iadd hx hb dX8_between_16 ?_
      refine lv_aload_n hx hb dX8_between_17 rfl (lv_at hl 0 rfl) ?_
      refine va_get (D := D) (ci := 8) (v := .ref tp) (C := RX8) (T := TX8) (N := 12) hx hb hu in_X8 hown hK.1 hP 0 rfl rfl 0 (by decide) (hu _ u_337) (fun _ h9 => h9) rfl dX8_between_18 ?_
      refine va_get (D := D) (ci := 7) (v := .int 0) (C := RX7) (T := TX7) (N := 2) hx hb hu in_X7 hown hK.1 hP 1 rfl rfl 1 (by decide) (hu _ u_96) (fun _ h9 => h9) rfl dX8_between_21 ?_
      refine lv_icmp_le (tgt := 30) hx hb dX8_between_24 (by decide) (fun c_13 => absurd c_13 (by grind)) (fun c_13 => ?_)
      refine lv_bipush (v := (-3)) hx hb dX8_between_27 (by decide) ?_
      exact hz () hP hD hS rfl [] rfl rfl (Nat.le_of_ble_eq_true rfl) (Nat.le_of_ble_eq_true rfl) .int rfl rfl dX8_between_29
    · obtain ⟨er_14, hf_15⟩ := hw_9
      subst er_14
      refine lv_if_eq (tgt := 27) hx hb dX8_between_11 (by decide) (fun c_16 => ?_) (fun c_16 => absurd (by decide) c_16)
      refine lv_bipush (v := (-3)) hx hb dX8_between_27 (by decide) ?_
      exact hz () hP hD hS rfl [] rfl rfl (Nat.le_of_ble_eq_true rfl) (Nat.le_of_ble_eq_true rfl) .int rfl rfl dX8_between_29
  · obtain ⟨er_17, hf_18⟩ := hw_3
    subst er_17
    refine lv_if_eq (tgt := 27) hx hb dX8_between_4 (by decide) (fun c_19 => ?_) (fun c_19 => absurd (by decide) c_19)
    refine lv_bipush (v := (-3)) hx hb dX8_between_27 (by decide) ?_
    exact hz () hP hD hS rfl [] rfl rfl (Nat.le_of_ble_eq_true rfl) (Nat.le_of_ble_eq_true rfl) .int rfl rfl dX8_between_29
abbrev rm_c_X8_diff : Room := { frames := 2, cells := 0, slots := 0, locals := 43 }
set_option maxHeartbeats 4000000 in
set_option maxRecDepth 100000 in
theorem c_X8_diff (l : Launch) (D : va_G) (cs : Nat → ClassId) (sz : Nat) (kd : Nat) (tp : Nat) (rp : Nat) (ca : Nat) (de : Nat) (bu : Nat) (pk : Nat) (pp : Nat) (pst : Nat) (img : Nat) (dr : Nat) (drp : Nat) (drk : Nat) (drm : Nat) (drm1 : Nat) (f_drm1 : Nat → Int32) (drm2 : Nat) (drm3 : Nat) (drm4 : Nat) (sp : Nat) (x : Int32) (y : Int32) (z_f_drm1 : ∀ j, j < 7 → f_drm1 j = (-1)) : cMi l yX8_diff (Cond.code yX8_diff cX8_diff 6 (some .int)) (rm_c_X8_diff) D cs [.ref kd, .int x, .int y] sz [(kd, .inr (8, [.ref tp, .ref rp, .ref ca, .ref de, .ref bu, .ref pk, .ref pp, .ref pst, .ref img, .int 0, .ref dr, .ref sp])), (dr, .inr (2, [.int 0, .ref drp, .ref drk, .ref drm])), (drm, .inr (4, [.ref drm1, .ref drm2, .ref drm3, .ref drm4])), (drm1, aI cs 7 f_drm1)] (fun (r : Int32) (u : Unit) => ((r = (-2)) ∧ (x < 0 ∨ 4 ≤ x ∨ y < 0 ∨ 2 < y)) ∨ ((r = (-6)) ∧ (¬ x < 0 ∧ x < 4 ∧ ¬ y < 0 ∧ ¬ 2 < y))) (fun (u : Unit) => []) := by
  refine kMet_i RX8 (by decide) rfl (Nat.le_of_ble_eq_true rfl) ?_
  intro p e s m below meth c ls A Qz H locs hx hb hml hown hin hu hK hsz hA hP hD hS hl hz
  subst hsz
  have hl : lv_has ls 6 [(0, .ref kd), (1, .int x), (2, .int y)] := hl
  refine lv_iload_n hx hb dX8_diff_0 rfl (lv_at hl 1 rfl) ?_
  refine kS_i  (As := [.int x]) (rest := []) (wc := []) (wr := [(kd, .inr (8, [.ref tp, .ref rp, .ref ca, .ref de, .ref bu, .ref pk, .ref pp, .ref pst, .ref img, .int 0, .ref dr, .ref sp])), (dr, .inr (2, [.int 0, .ref drp, .ref drk, .ref drm])), (drm, .inr (4, [.ref drm1, .ref drm2, .ref drm3, .ref drm4])), (drm1, aI cs 7 f_drm1)]) hx hb hml hown hu hK hP hD hS hA hl.1 (c_X8_isSnapshot l D cs H.size x) (gS u_612 u_613 u_66 u_614) hd_X8_isSnapshot ⟨(Nat.le_of_ble_eq_true rfl), (Nat.le_of_ble_eq_true rfl)⟩ [] [0, 1, 2, 3] rfl rfl rfl rfl (by decide) rfl rfl (Nat.le_of_ble_eq_true rfl) dX8_diff_1 ⟨(Nat.le_of_ble_eq_true rfl), (Nat.le_of_ble_eq_true rfl)⟩ (fun r_1 ut_2 H locs hw_3 hP hD hS => ?_)
  have hP : va_P D vwCl [(kd, .inr (8, [.ref tp, .ref rp, .ref ca, .ref de, .ref bu, .ref pk, .ref pp, .ref pst, .ref img, .int 0, .ref dr, .ref sp])), (dr, .inr (2, [.int 0, .ref drp, .ref drk, .ref drm])), (drm, .inr (4, [.ref drm1, .ref drm2, .ref drm3, .ref drm4])), (drm1, aI cs 7 f_drm1)] H := hP
  have hD : va_D A [(kd, .inr (8, [.ref tp, .ref rp, .ref ca, .ref de, .ref bu, .ref pk, .ref pp, .ref pst, .ref img, .int 0, .ref dr, .ref sp])), (dr, .inr (2, [.int 0, .ref drp, .ref drk, .ref drm])), (drm, .inr (4, [.ref drm1, .ref drm2, .ref drm3, .ref drm4])), (drm1, aI cs 7 f_drm1)] := hD
  rcases hw_3 with hw_3 | hw_3
  · obtain ⟨er_4, hf_5⟩ := hw_3
    subst er_4
    refine lv_if_eq (tgt := 16) hx hb dX8_diff_4 (by decide) (fun c_6 => absurd c_6 (by decide)) (fun c_6 => ?_)
    refine lv_iload_n hx hb dX8_diff_7 rfl (lv_at hl 2 rfl) ?_
    refine lv_if_lt (tgt := 16) hx hb dX8_diff_8 (by decide) (fun c_7 => ?_) (fun c_7 => ?_)
    · refine lv_bipush (v := (-2)) hx hb dX8_diff_16 (by decide) ?_
      exact hz () hP hD hS (by grind) [] rfl rfl (Nat.le_of_ble_eq_true rfl) (Nat.le_of_ble_eq_true rfl) .int rfl rfl dX8_diff_18
    · refine lv_iload_n hx hb dX8_diff_11 rfl (lv_at hl 2 rfl) ?_
      refine lv_iconst (v := 2) hx hb dX8_diff_12 (by decide) ?_
      refine lv_icmp_le (tgt := 19) hx hb dX8_diff_13 (by decide) (fun c_8 => ?_) (fun c_8 => ?_)
      · refine lv_aload_n hx hb dX8_diff_19 rfl (lv_at hl 0 rfl) ?_
        refine lv_iload_n hx hb dX8_diff_20 rfl (lv_at hl 1 rfl) ?_
        refine kV_i (ci := 8) (As := [.int x]) (rest := []) (wc := [(kd, .inr (8, [.ref tp, .ref rp, .ref ca, .ref de, .ref bu, .ref pk, .ref pp, .ref pst, .ref img, .int 0, .ref dr, .ref sp])), (dr, .inr (2, [.int 0, .ref drp, .ref drk, .ref drm])), (drm, .inr (4, [.ref drm1, .ref drm2, .ref drm3, .ref drm4])), (drm1, aI cs 7 f_drm1)]) (wr := []) hx hb hml hown hu hK hP hD hS hA hl.1 (c_X8_momentOf l D cs H.size kd tp rp ca de bu pk pp pst img dr drp drk drm drm1 f_drm1 drm2 drm3 drm4 sp x z_f_drm1) (gV u_608 u_610 u_4 u_66 u_611) hd_X8_momentOf ⟨(Nat.le_of_ble_eq_true rfl), (Nat.le_of_ble_eq_true rfl)⟩ [0, 1, 2, 3] [] rfl rfl rfl rfl (by decide) rfl 0 rfl rfl rfl (Nat.le_of_ble_eq_true rfl) dX8_diff_21 ⟨(Nat.le_of_ble_eq_true rfl), (Nat.le_of_ble_eq_true rfl)⟩ (fun r_9 ut_10 H locs hw_11 hP hD hS => ?_)
        have hP : va_P D vwCl [(kd, .inr (8, [.ref tp, .ref rp, .ref ca, .ref de, .ref bu, .ref pk, .ref pp, .ref pst, .ref img, .int 0, .ref dr, .ref sp])), (dr, .inr (2, [.int 0, .ref drp, .ref drk, .ref drm])), (drm, .inr (4, [.ref drm1, .ref drm2, .ref drm3, .ref drm4])), (drm1, aI cs 7 f_drm1)] H := hP
        have hD : va_D A [(kd, .inr (8, [.ref tp, .ref rp, .ref ca, .ref de, .ref bu, .ref pk, .ref pp, .ref pst, .ref img, .int 0, .ref dr, .ref sp])), (dr, .inr (2, [.int 0, .ref drp, .ref drk, .ref drm])), (drm, .inr (4, [.ref drm1, .ref drm2, .ref drm3, .ref drm4])), (drm1, aI cs 7 f_drm1)] := hD
        rcases hw_11 with hw_11 | hw_11 | hw_11
        · obtain ⟨er_12, hf_13⟩ := hw_11
          exfalso
          grind
        · obtain ⟨er_14, hf_15⟩ := hw_11
          subst er_14
          refine lv_istore_n (lv' := [(3, .int (-2)), (0, .ref kd), (1, .int x), (2, .int y)]) hx hb dX8_diff_24 rfl hl (by decide) rfl (fun ls hl => ?_)
          refine lv_iload_n hx hb dX8_diff_25 rfl (lv_at hl 0 rfl) ?_
          refine lv_if_ge (tgt := 31) hx hb dX8_diff_26 (by decide) (fun c_16 => absurd c_16 (by decide)) (fun c_16 => ?_)
          refine lv_iload_n hx hb dX8_diff_29 rfl (lv_at hl 0 rfl) ?_
          exact hz () hP hD hS (by grind) [] rfl rfl (Nat.le_of_ble_eq_true rfl) (Nat.le_of_ble_eq_true rfl) .int rfl rfl dX8_diff_30
        · obtain ⟨er_17, hf_18⟩ := hw_11
          subst er_17
          refine lv_istore_n (lv' := [(3, .int (-6)), (0, .ref kd), (1, .int x), (2, .int y)]) hx hb dX8_diff_24 rfl hl (by decide) rfl (fun ls hl => ?_)
          refine lv_iload_n hx hb dX8_diff_25 rfl (lv_at hl 0 rfl) ?_
          refine lv_if_ge (tgt := 31) hx hb dX8_diff_26 (by decide) (fun c_19 => absurd c_19 (by decide)) (fun c_19 => ?_)
          refine lv_iload_n hx hb dX8_diff_29 rfl (lv_at hl 0 rfl) ?_
          exact hz () hP hD hS (by grind) [] rfl rfl (Nat.le_of_ble_eq_true rfl) (Nat.le_of_ble_eq_true rfl) .int rfl rfl dX8_diff_30
      · refine lv_bipush (v := (-2)) hx hb dX8_diff_16 (by decide) ?_
        exact hz () hP hD hS (by grind) [] rfl rfl (Nat.le_of_ble_eq_true rfl) (Nat.le_of_ble_eq_true rfl) .int rfl rfl dX8_diff_18
  · obtain ⟨er_20, hf_21⟩ := hw_3
    subst er_20
    refine lv_if_eq (tgt := 16) hx hb dX8_diff_4 (by decide) (fun c_22 => ?_) (fun c_22 => absurd (by decide) c_22)
    refine lv_bipush (v := (-2)) hx hb dX8_diff_16 (by decide) ?_
    exact hz () hP hD hS (by grind) [] rfl rfl (Nat.le_of_ble_eq_true rfl) (Nat.le_of_ble_eq_true rfl) .int rfl rfl dX8_diff_18
abbrev rm_c_X8_roll : Room := { frames := 2, cells := 0, slots := 0, locals := 43 }
set_option maxHeartbeats 4000000 in
set_option maxRecDepth 100000 in
theorem c_X8_roll (l : Launch) (D : va_G) (cs : Nat → ClassId) (sz : Nat) (kd : Nat) (tp : Nat) (rp : Nat) (ca : Nat) (de : Nat) (bu : Nat) (pk : Nat) (pp : Nat) (pst : Nat) (img : Nat) (dr : Nat) (drp : Nat) (drk : Nat) (drm : Nat) (drm1 : Nat) (f_drm1 : Nat → Int32) (drm2 : Nat) (drm3 : Nat) (drm4 : Nat) (sp : Nat) (x : Int32) (z_f_drm1 : ∀ j, j < 7 → f_drm1 j = (-1)) : cMi l yX8_roll (Cond.code yX8_roll cX8_roll 4 (some .int)) (rm_c_X8_roll) D cs [.ref kd, .int x] sz [(kd, .inr (8, [.ref tp, .ref rp, .ref ca, .ref de, .ref bu, .ref pk, .ref pp, .ref pst, .ref img, .int 0, .ref dr, .ref sp])), (dr, .inr (2, [.int 0, .ref drp, .ref drk, .ref drm])), (drm, .inr (4, [.ref drm1, .ref drm2, .ref drm3, .ref drm4])), (drm1, aI cs 7 f_drm1)] (fun (r : Int32) (u : Unit) => ((r = (-2)) ∧ (x < 0 ∨ 4 ≤ x)) ∨ ((r = (-6)) ∧ (¬ x < 0 ∧ x < 4))) (fun (u : Unit) => []) := by
  refine kMet_i RX8 (by decide) rfl (Nat.le_of_ble_eq_true rfl) ?_
  intro p e s m below meth c ls A Qz H locs hx hb hml hown hin hu hK hsz hA hP hD hS hl hz
  subst hsz
  have hl : lv_has ls 4 [(0, .ref kd), (1, .int x)] := hl
  refine lv_iload_n hx hb dX8_roll_0 rfl (lv_at hl 1 rfl) ?_
  refine kS_i  (As := [.int x]) (rest := []) (wc := []) (wr := [(kd, .inr (8, [.ref tp, .ref rp, .ref ca, .ref de, .ref bu, .ref pk, .ref pp, .ref pst, .ref img, .int 0, .ref dr, .ref sp])), (dr, .inr (2, [.int 0, .ref drp, .ref drk, .ref drm])), (drm, .inr (4, [.ref drm1, .ref drm2, .ref drm3, .ref drm4])), (drm1, aI cs 7 f_drm1)]) hx hb hml hown hu hK hP hD hS hA hl.1 (c_X8_isSnapshot l D cs H.size x) (gS u_612 u_613 u_66 u_614) hd_X8_isSnapshot ⟨(Nat.le_of_ble_eq_true rfl), (Nat.le_of_ble_eq_true rfl)⟩ [] [0, 1, 2, 3] rfl rfl rfl rfl (by decide) rfl rfl (Nat.le_of_ble_eq_true rfl) dX8_roll_1 ⟨(Nat.le_of_ble_eq_true rfl), (Nat.le_of_ble_eq_true rfl)⟩ (fun r_1 ut_2 H locs hw_3 hP hD hS => ?_)
  have hP : va_P D vwCl [(kd, .inr (8, [.ref tp, .ref rp, .ref ca, .ref de, .ref bu, .ref pk, .ref pp, .ref pst, .ref img, .int 0, .ref dr, .ref sp])), (dr, .inr (2, [.int 0, .ref drp, .ref drk, .ref drm])), (drm, .inr (4, [.ref drm1, .ref drm2, .ref drm3, .ref drm4])), (drm1, aI cs 7 f_drm1)] H := hP
  have hD : va_D A [(kd, .inr (8, [.ref tp, .ref rp, .ref ca, .ref de, .ref bu, .ref pk, .ref pp, .ref pst, .ref img, .int 0, .ref dr, .ref sp])), (dr, .inr (2, [.int 0, .ref drp, .ref drk, .ref drm])), (drm, .inr (4, [.ref drm1, .ref drm2, .ref drm3, .ref drm4])), (drm1, aI cs 7 f_drm1)] := hD
  rcases hw_3 with hw_3 | hw_3
  · obtain ⟨er_4, hf_5⟩ := hw_3
    subst er_4
    refine lv_if_ne (tgt := 10) hx hb dX8_roll_4 (by decide) (fun c_6 => ?_) (fun c_6 => absurd c_6 (by decide))
    refine lv_aload_n hx hb dX8_roll_10 rfl (lv_at hl 0 rfl) ?_
    refine lv_iload_n hx hb dX8_roll_11 rfl (lv_at hl 1 rfl) ?_
    refine kV_i (ci := 8) (As := [.int x]) (rest := []) (wc := [(kd, .inr (8, [.ref tp, .ref rp, .ref ca, .ref de, .ref bu, .ref pk, .ref pp, .ref pst, .ref img, .int 0, .ref dr, .ref sp])), (dr, .inr (2, [.int 0, .ref drp, .ref drk, .ref drm])), (drm, .inr (4, [.ref drm1, .ref drm2, .ref drm3, .ref drm4])), (drm1, aI cs 7 f_drm1)]) (wr := []) hx hb hml hown hu hK hP hD hS hA hl.1 (c_X8_momentOf l D cs H.size kd tp rp ca de bu pk pp pst img dr drp drk drm drm1 f_drm1 drm2 drm3 drm4 sp x z_f_drm1) (gV u_608 u_610 u_4 u_66 u_611) hd_X8_momentOf ⟨(Nat.le_of_ble_eq_true rfl), (Nat.le_of_ble_eq_true rfl)⟩ [0, 1, 2, 3] [] rfl rfl rfl rfl (by decide) rfl 0 rfl rfl rfl (Nat.le_of_ble_eq_true rfl) dX8_roll_12 ⟨(Nat.le_of_ble_eq_true rfl), (Nat.le_of_ble_eq_true rfl)⟩ (fun r_7 ut_8 H locs hw_9 hP hD hS => ?_)
    have hP : va_P D vwCl [(kd, .inr (8, [.ref tp, .ref rp, .ref ca, .ref de, .ref bu, .ref pk, .ref pp, .ref pst, .ref img, .int 0, .ref dr, .ref sp])), (dr, .inr (2, [.int 0, .ref drp, .ref drk, .ref drm])), (drm, .inr (4, [.ref drm1, .ref drm2, .ref drm3, .ref drm4])), (drm1, aI cs 7 f_drm1)] H := hP
    have hD : va_D A [(kd, .inr (8, [.ref tp, .ref rp, .ref ca, .ref de, .ref bu, .ref pk, .ref pp, .ref pst, .ref img, .int 0, .ref dr, .ref sp])), (dr, .inr (2, [.int 0, .ref drp, .ref drk, .ref drm])), (drm, .inr (4, [.ref drm1, .ref drm2, .ref drm3, .ref drm4])), (drm1, aI cs 7 f_drm1)] := hD
    rcases hw_9 with hw_9 | hw_9 | hw_9
    · obtain ⟨er_10, hf_11⟩ := hw_9
      exfalso
      grind
    · obtain ⟨er_12, hf_13⟩ := hw_9
      subst er_12
      refine lv_istore_n (lv' := [(2, .int (-2)), (0, .ref kd), (1, .int x)]) hx hb dX8_roll_15 rfl hl (by decide) rfl (fun ls hl => ?_)
      refine lv_iload_n hx hb dX8_roll_16 rfl (lv_at hl 0 rfl) ?_
      refine lv_if_ge (tgt := 22) hx hb dX8_roll_17 (by decide) (fun c_14 => absurd c_14 (by decide)) (fun c_14 => ?_)
      refine lv_iload_n hx hb dX8_roll_20 rfl (lv_at hl 0 rfl) ?_
      exact hz () hP hD hS (by grind) [] rfl rfl (Nat.le_of_ble_eq_true rfl) (Nat.le_of_ble_eq_true rfl) .int rfl rfl dX8_roll_21
    · obtain ⟨er_15, hf_16⟩ := hw_9
      subst er_15
      refine lv_istore_n (lv' := [(2, .int (-6)), (0, .ref kd), (1, .int x)]) hx hb dX8_roll_15 rfl hl (by decide) rfl (fun ls hl => ?_)
      refine lv_iload_n hx hb dX8_roll_16 rfl (lv_at hl 0 rfl) ?_
      refine lv_if_ge (tgt := 22) hx hb dX8_roll_17 (by decide) (fun c_17 => absurd c_17 (by decide)) (fun c_17 => ?_)
      refine lv_iload_n hx hb dX8_roll_20 rfl (lv_at hl 0 rfl) ?_
      exact hz () hP hD hS (by grind) [] rfl rfl (Nat.le_of_ble_eq_true rfl) (Nat.le_of_ble_eq_true rfl) .int rfl rfl dX8_roll_21
  · obtain ⟨er_18, hf_19⟩ := hw_3
    subst er_18
    refine lv_if_ne (tgt := 10) hx hb dX8_roll_4 (by decide) (fun c_20 => absurd (by decide) c_20) (fun c_20 => ?_)
    refine lv_bipush (v := (-2)) hx hb dX8_roll_7 (by decide) ?_
    exact hz () hP hD hS (by grind) [] rfl rfl (Nat.le_of_ble_eq_true rfl) (Nat.le_of_ble_eq_true rfl) .int rfl rfl dX8_roll_9
abbrev rm_c_X8_keys : Room := { frames := 2, cells := 0, slots := 0, locals := 43 }
set_option maxHeartbeats 4000000 in
set_option maxRecDepth 100000 in
theorem c_X8_keys (l : Launch) (D : va_G) (cs : Nat → ClassId) (sz : Nat) (kd : Nat) (tp : Nat) (rp : Nat) (ca : Nat) (de : Nat) (bu : Nat) (pk : Nat) (pp : Nat) (pst : Nat) (img : Nat) (dr : Nat) (drp : Nat) (drk : Nat) (drk1 : Nat) (drk2 : Nat) (drk3 : Nat) (drk4 : Nat) (drk5 : Nat) (drk6 : Nat) (drm : Nat) (drm1 : Nat) (f_drm1 : Nat → Int32) (drm2 : Nat) (drm3 : Nat) (drm4 : Nat) (sp : Nat) (x : Int32) (z_f_drm1 : ∀ j, j < 7 → f_drm1 j = (-1)) : cMi l yX8_keys (Cond.code yX8_keys cX8_keys 3 (some .int)) (rm_c_X8_keys) D cs [.ref kd, .int x] sz [(kd, .inr (8, [.ref tp, .ref rp, .ref ca, .ref de, .ref bu, .ref pk, .ref pp, .ref pst, .ref img, .int 0, .ref dr, .ref sp])), (dr, .inr (2, [.int 0, .ref drp, .ref drk, .ref drm])), (drk, .inr (3, [.int 0, .ref drk1, .ref drk2, .ref drk3, .ref drk4, .ref drk5, .ref drk6])), (drm, .inr (4, [.ref drm1, .ref drm2, .ref drm3, .ref drm4])), (drm1, aI cs 7 f_drm1)] (fun (r : Int32) (u : Unit) => ((r = (-2)) ∧ (¬ x = -1 ∧ (x < 0 ∨ 4 ≤ x))) ∨ ((r = (-6)) ∧ (¬ x < 0 ∧ x < 4)) ∨ ((r = 0) ∧ (x = -1))) (fun (u : Unit) => []) := by
  refine kMet_i RX8 (by decide) rfl (Nat.le_of_ble_eq_true rfl) ?_
  intro p e s m below meth c ls A Qz H locs hx hb hml hown hin hu hK hsz hA hP hD hS hl hz
  subst hsz
  have hl : lv_has ls 3 [(0, .ref kd), (1, .int x)] := hl
  refine lv_aload_n hx hb dX8_keys_0 rfl (lv_at hl 0 rfl) ?_
  refine lv_iload_n hx hb dX8_keys_1 rfl (lv_at hl 1 rfl) ?_
  refine kV_i (ci := 8) (As := [.int x]) (rest := []) (wc := [(kd, .inr (8, [.ref tp, .ref rp, .ref ca, .ref de, .ref bu, .ref pk, .ref pp, .ref pst, .ref img, .int 0, .ref dr, .ref sp])), (dr, .inr (2, [.int 0, .ref drp, .ref drk, .ref drm])), (drm, .inr (4, [.ref drm1, .ref drm2, .ref drm3, .ref drm4])), (drm1, aI cs 7 f_drm1)]) (wr := [(drk, .inr (3, [.int 0, .ref drk1, .ref drk2, .ref drk3, .ref drk4, .ref drk5, .ref drk6]))]) hx hb hml hown hu hK hP hD hS hA hl.1 (c_X8_momentOf l D cs H.size kd tp rp ca de bu pk pp pst img dr drp drk drm drm1 f_drm1 drm2 drm3 drm4 sp x z_f_drm1) (gV u_608 u_610 u_4 u_66 u_611) hd_X8_momentOf ⟨(Nat.le_of_ble_eq_true rfl), (Nat.le_of_ble_eq_true rfl)⟩ [0, 1, 3, 4] [2] rfl rfl rfl rfl (by decide) rfl 0 rfl rfl rfl (Nat.le_of_ble_eq_true rfl) dX8_keys_2 ⟨(Nat.le_of_ble_eq_true rfl), (Nat.le_of_ble_eq_true rfl)⟩ (fun r_1 ut_2 H locs hw_3 hP hD hS => ?_)
  have hP : va_P D vwCl [(drk, .inr (3, [.int 0, .ref drk1, .ref drk2, .ref drk3, .ref drk4, .ref drk5, .ref drk6])), (kd, .inr (8, [.ref tp, .ref rp, .ref ca, .ref de, .ref bu, .ref pk, .ref pp, .ref pst, .ref img, .int 0, .ref dr, .ref sp])), (dr, .inr (2, [.int 0, .ref drp, .ref drk, .ref drm])), (drm, .inr (4, [.ref drm1, .ref drm2, .ref drm3, .ref drm4])), (drm1, aI cs 7 f_drm1)] H := hP
  have hD : va_D A [(drk, .inr (3, [.int 0, .ref drk1, .ref drk2, .ref drk3, .ref drk4, .ref drk5, .ref drk6])), (kd, .inr (8, [.ref tp, .ref rp, .ref ca, .ref de, .ref bu, .ref pk, .ref pp, .ref pst, .ref img, .int 0, .ref dr, .ref sp])), (dr, .inr (2, [.int 0, .ref drp, .ref drk, .ref drm])), (drm, .inr (4, [.ref drm1, .ref drm2, .ref drm3, .ref drm4])), (drm1, aI cs 7 f_drm1)] := hD
  rcases hw_3 with hw_3 | hw_3 | hw_3
  · obtain ⟨er_4, hf_5⟩ := hw_3
    subst er_4
    refine lv_istore_n (lv' := [(2, .int 0), (0, .ref kd), (1, .int x)]) hx hb dX8_keys_5 rfl hl (by decide) rfl (fun ls hl => ?_)
    refine lv_iload_n hx hb dX8_keys_6 rfl (lv_at hl 0 rfl) ?_
    refine lv_if_ge (tgt := 12) hx hb dX8_keys_7 (by decide) (fun c_6 => ?_) (fun c_6 => absurd (by decide) c_6)
    refine lv_aload_n hx hb dX8_keys_12 rfl (lv_at hl 1 rfl) ?_
    refine va_get (D := D) (ci := 8) (v := .ref dr) (C := RX8) (T := TX8) (N := 12) hx hb hu in_X8 hown hK.1 hP 1 rfl rfl 10 (by decide) (hu _ u_347) (fun _ h9 => h9) rfl dX8_keys_13 ?_
    refine lv_iload_n hx hb dX8_keys_16 rfl (lv_at hl 0 rfl) ?_
    refine lv_lconst (v := 0) hx hb dX8_keys_17 (by decide) ?_
    refine lv_iconst (v := 0) hx hb dX8_keys_18 (by decide) ?_
    refine kV_i (ci := 2) (As := [.int 0, .long 0, .int 0]) (rest := []) (wc := [(dr, .inr (2, [.int 0, .ref drp, .ref drk, .ref drm])), (drk, .inr (3, [.int 0, .ref drk1, .ref drk2, .ref drk3, .ref drk4, .ref drk5, .ref drk6]))]) (wr := [(kd, .inr (8, [.ref tp, .ref rp, .ref ca, .ref de, .ref bu, .ref pk, .ref pp, .ref pst, .ref img, .int 0, .ref dr, .ref sp])), (drm, .inr (4, [.ref drm1, .ref drm2, .ref drm3, .ref drm4])), (drm1, aI cs 7 f_drm1)]) hx hb hml hown hu hK hP hD hS hA hl.1 (c_X2_tellable l D cs H.size dr drp drk drk1 drk2 drk3 drk4 drk5 drk6 drm 0 0 0) (gV u_770 u_771 u_772 u_73 u_773) hd_X2_tellable ⟨(Nat.le_of_ble_eq_true rfl), (Nat.le_of_ble_eq_true rfl)⟩ [2, 0] [1, 3, 4] rfl rfl rfl rfl (by decide) rfl 0 rfl rfl rfl (Nat.le_of_ble_eq_true rfl) dX8_keys_19 ⟨(Nat.le_of_ble_eq_true rfl), (Nat.le_of_ble_eq_true rfl)⟩ (fun r_7 ut_8 H locs hw_9 hP hD hS => ?_)
    have hP : va_P D vwCl [(kd, .inr (8, [.ref tp, .ref rp, .ref ca, .ref de, .ref bu, .ref pk, .ref pp, .ref pst, .ref img, .int 0, .ref dr, .ref sp])), (drm, .inr (4, [.ref drm1, .ref drm2, .ref drm3, .ref drm4])), (drm1, aI cs 7 f_drm1), (dr, .inr (2, [.int 0, .ref drp, .ref drk, .ref drm])), (drk, .inr (3, [.int 0, .ref drk1, .ref drk2, .ref drk3, .ref drk4, .ref drk5, .ref drk6]))] H := hP
    have hD : va_D A [(kd, .inr (8, [.ref tp, .ref rp, .ref ca, .ref de, .ref bu, .ref pk, .ref pp, .ref pst, .ref img, .int 0, .ref dr, .ref sp])), (drm, .inr (4, [.ref drm1, .ref drm2, .ref drm3, .ref drm4])), (drm1, aI cs 7 f_drm1), (dr, .inr (2, [.int 0, .ref drp, .ref drk, .ref drm])), (drk, .inr (3, [.int 0, .ref drk1, .ref drk2, .ref drk3, .ref drk4, .ref drk5, .ref drk6]))] := hD
    have er_10 := hw_9
    subst er_10
    exact hz () hP hD hS (by grind) [] rfl rfl (Nat.le_of_ble_eq_true rfl) (Nat.le_of_ble_eq_true rfl) .int rfl rfl dX8_keys_22
  · obtain ⟨er_11, hf_12⟩ := hw_3
    subst er_11
    refine lv_istore_n (lv' := [(2, .int (-2)), (0, .ref kd), (1, .int x)]) hx hb dX8_keys_5 rfl hl (by decide) rfl (fun ls hl => ?_)
    refine lv_iload_n hx hb dX8_keys_6 rfl (lv_at hl 0 rfl) ?_
    refine lv_if_ge (tgt := 12) hx hb dX8_keys_7 (by decide) (fun c_13 => absurd c_13 (by decide)) (fun c_13 => ?_)
    refine lv_iload_n hx hb dX8_keys_10 rfl (lv_at hl 0 rfl) ?_
    exact hz () hP hD hS (by grind) [] rfl rfl (Nat.le_of_ble_eq_true rfl) (Nat.le_of_ble_eq_true rfl) .int rfl rfl dX8_keys_11
  · obtain ⟨er_14, hf_15⟩ := hw_3
    subst er_14
    refine lv_istore_n (lv' := [(2, .int (-6)), (0, .ref kd), (1, .int x)]) hx hb dX8_keys_5 rfl hl (by decide) rfl (fun ls hl => ?_)
    refine lv_iload_n hx hb dX8_keys_6 rfl (lv_at hl 0 rfl) ?_
    refine lv_if_ge (tgt := 12) hx hb dX8_keys_7 (by decide) (fun c_16 => absurd c_16 (by decide)) (fun c_16 => ?_)
    refine lv_iload_n hx hb dX8_keys_10 rfl (lv_at hl 0 rfl) ?_
    exact hz () hP hD hS (by grind) [] rfl rfl (Nat.le_of_ble_eq_true rfl) (Nat.le_of_ble_eq_true rfl) .int rfl rfl dX8_keys_11
abbrev rm_c_X8_groups : Room := { frames := 1, cells := 0, slots := 0, locals := 20 }
set_option maxHeartbeats 4000000 in
set_option maxRecDepth 100000 in
theorem c_X8_groups (l : Launch) (D : va_G) (cs : Nat → ClassId) (sz : Nat) (kd : Nat) (tp : Nat) (rp : Nat) (ca : Nat) (de : Nat) (bu : Nat) (pk : Nat) (pp : Nat) (pst : Nat) (img : Nat) (dr : Nat) (drp : Nat) (drk : Nat) (drk1 : Nat) (drk2 : Nat) (drk3 : Nat) (drk4 : Nat) (drk5 : Nat) (drk6 : Nat) (drm : Nat) (sp : Nat) (x : Int32) (y : Int32)  : cMi l yX8_groups (Cond.code yX8_groups cX8_groups 9 (some .int)) (rm_c_X8_groups) D cs [.ref kd, .int x, .int y] sz [(kd, .inr (8, [.ref tp, .ref rp, .ref ca, .ref de, .ref bu, .ref pk, .ref pp, .ref pst, .ref img, .int 0, .ref dr, .ref sp])), (dr, .inr (2, [.int 0, .ref drp, .ref drk, .ref drm])), (drk, .inr (3, [.int 0, .ref drk1, .ref drk2, .ref drk3, .ref drk4, .ref drk5, .ref drk6]))] (fun (r : Int32) (u : Unit) => ((r = (-2)) ∧ (y < 0 ∨ 1 < y)) ∨ ((r = (-3)) ∧ (¬ y < 0 ∧ ¬ 1 < y ∧ (x < 1 ∨ 8 < x))) ∨ ((r = 0) ∧ (¬ y < 0 ∧ ¬ 1 < y ∧ 1 ≤ x ∧ x ≤ 8))) (fun (u : Unit) => []) := by
  refine kMet_i RX8 (by decide) rfl (Nat.le_of_ble_eq_true rfl) ?_
  intro p e s m below meth c ls A Qz H locs hx hb hml hown hin hu hK hsz hA hP hD hS hl hz
  subst hsz
  have hl : lv_has ls 9 [(0, .ref kd), (1, .int x), (2, .int y)] := hl
  refine lv_iload_n hx hb dX8_groups_0 rfl (lv_at hl 2 rfl) ?_
  refine lv_if_lt (tgt := 9) hx hb dX8_groups_1 (by decide) (fun c_1 => ?_) (fun c_1 => ?_)
  · refine lv_bipush (v := (-2)) hx hb dX8_groups_9 (by decide) ?_
    exact hz () hP hD hS (by grind) [] rfl rfl (Nat.le_of_ble_eq_true rfl) (Nat.le_of_ble_eq_true rfl) .int rfl rfl dX8_groups_11
  · refine lv_iload_n hx hb dX8_groups_4 rfl (lv_at hl 2 rfl) ?_
    refine lv_iconst (v := 1) hx hb dX8_groups_5 (by decide) ?_
    refine lv_icmp_le (tgt := 12) hx hb dX8_groups_6 (by decide) (fun c_2 => ?_) (fun c_2 => ?_)
    · refine lv_iload_n hx hb dX8_groups_12 rfl (lv_at hl 1 rfl) ?_
      refine kS_i  (As := [.int x]) (rest := []) (wc := []) (wr := [(kd, .inr (8, [.ref tp, .ref rp, .ref ca, .ref de, .ref bu, .ref pk, .ref pp, .ref pst, .ref img, .int 0, .ref dr, .ref sp])), (dr, .inr (2, [.int 0, .ref drp, .ref drk, .ref drm])), (drk, .inr (3, [.int 0, .ref drk1, .ref drk2, .ref drk3, .ref drk4, .ref drk5, .ref drk6]))]) hx hb hml hown hu hK hP hD hS hA hl.1 (c_X8_isKeyLength l D cs H.size x) (gS u_390 u_391 u_66 u_392) hd_X8_isKeyLength ⟨(Nat.le_of_ble_eq_true rfl), (Nat.le_of_ble_eq_true rfl)⟩ [] [0, 1, 2] rfl rfl rfl rfl (by decide) rfl rfl (Nat.le_of_ble_eq_true rfl) dX8_groups_13 ⟨(Nat.le_of_ble_eq_true rfl), (Nat.le_of_ble_eq_true rfl)⟩ (fun r_3 ut_4 H locs hw_5 hP hD hS => ?_)
      have hP : va_P D vwCl [(kd, .inr (8, [.ref tp, .ref rp, .ref ca, .ref de, .ref bu, .ref pk, .ref pp, .ref pst, .ref img, .int 0, .ref dr, .ref sp])), (dr, .inr (2, [.int 0, .ref drp, .ref drk, .ref drm])), (drk, .inr (3, [.int 0, .ref drk1, .ref drk2, .ref drk3, .ref drk4, .ref drk5, .ref drk6]))] H := hP
      have hD : va_D A [(kd, .inr (8, [.ref tp, .ref rp, .ref ca, .ref de, .ref bu, .ref pk, .ref pp, .ref pst, .ref img, .int 0, .ref dr, .ref sp])), (dr, .inr (2, [.int 0, .ref drp, .ref drk, .ref drm])), (drk, .inr (3, [.int 0, .ref drk1, .ref drk2, .ref drk3, .ref drk4, .ref drk5, .ref drk6]))] := hD
      rcases hw_5 with hw_5 | hw_5
      · obtain ⟨er_6, hf_7⟩ := hw_5
        subst er_6
        refine lv_if_ne (tgt := 22) hx hb dX8_groups_16 (by decide) (fun c_8 => ?_) (fun c_8 => absurd c_8 (by decide))
        refine lv_iconst (v := 0) hx hb dX8_groups_22 (by decide) ?_
        refine lv_istore_n (lv' := [(3, .int 0), (0, .ref kd), (1, .int x), (2, .int y)]) hx hb dX8_groups_23 rfl hl (by decide) rfl (fun ls hl => ?_)
        refine lv_iconst (v := 0) hx hb dX8_groups_24 (by decide) ?_
        refine lv_istore (lv' := [(4, .int 0), (3, .int 0), (0, .ref kd), (1, .int x), (2, .int y)]) hx hb dX8_groups_25 hl (by decide) rfl (fun ls hl => ?_)
        refine lv_iconst (v := 0) hx hb dX8_groups_27 (by decide) ?_
        refine lv_istore (lv' := [(5, .int 0), (4, .int 0), (3, .int 0), (0, .ref kd), (1, .int x), (2, .int y)]) hx hb dX8_groups_28 hl (by decide) rfl (fun ls hl => ?_)
        refine lv_iconst (v := (-1)) hx hb dX8_groups_30 (by decide) ?_
        refine lv_istore (lv' := [(6, .int (-1)), (5, .int 0), (4, .int 0), (3, .int 0), (0, .ref kd), (1, .int x), (2, .int y)]) hx hb dX8_groups_31 hl (by decide) rfl (fun ls hl => ?_)
        refine lv_aload_n hx hb dX8_groups_33 rfl (lv_at hl 4 rfl) ?_
        refine va_get (D := D) (ci := 8) (v := .ref dr) (C := RX8) (T := TX8) (N := 12) hx hb hu in_X8 hown hK.1 hP 0 rfl rfl 10 (by decide) (hu _ u_347) (fun _ h9 => h9) rfl dX8_groups_34 ?_
        refine va_get (D := D) (ci := 2) (v := .ref drk) (C := RX2) (T := TX2) (N := 4) hx hb hu in_X2 hown hK.1 hP 1 rfl rfl 2 (by decide) (hu _ u_324) (fun _ h9 => h9) rfl dX8_groups_37 ?_
        refine lv_astore (lv' := [(7, .ref drk), (6, .int (-1)), (5, .int 0), (4, .int 0), (3, .int 0), (0, .ref kd), (1, .int x), (2, .int y)]) hx hb dX8_groups_40 hl (by decide) rfl (fun ls hl => ?_)
        refine lv_iconst (v := 0) hx hb dX8_groups_42 (by decide) ?_
        refine lv_istore (lv' := [(8, .int 0), (7, .ref drk), (6, .int (-1)), (5, .int 0), (4, .int 0), (3, .int 0), (0, .ref kd), (1, .int x), (2, .int y)]) hx hb dX8_groups_43 hl (by decide) rfl (fun ls hl => ?_)
        refine lv_iload hx hb dX8_groups_45 (lv_at hl 0 rfl) ?_
        refine lv_aload hx hb dX8_groups_47 (lv_at hl 1 rfl) ?_
        refine va_get (D := D) (ci := 3) (v := .int 0) (C := RX3) (T := TX3) (N := 7) hx hb hu in_X3 hown hK.1 hP 2 rfl rfl 0 (by decide) (hu _ u_274) (fun _ h9 => h9) rfl dX8_groups_49 ?_
        refine lv_icmp_ge (tgt := 134) hx hb dX8_groups_52 (by decide) (fun c_9 => ?_) (fun c_9 => absurd (by decide) c_9)
        refine lv_iload_n hx hb dX8_groups_134 rfl (lv_at hl 8 rfl) ?_
        refine lv_if_ne (tgt := 142) hx hb dX8_groups_135 (by decide) (fun c_10 => ?_) (fun c_10 => ?_)
        · refine lv_iload hx hb dX8_groups_142 (lv_at hl 4 rfl) ?_
          exact hz () hP hD hS (by grind) [] rfl rfl (Nat.le_of_ble_eq_true rfl) (Nat.le_of_ble_eq_true rfl) .int rfl rfl dX8_groups_144
        · refine lv_iload_n hx hb dX8_groups_138 rfl (lv_at hl 5 rfl) ?_
          refine lv_goto (tgt := 144) hx hb dX8_groups_139 (by decide) ?_
          exact hz () hP hD hS (by grind) [] rfl rfl (Nat.le_of_ble_eq_true rfl) (Nat.le_of_ble_eq_true rfl) .int rfl rfl dX8_groups_144
      · obtain ⟨er_11, hf_12⟩ := hw_5
        subst er_11
        refine lv_if_ne (tgt := 22) hx hb dX8_groups_16 (by decide) (fun c_13 => absurd (by decide) c_13) (fun c_13 => ?_)
        refine lv_bipush (v := (-3)) hx hb dX8_groups_19 (by decide) ?_
        exact hz () hP hD hS (by grind) [] rfl rfl (Nat.le_of_ble_eq_true rfl) (Nat.le_of_ble_eq_true rfl) .int rfl rfl dX8_groups_21
    · refine lv_bipush (v := (-2)) hx hb dX8_groups_9 (by decide) ?_
      exact hz () hP hD hS (by grind) [] rfl rfl (Nat.le_of_ble_eq_true rfl) (Nat.le_of_ble_eq_true rfl) .int rfl rfl dX8_groups_11
abbrev rm_c_X8_alike : Room := { frames := 0, cells := 0, slots := 0, locals := 0 }
set_option maxHeartbeats 4000000 in
set_option maxRecDepth 100000 in
theorem c_X8_alike (l : Launch) (D : va_G) (cs : Nat → ClassId) (sz : Nat) (kd : Nat) (tp : Nat) (rp : Nat) (ca : Nat) (de : Nat) (bu : Nat) (pk : Nat) (pp : Nat) (pst : Nat) (img : Nat) (dr : Nat) (drp : Nat) (drk : Nat) (drk1 : Nat) (drk2 : Nat) (drk3 : Nat) (drk4 : Nat) (drk5 : Nat) (drk6 : Nat) (drm : Nat) (sp : Nat) (x : Int32)  : cMi l yX8_alike (Cond.code yX8_alike cX8_alike 7 (some .int)) (rm_c_X8_alike) D cs [.ref kd, .int x] sz [(kd, .inr (8, [.ref tp, .ref rp, .ref ca, .ref de, .ref bu, .ref pk, .ref pp, .ref pst, .ref img, .int 0, .ref dr, .ref sp])), (dr, .inr (2, [.int 0, .ref drp, .ref drk, .ref drm])), (drk, .inr (3, [.int 0, .ref drk1, .ref drk2, .ref drk3, .ref drk4, .ref drk5, .ref drk6]))] (fun (r : Int32) (u : Unit) => ((r = (-2)) ∧ (x < 0 ∨ 1 < x)) ∨ ((r = 0) ∧ (¬ x < 0 ∧ ¬ 1 < x))) (fun (u : Unit) => []) := by
  refine kMet_i RX8 (by decide) rfl (Nat.le_of_ble_eq_true rfl) ?_
  intro p e s m below meth c ls A Qz H locs hx hb hml hown hin hu hK hsz hA hP hD hS hl hz
  subst hsz
  have hl : lv_has ls 7 [(0, .ref kd), (1, .int x)] := hl
  refine lv_iload_n hx hb dX8_alike_0 rfl (lv_at hl 1 rfl) ?_
  refine lv_if_lt (tgt := 9) hx hb dX8_alike_1 (by decide) (fun c_1 => ?_) (fun c_1 => ?_)
  · refine lv_bipush (v := (-2)) hx hb dX8_alike_9 (by decide) ?_
    exact hz () hP hD hS (by grind) [] rfl rfl (Nat.le_of_ble_eq_true rfl) (Nat.le_of_ble_eq_true rfl) .int rfl rfl dX8_alike_11
  · refine lv_iload_n hx hb dX8_alike_4 rfl (lv_at hl 1 rfl) ?_
    refine lv_iconst (v := 1) hx hb dX8_alike_5 (by decide) ?_
    refine lv_icmp_le (tgt := 12) hx hb dX8_alike_6 (by decide) (fun c_2 => ?_) (fun c_2 => ?_)
    · refine lv_aload_n hx hb dX8_alike_12 rfl (lv_at hl 0 rfl) ?_
      refine va_get (D := D) (ci := 8) (v := .ref dr) (C := RX8) (T := TX8) (N := 12) hx hb hu in_X8 hown hK.1 hP 0 rfl rfl 10 (by decide) (hu _ u_347) (fun _ h9 => h9) rfl dX8_alike_13 ?_
      refine va_get (D := D) (ci := 2) (v := .ref drk) (C := RX2) (T := TX2) (N := 4) hx hb hu in_X2 hown hK.1 hP 1 rfl rfl 2 (by decide) (hu _ u_324) (fun _ h9 => h9) rfl dX8_alike_16 ?_
      refine lv_astore_n (lv' := [(2, .ref drk), (0, .ref kd), (1, .int x)]) hx hb dX8_alike_19 rfl hl (by decide) rfl (fun ls hl => ?_)
      refine lv_iconst (v := (-1)) hx hb dX8_alike_20 (by decide) ?_
      refine lv_istore_n (lv' := [(3, .int (-1)), (2, .ref drk), (0, .ref kd), (1, .int x)]) hx hb dX8_alike_21 rfl hl (by decide) rfl (fun ls hl => ?_)
      refine lv_iconst (v := (-1)) hx hb dX8_alike_22 (by decide) ?_
      refine lv_istore (lv' := [(4, .int (-1)), (3, .int (-1)), (2, .ref drk), (0, .ref kd), (1, .int x)]) hx hb dX8_alike_23 hl (by decide) rfl (fun ls hl => ?_)
      refine lv_iconst (v := 0) hx hb dX8_alike_25 (by decide) ?_
      refine lv_istore (lv' := [(5, .int 0), (4, .int (-1)), (3, .int (-1)), (2, .ref drk), (0, .ref kd), (1, .int x)]) hx hb dX8_alike_26 hl (by decide) rfl (fun ls hl => ?_)
      refine lv_iconst (v := 0) hx hb dX8_alike_28 (by decide) ?_
      refine lv_istore (lv' := [(6, .int 0), (5, .int 0), (4, .int (-1)), (3, .int (-1)), (2, .ref drk), (0, .ref kd), (1, .int x)]) hx hb dX8_alike_29 hl (by decide) rfl (fun ls hl => ?_)
      refine lv_iload hx hb dX8_alike_31 (lv_at hl 0 rfl) ?_
      refine lv_aload_n hx hb dX8_alike_33 rfl (lv_at hl 4 rfl) ?_
      refine va_get (D := D) (ci := 3) (v := .int 0) (C := RX3) (T := TX3) (N := 7) hx hb hu in_X3 hown hK.1 hP 2 rfl rfl 0 (by decide) (hu _ u_274) (fun _ h9 => h9) rfl dX8_alike_34 ?_
      refine lv_icmp_ge (tgt := 96) hx hb dX8_alike_37 (by decide) (fun c_3 => ?_) (fun c_3 => absurd (by decide) c_3)
      refine lv_iload_n hx hb dX8_alike_96 rfl (lv_at hl 6 rfl) ?_
      refine lv_iconst (v := 1) hx hb dX8_alike_97 (by decide) ?_
      refine lv_icmp_ne (tgt := 104) hx hb dX8_alike_98 (by decide) (fun c_4 => ?_) (fun c_4 => ?_)
      · refine lv_iload_n hx hb dX8_alike_104 rfl (lv_at hl 3 rfl) ?_
        refine lv_iconst (v := (-1)) hx hb dX8_alike_105 (by decide) ?_
        refine lv_icmp_ne (tgt := 113) hx hb dX8_alike_106 (by decide) (fun c_5 => absurd (by decide) c_5) (fun c_5 => ?_)
        refine lv_iconst (v := 0) hx hb dX8_alike_109 (by decide) ?_
        refine lv_goto (tgt := 120) hx hb dX8_alike_110 (by decide) ?_
        exact hz () hP hD hS (by grind) [] rfl rfl (Nat.le_of_ble_eq_true rfl) (Nat.le_of_ble_eq_true rfl) .int rfl rfl dX8_alike_120
      · refine lv_iload hx hb dX8_alike_101 (lv_at hl 1 rfl) ?_
        exact hz () hP hD hS (by grind) [] rfl rfl (Nat.le_of_ble_eq_true rfl) (Nat.le_of_ble_eq_true rfl) .int rfl rfl dX8_alike_103
    · refine lv_bipush (v := (-2)) hx hb dX8_alike_9 (by decide) ?_
      exact hz () hP hD hS (by grind) [] rfl rfl (Nat.le_of_ble_eq_true rfl) (Nat.le_of_ble_eq_true rfl) .int rfl rfl dX8_alike_11
